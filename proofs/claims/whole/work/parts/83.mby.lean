/-! the model's answers -/
theorem er_per {h : Nat → Int} {m i w A : Nat} (hA : A ≤ al h m i (i + w)) : ∀ k t, (k = 0 ∨ (k - 1) * w + t < A) → h (i + t) = h (i + k * w + t) := by
  have q := (al_ge h m A i (i + w)).mp hA
  intro k
  induction k with
  | zero => intro t _; rw [Nat.zero_mul, Nat.add_zero]
  | succ k ih =>
    intro t ht
    rw [Nat.add_sub_cancel] at ht
    have ht' : k * w + t < A := by omega
    have e1 : h (i + t) = h (i + k * w + t) := by
      refine ih t ?_
      by_cases k0 : k = 0
      · exact Or.inl k0
      · right
        have : (k - 1) * w ≤ k * w := Nat.mul_le_mul_right _ (by omega)
        omega
    have e2 := (q (k * w + t) ht').2.2
    rw [e1, show i + k * w + t = i + (k * w + t) by omega, e2, Nat.succ_mul]
    congr 1; omega
theorem again_on {h : Nat → Int} {m i w k : Nat} (hw : 1 ≤ w) (hk : 1 ≤ k) (hj : i + w ≤ m) (hl : k < 1 + al h m i (i + w) / w) : i + (k + 1) * w ≤ m ∧ w ≤ al h m i (i + k * w) := by
  have ka : k * w ≤ al h m i (i + w) := (Nat.le_div_iff_mul_le (by omega)).mp (by omega)
  have up := al_lei h m i (i + w)
  have e : (k + 1) * w = k * w + w := Nat.succ_mul k w
  refine ⟨by omega, ?_⟩
  rw [al_ge]
  intro t ht
  refine ⟨by omega, by omega, ?_⟩
  refine er_per (Nat.le_refl (al h m i (i + w))) k t (Or.inr ?_)
  have : (k - 1) * w + w = k * w := by rw [← Nat.succ_mul]; congr 1; omega
  omega
theorem again_off {h : Nat → Int} {m i w k : Nat} (hw : 1 ≤ w) (hj : i + w ≤ m) (hl : k = 1 + al h m i (i + w) / w) (h1 : i + (k + 1) * w ≤ m) (h2 : w ≤ al h m i (i + k * w)) : False := by
  have up := al_lei h m i (i + w)
  generalize eA : al h m i (i + w) = A at hl up
  have dm := Nat.div_add_mod A w
  have ml := Nat.mod_lt A (show 0 < w by omega)
  have e : (k + 1) * w = k * w + w := Nat.succ_mul k w
  have ek : k * w = w + A / w * w := by rw [hl, Nat.add_mul, Nat.one_mul]
  have ec : w * (A / w) = A / w * w := Nat.mul_comm _ _
  -- the bar behind
  have q := (al_ge h m w i (i + k * w)).mp h2 (A % w) ml
  have p1 : h (i + A % w) = h (i + A / w * w + A % w) := by
    refine er_per (m := m) (A := A) (by rw [eA]; exact Nat.le_refl _) (A / w) (A % w) ?_
    by_cases z : A / w = 0
    · exact Or.inl z
    · right
      have e' : A / w - 1 + 1 = A / w := Nat.sub_add_cancel (Nat.pos_of_ne_zero z)
      have : (A / w - 1) * w + w = A / w * w := by rw [← Nat.succ_mul]; show (A / w - 1 + 1) * w = _; rw [e']
      omega
  have more : A + 1 ≤ al h m i (i + w) := by
    rw [al_ge]
    intro t ht
    by_cases et : t = A
    · subst et
      refine ⟨by omega, by omega, ?_⟩
      have x1 : i + t = i + t / w * w + t % w := by omega
      have x2 : i + w + t = i + k * w + t % w := by omega
      rw [x1, ← p1, x2]
      exact q.2.2
    · exact (al_ge h m A i (i + w)).mp (by omega) t (by omega)
  omega
section mby
variable {d : Nat} {S : zS} {Q : Option Value → zS → Prop} {b : Nat → Nat → Int} {n : Nat → Nat} {dd : Nat}
theorem w_faultBy0 (h : MI S b n dd) {w : Int} (w1 : 0 ≤ w) (w2 : w ≤ 2) (hq : ∀ S', MKK S S' → Q (some (.int (J (vFault b n 0 w)))) S') : KM (d + 4) mX12_faultBy [.ref 0, .int 0, .int (J w)] S Q := by
  obtain ⟨⟨⟨n0, n1, b0, b1⟩, t1, t2, t3, t4⟩, hd, hdd⟩ := h
  have hN := nB_le (b := b) n0
  have rr := rfp_rng (b 0) (n 0)
  unfold vFault at hq
  rw [if_neg (by omega), if_pos rfl] at hq
  refine eX12_faultBy (zRun_wp [] 60 ?_)
  refine ⟨fun q => absurd rfl q, fun _ => ?_⟩
  refine w_readsRun (d := d) n0 b0 t1 t2 (fun S1 a1 a2 a3 a4 => ?_)
  have a1 : ∀ c, c ≠ 0 → c ≠ 8 → S1 c = S c := a1
  have a2 : ∀ k, k ≠ 9 → S1 0 k = S 0 k := a2
  refine w_numbers (d := d + 2) (g := gB b n) hN a3 (fun k hk => ⟨a4 k hk, rg_codes (b := b 0) (n := n 0) k hk⟩) (fun S2 c1 c2 c3 c4 => ?_)
  have c1 : ∀ c, c ≠ 0 → c ≠ 9 → S2 c = S1 c := c1
  have c2 : ∀ k, k ≠ 12 → S2 0 k = S1 0 k := c2
  have hq1 := hq S2 ⟨fun c c0 c8 => by rw [c1 c c0 (by omega), a1 c c0 (by omega)], by rw [c2 4 (by decide), a2 4 (by decide)], by rw [c2 8 (by decide), a2 8 (by decide)]⟩
  refine ⟨fun q => ?_, fun q => ?_⟩ <;> simp (disch := omega) only [J_lit, J_neg, J_add, J_sub, J_mul, J_nI, J_le, J_lt, J_eq, J_in, J_nat] at q
  · rw [if_pos (Or.inl q)] at hq1; exact hq1
  refine ⟨fun q2 => ?_, fun q2 => ?_⟩ <;> rw [show (-1 : Int32) = J (-1) from rfl] at q2 <;> simp (disch := omega) only [J_lit, J_neg, J_add, J_sub, J_mul, J_nI, J_le, J_lt, J_eq, J_in, J_nat] at q2
  · rw [if_neg (by omega)] at hq1; exact hq1
  · rw [if_pos (Or.inr q2)] at hq1; exact hq1
theorem w_faultBy1 (h : MI S b n dd) {w : Int} (w1 : 0 ≤ w) (w2 : w ≤ 2) (hq : ∀ S', MKK S S' → MoF S' (b 1) (n 1) → Q (some (.int (J (vFault b n 1 w)))) S') : KM (d + 6) mX12_faultBy [.ref 0, .int 1, .int (J w)] S Q := by
  obtain ⟨⟨⟨n0, n1, b0, b1⟩, t1, t2, t3, t4⟩, hd, hdd⟩ := h
  have fr := fre_rng (c := b 1) (m := n 1)
  unfold vFault at hq
  rw [if_neg (by omega), if_neg (by decide)] at hq
  refine eX12_faultBy (zRun_wp [] 60 ?_)
  refine ⟨fun _ => ?_, fun q => absurd q (by decide)⟩
  refine w_readsScore (d := d) n1 b1 t3 t4 (fun S1 k1 f1 => ?_)
  have hq1 := hq S1 ⟨fun c c0 c8 => k1.1 c c0 (by omega), k1.2 4 (by decide), k1.2 8 (by decide)⟩ f1
  obtain ⟨g1, g2, g3, -⟩ := f1
  by_cases f : fre (b 1) (n 1) = 0
  · rw [if_pos f] at g1 g2 hq1
    refine ⟨fun q => ?_, fun _ => ?_⟩
    rotate_left
    · rw [← g1] at hq1; exact hq1
    refine ⟨fun q2 => ?_, fun _ => ?_⟩
    rotate_left
    · rw [← g2] at hq1; exact hq1
    refine ⟨fun q3 => absurd g2 q3, fun _ => ?_⟩
    exact hq1
  · rw [if_neg f] at g1 g2 hq1
    refine ⟨fun q => ?_, fun q => ?_⟩ <;> simp (disch := omega) only [J_lit, J_neg, J_add, J_sub, J_mul, J_nI, J_le, J_lt, J_eq, J_in, J_nat] at q
    rotate_left
    · rw [if_pos q] at hq1
      rw [← g1] at hq1; exact hq1
    rw [if_neg q] at hq1
    refine ⟨fun q2 => ?_, fun q2 => ?_⟩ <;> simp (disch := omega) only [J_lit, J_neg, J_add, J_sub, J_mul, J_nI, J_le, J_lt, J_eq, J_in, J_nat] at q2
    rotate_left
    · rw [if_pos q2] at hq1
      rw [← g2] at hq1; exact hq1
    rw [if_neg q2] at hq1
    refine ⟨fun _ => ?_, fun q3 => ?_⟩
    · rw [← g3] at hq1; exact hq1
    · rw [g2, show (-1 : Int32) = J (-1) from rfl] at q3
      simp (disch := omega) only [J_lit, J_neg, J_add, J_sub, J_mul, J_nI, J_le, J_lt, J_eq, J_in, J_nat] at q3
      omega
theorem w_withinBy (hF : MoF S (b 1) (n 1)) {j : Int} (j1 : 0 ≤ j) (j2 : j ≤ 2) (hq : Q (some (.int (J (vWithin b n j)))) S) : KM (d + 1) mX12_withinBy [.ref 0, .int (J j)] S Q := by
  have fr := fre_rng (c := b 1) (m := n 1)
  have sl := stB_len (b := b) (n := n)
  obtain ⟨g1, g2, g3, g4, -⟩ := hF
  unfold vWithin at hq
  rw [if_neg (by omega)] at hq
  refine eX12_withinBy (zRun_wp [] 60 ?_)
  by_cases f : fre (b 1) (n 1) = 0
  · rw [if_pos f] at g2
    rw [if_pos (Or.inl f)] at hq
    exact ⟨fun _ => hq, fun q => absurd g2 q⟩
  · rw [if_neg f] at g2
    refine ⟨fun q => ?_, fun _ => ?_⟩
    · rw [g2, show (-1 : Int32) = J (-1) from rfl] at q
      simp (disch := omega) only [J_lit, J_neg, J_add, J_sub, J_mul, J_nI, J_le, J_lt, J_eq, J_in, J_nat] at q
      omega
    refine ⟨fun q => ?_, fun q => ?_⟩ <;> rw [g3] at q <;> simp (disch := omega) only [J_lit, J_neg, J_add, J_sub, J_mul, J_nI, J_le, J_lt, J_eq, J_in, J_nat] at q
    · rw [if_pos (Or.inr (by show ((gst (b 1) (acc (b 1) (n 1))).1.length : Int) ≤ j; omega))] at hq
      exact hq
    · rw [if_neg (fun w => by
        rcases w with w | w
        · exact f w
        · have w' : ((gst (b 1) (acc (b 1) (n 1))).1.length : Int) ≤ j := w
          omega)] at hq
      have ix : (J j).toNatClampNeg = j.toNat := by simp (disch := omega) only [J_lit, J_neg, J_add, J_sub, J_mul, J_nI, J_le, J_lt, J_eq, J_in, J_nat]
      refine ⟨by simp (disch := omega) only [J_lit, J_neg, J_add, J_sub, J_mul, J_nI, J_le, J_lt, J_eq, J_in, J_nat]; omega, ?_⟩
      rw [ix, MoE_plc g4 j.toNat (by omega)]
      exact hq
theorem w_againBy (hF : MFi S b n) (hN : nB b n ≤ 24) {i j : Int} (i1 : 0 ≤ i) (i2 : i ≤ nB b n) (j1 : 0 ≤ j) (j2 : j ≤ nB b n) (hq : Q (some (.int (J (vAgain b n i j)))) S) : KM (d + 1) mX12_againBy [.ref 0, .int (J i), .int (J j)] S Q := by
  obtain ⟨⟨r1, -⟩, -, -, l2⟩ := hF
  unfold vAgain at hq
  rw [if_neg (by omega)] at hq
  refine eX12_againBy (zRun_wp [10] 60 ?_)
  refine ⟨fun q => ?_, fun q => ?_⟩ <;> simp (disch := omega) only [J_lit, J_neg, J_add, J_sub, J_mul, J_nI, J_le, J_lt, J_eq, J_in, J_nat] at q
  rotate_left
  · rw [if_pos (by omega)] at hq; exact hq
  rw [if_neg (by omega)] at hq
  obtain ⟨i, rfl⟩ : ∃ i' : Nat, i = i' := ⟨i.toNat, by omega⟩
  obtain ⟨w, rfl⟩ : ∃ w : Nat, j = (i + w : Nat) := ⟨j.toNat - i, by omega⟩
  have w0 : 1 ≤ w := by omega
  rw [Int.toNat_natCast, Int.toNat_natCast, show i + w - i = w by omega] at hq
  have up := al_lei (gB b n) (nB b n) i (i + w)
  have dl := Nat.div_le_self (al (gB b n) (nB b n) i (i + w)) w
  have ew : J (i + w : Nat) - J i = J w := by simp only [J_lit, J_neg, J_add, J_sub, J_mul, J_nI]; congr 1; omega
  have loop : ∀ (r k : Nat) (x3 : Int32), k + r = 1 + al (gB b n) (nB b n) i (i + w) / w → 1 ≤ k → x3 = J k → zWp shM (KM d) kX12_againBy 1 Q 10 [some (.ref 0), some (.int (J i)), some (.int (J (i + w : Nat))), some (.int x3)] [] S := by
    intro r
    induction r with
    | zero =>
      intro k x3 hr k1 e3
      subst e3
      have ek : k = 1 + al (gB b n) (nB b n) i (i + w) / w := by omega
      have kw : k * w ≤ 25 * 24 := Nat.mul_le_mul (by omega) (by omega)
      have e : (k + 1) * w = k * w + w := Nat.succ_mul k w
      have fin : Q (some (.int (J k))) S := by
        rw [ek]; exact hq
      refine zRun_wp [10] 60 ?_
      have x1 : J i + (J k + 1) * (J (i + w : Nat) - J i) = J (i + (k + 1) * w : Nat) := by
        rw [ew]; simp only [J_lit, J_neg, J_add, J_sub, J_mul, J_nI]; congr 1
      refine ⟨fun _ => fin, fun q => ?_⟩
      rw [x1, r1] at q
      simp (disch := omega) only [J_lit, J_neg, J_add, J_sub, J_mul, J_nI, J_le, J_lt, J_eq, J_in, J_nat] at q
      have hle : i + (k + 1) * w ≤ nB b n := by omega
      have x2 : (25 * J i + J i + J k * (J (i + w : Nat) - J i)).toNatClampNeg = 25 * i + (i + k * w) := by
        rw [ew, show J k * J w = J (k * w : Nat) by simp only [J_lit, J_neg, J_add, J_sub, J_mul, J_nI]; congr 1]
        simp (disch := omega) only [J_lit, J_neg, J_add, J_sub, J_mul, J_nI, J_le, J_lt, J_eq, J_in, J_nat]; omega
      have x3 : vp_in (25 * J i + J i + J k * (J (i + w : Nat) - J i)) 625 := by
        rw [ew, show J k * J w = J (k * w : Nat) by simp only [J_lit, J_neg, J_add, J_sub, J_mul, J_nI]; congr 1]
        simp (disch := omega) only [J_lit, J_neg, J_add, J_sub, J_mul, J_nI, J_le, J_lt, J_eq, J_in, J_nat]; omega
      refine ⟨x3, ?_⟩
      have al2 := al_lei (gB b n) (nB b n) i (i + k * w)
      refine ⟨fun _ => fin, fun q2 => ?_⟩
      rw [x2, l2 i (i + k * w) (by omega) (by omega), ew] at q2
      simp (disch := omega) only [J_lit, J_neg, J_add, J_sub, J_mul, J_nI, J_le, J_lt, J_eq, J_in, J_nat] at q2
      exact absurd (again_off w0 (by omega) ek hle (by omega)) id
    | succ r ih =>
      intro k x3 hr k1 e3
      subst e3
      obtain ⟨o1, o2⟩ := again_on (h := gB b n) (m := nB b n) (i := i) (w := w) (k := k) w0 k1 (by omega) (by omega)
      have kw : k * w ≤ 25 * 24 := Nat.mul_le_mul (by omega) (by omega)
      have e : (k + 1) * w = k * w + w := Nat.succ_mul k w
      have al2 := al_lei (gB b n) (nB b n) i (i + k * w)
      refine zRun_wp [10] 60 ?_
      have x1 : J i + (J k + 1) * (J (i + w : Nat) - J i) = J (i + (k + 1) * w : Nat) := by
        rw [ew]; simp only [J_lit, J_neg, J_add, J_sub, J_mul, J_nI]; congr 1
      refine ⟨fun q => ?_, fun _ => ?_⟩
      · rw [x1, r1] at q
        simp (disch := omega) only [J_lit, J_neg, J_add, J_sub, J_mul, J_nI, J_le, J_lt, J_eq, J_in, J_nat] at q
        omega
      have x2 : (25 * J i + J i + J k * (J (i + w : Nat) - J i)).toNatClampNeg = 25 * i + (i + k * w) := by
        rw [ew, show J k * J w = J (k * w : Nat) by simp only [J_lit, J_neg, J_add, J_sub, J_mul, J_nI]; congr 1]
        simp (disch := omega) only [J_lit, J_neg, J_add, J_sub, J_mul, J_nI, J_le, J_lt, J_eq, J_in, J_nat]; omega
      have x3 : vp_in (25 * J i + J i + J k * (J (i + w : Nat) - J i)) 625 := by
        rw [ew, show J k * J w = J (k * w : Nat) by simp only [J_lit, J_neg, J_add, J_sub, J_mul, J_nI]; congr 1]
        simp (disch := omega) only [J_lit, J_neg, J_add, J_sub, J_mul, J_nI, J_le, J_lt, J_eq, J_in, J_nat]; omega
      refine ⟨x3, ?_⟩
      refine ⟨fun q => ?_, fun _ => ?_⟩
      · rw [x2, l2 i (i + k * w) (by omega) (by omega), ew] at q
        simp (disch := omega) only [J_lit, J_neg, J_add, J_sub, J_mul, J_nI, J_le, J_lt, J_eq, J_in, J_nat] at q
        omega
      · exact ih (k + 1) _ (by omega) (by omega) (by simp only [J_lit, J_neg, J_add, J_sub, J_mul, J_nI]; congr 1)
  exact loop (al (gB b n) (nB b n) i (i + w) / w) 1 _ (by omega) (by omega) rfl
end mby
