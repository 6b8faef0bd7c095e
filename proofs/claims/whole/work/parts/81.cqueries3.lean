section cq
variable {d : Nat} {S : zS} {Q : Option Value → zS → Prop} {b : Nat → Nat → Int} {n : Nat → Nat} {dd : Nat}
theorem v_barsE {c : Nat} {x : Int32} (ex : x = J (cv c)) (h1 : c % 1000 < 256) (h2 : c ≤ 1000000) (h : Q (some (.int (J (c / 1000 : Nat)))) S) : KC (d + 1) mX11_barsOf [.int x] S Q := by
  subst ex
  obtain ⟨b1, b2⟩ := cv_bars h1
  have : cv c ≤ 1000000 := by unfold cv; omega
  refine v_barsOf (by omega) (by omega) ?_
  have e : ((cv c : Nat) : Int) / 256 = (c / 1000 : Nat) := by omega
  rw [e]; exact h
theorem v_signsE {c : Nat} {x : Int32} (ex : x = J (cv c)) (h1 : c % 1000 < 256) (h2 : c ≤ 1000000) (h : Q (some (.int (J (c % 1000 : Nat)))) S) : KC (d + 1) mX11_signsOf [.int x] S Q := by
  subst ex
  obtain ⟨b1, b2⟩ := cv_bars h1
  have : cv c ≤ 1000000 := by unfold cv; omega
  refine v_signsOf (by omega) (by omega) ?_
  have e : ((cv c : Nat) : Int) % 256 = (c % 1000 : Nat) := by omega
  rw [e]; exact h
theorem v_found (h : CI S b n dd) {w : Int} (w1 : -2147483648 ≤ w) (w2 : w ≤ 2147483647) (hq : ∀ S', CK S S' → CI S' b n dd → Q (some (.int (J (vFound b n dd w)))) S') : KC (d + 58) mX11_found [.ref 0, .int (J w)] S Q := by
  have hN := nB_le (b := b) h.1.1.1
  have bad : ¬ (0 ≤ w ∧ w ≤ 3) → Q (some (.int (-2))) S := fun q => by
    have := hq S CK_rfl h
    unfold vFound at this
    rw [if_pos q] at this
    exact this
  refine eX11_found (zRun_wp [] 60 ?_)
  refine ⟨fun q => ?_, fun q => ?_⟩ <;> simp (disch := omega) only [J_lit, J_neg, J_add, J_sub, J_mul, J_nI, J_le, J_lt, J_eq, J_in, J_nat] at q
  · exact bad (by omega)
  refine ⟨fun q2 => ?_, fun q2 => ?_⟩ <;> simp (disch := omega) only [J_lit, J_neg, J_add, J_sub, J_mul, J_nI, J_le, J_lt, J_eq, J_in, J_nat] at q2
  rotate_left
  · exact bad (by omega)
  refine v_freshFound (d := d) h (fun S1 c1 k1 f1 => ?_)
  obtain ⟨⟨g1, g2, g3, g4⟩, p0, p1, p2⟩ := k1.2.2.2.2.2.1 f1
  obtain ⟨fo1, fo2, -⟩ := fa2_ok (h := gB b n) (d := dd) hN (nB b n)
  have hq1 := hq S1 c1 k1
  unfold vFound at hq1
  rw [if_neg (by omega)] at hq1
  have wi : (J w).toInt = w := J_int w1 w2
  refine ⟨fun z => ?_, fun z => ?_, fun z => ?_, fun z => ?_, trivial⟩ <;> rw [wi] at z
  · rw [if_neg (by omega), if_neg (by omega), if_neg (by omega)] at hq1
    rw [← p1] at hq1
    exact hq1
  · rw [if_pos (by omega)] at hq1
    exact v_barsE g1 (by show (fa2 _ _ _ _).1 % 1000 < 256; omega) (by show (fa2 _ _ _ _).1 ≤ 1000000; omega) hq1
  · rw [if_neg (by omega), if_pos (by omega)] at hq1
    exact v_signsE g1 (by show (fa2 _ _ _ _).1 % 1000 < 256; omega) (by show (fa2 _ _ _ _).1 ≤ 1000000; omega) hq1
  · rw [if_neg (by omega), if_neg (by omega), if_pos (by omega)] at hq1
    rw [← g2] at hq1
    exact hq1
theorem v_shown (h : CI S b n dd) {i : Int} (i1 : -2147483648 ≤ i) (i2 : i ≤ 2147483647) (hq : ∀ S', CK S S' → CI S' b n dd → Q (some (.int (J (vShown b n dd i)))) S') : KC (d + 58) mX11_shown [.ref 0, .int (J i)] S Q := by
  have bad : ¬ (0 ≤ i ∧ i ≤ 59) → Q (some (.int (-2))) S := fun q => by
    have := hq S CK_rfl h
    unfold vShown at this
    rw [if_pos q] at this
    exact this
  refine eX11_shown (zRun_wp [] 60 ?_)
  refine ⟨fun q => ?_, fun q => ?_⟩ <;> simp (disch := omega) only [J_lit, J_neg, J_add, J_sub, J_mul, J_nI, J_le, J_lt, J_eq, J_in, J_nat] at q
  · exact bad (by omega)
  refine ⟨fun q2 => ?_, fun q2 => ?_⟩ <;> simp (disch := omega) only [J_lit, J_neg, J_add, J_sub, J_mul, J_nI, J_le, J_lt, J_eq, J_in, J_nat] at q2
  rotate_left
  · exact bad (by omega)
  refine v_freshFound (d := d) h (fun S1 c1 k1 f1 => ?_)
  obtain ⟨-, p0, p1, p2⟩ := k1.2.2.2.2.2.1 f1
  have hq1 := hq S1 c1 k1
  unfold vShown at hq1
  rw [if_neg (by omega)] at hq1
  have p0 : (prB b n dd).length ≤ 60 := p0
  have p1 : S1 25 1 = J (prB b n dd).length := p1
  have p2 : ∀ k, k < (prB b n dd).length → S1 26 k = J ((prB b n dd).getD k 0) := p2
  generalize prB b n dd = L at p0 p1 p2 hq1
  refine ⟨fun q3 => ?_, fun q3 => ?_⟩ <;> rw [p1] at q3 <;> simp (disch := omega) only [J_lit, J_neg, J_add, J_sub, J_mul, J_nI, J_le, J_lt, J_eq, J_in, J_nat] at q3
  · rw [if_neg (by omega)] at hq1; exact hq1
  · rw [if_pos (by omega)] at hq1
    have ix : (J i).toNatClampNeg = i.toNat := by simp (disch := omega) only [J_lit, J_neg, J_add, J_sub, J_mul, J_nI, J_le, J_lt, J_eq, J_in, J_nat]
    refine ⟨by simp (disch := omega) only [J_lit, J_neg, J_add, J_sub, J_mul, J_nI, J_le, J_lt, J_eq, J_in, J_nat]; omega, ?_⟩
    rw [ix, p2 i.toNat (by omega)]
    exact hq1
theorem v_mend (h : CI S b n dd) {w : Int} (w1 : -2147483648 ≤ w) (w2 : w ≤ 2147483647) (hq : ∀ S', CK S S' → CI S' b n dd → Q (some (.int (J (vMend b n dd w)))) S') : KC (d + 7) mX11_mend [.ref 0, .int (J w)] S Q := by
  have hN := nB_le (b := b) h.1.1.1
  have bad : ¬ (0 ≤ w ∧ w ≤ 2) → Q (some (.int (-2))) S := fun q => by
    have := hq S CK_rfl h
    unfold vMend at this
    rw [if_pos q] at this
    exact this
  refine eX11_mend (zRun_wp [] 60 ?_)
  refine ⟨fun q => ?_, fun q => ?_⟩ <;> simp (disch := omega) only [J_lit, J_neg, J_add, J_sub, J_mul, J_nI, J_le, J_lt, J_eq, J_in, J_nat] at q
  · exact bad (by omega)
  refine ⟨fun q2 => ?_, fun q2 => ?_⟩ <;> simp (disch := omega) only [J_lit, J_neg, J_add, J_sub, J_mul, J_nI, J_le, J_lt, J_eq, J_in, J_nat] at q2
  rotate_left
  · exact bad (by omega)
  refine v_freshMending (d := d) h (fun S1 c1 k1 f1 => ?_)
  obtain ⟨m1, m2⟩ := k1.2.2.2.2.2.2 f1
  have hq1 := hq S1 c1 k1
  unfold vMend at hq1
  rw [if_neg (by omega)] at hq1
  have inv := md_inv (g := gB b n) (dd := dd) hN (nB b n)
  generalize md (gB b n) (nB b n) dd (nB b n) = s at m1 m2 hq1 inv
  have mr : -1 ≤ s.1 ∧ s.1 ≤ 24 := by
    rcases inv with ⟨_, _, i3, i4, _⟩ | ⟨_, i⟩
    · omega
    · rw [i]; exact ⟨by decide, by decide⟩
  refine ⟨fun q3 => ?_, fun q3 => ?_⟩ <;> rw [m1, show (-1 : Int32) = J (-1) from rfl] at q3 <;> simp (disch := omega) only [J_lit, J_neg, J_add, J_sub, J_mul, J_nI, J_le, J_lt, J_eq, J_in, J_nat] at q3
  · rw [if_pos (Or.inl q3)] at hq1
    rw [← m1] at hq1
    exact hq1
  refine ⟨fun q4 => ?_, fun q4 => ?_⟩ <;> simp (disch := omega) only [J_lit, J_neg, J_add, J_sub, J_mul, J_nI, J_le, J_lt, J_eq, J_in, J_nat] at q4
  rotate_left
  · rw [if_pos (Or.inr q4)] at hq1
    rw [← m1] at hq1
    exact hq1
  rw [if_neg (by omega)] at hq1
  rw [if_neg q3] at m2
  obtain ⟨i1, i2⟩ : s.2 % 1000 < 200 ∧ s.2 ≤ 24000 := by
    rcases inv with ⟨i1, i2, _⟩ | ⟨_, i⟩
    · exact ⟨i1, i2⟩
    · rw [i] at q3; exact absurd rfl q3
  refine ⟨fun q5 => ?_, fun q5 => ?_⟩ <;> simp (disch := omega) only [J_lit, J_neg, J_add, J_sub, J_mul, J_nI, J_le, J_lt, J_eq, J_in, J_nat] at q5
  · rw [if_neg q5] at hq1
    exact v_signsE (d := d + 5) m2 (by omega) (by omega) hq1
  · rw [if_pos q5] at hq1
    exact v_barsE (d := d + 5) m2 (by omega) (by omega) hq1
theorem v_count (h : CI S b n dd) {w : Int} (w1 : -2147483648 ≤ w) (w2 : w ≤ 2147483647) (hq : ∀ S', CK S S' → CI S' b n dd → Q (some (.int (vCount b n dd (S 0 9) w))) S') : KC (d + 58) mX11_count [.ref 0, .int (J w)] S Q := by
  have hN := nB_le (b := b) h.1.1.1
  have wi : (J w).toInt = w := J_int w1 w2
  obtain ⟨fo1, fo2, -⟩ := fa2_ok (h := gB b n) (d := dd) hN (nB b n)
  unfold vCount at hq
  refine eX11_count (zRun_wp [] 60 ?_)
  refine ⟨fun z => ?_, fun z => ?_, fun z => ?_, fun z => ?_, fun z => ?_, fun z => ?_, fun z => ?_, fun z => ?_, fun z => ?_, fun z => ?_, trivial⟩ <;> rw [wi] at z
  · have hq1 := hq S CK_rfl h
    rw [if_neg (by omega), if_neg (by omega), if_neg (by omega), if_neg (by omega), if_neg (by omega), if_neg (by omega), if_neg (by omega), if_neg (by omega), if_neg (by omega)] at hq1
    exact hq1
  · have hq1 := hq S CK_rfl h
    rw [if_pos (by omega)] at hq1
    obtain ⟨-, t1, -, t3, -⟩ := h.1
    refine ⟨in2 0 (by decide), fun q hqq => ?_⟩
    have eq2 : q = 2 := by cases hqq; rfl
    subst eq2
    refine ⟨in2 1 (by decide), fun q hqq => ?_⟩
    have eq4 : q = 4 := by cases hqq; rfl
    subst eq4
    have e : S 2 1 + S 4 1 = J (n 0 + n 1 : Nat) := by rw [t1, t3]; simp only [J_lit, J_neg, J_add, J_sub, J_mul, J_nI]; congr 1
    rw [← e] at hq1
    exact hq1
  · refine v_freshRun (d := d + 54) h (fun S1 c1 i1 f1 _ _ => ?_)
    have hq1 := hq S1 c1 i1
    rw [if_neg (by omega), if_pos (by omega)] at hq1
    rw [← (i1.2.2.1 f1).1] at hq1
    exact hq1
  · refine v_freshRun (d := d + 54) h (fun S1 c1 i1 f1 _ _ => ?_)
    have hq1 := hq S1 c1 i1
    rw [if_neg (by omega), if_neg (by omega), if_pos (by omega)] at hq1
    rw [← (i1.2.2.1 f1).2.2.2.1] at hq1
    exact hq1
  · have hq1 := hq S CK_rfl h
    rw [if_neg (by omega), if_neg (by omega), if_neg (by omega), if_pos (by omega)] at hq1
    rw [← h.2.1.1] at hq1
    exact hq1
  · refine v_freshScore (d := d + 52) h (fun S1 c1 i1 f1 _ _ => ?_)
    have hq1 := hq S1 c1 i1
    rw [if_neg (by omega), if_neg (by omega), if_neg (by omega), if_neg (by omega), if_pos (by omega)] at hq1
    obtain ⟨-, -, -, -, -, -, -, -, o0, o1, o2⟩ := i1.2.2.2.1 f1
    have o1 : S1 16 1 = J (odB b n).length := o1
    rw [← o1] at hq1
    exact hq1
  · refine v_freshScore (d := d + 52) h (fun S1 c1 i1 f1 _ _ => ?_)
    have hq1 := hq S1 c1 i1
    rw [if_neg (by omega), if_neg (by omega), if_neg (by omega), if_neg (by omega), if_neg (by omega), if_pos (by omega)] at hq1
    obtain ⟨-, -, -, -, -, -, s7, -⟩ := i1.2.2.2.1 f1
    have s7 : S1 11 1 = J (rmB b n) := s7
    rw [← s7] at hq1
    exact hq1
  · refine v_freshFound (d := d) h (fun S1 c1 i1 f1 => ?_)
    have hq1 := hq S1 c1 i1
    rw [if_neg (by omega), if_neg (by omega), if_neg (by omega), if_neg (by omega), if_neg (by omega), if_neg (by omega), if_pos (by omega)] at hq1
    exact v_barsE (i1.2.2.2.2.2.1 f1).1.1 (by show (fa2 _ _ _ _).1 % 1000 < 256; omega) (by show (fa2 _ _ _ _).1 ≤ 1000000; omega) hq1
  · refine v_freshFound (d := d) h (fun S1 c1 i1 f1 => ?_)
    have hq1 := hq S1 c1 i1
    rw [if_neg (by omega), if_neg (by omega), if_neg (by omega), if_neg (by omega), if_neg (by omega), if_neg (by omega), if_neg (by omega), if_pos (by omega)] at hq1
    exact v_signsE (i1.2.2.2.2.2.1 f1).1.1 (by show (fa2 _ _ _ _).1 % 1000 < 256; omega) (by show (fa2 _ _ _ _).1 ≤ 1000000; omega) hq1
  · have hq1 := hq S CK_rfl h
    rw [if_neg (by omega), if_neg (by omega), if_neg (by omega), if_neg (by omega), if_neg (by omega), if_neg (by omega), if_neg (by omega), if_neg (by omega), if_pos (by omega)] at hq1
    exact hq1
end cq
