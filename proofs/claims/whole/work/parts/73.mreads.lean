/-- what the model's readsScore leaves -/
def MoF (S : zS) (b : Nat → Int) (n : Nat) : Prop :=
  S 0 13 = J (if fre b n = 0 then -1 else (acc b n : Int)) ∧ S 0 14 = J (if fre b n = 0 then -1 else (fre b n : Int)) ∧ S 0 15 = J (gst b (acc b n)).1.length ∧ MoE S (gst b (acc b n)).1 ∧
  S 0 24 = J (if fre b n = 0 then rm b n else 0 : Nat) ∧ S 0 25 = J (if fre b n = 0 then sct b n else 0 : Nat) ∧ S 0 26 = J (if fre b n = 0 then dpt b n else 0 : Nat) ∧ (fre b n = 0 → MoT S b n)
/-- what readsScore writes -/
def MrK (S S' : zS) : Prop := (∀ c, c ≠ 0 → (c < 10 ∨ 16 < c) → S' c = S c) ∧ ∀ k, k < 13 ∨ 26 < k → S' 0 k = S 0 k
section mreads
variable {d : Nat} {S : zS} {Q : Option Value → zS → Prop} {b : Nat → Int} {n : Nat}
theorem w_fails {x y : Int32} (hq : ∀ S', (∀ c, c ≠ 0 → S' c = S c) → (∀ k, k ≠ 13 → k ≠ 14 → k ≠ 24 → k ≠ 25 → k ≠ 26 → S' 0 k = S 0 k) → S' 0 13 = x → S' 0 14 = y → S' 0 24 = 0 → S' 0 25 = 0 → S' 0 26 = 0 → Q none S') : KM (d + 1) mX12_fails [.ref 0, .int x, .int y] S Q := by
  refine eX12_fails (zRun_wp [] 60 ?_)
  refine ⟨rfl, fun e => absurd e (by decide), rfl, fun e => absurd e (by decide), rfl, fun e => absurd e (by decide), rfl, fun e => absurd e (by decide), rfl, fun e => absurd e (by decide), ?_⟩
  refine hq _ (fun c hc => by rw [zu_same hc, zu_same hc, zu_same hc, zu_same hc, zu_same hc]) (fun k k1 k2 k3 k4 k5 => by simp only [zu_r, if_true]; rw [if_neg k5, if_neg k4, if_neg k3, if_neg k2, if_neg k1]) ?_ ?_ ?_ ?_ ?_ <;> simp [zu_r]
theorem MoE_c {S S' : zS} {l : List En} (h : MoE S l) (k : ∀ c, c ≠ 0 → S' c = S c) : MoE S' l := by
  induction l with
  | nil => trivial
  | cons x t ih =>
    obtain ⟨p, c, q⟩ := x
    obtain ⟨⟨h1, h2, h3, h4⟩, h5⟩ := h
    exact ⟨⟨by rw [k 10 (by decide)]; exact h1, by rw [k 11 (by decide)]; exact h2, by rw [k 12 (by decide)]; exact h3, by rw [k 13 (by decide)]; exact h4⟩, ih h5⟩
theorem MoT_c {S S' : zS} {i : Nat} (h : MoT S b i) (k : ∀ c, c ≠ 0 → S' c = S c) (k0 : ∀ j, j ≠ 13 → j ≠ 14 → j ≠ 25 → S' 0 j = S 0 j) : MoT S' b i := by
  obtain ⟨m1, m2, m3, m4, m5, m6, m7, m8, m9, m10⟩ := h
  refine ⟨?_, ?_, ?_, ?_, ?_, ?_, MoE_c m7 k, fun j a1 a2 p c q t a3 => ?_, fun j a1 a2 => ?_, fun j a1 => ?_⟩
  · rw [k0 15 (by decide) (by decide) (by decide)]; exact m1
  · rw [k0 21 (by decide) (by decide) (by decide)]; exact m2
  · rw [k0 22 (by decide) (by decide) (by decide)]; exact m3
  · rw [k0 23 (by decide) (by decide) (by decide)]; exact m4
  · rw [k0 24 (by decide) (by decide) (by decide)]; exact m5
  · rw [k0 26 (by decide) (by decide) (by decide)]; exact m6
  · rw [k 12 (by decide), k 13 (by decide)]; exact m8 j a1 a2 p c q t a3
  · rw [k 15 (by decide)]; exact m9 j a1 a2
  · rw [k 16 (by decide)]; exact m10 j a1
set_option maxHeartbeats 2000000 in
theorem w_readsScore (hn : n ≤ 40) (hb : ∀ k, k < n → 0 ≤ b k ∧ b k ≤ 255) (hS : S A_typed 1 = J n) (hT : ∀ k, k < n → S A_score k = J (b k))
    (hq : ∀ S', MrK S S' → MoF S' b n → Q none S') : KM (d + 5) mX12_readsScore [.ref 0] S Q := by
  -- the end, with a fault told already
  have told : ∀ (S' : zS) (x2 x3 : Int32) (x4 x5 : Option Value), MrK S S' → fre b n ≠ 0 → S' 0 13 = J (acc b n) → S' 0 14 = J (fre b n) → S' 0 15 = J (gst b (acc b n)).1.length → MoE S' (gst b (acc b n)).1 → S' 0 24 = 0 → S' 0 25 = 0 → S' 0 26 = 0 → Q none S' := by
    intro S' x2 x3 x4 x5 k f h1 h2 h3 h4 h5 h6 h7
    refine hq S' k ⟨?_, ?_, h3, h4, ?_, ?_, ?_, fun q => absurd q f⟩
    · rw [if_neg f]; exact h1
    · rw [if_neg f]; exact h2
    · rw [if_neg f]; exact h5
    · rw [if_neg f]; exact h6
    · rw [if_neg f]; exact h7
  have fre_le : fre b n ≤ 5 := by
    unfold fre
    have := rsn_le b (acc b n)
    split
    · omega
    · split <;> omega
  have loop : ∀ (r i : Nat) (x2 x3 : Int32) (x4 x5 : Option Value) (S' : zS), i + r = n → x2 = bb (due b i) → x3 = J i → Acc b i → MrK S S' → S' 0 13 = J (-1) → S' 0 14 = J (-1) → S' 0 25 = J (sct b i) → MoT S' b i → zWp shM (KM (d + 4)) kX12_readsScore 0 Q 56 [some (.ref 0), some (.int (J n)), some (.int x2), some (.int x3), x4, x5] [] S' := by
    intro r
    induction r with
    | zero =>
      intro i x2 x3 x4 x5 S' hr e2 e3 hA k h13 h14 h25 hM
      subst e2 e3
      have ei : i = n := by omega
      subst ei
      have ac := acc_is (Nat.le_refl i) hA (fun q => absurd q (Nat.lt_irrefl i))
      have hM' := hM
      obtain ⟨m1, m2, m3, m4, m5, m6, m7, m8, m9, m10⟩ := hM
      have hlen := gst_len i hA
      have hMK := MK_all i hA
      have mr : -1 ≤ (gst b i).2.1 ∧ (gst b i).2.1 ≤ 40 ∧ -1 ≤ (gst b i).2.2.1 ∧ (gst b i).2.2.1 ≤ 40 ∧ -1 ≤ (gst b i).2.2.2 ∧ (gst b i).2.2.2 ≤ 40 := by
        obtain ⟨k1, k2, k3⟩ := hMK
        rcases k1 with k1 | ⟨P, k1, k1', -⟩ <;> rcases k2 with k2 | ⟨B, k2, k2', -⟩ <;> rcases k3 with k3 | ⟨D, k3, k3', -⟩ <;> omega
      have at200 : ∀ x : Int32, (x = 0 ∨ x = 1) → (x = 0 ↔ ¬ (i = 0 ∨ mayEnd b i)) → zWp shM (KM (d + 4)) kX12_readsScore 0 Q 200 [some (.ref 0), some (.int (J i)), some (.int (bb (due b i))), some (.int (J i)), x4, x5] [.int x] S' := by
        intro x xx xi
        refine zRun_wp [] 80 ?_
        refine ⟨fun w => ?_, fun _ => ?_⟩
        · rw [show S' 0 14 = _ from h14] at w
          exact absurd rfl w
        refine ⟨fun w => ?_, fun w => ?_⟩ <;> rw [xi] at w
        · have w := Decidable.not_not.mp w
          have f0 : fre b i = 0 := by unfold fre; rw [if_neg (by omega), if_pos w]
          refine hq S' k ⟨?_, ?_, ?_, ?_, ?_, ?_, ?_, fun _ => hM'⟩
          · rw [if_pos f0]; exact h13
          · rw [if_pos f0]; exact h14
          · rw [ac]; exact m1
          · rw [ac]; exact m7
          · rw [if_pos f0]; exact m5
          · rw [if_pos f0]; exact h25
          · rw [if_pos f0]; exact m6
        · have f5 : fre b i = 5 := by unfold fre; rw [if_neg (by omega), if_neg w]
          refine w_fails (d := d + 3) (fun S2 a1 a2 a3 a4 a5 a6 a7 => ?_)
          refine told S2 0 0 none none ⟨fun c c1 c2 => by rw [a1 c c1]; exact k.1 c c1 c2, fun j hj => by rw [a2 j (by omega) (by omega) (by omega) (by omega) (by omega)]; exact k.2 j hj⟩ (by omega) ?_ ?_ ?_ ?_ a5 a6 a7
          · rw [ac]; exact a3
          · rw [f5]; exact a4
          · rw [ac, a2 15 (by decide) (by decide) (by decide) (by decide) (by decide)]; exact m1
          · rw [ac]; exact MoE_c m7 a1
      have yes : (i = 0 ∨ mayEnd b i) → zWp shM (KM (d + 4)) kX12_readsScore 0 Q 200 [some (.ref 0), some (.int (J i)), some (.int (bb (due b i))), some (.int (J i)), x4, x5] [.int 1] S' := fun w => at200 1 (Or.inr rfl) ⟨fun e => absurd e (by decide), fun e => absurd w e⟩
      have no : ¬ (i = 0 ∨ mayEnd b i) → zWp shM (KM (d + 4)) kX12_readsScore 0 Q 200 [some (.ref 0), some (.int (J i)), some (.int (bb (due b i))), some (.int (J i)), x4, x5] [.int 0] S' := fun w => at200 0 (Or.inl rfl) ⟨fun _ => w, fun _ => rfl⟩
      refine zRun_wp [171, 200] 80 ?_
      refine ⟨fun _ => ?_, fun w => ?_⟩
      rotate_left
      · simp (disch := omega) only [J_lit, J_neg, J_add, J_sub, J_mul, J_nI, J_le, J_lt, J_eq, J_in, J_nat] at w
        omega
      refine ⟨fun w => ?_, fun w => ?_⟩ <;> simp (disch := omega) only [J_lit, J_neg, J_add, J_sub, J_mul, J_nI, J_le, J_lt, J_eq, J_in, J_nat] at w
      · exact yes (Or.inl (by omega))
      refine ⟨fun w1 => ?_, fun w1 => ?_⟩ <;> rw [show S' 0 15 = _ from m1] at w1 <;> simp (disch := omega) only [J_lit, J_neg, J_add, J_sub, J_mul, J_nI, J_le, J_lt, J_eq, J_in, J_nat] at w1
      · refine no (fun q => ?_)
        rcases q with q | q
        · omega
        · rw [q.1] at w1; exact w1 rfl
      have w0 : (gst b i).1 = [] := List.length_eq_zero_iff.mp (by omega)
      refine ⟨fun w2 => ?_, fun w2 => ?_⟩ <;> rw [bb_0] at w2
      · refine no (fun q => ?_)
        rcases q with q | q
        · omega
        · exact w2 q.2.1
      have at187 : ¬ ((gst b i).2.1 = -1 ∧ (gst b i).2.2.1 = -1) → zWp shM (KM (d + 4)) kX12_readsScore 0 Q 187 [some (.ref 0), some (.int (J i)), some (.int (bb (due b i))), some (.int (J i)), x4, x5] [] S' := by
        intro nn
        refine zRun_wp [200] 80 ?_
        refine ⟨fun w3 => ?_, fun w3 => ?_⟩ <;> rw [show S' 0 23 = _ from m4, show (-1 : Int32) = J (-1) from rfl] at w3 <;> simp (disch := omega) only [J_lit, J_neg, J_add, J_sub, J_mul, J_nI, J_le, J_lt, J_eq, J_in, J_nat] at w3
        · refine no (fun q => ?_)
          rcases q with q | q
          · omega
          · rcases q.2.2 with q | q
            · exact nn q
            · exact q w3
        · exact yes (Or.inr ⟨w0, w2, Or.inr w3⟩)
      show zWp shM (KM (d + 4)) kX12_readsScore 0 Q 171 [some (.ref 0), some (.int (J i)), some (.int (bb (due b i))), some (.int (J i)), x4, x5] [] S'
      refine zRun_wp [187, 200] 80 ?_
      refine ⟨fun w3 => ?_, fun w3 => ?_⟩ <;> rw [show S' 0 21 = _ from m2, show (-1 : Int32) = J (-1) from rfl] at w3 <;> simp (disch := omega) only [J_lit, J_neg, J_add, J_sub, J_mul, J_nI, J_le, J_lt, J_eq, J_in, J_nat] at w3
      · exact at187 (fun q => w3 q.1)
      refine ⟨fun w4 => ?_, fun w4 => ?_⟩ <;> rw [show S' 0 22 = _ from m3, show (-1 : Int32) = J (-1) from rfl] at w4 <;> simp (disch := omega) only [J_lit, J_neg, J_add, J_sub, J_mul, J_nI, J_le, J_lt, J_eq, J_in, J_nat] at w4
      · exact yes (Or.inr ⟨w0, w2, Or.inl ⟨w3, w4⟩⟩)
      · exact at187 (fun q => w4 q.2)
    | succ r ih =>
      intro i x2 x3 x4 x5 S' hr e2 e3 hA k h13 h14 h25 hM
      subst e2 e3
      have hbi := hb i (by omega)
      have rl := rsn_le b i
      have sl := sct_le b i
      have jx : (J i).toNatClampNeg = i := by simp (disch := omega) only [J_lit, J_neg, J_add, J_sub, J_mul, J_nI, J_le, J_lt, J_eq, J_in, J_nat]; omega
      have inj : vp_in (J i) 40 := by simp (disch := omega) only [J_lit, J_neg, J_add, J_sub, J_mul, J_nI, J_le, J_lt, J_eq, J_in, J_nat]; omega
      have hT' : ∀ j, j < n → S' A_score j = J (b j) := fun j hj => by rw [k.1 A_score (by decide) (by decide)]; exact hT j hj
      have m1 := hM.1
      have m7 := hM.2.2.2.2.2.2.1
      refine zRun_wp [85] 80 ?_
      refine ⟨fun w => ?_, fun _ => ?_⟩
      · simp (disch := omega) only [J_lit, J_neg, J_add, J_sub, J_mul, J_nI, J_le, J_lt, J_eq, J_in, J_nat] at w
        omega
      refine ⟨fun w => ?_, fun _ => ?_⟩
      · rw [show S' 0 14 = _ from h14] at w
        exact absurd rfl w
      refine w_takes (d := d) hM hA (by omega) hn hb hT' (fun r0 S1 k1 hM1 => ?_) (fun r1 => ?_)
      · have kS1 : MrK S S1 := ⟨fun c c1 c2 => by rw [k1.1 c c1 c2]; exact k.1 c c1 c2, fun j hj => by rw [k1.2 j (by omega)]; exact k.2 j hj⟩
        have s6 : S1 6 i = J (b i) := by rw [k1.1 6 (by decide) (by decide)]; exact hT' i (by omega)
        have h25' : S1 0 25 = J (sct b i) := by rw [k1.2 25 (by decide)]; exact h25
        have hA1 : Acc b (i + 1) := fun j hj => by
          by_cases e : j = i
          · rw [e]; exact r0
          · exact hA j (by omega)
        refine ⟨inj, ?_⟩
        have go : ∀ (y3 : Option Value) (x5 : Int32), x5 = J (b i) → zWp shM (KM (d + 4)) kX12_readsScore 0 Q 85 [some (.ref 0), some (.int (J n)), some (.int (bb (due b i))), some (.int (J i)), some (.int 0), some (.int x5)] [] S1 := by
          intro y3 x5 e5
          subst e5
          have h25'' : S1 0 25 = J (sct b i) := h25'
          have at118 : ∀ x : Int32, x = J (if sgz (b i) then 1 else 0) → zWp shM (KM (d + 4)) kX12_readsScore 0 Q 118 [some (.ref 0), some (.int (J n)), some (.int (bb (due b i))), some (.int (J i)), some (.int 0), some (.int (J (b i)))] [.int x, .int (S1 0 25), .ref 0] S1 := by
            intro x ex
            subst ex
            have fin : ∀ x2 : Int32, x2 = bb (due b (i + 1)) → zWp shM (KM (d + 4)) kX12_readsScore 0 Q 149 [some (.ref 0), some (.int (J n)), some (.int (bb (due b i))), some (.int (J i)), some (.int 0), some (.int (J (b i)))] [.int x2] (zu S1 0 25 (S1 0 25 + J (if sgz (b i) then 1 else 0))) := by
              intro x2 e2
              refine zRun_wp [56] 80 ?_
              refine ih (i + 1) _ _ _ _ _ (by omega) e2 (by simp only [J_lit, J_neg, J_add, J_sub, J_mul, J_nI]; congr 1) hA1 ⟨fun c c1 c2 => by rw [zu_same c1]; exact kS1.1 c c1 c2, fun j hj => by simp only [zu_r, if_true]; rw [if_neg (by omega)]; exact kS1.2 j hj⟩ ?_ ?_ ?_ (MoT_c hM1 (fun c c1 => zu_same c1) (fun j _ _ j3 => by simp only [zu_r, if_true]; rw [if_neg j3]))
              · simp only [zu_r, if_true]
                rw [if_neg (by decide), k1.2 13 (by decide)]; exact h13
              · simp only [zu_r, if_true]
                rw [if_neg (by decide), k1.2 14 (by decide)]; exact h14
              · simp only [zu_r, if_true]
                rw [h25'', sct_s]
                split
                · simp only [J_lit, J_neg, J_add, J_sub, J_mul, J_nI]; congr 1
                · simp only [J_lit, J_neg, J_add, J_sub, J_mul, J_nI]; congr 1
            refine zRun_wp [149] 80 ?_
            refine ⟨rfl, fun e => absurd e (by decide), ?_⟩
            refine w_isSignM (fun r r1 r2 => ?_)
            rw [sgn_iff hbi] at r2
            refine ⟨fun w => ?_, fun w => ?_⟩ <;> rw [r2] at w
            · exact fin 0 (bb_f (fun q => by have := (due_s b i).mp q; omega)).symm
            have w := Decidable.not_not.mp w
            refine ⟨fun w1 => ?_, fun w1 => ?_⟩ <;> simp (disch := omega) only [J_lit, J_neg, J_add, J_sub, J_mul, J_nI, J_le, J_lt, J_eq, J_in, J_nat] at w1
            · exact fin 0 (bb_f (fun q => by have := (due_s b i).mp q; omega)).symm
            refine ⟨fun w2 => ?_, fun w2 => ?_⟩ <;> simp (disch := omega) only [J_lit, J_neg, J_add, J_sub, J_mul, J_nI, J_le, J_lt, J_eq, J_in, J_nat] at w2
            · exact fin 0 (bb_f (fun q => by have := (due_s b i).mp q; omega)).symm
            · exact fin 1 (bb_t ((due_s b i).mpr (by omega))).symm
          refine zRun_wp [118] 80 ?_
          refine ⟨fun _ => ?_, fun w => absurd w (by decide)⟩
          refine w_isSignM (fun r r1 r2 => ?_)
          rw [sgn_iff hbi] at r2
          refine ⟨fun w => ?_, fun w => ?_⟩ <;> rw [r2] at w
          · exact at118 _ (by rw [if_neg w]; rfl)
          · exact at118 _ (by rw [if_pos (Decidable.not_not.mp w)]; rfl)
        refine go none _ ?_
        rw [jx]; exact s6
      · have ac : acc b n = i := acc_is (by omega) hA (fun _ => r1)
        have fr : fre b n = rsn b i := by unfold fre; rw [ac, if_pos (by omega)]
        refine ⟨inj, ?_⟩
        have go : ∀ (x5 : Int32), zWp shM (KM (d + 4)) kX12_readsScore 0 Q 85 [some (.ref 0), some (.int (J n)), some (.int (bb (due b i))), some (.int (J i)), some (.int (J (rsn b i))), some (.int x5)] [] S' := by
          intro x5
          refine zRun_wp [56] 80 ?_
          refine ⟨fun w => ?_, fun _ => ?_⟩
          · simp (disch := omega) only [J_lit, J_neg, J_add, J_sub, J_mul, J_nI, J_le, J_lt, J_eq, J_in, J_nat] at w
            omega
          refine w_fails (d := d + 3) (fun S2 a1 a2 a3 a4 a5 a6 a7 => ?_)
          have fin : Q none S2 := by
            refine told S2 0 0 none none ⟨fun c c1 c2 => by rw [a1 c c1]; exact k.1 c c1 c2, fun j hj => by rw [a2 j (by omega) (by omega) (by omega) (by omega) (by omega)]; exact k.2 j hj⟩ (by omega) ?_ ?_ ?_ ?_ a5 a6 a7
            · rw [ac]; exact a3
            · rw [fr]; exact a4
            · rw [ac, a2 15 (by decide) (by decide) (by decide) (by decide) (by decide)]; exact m1
            · rw [ac]; exact MoE_c m7 a1
          have neg : ¬ S2 0 14 = -1 := by
            rw [a4, show (-1 : Int32) = J (-1) from rfl]
            simp (disch := omega) only [J_lit, J_neg, J_add, J_sub, J_mul, J_nI, J_le, J_lt, J_eq, J_in, J_nat]
            omega
          have at201 : ∀ (y2 y3 : Int32) (y4 y5 : Option Value), zWp shM (KM (d + 4)) kX12_readsScore 0 Q 201 [some (.ref 0), some (.int (J n)), some (.int y2), some (.int y3), y4, y5] [] S2 := by
            intro y2 y3 y4 y5
            refine zRun_wp [] 80 ?_
            exact ⟨fun _ => fin, fun w => absurd w neg⟩
          have at156 : ∀ (y2 y3 : Int32) (y4 y5 : Option Value), zWp shM (KM (d + 4)) kX12_readsScore 0 Q 156 [some (.ref 0), some (.int (J n)), some (.int y2), some (.int y3), y4, y5] [] S2 := by
            intro y2 y3 y4 y5
            refine zRun_wp [201] 80 ?_
            refine ⟨fun _ => at201 _ _ _ _, fun _ => ⟨fun _ => at201 _ _ _ _, fun _ => ⟨fun _ => at201 _ _ _ _, fun _ => ⟨fun _ => ⟨fun _ => at201 _ _ _ _, fun _ => at201 _ _ _ _⟩, fun _ => ⟨fun _ => at201 _ _ _ _, fun _ => ⟨fun _ => at201 _ _ _ _, fun _ => at201 _ _ _ _⟩⟩⟩⟩⟩⟩
          show zWp shM (KM (d + 4)) kX12_readsScore 0 Q 56 [some (.ref 0), some (.int (J n)), some (.int (bb (due b i))), some (.int (J i + 1)), some (.int (J (rsn b i))), some (.int x5)] [] S2
          refine zRun_wp [156] 80 ?_
          exact ⟨fun _ => at156 _ _ _ _, fun _ => ⟨fun _ => at156 _ _ _ _, fun w => absurd w neg⟩⟩
        exact go _
  have inn : vp_in (1 : Int32) 2 := by rw [J_lit]; simp (disch := omega) only [J_lit, J_neg, J_add, J_sub, J_mul, J_nI, J_le, J_lt, J_eq, J_in, J_nat]; omega
  have start : ∀ x1 : Int32, x1 = J n → zWp shM (KM (d + 4)) kX12_readsScore 0 Q 7 [some (.ref 0), some (.int x1), none, none, none, none] [] S := by
    intro x1 e1
    subst e1
    refine zRun_wp [56] 80 ?_
    refine ⟨rfl, fun e => absurd e (by decide), rfl, fun e => absurd e (by decide), rfl, fun e => absurd e (by decide), rfl, fun e => absurd e (by decide), rfl, fun e => absurd e (by decide), rfl, fun e => absurd e (by decide), rfl, fun e => absurd e (by decide), rfl, fun e => absurd e (by decide), rfl, fun e => absurd e (by decide), ?_⟩
    refine loop n 0 _ _ _ _ _ (by omega) (bb_t (Or.inl rfl)).symm rfl (fun k hk => absurd hk (Nat.not_lt_zero k)) ⟨fun c c1 _ => by simp only [zu_same c1], fun j hj => ?_⟩ ?_ ?_ ?_ ⟨?_, ?_, ?_, ?_, ?_, ?_, trivial, fun k hk => absurd hk (Nat.not_lt_zero k), fun k hk => absurd hk (Nat.not_lt_zero k), fun k hk => absurd hk (Nat.not_lt_zero k)⟩
    · simp only [zu_r, if_true]
      rw [if_neg (by omega), if_neg (by omega), if_neg (by omega), if_neg (by omega), if_neg (by omega), if_neg (by omega), if_neg (by omega), if_neg (by omega), if_neg (by omega)]
    all_goals
      simp [zu_r]
      rfl
  refine eX12_readsScore (zRun_wp [7] 80 ?_)
  refine ⟨inn, ?_⟩
  exact start _ hS
end mreads
