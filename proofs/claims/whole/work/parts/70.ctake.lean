section ctake
variable {d : Nat} {S : zS} {Q : Option Value → zS → Prop} {b : Nat → Int} {n : Nat}
theorem v_playRestart (hq : ∀ S', (∀ c, c ≠ 16 → S' c = S c) → S' 16 1 = 0 → S' 16 4 = 0 → S' 16 5 = 0 → S' 16 6 = 0 → Q none S') : KC (d + 1) mX4_restart [.ref 16] S Q := by
  refine eX4_restart (zRun_wp [] 60 ?_)
  refine ⟨rfl, fun e => absurd e (by decide), rfl, fun e => absurd e (by decide), rfl, fun e => absurd e (by decide), rfl, fun e => absurd e (by decide), ?_⟩
  refine hq _ (fun c hc => by rw [zu_same hc, zu_same hc, zu_same hc, zu_same hc]) ?_ ?_ ?_ ?_ <;> simp [zu_r]
theorem v_empty (hq : ∀ S', (∀ c, c ≠ 10 → c ≠ 11 → c ≠ 16 → S' c = S c) → S' 11 1 = 0 → S' 16 1 = 0 → S' 16 4 = 0 → S' 16 5 = 0 → S' 16 6 = 0 → S' 10 3 = 0 → S' 10 4 = 0 → S' 10 5 = S 10 5 → S' 10 6 = S 10 6 → Q none S') : KC (d + 2) mX7_becomeEmpty [.ref 10] S Q := by
  refine eX7_becomeEmpty (zRun_wp [] 60 ?_)
  refine ⟨rfl, fun e => absurd e (by decide), ?_⟩
  refine v_playRestart (fun S1 a1 a2 a3 a4 a5 => ?_)
  refine ⟨rfl, fun e => absurd e (by decide), rfl, fun e => absurd e (by decide), ?_⟩
  refine hq _ (fun c c1 c2 c3 => by rw [zu_same c1, zu_same c1, a1 c c3, zu_same c2]) ?_ ?_ ?_ ?_ ?_ ?_ ?_ ?_ ?_
  · rw [zu_same (by decide), zu_same (by decide), a1 11 (by decide)]; simp [zu_r]
  · rw [zu_same (by decide), zu_same (by decide)]; exact a2
  · rw [zu_same (by decide), zu_same (by decide)]; exact a3
  · rw [zu_same (by decide), zu_same (by decide)]; exact a4
  · rw [zu_same (by decide), zu_same (by decide)]; exact a5
  · simp [zu_r]
  · simp [zu_r]
  · simp only [zu_r, if_true]
    rw [a1 10 (by decide), zu_same (by decide)]; rfl
  · simp only [zu_r, if_true]
    rw [a1 10 (by decide), zu_same (by decide)]; rfl
theorem v_blame {x y : Int32} (hq : Q none (zu (zu S 10 5 x) 10 6 y)) : KC (d + 1) mX7_blame [.ref 10, .int x, .int y] S Q := by
  refine eX7_blame (zRun_wp [] 60 ?_)
  exact ⟨rfl, fun e => absurd e (by decide), rfl, fun e => absurd e (by decide), hq⟩
theorem v_gRestart (hq : ∀ S', (∀ c, c ≠ 13 → S' c = S c) → S' 13 2 = 0 → S' 13 3 = 0 → S' 13 4 = 1 → S' 13 5 = 0 → Q none S') : KC (d + 1) mX1_restart [.ref 13] S Q := by
  refine eX1_restart (zRun_wp [] 60 ?_)
  refine ⟨rfl, fun e => absurd e (by decide), rfl, fun e => absurd e (by decide), rfl, fun _ => Or.inr rfl, rfl, fun _ => Or.inl rfl, ?_⟩
  refine hq _ (fun c hc => by rw [zu_same hc, zu_same hc, zu_same hc, zu_same hc]) ?_ ?_ ?_ ?_ <;> simp [zu_r]
theorem stg_0 (m : Int × Int × Int) : stg m = 0 ↔ (m.1 = -1 ∧ m.2.1 = -1 ∧ m.2.2 = -1) := by
  unfold stg
  split
  · rename_i c; exact ⟨fun e => absurd e (by decide), fun e => absurd e.2.2 c⟩
  · rename_i c
    split
    · rename_i c2; exact ⟨fun e => absurd e (by decide), fun e => absurd e.2.1 c2⟩
    · rename_i c2
      split
      · rename_i c3; exact ⟨fun e => absurd e (by decide), fun e => absurd e.1 c3⟩
      · rename_i c3; exact ⟨fun _ => ⟨Decidable.not_not.mp c3, Decidable.not_not.mp c2, Decidable.not_not.mp c⟩, fun _ => rfl⟩
theorem stg_3 (m : Int × Int × Int) : stg m = 3 ↔ m.2.2 ≠ -1 := by
  unfold stg
  split
  · rename_i c; exact ⟨fun _ => c, fun _ => rfl⟩
  · rename_i c
    constructor
    · intro e; split at e
      · exact absurd e (by decide)
      · split at e <;> exact absurd e (by decide)
    · intro e; exact absurd e c
theorem v_mayEnd (hG : GrC S b n) (hA : Acc b n) (hq : ∀ r, (r = 0 ∨ r = 1) → (r = 0 ↔ ¬ mayEnd b n) → Q (some (.int r)) S) : KC (d + 1) mX1_mayEnd [.ref 13] S Q := by
  obtain ⟨g1, g2, g3, -⟩ := hG
  have hlen := gst_len n hA
  have sr := stg_rng (gst b n).2
  have z0 := stg_0 (gst b n).2
  have z3 := stg_3 (gst b n).2
  have yes : mayEnd b n → Q (some (.int 1)) S := fun w => hq 1 (Or.inr rfl) ⟨fun e => absurd e (by decide), fun e => absurd w e⟩
  have no : ¬ mayEnd b n → Q (some (.int 0)) S := fun w => hq 0 (Or.inl rfl) ⟨fun _ => w, fun _ => rfl⟩
  have hM := MK_all n hA
  refine eX1_mayEnd (zRun_wp [] 60 ?_)
  refine ⟨fun w => ?_, fun w => ?_⟩ <;> rw [g1] at w <;> simp (disch := omega) only [J_lit, J_neg, J_add, J_sub, J_mul, J_nI, J_le, J_lt, J_eq, J_in, J_nat] at w
  · refine ⟨Or.inl rfl, no (fun q => ?_)⟩
    rw [q.1] at w
    exact w rfl
  have w0 : (gst b n).1 = [] := List.length_eq_zero_iff.mp (by omega)
  refine ⟨fun w2 => ?_, fun w2 => ?_⟩ <;> rw [g3, bb_0] at w2
  · exact ⟨Or.inl rfl, no (fun q => w2 q.2.1)⟩
  refine ⟨fun w3 => ?_, fun w3 => ?_⟩ <;> rw [g2] at w3 <;> simp (disch := omega) only [J_lit, J_neg, J_add, J_sub, J_mul, J_nI, J_le, J_lt, J_eq, J_in, J_nat] at w3
  · have := z0.mp w3
    exact ⟨Or.inr rfl, yes ⟨w0, w2, Or.inl ⟨this.1, this.2.1⟩⟩⟩
  refine ⟨fun w4 => ?_, fun w4 => ?_⟩ <;> rw [g2] at w4 <;> simp (disch := omega) only [J_lit, J_neg, J_add, J_sub, J_mul, J_nI, J_le, J_lt, J_eq, J_in, J_nat] at w4
  · refine ⟨Or.inl rfl, no (fun q => ?_)⟩
    rcases q.2.2 with q | q
    · by_cases dl : (gst b n).2.2.2 = -1
      · exact w3 (z0.mpr ⟨q.1, q.2, dl⟩)
      · exact w4 (z3.mpr dl)
    · exact w4 (z3.mpr q)
  · exact ⟨Or.inr rfl, yes ⟨w0, w2, Or.inr (z3.mp w4)⟩⟩
theorem rsn_le (b : Nat → Int) (i : Nat) : rsn b i ≤ 4 := by
  unfold rsn
  repeat' split
  all_goals omega
set_option maxHeartbeats 2000000 in
/-- the class reads the score -/
theorem v_scoreTake (hn : n ≤ 40) (hb : ∀ k, k < n → 0 ≤ b k ∧ b k ≤ 255) (hS : S 4 1 = J n) (hT : ∀ k, k < n → S 5 k = J (b k))
    (hq : ∀ S', ScK S S' → ScT S' b n → Q none S') : KC (d + 4) mX7_take [.ref 10, .ref 4] S Q := by
  -- the end, with a fault
  have bad : ∀ (x3 : Option Value) (x2 : Int32) (S' : zS), ScK S S' → fre b n ≠ 0 → S' 10 5 = J (acc b n) → S' 10 6 = J (fre b n) → S' 13 2 = J (gst b (acc b n)).1.length → GrE S' (gst b (acc b n)).1 → zWp shC (KC (d + 3)) kX7_take 0 Q 117 [some (.ref 10), some (.ref 4), some (.int x2), x3] [] S' := by
    intro x3 x2 S' k f h5 h6 h7 h8
    have al := (acc_spec b n).1
    refine zRun_wp [] 60 ?_
    refine ⟨fun w => ?_, fun _ => ?_⟩
    · rw [h5, show (-1 : Int32) = J (-1) from rfl] at w
      simp (disch := omega) only [J_lit, J_neg, J_add, J_sub, J_mul, J_nI, J_le, J_lt, J_eq, J_in, J_nat] at w
      omega
    refine v_empty (d := d + 1) (fun S2 a1 a2 a3 a4 a5 a6 a7 a8 a9 a10 => ?_)
    refine hq S2 (fun c hc => by rw [a1 c (by omega) (by omega) (by omega)]; exact k c hc) ⟨?_, ?_, ?_, ?_, ?_, ?_, ?_, fun q => absurd q f, ?_⟩
    · rw [if_neg f, a9]; exact h5
    · rw [a10]; exact h6
    · rw [a1 13 (by decide) (by decide) (by decide)]; exact h7
    · exact GrE_keep h8 (fun j _ => by rw [a1 14 (by decide) (by decide) (by decide), a1 15 (by decide) (by decide) (by decide)]; exact ⟨rfl, rfl⟩)
    · rw [if_neg f]; exact a7
    · rw [if_neg f]; exact a8
    · rw [if_neg f]; exact a2
    · rw [if_neg f]; exact ⟨by simp, a3, fun k hk => absurd hk (Nat.not_lt_zero k)⟩
  have loop : ∀ (r i : Nat) (x2 : Int32) (x3 : Option Value) (S' : zS), i + r = n → x2 = J i → Acc b i → ScK S S' → S' 10 5 = J (-1) → S' 10 6 = J 0 → ScC S' b i → zWp shC (KC (d + 3)) kX7_take 0 Q 23 [some (.ref 10), some (.ref 4), some (.int x2), x3] [] S' := by
    intro r
    induction r with
    | zero =>
      intro i x2 x3 S' hr e2 hA k h5 h6 hs
      subst e2
      have ei : i = n := by omega
      subst ei
      have n1 : S' 4 1 = J i := by rw [k 4 (by omega)]; exact hS
      have ac := acc_is (Nat.le_refl i) hA (fun q => absurd q (Nat.lt_irrefl i))
      have good : (i = 0 ∨ mayEnd b i) → Q none S' := by
        intro q
        have f0 : fre b i = 0 := by unfold fre; rw [if_neg (by omega), if_pos q]
        obtain ⟨s1, s2, s3, s4, s5, s6⟩ := hs
        refine hq S' k ⟨?_, ?_, ?_, ?_, ?_, ?_, ?_, fun _ => s6, ?_⟩
        · rw [if_pos f0]; exact h5
        · rw [f0]; exact h6
        · rw [ac]; exact s1.1
        · rw [ac]; exact s1.2.2.2.2
        · rw [if_pos f0]; exact s3
        · rw [if_pos f0]; exact s4
        · rw [if_pos f0]; exact s5
        · rw [if_pos f0]; exact s2.1
      refine zRun_wp [117] 80 ?_
      refine ⟨fun _ => ?_, fun w => ?_⟩
      rotate_left
      · rw [n1] at w
        simp (disch := omega) only [J_lit, J_neg, J_add, J_sub, J_mul, J_nI, J_le, J_lt, J_eq, J_in, J_nat] at w
        omega
      have at117 : (i = 0 ∨ mayEnd b i) → zWp shC (KC (d + 3)) kX7_take 0 Q 117 [some (.ref 10), some (.ref 4), some (.int (J i)), x3] [] S' := by
        intro q
        refine zRun_wp [] 60 ?_
        refine ⟨fun _ => good q, fun w => ?_⟩
        rw [h5] at w
        exact absurd rfl w
      refine ⟨fun w => ?_, fun _ => ?_⟩
      · rw [h5] at w
        exact absurd rfl w
      refine ⟨fun w => ?_, fun w => ?_⟩ <;> rw [n1] at w <;> simp (disch := omega) only [J_lit, J_neg, J_add, J_sub, J_mul, J_nI, J_le, J_lt, J_eq, J_in, J_nat] at w
      · exact at117 (Or.inl (by omega))
      refine v_mayEnd hs.1 hA (fun r r1 r2 => ?_)
      refine ⟨fun w2 => ?_, fun w2 => ?_⟩ <;> rw [r2] at w2
      · exact at117 (Or.inr (Decidable.not_not.mp w2))
      refine v_blame ?_
      have f5 : fre b i = 5 := by
        unfold fre; rw [if_neg (by omega), if_neg (fun q => by
          rcases q with q | q
          · omega
          · exact w2 q)]
      refine bad _ _ _ (fun c hc => by rw [zu_same (by omega), zu_same (by omega)]; exact k c hc) (by omega) ?_ ?_ ?_ ?_
      · simp only [zu_r, if_true]
        rw [if_neg (by decide), ac]; exact n1
      · simp only [zu_r, if_true]
        rw [f5]; rfl
      · rw [zu_same (by decide), zu_same (by decide), ac]; exact hs.1.1
      · rw [ac]
        exact GrE_keep hs.1.2.2.2.2 (fun j _ => by rw [zu_same (by decide), zu_same (by decide), zu_same (by decide), zu_same (by decide)]; exact ⟨rfl, rfl⟩)
    | succ r ih =>
      intro i x2 x3 S' hr e2 hA k h5 h6 hs
      subst e2
      have n1 : S' 4 1 = J n := by rw [k 4 (by omega)]; exact hS
      have t1 : S' 5 i = J (b i) := by rw [k 5 (by omega)]; exact hT i (by omega)
      have ix : (J i).toNatClampNeg = i := by simp (disch := omega) only [J_lit, J_neg, J_add, J_sub, J_mul, J_nI, J_le, J_lt, J_eq, J_in, J_nat]; omega
      have inn : vp_in (J i) 40 := by simp (disch := omega) only [J_lit, J_neg, J_add, J_sub, J_mul, J_nI, J_le, J_lt, J_eq, J_in, J_nat]; omega
      have hbi := hb i (by omega)
      have rl := rsn_le b i
      refine zRun_wp [23, 53] 80 ?_
      refine ⟨fun w => ?_, fun _ => ?_⟩
      · rw [n1] at w
        simp (disch := omega) only [J_lit, J_neg, J_add, J_sub, J_mul, J_nI, J_le, J_lt, J_eq, J_in, J_nat] at w
        omega
      refine ⟨fun w => ?_, fun _ => ?_⟩
      · rw [h5] at w
        exact absurd rfl w
      refine ⟨inn, ?_⟩
      have step : ∀ x3 : Int32, x3 = J (rsn b i) → zWp shC (KC (d + 3)) kX7_take 0 Q 53 [some (.ref 10), some (.ref 4), some (.int (J i)), some (.int x3)] [] S' := by
        intro x3 e3
        subst e3
        refine zRun_wp [23] 80 ?_
        refine ⟨fun w => ?_, fun w => ?_⟩ <;> simp (disch := omega) only [J_lit, J_neg, J_add, J_sub, J_mul, J_nI, J_le, J_lt, J_eq, J_in, J_nat] at w
        · refine v_blame ?_
          have ac : acc b n = i := acc_is (by omega) hA (fun _ => by omega)
          have fr : fre b n = rsn b i := by unfold fre; rw [ac, if_pos (by omega)]
          -- the loop ends at once
          have kb : ScK S (zu (zu S' 10 5 (J i)) 10 6 (J (rsn b i))) := fun c hc => by rw [zu_same (by omega), zu_same (by omega)]; exact k c hc
          have h5' : (zu (zu S' 10 5 (J i)) 10 6 (J (rsn b i))) 10 5 = J i := by simp only [zu_r, if_true]; rw [if_neg (by decide)]
          have go : zWp shC (KC (d + 3)) kX7_take 0 Q 117 [some (.ref 10), some (.ref 4), some (.int (J i + 1)), some (.int (J (rsn b i)))] [] (zu (zu S' 10 5 (J i)) 10 6 (J (rsn b i))) := by
            refine bad _ _ _ kb (by omega) (by rw [ac]; exact h5') ?_ ?_ ?_
            · simp only [zu_r, if_true]
              rw [fr]
            · rw [zu_same (by decide), zu_same (by decide), ac]; exact hs.1.1
            · rw [ac]
              exact GrE_keep hs.1.2.2.2.2 (fun j _ => by rw [zu_same (by decide), zu_same (by decide), zu_same (by decide), zu_same (by decide)]; exact ⟨rfl, rfl⟩)
          have neg : ¬ (zu (zu S' 10 5 (J i)) 10 6 (J (rsn b i))) 10 5 = -1 := by
            rw [h5', show (-1 : Int32) = J (-1) from rfl]
            simp (disch := omega) only [J_lit, J_neg, J_add, J_sub, J_mul, J_nI, J_le, J_lt, J_eq, J_in, J_nat]
            omega
          generalize zu (zu S' 10 5 (J i)) 10 6 (J (rsn b i)) = S2 at go neg
          have at83 : zWp shC (KC (d + 3)) kX7_take 0 Q 83 [some (.ref 10), some (.ref 4), some (.int (J i + 1)), some (.int (J (rsn b i)))] [] S2 := by
            refine zRun_wp [117] 80 ?_
            exact ⟨fun _ => go, fun w => absurd w neg⟩
          show zWp shC (KC (d + 3)) kX7_take 0 Q 23 [some (.ref 10), some (.ref 4), some (.int (J i + 1)), some (.int (J (rsn b i)))] [] S2
          refine zRun_wp [83] 80 ?_
          exact ⟨fun _ => at83, fun _ => ⟨fun _ => at83, fun w => absurd w neg⟩⟩
        · refine ⟨inn, ?_⟩
          have hA1 : Acc b (i + 1) := fun j hj => by
            by_cases e : j = i
            · rw [e]; omega
            · exact hA j (by omega)
          rw [ix, t1]
          refine v_saccept (d := d) hs hA1 hbi (by omega) (fun S2 a1 a2 a3 => ?_)
          refine ih (i + 1) _ _ S2 (by omega) (by simp only [J_lit, J_neg, J_add, J_sub, J_mul, J_nI]; congr 1) hA1 (fun c hc => by rw [a1 c hc]; exact k c hc) (by rw [a2.1]; exact h5) (by rw [a2.2]; exact h6) a3
      rw [ix, t1]
      refine v_reason (d := d + 1) hs.1 hA hbi ?_
      exact step _ rfl
  refine eX7_take (zRun_wp [23] 80 ?_)
  refine v_empty (d := d + 1) (fun S1 a1 a2 a3 a4 a5 a6 a7 a8 a9 a10 => ?_)
  refine v_gRestart (d := d + 2) (fun S2 b1 b2 b3 b4 b5 => ?_)
  refine ⟨rfl, fun e => absurd e (by decide), rfl, fun e => absurd e (by decide), ?_⟩
  refine loop n 0 _ _ _ (by omega) rfl (fun k hk => absurd hk (Nat.not_lt_zero k)) (fun c hc => ?_) ?_ ?_ ⟨⟨?_, ?_, ?_, ?_, trivial⟩, ⟨⟨by rw [od_0]; simp, ?_, fun k hk => absurd hk (Nat.not_lt_zero k)⟩, ?_, ?_, ?_, trivial⟩, ?_, ?_, ?_, fun k hk => absurd hk (Nat.not_lt_zero k)⟩
  · rw [zu_same (by omega), zu_same (by omega), b1 c (by omega), a1 c (by omega) (by omega) (by omega)]
  · simp only [zu_r, if_true]
    rw [if_neg (by decide)]; rfl
  · simp only [zu_r, if_true]
    rfl
  · rw [zu_same (by decide), zu_same (by decide)]; exact b2
  · rw [zu_same (by decide), zu_same (by decide)]; exact b3
  · rw [zu_same (by decide), zu_same (by decide), b4]; exact (bb_t (Or.inl rfl)).symm
  · rw [zu_same (by decide), zu_same (by decide), b5]; exact (bb_f (fun q => absurd q.1 (Nat.lt_irrefl 0))).symm
  · rw [zu_same (by decide), zu_same (by decide), b1 16 (by decide)]; exact a3
  · rw [zu_same (by decide), zu_same (by decide), b1 16 (by decide)]; exact a4
  · rw [zu_same (by decide), zu_same (by decide), b1 16 (by decide)]; exact a5
  · rw [zu_same (by decide), zu_same (by decide), b1 16 (by decide)]; exact a6
  · simp only [zu_r, if_true]
    rw [if_neg (by decide), if_neg (by decide), b1 10 (by decide)]; exact a7
  · simp only [zu_r, if_true]
    rw [if_neg (by decide), if_neg (by decide), b1 10 (by decide)]; exact a8
  · rw [zu_same (by decide), zu_same (by decide), b1 11 (by decide)]; exact a2
end ctake
