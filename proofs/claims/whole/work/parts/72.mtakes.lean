section mtakes
variable {d : Nat} {S : zS} {Q : Option Value → zS → Prop} {b : Nat → Int} {i : Nat}
set_option maxHeartbeats 2000000 in
theorem w_opensOne (hM : MoT S b i) (hA : Acc b i) (hi : i < 40) (z : b i = 91) (h3 : (gst b i).1.length < 3) (hq : ∀ S', MsK S S' → MoT S' b (i + 1) → Q none S') : KM (d + 2) mX12_opensOne [.ref 0, .int (J i)] S Q := by
  obtain ⟨m1, m2, m3, m4, m5, m6, m7, m8, m9, m10⟩ := hM
  have hd := dpt_le i hA
  have hH := HS_all i hA
  have g := gst_open z
  have ix : (S 0 15).toNatClampNeg = (gst b i).1.length := by rw [m1]; simp (disch := omega) only [J_lit, J_neg, J_add, J_sub, J_mul, J_nI, J_le, J_lt, J_eq, J_in, J_nat]; omega
  have inn : vp_in (S 0 15) 4 := by rw [m1]; simp (disch := omega) only [J_lit, J_neg, J_add, J_sub, J_mul, J_nI, J_le, J_lt, J_eq, J_in, J_nat]; omega
  have jx : (J i).toNatClampNeg = i := by simp (disch := omega) only [J_lit, J_neg, J_add, J_sub, J_mul, J_nI, J_le, J_lt, J_eq, J_in, J_nat]; omega
  have inj : vp_in (J i) 40 := by simp (disch := omega) only [J_lit, J_neg, J_add, J_sub, J_mul, J_nI, J_le, J_lt, J_eq, J_in, J_nat]; omega
  refine eX12_opensOne (zRun_wp [] 80 ?_)
  refine ⟨inn, inn, inj, inj, inj, rfl, fun e => absurd e (by decide), ?_⟩
  refine w_greater ?_
  refine ⟨rfl, fun e => absurd e (by decide), ?_⟩
  rw [jx, show (zu S 10 (S 0 15).toNatClampNeg (J i)) 0 15 = S 0 15 from rfl, ix]
  have kk : ∀ c, c ≠ 0 → c ≠ 10 → c ≠ 11 → c ≠ 12 → c ≠ 13 → c ≠ 14 → (zu (zu (zu (zu (zu S 10 (gst b i).1.length (J i)) 11 (gst b i).1.length 0) 12 i (-1)) 13 i (-1)) 14 i (-1)) c = S c := fun c _ c2 c3 c4 c5 c6 => by rw [zu_same c6, zu_same c5, zu_same c4, zu_same c3, zu_same c2]
  have e10 : ∀ k, (zu (zu (zu (zu (zu S 10 (gst b i).1.length (J i)) 11 (gst b i).1.length 0) 12 i (-1)) 13 i (-1)) 14 i (-1)) 10 k = if k = (gst b i).1.length then J i else S 10 k := fun k => by
    rw [zu_same (by decide), zu_same (by decide), zu_same (by decide), zu_same (by decide)]; simp only [zu_r, if_true]
  have e11 : ∀ k, (zu (zu (zu (zu (zu S 10 (gst b i).1.length (J i)) 11 (gst b i).1.length 0) 12 i (-1)) 13 i (-1)) 14 i (-1)) 11 k = if k = (gst b i).1.length then 0 else S 11 k := fun k => by
    rw [zu_same (by decide), zu_same (by decide), zu_same (by decide)]; simp only [zu_r, if_true]; rfl
  have e12 : ∀ k, (zu (zu (zu (zu (zu S 10 (gst b i).1.length (J i)) 11 (gst b i).1.length 0) 12 i (-1)) 13 i (-1)) 14 i (-1)) 12 k = if k = i then -1 else S 12 k := fun k => by
    rw [zu_same (by decide), zu_same (by decide)]; simp only [zu_r, if_true]; rfl
  have e13 : ∀ k, (zu (zu (zu (zu (zu S 10 (gst b i).1.length (J i)) 11 (gst b i).1.length 0) 12 i (-1)) 13 i (-1)) 14 i (-1)) 13 k = if k = i then -1 else S 13 k := fun k => by
    rw [zu_same (by decide)]; simp only [zu_r, if_true]; rfl
  have e0 : (zu (zu (zu (zu (zu S 10 (gst b i).1.length (J i)) 11 (gst b i).1.length 0) 12 i (-1)) 13 i (-1)) 14 i (-1)) 0 = S 0 := by
    rw [zu_same (by decide), zu_same (by decide), zu_same (by decide), zu_same (by decide), zu_same (by decide)]
  generalize zu (zu (zu (zu (zu S 10 (gst b i).1.length (J i)) 11 (gst b i).1.length 0) 12 i (-1)) 13 i (-1)) 14 i (-1) = S1 at kk e10 e11 e12 e13 e0
  have f15 : (zu S1 0 15 (S1 0 15 + 1)) 0 15 = J ((gst b i).1.length + 1 : Nat) := by
    simp only [zu_r, if_true]; rw [e0, m1]; simp only [J_lit, J_neg, J_add, J_sub, J_mul, J_nI]; congr 1
  have f26 : (zu S1 0 15 (S1 0 15 + 1)) 0 26 = J (dpt b i) := by
    simp only [zu_r, if_true]; rw [if_neg (by decide), e0]; exact m6
  rw [f15, f26]
  have mx : (if J (dpt b i) < J ((gst b i).1.length + 1 : Nat) then J ((gst b i).1.length + 1 : Nat) else J (dpt b i)) = J (dpt b (i + 1)) := by
    rw [Jmax (by omega) (by omega), dpt_s, g]; rfl
  rw [mx]
  have k2 : ∀ c, c ≠ 0 → (zu (zu S1 0 15 (S1 0 15 + 1)) 0 26 (J (dpt b (i + 1)))) c = S1 c := fun c c1 => by rw [zu_same c1, zu_same c1]
  have k3 : ∀ k, k ≠ 15 → k ≠ 26 → (zu (zu S1 0 15 (S1 0 15 + 1)) 0 26 (J (dpt b (i + 1)))) 0 k = S 0 k := fun k c1 c2 => by simp only [zu_r, if_true]; rw [if_neg c2, if_neg c1, e0]
  refine hq _ ⟨fun c c1 c2 => by rw [k2 c c1, kk c c1 (by omega) (by omega) (by omega) (by omega) (by omega)], fun k hk => k3 k (by omega) (by omega)⟩ ⟨?_, ?_, ?_, ?_, ?_, ?_, ?_, fun k hk hb p c q t ek => ?_, fun k hk hl => ?_, fun k hk => ?_⟩
  · rw [g]
    simp only [zu_r, if_true, List.length_cons]
    rw [if_neg (by decide), e0, m1]; simp only [J_lit, J_neg, J_add, J_sub, J_mul, J_nI]; congr 1
  · rw [g, k3 21 (by decide) (by decide)]; exact m2
  · rw [g, k3 22 (by decide) (by decide)]; exact m3
  · rw [g, k3 23 (by decide) (by decide)]; exact m4
  · rw [rm_n (by omega), k3 24 (by decide) (by decide)]; exact m5
  · simp only [zu_r, if_true]
  · rw [g]
    refine ⟨⟨?_, ?_, ?_, ?_⟩, ?_⟩
    · rw [k2 10 (by decide), e10, if_pos rfl]
    · rw [k2 11 (by decide), e11, if_pos rfl]; rfl
    · rw [k2 12 (by decide), e12, if_pos rfl]; rfl
    · rw [k2 13 (by decide), e13, if_pos rfl]; rfl
    · refine MoE_keep i (fun x hx => HS_lt hH x hx) m7 (fun k hk => ⟨?_, ?_⟩) (fun k hk => ⟨?_, ?_⟩)
      · rw [k2 10 (by decide), e10, if_neg (by omega)]
      · rw [k2 11 (by decide), e11, if_neg (by omega)]
      · rw [k2 12 (by decide), e12, if_neg (by omega)]
      · rw [k2 13 (by decide), e13, if_neg (by omega)]
  · have hk' : k < i := by
      by_cases w : k = i
      · rw [w] at hb; omega
      · omega
    have hp : p < k := by
      have := HS_all k (Acc_le hA (by omega))
      rw [ek] at this
      exact this.1.1
    rw [k2 12 (by decide), e12, if_neg (by omega), k2 13 (by decide), e13, if_neg (by omega)]
    exact m8 k hk' hb p c q t ek
  · have hk' : k < i := by
      by_cases w : k = i
      · rw [w] at hl; omega
      · omega
    rw [k2 15 (by decide), kk 15 (by decide) (by decide) (by decide) (by decide) (by decide) (by decide)]
    exact m9 k hk' hl
  · rw [rm_n (by omega)] at hk
    rw [k2 16 (by decide), kk 16 (by decide) (by decide) (by decide) (by decide) (by decide) (by decide), sgc_s, if_neg (by omega), if_neg (by omega)]
    exact m10 k hk
set_option maxHeartbeats 2000000 in
theorem w_takes {n : Nat} (hM : MoT S b i) (hA : Acc b i) (hin : i < n) (hn : n ≤ 40) (hb : ∀ k, k < n → 0 ≤ b k ∧ b k ≤ 255) (hT : ∀ k, k < n → S A_score k = J (b k))
    (h0 : rsn b i = 0 → ∀ S', MsK S S' → MoT S' b (i + 1) → Q (some (.int 0)) S')
    (h1 : rsn b i ≠ 0 → Q (some (.int (J (rsn b i)))) S) : KM (d + 4) mX12_takes [.ref 0, .int (J i), .int (bb (due b i))] S Q := by
  have hM' := hM
  obtain ⟨m1, m2, m3, m4, m5, m6, m7, m8, m9, m10⟩ := hM
  have hlen := gst_len i hA
  have hbi := hb i hin
  have hr := rm_le b i
  have jx : (J i).toNatClampNeg = i := by simp (disch := omega) only [J_lit, J_neg, J_add, J_sub, J_mul, J_nI, J_le, J_lt, J_eq, J_in, J_nat]; omega
  have inj : vp_in (J i) 40 := by simp (disch := omega) only [J_lit, J_neg, J_add, J_sub, J_mul, J_nI, J_le, J_lt, J_eq, J_in, J_nat]; omega
  have dlr : -1 ≤ (gst b i).2.2.2 ∧ (gst b i).2.2.2 ≤ 40 := by
    obtain ⟨-, -, k3⟩ := MK_all i hA
    rcases k3 with k3 | ⟨D, k3, k3', -⟩ <;> omega
  have dned : (gst b i).2.2.2 ≠ -1 → ¬ due b i := by
    intro w q
    obtain ⟨-, -, k3⟩ := MK_all i hA
    rcases k3 with k3 | ⟨D, k3, k3', k4, -⟩
    · exact w k3
    · subst k3'
      have := (due_s b D).mp q
      omega
  -- behind the reading of the byte and of $
  have go45 : (letr (b i) ∨ figr (b i) ∨ sgz (b i)) → ∀ x4 : Int32, x4 = bb ((gst b i).2.2.2 ≠ -1) → zWp shM (KM (d + 3)) kX12_takes 1 Q 45 [some (.ref 0), some (.int (J i)), some (.int (bb (due b i))), some (.int (J (b i))), some (.int x4), none] [] S := by
    intro hk x4 e4
    subst e4
    have hr1 : rsn b i = if (gst b i).2.2.2 ≠ -1 then 4 else if letr (b i) then 0 else if figr (b i) then (if 0 < i ∧ letr (b (i - 1)) then 0 else 4) else if b i = 91 then (if (gst b i).1.length < 3 then 0 else 3) else if due b i then 2 else if fits (b i) (gst b i) then 0 else 4 := by
      unfold rsn; rw [if_neg (fun q => q hk)]
    have at64 : ¬ (sgz (b i) ∧ b i ≠ 91 ∧ due b i) → zWp shM (KM (d + 3)) kX12_takes 1 Q 64 [some (.ref 0), some (.int (J i)), some (.int (bb (due b i))), some (.int (J (b i))), some (.int (bb ((gst b i).2.2.2 ≠ -1))), none] [] S := by
      intro nd
      refine zRun_wp [143] 120 ?_
      refine ⟨fun w => ?_, fun w => ?_⟩ <;> rw [bb_0] at w
      rotate_left
      · have w := Decidable.not_not.mp w
        rw [if_pos w] at hr1
        have := h1 (by omega)
        rw [hr1] at this
        exact this
      have dl : (gst b i).2.2.2 = -1 := Decidable.not_not.mp w
      rw [if_neg w] at hr1
      refine ⟨fun w1 => ?_, fun w1 => ?_⟩ <;> simp (disch := omega) only [J_lit, J_neg, J_add, J_sub, J_mul, J_nI, J_le, J_lt, J_eq, J_in, J_nat] at w1
      rotate_left
      · rw [if_neg (by omega), if_neg (by omega), if_pos w1] at hr1
        refine ⟨fun w2 => ?_, fun w2 => ?_⟩ <;> rw [m1] at w2 <;> simp (disch := omega) only [J_lit, J_neg, J_add, J_sub, J_mul, J_nI, J_le, J_lt, J_eq, J_in, J_nat] at w2
        · rw [if_pos (by omega)] at hr1
          refine w_opensOne (d := d + 1) hM' hA (by omega) w1 (by omega) (fun S' k1 k2 => ?_)
          exact h0 hr1 S' k1 k2
        · rw [if_neg (by omega)] at hr1
          have := h1 (by omega)
          rw [hr1] at this
          exact this
      refine w_isLetter (d := d + 1) ?_
      refine ⟨fun w2 => ?_, fun w2 => ?_⟩ <;> rw [bb_0, let_iff hbi] at w2
      rotate_left
      · -- a letter
        have w2 := Decidable.not_not.mp w2
        rw [if_pos w2] at hr1
        have px : (S 0 24).toNatClampNeg = rm b i := by rw [m5]; simp (disch := omega) only [J_lit, J_neg, J_add, J_sub, J_mul, J_nI, J_le, J_lt, J_eq, J_in, J_nat]; omega
        have pin : vp_in (S 0 24) 40 := by rw [m5]; simp (disch := omega) only [J_lit, J_neg, J_add, J_sub, J_mul, J_nI, J_le, J_lt, J_eq, J_in, J_nat]; omega
        refine ⟨inj, pin, rfl, fun e => absurd e (by decide), ?_⟩
        rw [jx, show (zu S 15 i (S 0 24)) 0 24 = S 0 24 from rfl, px]
        have g := gst_letter (b := b) (i := i) (Or.inl w2)
        have kk : ∀ (x y z : Int32) c, c ≠ 0 → c ≠ 15 → c ≠ 16 → (zu (zu (zu S 15 i x) 16 (rm b i) y) 0 24 z) c = S c := fun x y z c c1 c2 c3 => by rw [zu_same c1, zu_same c3, zu_same c2]
        have k0 : ∀ (x y z : Int32) k, k ≠ 24 → (zu (zu (zu S 15 i x) 16 (rm b i) y) 0 24 z) 0 k = S 0 k := fun x y z k c1 => by simp only [zu_r, if_true]; rw [if_neg c1, if_neg (by decide), if_neg (by decide)]
        refine h0 hr1 _ ⟨fun c c1 c2 => kk _ _ _ c c1 (by omega) (by omega), fun k hk => k0 _ _ _ k (by omega)⟩ ⟨?_, ?_, ?_, ?_, ?_, ?_, ?_, fun k hk hb p c q t ek => ?_, fun k hk hl => ?_, fun k hk => ?_⟩
        · rw [g, k0 _ _ _ 15 (by decide)]; exact m1
        · rw [g, k0 _ _ _ 21 (by decide)]; exact m2
        · rw [g, k0 _ _ _ 22 (by decide)]; exact m3
        · rw [g, k0 _ _ _ 23 (by decide)]; exact m4
        · rw [rm_y w2]
          simp only [zu_r, if_true]
          rw [if_neg (by decide), if_neg (by decide), m5]
          simp only [J_lit, J_neg, J_add, J_sub, J_mul, J_nI]; congr 1
        · rw [dpt_same (by rw [g]; exact Nat.le_refl _), k0 _ _ _ 26 (by decide)]; exact m6
        · rw [g]
          exact MoE_keep i (fun x hx => HS_lt (HS_all i hA) x hx) m7 (fun k _ => by rw [kk _ _ _ 10 (by decide) (by decide) (by decide), kk _ _ _ 11 (by decide) (by decide) (by decide)]; exact ⟨rfl, rfl⟩) (fun k _ => by rw [kk _ _ _ 12 (by decide) (by decide) (by decide), kk _ _ _ 13 (by decide) (by decide) (by decide)]; exact ⟨rfl, rfl⟩)
        · have hk' : k < i := by
            by_cases w : k = i
            · rw [w] at hb; omega
            · omega
          rw [kk _ _ _ 12 (by decide) (by decide) (by decide), kk _ _ _ 13 (by decide) (by decide) (by decide)]
          exact m8 k hk' hb p c q t ek
        · rw [zu_same (by decide), zu_same (by decide)]
          simp only [zu_r, if_true]
          by_cases w : k = i
          · rw [if_pos w, w]; exact m5
          · rw [if_neg w]; exact m9 k (by omega) hl
        · rw [rm_y w2] at hk
          rw [zu_same (by decide), sgc_s, if_pos w2]
          simp only [zu_r, if_true]
          by_cases w : k = rm b i
          · rw [if_pos w, w, upF_s]
            have := phi_eq (l := b i) (f := 0) w2 (Or.inl rfl)
            rw [if_pos rfl, show b i + 256 * 0 = b i by omega] at this
            rw [this]
            simp only [J_lit, J_neg, J_add, J_sub, J_mul, J_nI]; congr 1; omega
          · rw [if_neg w, upF_n w, if_neg (by decide)]; exact m10 k (by omega)
      rw [if_neg w2] at hr1
      refine w_isFigure (d := d + 1) ?_
      refine ⟨fun w3 => ?_, fun w3 => ?_⟩ <;> rw [bb_0, fig_iff hbi] at w3
      rotate_left
      · -- a figure
        have w3 := Decidable.not_not.mp w3
        rw [if_pos w3] at hr1
        have at166 : ∀ x : Int32, x = bb (0 < i ∧ letr (b (i - 1))) → zWp shM (KM (d + 3)) kX12_takes 1 Q 166 [some (.ref 0), some (.int (J i)), some (.int (bb (due b i))), some (.int (J (b i))), some (.int (bb ((gst b i).2.2.2 ≠ -1))), none] [.int x] S := by
          intro x ex
          by_cases pv : 0 < i ∧ letr (b (i - 1))
          · rw [bb_t pv] at ex
            subst ex
            rw [if_pos pv] at hr1
            obtain ⟨s0, s1⟩ := (sgc_ok i hA).2 pv.1 pv.2
            have px : (S 0 24 - 1).toNatClampNeg = rm b i - 1 := by rw [m5]; simp (disch := omega) only [J_lit, J_neg, J_add, J_sub, J_mul, J_nI, J_le, J_lt, J_eq, J_in, J_nat]; omega
            have pin : vp_in (S 0 24 - 1) 40 := by rw [m5]; simp (disch := omega) only [J_lit, J_neg, J_add, J_sub, J_mul, J_nI, J_le, J_lt, J_eq, J_in, J_nat]; omega
            have g := gst_letter (b := b) (i := i) (Or.inr w3)
            refine zRun_wp [] 120 ?_
            refine ⟨fun q => absurd q (by decide), fun _ => ?_⟩
            refine ⟨pin, pin, ?_⟩
            refine ⟨fun q => absurd q (by decide), fun _ => ?_⟩
            rw [px]
            have kk : ∀ (y : Int32) c, c ≠ 16 → (zu S 16 (rm b i - 1) y) c = S c := fun y c c1 => zu_same c1
            refine h0 hr1 _ ⟨fun c c1 c2 => kk _ c (by omega), fun k hk => by rw [kk _ 0 (by decide)]⟩ ⟨?_, ?_, ?_, ?_, ?_, ?_, ?_, fun k hk hb p c q t ek => ?_, fun k hk hl => ?_, fun k hk => ?_⟩
            · rw [g, kk _ 0 (by decide)]; exact m1
            · rw [g, kk _ 0 (by decide)]; exact m2
            · rw [g, kk _ 0 (by decide)]; exact m3
            · rw [g, kk _ 0 (by decide)]; exact m4
            · rw [rm_n w2, kk _ 0 (by decide)]; exact m5
            · rw [dpt_same (by rw [g]; exact Nat.le_refl _), kk _ 0 (by decide)]; exact m6
            · rw [g]
              exact MoE_keep i (fun x hx => HS_lt (HS_all i hA) x hx) m7 (fun k _ => by rw [kk _ 10 (by decide), kk _ 11 (by decide)]; exact ⟨rfl, rfl⟩) (fun k _ => by rw [kk _ 12 (by decide), kk _ 13 (by decide)]; exact ⟨rfl, rfl⟩)
            · have hk' : k < i := by
                by_cases w : k = i
                · rw [w] at hb; omega
                · omega
              rw [kk _ 12 (by decide), kk _ 13 (by decide)]
              exact m8 k hk' hb p c q t ek
            · have hk' : k < i := by
                by_cases w : k = i
                · rw [w] at hl; contradiction
                · omega
              rw [kk _ 15 (by decide)]
              exact m9 k hk' hl
            · rw [rm_n w2] at hk
              rw [sgc_s, if_neg w2, if_pos w3]
              simp only [zu_r, if_true]
              by_cases w : k = rm b i - 1
              · rw [if_pos w, w, upF_s, m10 _ (by omega), s1]
                have p1 := phi_eq (l := b (i - 1)) (f := 0) pv.2 (Or.inl rfl)
                have p2 := phi_eq (l := b (i - 1)) (f := b i) pv.2 (Or.inr w3)
                rw [if_pos rfl, show b (i - 1) + 256 * 0 = b (i - 1) by omega] at p1
                rw [if_neg (by omega)] at p2
                rw [p1, p2]
                simp only [J_lit, J_neg, J_add, J_sub, J_mul, J_nI]; congr 1; omega
              · rw [if_neg w, upF_n w]; exact m10 k hk
          · rw [bb_f pv] at ex
            subst ex
            rw [if_neg pv] at hr1
            refine zRun_wp [] 120 ?_
            refine ⟨fun _ => ?_, fun q => absurd rfl q⟩
            refine ⟨fun _ => ?_, fun q => absurd rfl q⟩
            have := h1 (by omega)
            rw [hr1] at this
            exact this
        show zWp shM (KM (d + 3)) kX12_takes 1 Q 143 [some (.ref 0), some (.int (J i)), some (.int (bb (due b i))), some (.int (J (b i))), some (.int (bb ((gst b i).2.2.2 ≠ -1))), none] [] S
        refine zRun_wp [166] 120 ?_
        refine ⟨fun w4 => ?_, fun w4 => ?_⟩ <;> simp (disch := omega) only [J_lit, J_neg, J_add, J_sub, J_mul, J_nI, J_le, J_lt, J_eq, J_in, J_nat] at w4
        · exact at166 _ (bb_f (fun q => by omega)).symm
        have px : (J i - 1).toNatClampNeg = i - 1 := by simp (disch := omega) only [J_lit, J_neg, J_add, J_sub, J_mul, J_nI, J_le, J_lt, J_eq, J_in, J_nat]; omega
        have pin : vp_in (J i - 1) 40 := by simp (disch := omega) only [J_lit, J_neg, J_add, J_sub, J_mul, J_nI, J_le, J_lt, J_eq, J_in, J_nat]; omega
        refine ⟨pin, ?_⟩
        rw [px, show S 6 (i - 1) = _ from hT (i - 1) (by omega)]
        refine w_isLetter (d := d + 1) ?_
        refine ⟨fun w5 => ?_, fun w5 => ?_⟩ <;> rw [bb_0, let_iff (hb (i - 1) (by omega))] at w5
        · exact at166 _ (bb_f (fun q => w5 q.2)).symm
        · exact at166 _ (bb_t ⟨by omega, Decidable.not_not.mp w5⟩).symm
      · -- a sign
        have hs : sgz (b i) := by
          rcases hk with hk | hk | hk
          · contradiction
          · contradiction
          · exact hk
        have ndue : ¬ due b i := fun q => nd ⟨hs, w1, q⟩
        rw [if_neg w3, if_neg w1, if_neg ndue] at hr1
        refine w_signed (d := d) hM' hA (by omega) hs w1 dl (fun f S' k1 k2 => ?_) (fun f => ?_)
        · rw [if_pos f] at hr1
          refine ⟨fun q => absurd q (by decide), fun _ => ?_⟩
          exact h0 hr1 S' k1 k2
        · rw [if_neg f] at hr1
          refine ⟨fun _ => ?_, fun q => absurd rfl q⟩
          have := h1 (by omega)
          rw [hr1] at this
          exact this
    refine zRun_wp [64] 120 ?_
    refine w_isSignM (fun r r1 r2 => ?_)
    rw [sgn_iff hbi] at r2
    refine ⟨fun w => ?_, fun w => ?_⟩ <;> rw [r2] at w
    · exact at64 (fun q => w q.1)
    have hs := Decidable.not_not.mp w
    refine ⟨fun w1 => ?_, fun w1 => ?_⟩ <;> simp (disch := omega) only [J_lit, J_neg, J_add, J_sub, J_mul, J_nI, J_le, J_lt, J_eq, J_in, J_nat] at w1
    · exact at64 (fun q => q.2.1 w1)
    refine ⟨fun w2 => ?_, fun w2 => ?_⟩ <;> rw [bb_0] at w2
    · exact at64 (fun q => w2 q.2.2)
    have hdue := Decidable.not_not.mp w2
    rw [if_neg (fun q => dned q hdue), if_neg (by omega), if_neg (by omega), if_neg w1, if_pos hdue] at hr1
    have := h1 (by omega)
    rw [hr1] at this
    exact this
  have at20 : ∀ x4 : Int32, x4 = bb ((gst b i).2.2.2 ≠ -1) → zWp shM (KM (d + 3)) kX12_takes 1 Q 20 [some (.ref 0), some (.int (J i)), some (.int (bb (due b i))), some (.int (J (b i))), none, none] [.int x4] S := by
    intro x4 e4
    refine zRun_wp [45] 120 ?_
    refine w_isLetter (d := d + 1) ?_
    refine ⟨fun w => ?_, fun w => ?_⟩ <;> rw [bb_0, let_iff hbi] at w
    · exact go45 (Or.inl (Decidable.not_not.mp w)) _ e4
    refine w_isFigure (d := d + 1) ?_
    refine ⟨fun w2 => ?_, fun w2 => ?_⟩ <;> rw [bb_0, fig_iff hbi] at w2
    · exact go45 (Or.inr (Or.inl (Decidable.not_not.mp w2))) _ e4
    refine w_isSignM (fun r r1 r2 => ?_)
    rw [sgn_iff hbi] at r2
    refine ⟨fun w3 => ?_, fun w3 => ?_⟩ <;> rw [r2] at w3
    · exact go45 (Or.inr (Or.inr (Decidable.not_not.mp w3))) _ e4
    · have hr1 : rsn b i = 1 := by
        unfold rsn; rw [if_pos (fun q => by rcases q with q | q | q <;> contradiction)]
      have := h1 (by omega)
      rw [hr1] at this
      exact this
  have start : ∀ x3 : Int32, x3 = J (b i) → zWp shM (KM (d + 3)) kX12_takes 1 Q 7 [some (.ref 0), some (.int (J i)), some (.int (bb (due b i))), some (.int x3), none, none] [] S := by
    intro x3 e3
    subst e3
    refine zRun_wp [20] 120 ?_
    refine ⟨fun w => ?_, fun w => ?_⟩ <;> rw [show S 0 23 = _ from m4, show (-1 : Int32) = J (-1) from rfl] at w <;> simp (disch := omega) only [J_lit, J_neg, J_add, J_sub, J_mul, J_nI, J_le, J_lt, J_eq, J_in, J_nat] at w
    · exact at20 _ (bb_f (fun q => q w)).symm
    · exact at20 _ (bb_t w).symm
  refine eX12_takes (zRun_wp [7] 60 ?_)
  refine ⟨inj, ?_⟩
  refine start _ ?_
  rw [jx]; exact hT i hin
end mtakes
