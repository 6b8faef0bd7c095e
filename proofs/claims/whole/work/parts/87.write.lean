/-! write -/
section write
variable {d : Nat} {S SC SM : zS} {Q : Option Value → zS → Prop} {b : Nat → Nat → Int} {n : Nat → Nat} {dd : Nat}
set_option maxHeartbeats 2000000 in
theorem v_write {x : Int32} {s c ci m : Nat} (h : CI S b n dd) (hm : (x, s, c, ci) ∈ shs) (hl : S c 1 = 0) (hn : m ≤ 60) (h3 : S c 3 = J m)
    (hq : ∀ S1 S', CK S S1 → CI S1 b n dd → (∀ c', c' ≠ ci → S' c' = S1 c') → (∀ k, S' ci k = if k < Nat.min m (prB b n dd).length then cutv (S c 2) (J ((prB b n dd).getD k 0)) else S ci k) → Q (some (.int (J (Nat.min m (prB b n dd).length : Nat)))) S') : KC (d + 58) mX11_write [.ref 0, .int x] S Q := by
  obtain ⟨-, -, -, -, x0, -, x4, hin, -⟩ := shs_x hm
  have hl60 := prB_len (b := b) (n := n) (dd := dd) h.1.1.1
  have Jm := Jmin (a := m) (b := (prB b n dd).length) (by omega) (by omega)
  generalize eM : Nat.min m (prB b n dd).length = mn at *
  have mm : mn ≤ m := by rw [← eM]; exact Nat.min_le_left _ _
  have mL : mn ≤ (prB b n dd).length := by rw [← eM]; exact Nat.min_le_right _ _
  simp only [shs, List.mem_cons, Prod.mk.injEq, List.not_mem_nil, or_false] at hm
  rcases hm with ⟨rfl, rfl, rfl, rfl⟩ | ⟨rfl, rfl, rfl, rfl⟩ | ⟨rfl, rfl, rfl, rfl⟩ | ⟨rfl, rfl, rfl, rfl⟩
  · refine eX11_write (zRun_wp [53] 80 ?_)
    refine v_isSheet ?_
    rw [bb_t ⟨x0, x4⟩]
    refine ⟨fun _ => ?_, fun q => absurd q (by decide)⟩
    refine ⟨hin, fun q hqq => ?_⟩
    cases hqq
    refine ⟨fun _ => ?_, fun q => absurd hl q⟩
    refine v_freshFound (d := d) h (fun S1 c1 i1 f1 => ?_)
    refine ⟨hin, fun q hqq => ?_⟩
    cases hqq
    obtain ⟨-, p0, p1, p2⟩ := i1.2.2.2.2.2.1 f1
    have p1 : S1 25 1 = J (prB b n dd).length := p1
    have loop : ∀ (r k : Nat) (x3 : Int32) (S' : zS), k + r = mn → x3 = J k → (∀ c', c' ≠ 35 → S' c' = S1 c') → (∀ j, S' 35 j = if j < k then cutv (S 34 2) (J ((prB b n dd).getD j 0)) else S 35 j) → zWp shC (KC (d + 57)) kX11_write 1 Q 55 [some (.ref 0), some (.int 0), some (.int (J mn)), some (.int x3)] [] S' := by
      intro r
      induction r with
      | zero =>
        intro k x3 S' hr e3 k1 k2
        subst e3
        have ek : k = mn := by omega
        subst ek
        refine zRun_wp [55] 60 ?_
        exact ⟨fun _ => hq S1 S' c1 i1 k1 k2, fun w => absurd (Int32.le_refl _) w⟩
      | succ r ih =>
        intro k x3 S' hr e3 k1 k2
        subst e3
        have ix : (J k).toNatClampNeg = k := by simp (disch := omega) only [J_lit, J_neg, J_add, J_sub, J_mul, J_nI, J_le, J_lt, J_eq, J_in, J_nat]; omega
        have inn : vp_in (J k) 60 := by simp (disch := omega) only [J_lit, J_neg, J_add, J_sub, J_mul, J_nI, J_le, J_lt, J_eq, J_in, J_nat]; omega
        refine zRun_wp [55] 60 ?_
        refine ⟨fun w => by simp (disch := omega) only [J_lit, J_neg, J_add, J_sub, J_mul, J_nI, J_le, J_lt, J_eq, J_in, J_nat] at w; omega, fun _ => ?_⟩
        refine ⟨hin, fun q hqq => ?_⟩
        cases hqq
        refine ⟨inn, ?_⟩
        rw [ix, k1 26 (by decide), show S1 26 k = _ from p2 k (by omega)]
        refine v_put (d := d + 55) (c := 34) (ci := 35) (n := m) (by decide) hn (by rw [k1 34 (by decide), c1.1 34 (by decide) (by decide)]; exact h3) (by omega) (by omega) ?_
        refine ih (k + 1) _ _ (by omega) (by simp only [J_lit, J_neg, J_add, J_sub, J_mul, J_nI]; congr 1) (fun c' hc' => by rw [zu_same hc']; exact k1 c' hc') (fun j => ?_)
        rw [k1 34 (by decide), c1.1 34 (by decide) (by decide)]
        simp only [zu_r, if_true]
        rw [show ((k : Int)).toNat = k from Int.toNat_natCast k]
        by_cases e : j = k
        · rw [if_pos e, if_pos (by omega), e]
        · rw [if_neg e, k2 j]
          by_cases e2 : j < k
          · rw [if_pos e2, if_pos (by omega)]
          · rw [if_neg e2, if_neg (by omega)]
    have start : ∀ x2 : Int32, x2 = J mn → zWp shC (KC (d + 57)) kX11_write 1 Q 53 [some (.ref 0), some (.int 0), some (.int x2), none] [] S1 := by
      intro x2 e2
      subst e2
      refine zRun_wp [55] 60 ?_
      exact loop mn 0 _ S1 (by omega) rfl (fun _ _ => rfl) (fun j => by rw [if_neg (by omega), c1.1 35 (by decide) (by decide)])
    refine start _ ?_
    rw [p1, c1.1 34 (by decide) (by decide), h3]
    exact Jm
  · refine eX11_write (zRun_wp [53] 80 ?_)
    refine v_isSheet ?_
    rw [bb_t ⟨x0, x4⟩]
    refine ⟨fun _ => ?_, fun q => absurd q (by decide)⟩
    refine ⟨hin, fun q hqq => ?_⟩
    cases hqq
    refine ⟨fun _ => ?_, fun q => absurd hl q⟩
    refine v_freshFound (d := d) h (fun S1 c1 i1 f1 => ?_)
    refine ⟨hin, fun q hqq => ?_⟩
    cases hqq
    obtain ⟨-, p0, p1, p2⟩ := i1.2.2.2.2.2.1 f1
    have p1 : S1 25 1 = J (prB b n dd).length := p1
    have loop : ∀ (r k : Nat) (x3 : Int32) (S' : zS), k + r = mn → x3 = J k → (∀ c', c' ≠ 37 → S' c' = S1 c') → (∀ j, S' 37 j = if j < k then cutv (S 36 2) (J ((prB b n dd).getD j 0)) else S 37 j) → zWp shC (KC (d + 57)) kX11_write 1 Q 55 [some (.ref 0), some (.int 1), some (.int (J mn)), some (.int x3)] [] S' := by
      intro r
      induction r with
      | zero =>
        intro k x3 S' hr e3 k1 k2
        subst e3
        have ek : k = mn := by omega
        subst ek
        refine zRun_wp [55] 60 ?_
        exact ⟨fun _ => hq S1 S' c1 i1 k1 k2, fun w => absurd (Int32.le_refl _) w⟩
      | succ r ih =>
        intro k x3 S' hr e3 k1 k2
        subst e3
        have ix : (J k).toNatClampNeg = k := by simp (disch := omega) only [J_lit, J_neg, J_add, J_sub, J_mul, J_nI, J_le, J_lt, J_eq, J_in, J_nat]; omega
        have inn : vp_in (J k) 60 := by simp (disch := omega) only [J_lit, J_neg, J_add, J_sub, J_mul, J_nI, J_le, J_lt, J_eq, J_in, J_nat]; omega
        refine zRun_wp [55] 60 ?_
        refine ⟨fun w => by simp (disch := omega) only [J_lit, J_neg, J_add, J_sub, J_mul, J_nI, J_le, J_lt, J_eq, J_in, J_nat] at w; omega, fun _ => ?_⟩
        refine ⟨hin, fun q hqq => ?_⟩
        cases hqq
        refine ⟨inn, ?_⟩
        rw [ix, k1 26 (by decide), show S1 26 k = _ from p2 k (by omega)]
        refine v_put (d := d + 55) (c := 36) (ci := 37) (n := m) (by decide) hn (by rw [k1 36 (by decide), c1.1 36 (by decide) (by decide)]; exact h3) (by omega) (by omega) ?_
        refine ih (k + 1) _ _ (by omega) (by simp only [J_lit, J_neg, J_add, J_sub, J_mul, J_nI]; congr 1) (fun c' hc' => by rw [zu_same hc']; exact k1 c' hc') (fun j => ?_)
        rw [k1 36 (by decide), c1.1 36 (by decide) (by decide)]
        simp only [zu_r, if_true]
        rw [show ((k : Int)).toNat = k from Int.toNat_natCast k]
        by_cases e : j = k
        · rw [if_pos e, if_pos (by omega), e]
        · rw [if_neg e, k2 j]
          by_cases e2 : j < k
          · rw [if_pos e2, if_pos (by omega)]
          · rw [if_neg e2, if_neg (by omega)]
    have start : ∀ x2 : Int32, x2 = J mn → zWp shC (KC (d + 57)) kX11_write 1 Q 53 [some (.ref 0), some (.int 1), some (.int x2), none] [] S1 := by
      intro x2 e2
      subst e2
      refine zRun_wp [55] 60 ?_
      exact loop mn 0 _ S1 (by omega) rfl (fun _ _ => rfl) (fun j => by rw [if_neg (by omega), c1.1 37 (by decide) (by decide)])
    refine start _ ?_
    rw [p1, c1.1 36 (by decide) (by decide), h3]
    exact Jm
  · refine eX11_write (zRun_wp [53] 80 ?_)
    refine v_isSheet ?_
    rw [bb_t ⟨x0, x4⟩]
    refine ⟨fun _ => ?_, fun q => absurd q (by decide)⟩
    refine ⟨hin, fun q hqq => ?_⟩
    cases hqq
    refine ⟨fun _ => ?_, fun q => absurd hl q⟩
    refine v_freshFound (d := d) h (fun S1 c1 i1 f1 => ?_)
    refine ⟨hin, fun q hqq => ?_⟩
    cases hqq
    obtain ⟨-, p0, p1, p2⟩ := i1.2.2.2.2.2.1 f1
    have p1 : S1 25 1 = J (prB b n dd).length := p1
    have loop : ∀ (r k : Nat) (x3 : Int32) (S' : zS), k + r = mn → x3 = J k → (∀ c', c' ≠ 39 → S' c' = S1 c') → (∀ j, S' 39 j = if j < k then cutv (S 38 2) (J ((prB b n dd).getD j 0)) else S 39 j) → zWp shC (KC (d + 57)) kX11_write 1 Q 55 [some (.ref 0), some (.int 2), some (.int (J mn)), some (.int x3)] [] S' := by
      intro r
      induction r with
      | zero =>
        intro k x3 S' hr e3 k1 k2
        subst e3
        have ek : k = mn := by omega
        subst ek
        refine zRun_wp [55] 60 ?_
        exact ⟨fun _ => hq S1 S' c1 i1 k1 k2, fun w => absurd (Int32.le_refl _) w⟩
      | succ r ih =>
        intro k x3 S' hr e3 k1 k2
        subst e3
        have ix : (J k).toNatClampNeg = k := by simp (disch := omega) only [J_lit, J_neg, J_add, J_sub, J_mul, J_nI, J_le, J_lt, J_eq, J_in, J_nat]; omega
        have inn : vp_in (J k) 60 := by simp (disch := omega) only [J_lit, J_neg, J_add, J_sub, J_mul, J_nI, J_le, J_lt, J_eq, J_in, J_nat]; omega
        refine zRun_wp [55] 60 ?_
        refine ⟨fun w => by simp (disch := omega) only [J_lit, J_neg, J_add, J_sub, J_mul, J_nI, J_le, J_lt, J_eq, J_in, J_nat] at w; omega, fun _ => ?_⟩
        refine ⟨hin, fun q hqq => ?_⟩
        cases hqq
        refine ⟨inn, ?_⟩
        rw [ix, k1 26 (by decide), show S1 26 k = _ from p2 k (by omega)]
        refine v_put (d := d + 55) (c := 38) (ci := 39) (n := m) (by decide) hn (by rw [k1 38 (by decide), c1.1 38 (by decide) (by decide)]; exact h3) (by omega) (by omega) ?_
        refine ih (k + 1) _ _ (by omega) (by simp only [J_lit, J_neg, J_add, J_sub, J_mul, J_nI]; congr 1) (fun c' hc' => by rw [zu_same hc']; exact k1 c' hc') (fun j => ?_)
        rw [k1 38 (by decide), c1.1 38 (by decide) (by decide)]
        simp only [zu_r, if_true]
        rw [show ((k : Int)).toNat = k from Int.toNat_natCast k]
        by_cases e : j = k
        · rw [if_pos e, if_pos (by omega), e]
        · rw [if_neg e, k2 j]
          by_cases e2 : j < k
          · rw [if_pos e2, if_pos (by omega)]
          · rw [if_neg e2, if_neg (by omega)]
    have start : ∀ x2 : Int32, x2 = J mn → zWp shC (KC (d + 57)) kX11_write 1 Q 53 [some (.ref 0), some (.int 2), some (.int x2), none] [] S1 := by
      intro x2 e2
      subst e2
      refine zRun_wp [55] 60 ?_
      exact loop mn 0 _ S1 (by omega) rfl (fun _ _ => rfl) (fun j => by rw [if_neg (by omega), c1.1 39 (by decide) (by decide)])
    refine start _ ?_
    rw [p1, c1.1 38 (by decide) (by decide), h3]
    exact Jm
  · refine eX11_write (zRun_wp [53] 80 ?_)
    refine v_isSheet ?_
    rw [bb_t ⟨x0, x4⟩]
    refine ⟨fun _ => ?_, fun q => absurd q (by decide)⟩
    refine ⟨hin, fun q hqq => ?_⟩
    cases hqq
    refine ⟨fun _ => ?_, fun q => absurd hl q⟩
    refine v_freshFound (d := d) h (fun S1 c1 i1 f1 => ?_)
    refine ⟨hin, fun q hqq => ?_⟩
    cases hqq
    obtain ⟨-, p0, p1, p2⟩ := i1.2.2.2.2.2.1 f1
    have p1 : S1 25 1 = J (prB b n dd).length := p1
    have loop : ∀ (r k : Nat) (x3 : Int32) (S' : zS), k + r = mn → x3 = J k → (∀ c', c' ≠ 41 → S' c' = S1 c') → (∀ j, S' 41 j = if j < k then cutv (S 40 2) (J ((prB b n dd).getD j 0)) else S 41 j) → zWp shC (KC (d + 57)) kX11_write 1 Q 55 [some (.ref 0), some (.int 3), some (.int (J mn)), some (.int x3)] [] S' := by
      intro r
      induction r with
      | zero =>
        intro k x3 S' hr e3 k1 k2
        subst e3
        have ek : k = mn := by omega
        subst ek
        refine zRun_wp [55] 60 ?_
        exact ⟨fun _ => hq S1 S' c1 i1 k1 k2, fun w => absurd (Int32.le_refl _) w⟩
      | succ r ih =>
        intro k x3 S' hr e3 k1 k2
        subst e3
        have ix : (J k).toNatClampNeg = k := by simp (disch := omega) only [J_lit, J_neg, J_add, J_sub, J_mul, J_nI, J_le, J_lt, J_eq, J_in, J_nat]; omega
        have inn : vp_in (J k) 60 := by simp (disch := omega) only [J_lit, J_neg, J_add, J_sub, J_mul, J_nI, J_le, J_lt, J_eq, J_in, J_nat]; omega
        refine zRun_wp [55] 60 ?_
        refine ⟨fun w => by simp (disch := omega) only [J_lit, J_neg, J_add, J_sub, J_mul, J_nI, J_le, J_lt, J_eq, J_in, J_nat] at w; omega, fun _ => ?_⟩
        refine ⟨hin, fun q hqq => ?_⟩
        cases hqq
        refine ⟨inn, ?_⟩
        rw [ix, k1 26 (by decide), show S1 26 k = _ from p2 k (by omega)]
        refine v_put (d := d + 55) (c := 40) (ci := 41) (n := m) (by decide) hn (by rw [k1 40 (by decide), c1.1 40 (by decide) (by decide)]; exact h3) (by omega) (by omega) ?_
        refine ih (k + 1) _ _ (by omega) (by simp only [J_lit, J_neg, J_add, J_sub, J_mul, J_nI]; congr 1) (fun c' hc' => by rw [zu_same hc']; exact k1 c' hc') (fun j => ?_)
        rw [k1 40 (by decide), c1.1 40 (by decide) (by decide)]
        simp only [zu_r, if_true]
        rw [show ((k : Int)).toNat = k from Int.toNat_natCast k]
        by_cases e : j = k
        · rw [if_pos e, if_pos (by omega), e]
        · rw [if_neg e, k2 j]
          by_cases e2 : j < k
          · rw [if_pos e2, if_pos (by omega)]
          · rw [if_neg e2, if_neg (by omega)]
    have start : ∀ x2 : Int32, x2 = J mn → zWp shC (KC (d + 57)) kX11_write 1 Q 53 [some (.ref 0), some (.int 3), some (.int x2), none] [] S1 := by
      intro x2 e2
      subst e2
      refine zRun_wp [55] 60 ?_
      exact loop mn 0 _ S1 (by omega) rfl (fun _ _ => rfl) (fun j => by rw [if_neg (by omega), c1.1 41 (by decide) (by decide)])
    refine start _ ?_
    rw [p1, c1.1 40 (by decide) (by decide), h3]
    exact Jm
set_option maxHeartbeats 2000000 in
theorem w_write {x : Int32} {s c ci m : Nat} (h : MI S b n dd) (hm : (x, s, c, ci) ∈ shs) {f : Int32} (hf : f = 0 ∨ f = 1 ∨ f = 2) (h1 : S 1 s = f) (hn : m ≤ 60) (h2 : S 2 s = J m)
    (hq : ∀ S1 S', MKK S S1 → (∀ c', c' ≠ 3 → S' c' = S1 c') → (∀ k, S' 3 k = if 60 * s ≤ k ∧ k < 60 * s + Nat.min m (prB b n dd).length then cutv f (J ((prB b n dd).getD (k - 60 * s) 0)) else S 3 k) → Q (some (.int (J (Nat.min m (prB b n dd).length : Nat)))) S') : KM (d + 9) mX12_write [.ref 0, .int x] S Q := by
  obtain ⟨hx, hs4, -, -, x0, x3, -, hin, ex⟩ := shs_x hm
  have hl60 := prB_len (b := b) (n := n) (dd := dd) h.1.1.1
  generalize eM : Nat.min m (prB b n dd).length = mn at *
  have mm : mn ≤ m := by rw [← eM]; exact Nat.min_le_left _ _
  have mL : mn ≤ (prB b n dd).length := by rw [← eM]; exact Nat.min_le_right _ _
  have fn : ¬ f < 0 := f_neg hf
  have fg : (0 : Int32) ≤ f := Int32.not_lt.mp fn
  refine eX12_write (zRun_wp [43] 80 ?_)
  refine w_isSheet (d := d + 6) ?_
  rw [bb_t ⟨x0, x3⟩]
  refine ⟨fun _ => ?_, fun q => absurd q (by decide)⟩
  refine ⟨hin, ?_⟩
  rw [hx, h1]
  refine ⟨fun _ => ?_, fun q => absurd fg q⟩
  refine w_findAll (d := d) h (fun S1 k1 f1 => ?_)
  obtain ⟨o0, o1, o2⟩ := f1.2.2.2
  have o1 : S1 0 43 = J (prB b n dd).length := o1
  have o2 : ∀ k, k < (prB b n dd).length → S1 24 k = J ((prB b n dd).getD k 0) := o2
  refine ⟨hin, ?_⟩
  rw [hx, k1.1 2 (by decide) (by decide), h2]
  refine w_lesser (d := d + 7) ?_
  have loop : ∀ (r k : Nat) (x3 : Int32) (S' : zS), k + r = mn → x3 = J k → (∀ c', c' ≠ 3 → S' c' = S1 c') → (∀ j, S' 3 j = if 60 * s ≤ j ∧ j < 60 * s + k then cutv f (J ((prB b n dd).getD (j - 60 * s) 0)) else S 3 j) → zWp shM (KM (d + 8)) kX12_write 1 Q 45 [some (.ref 0), some (.int x), some (.int (J mn)), some (.int x3)] [] S' := by
    intro r
    induction r with
    | zero =>
      intro k x3 S' hr e3 k2 k3
      subst e3
      have ek : k = mn := by omega
      subst ek
      refine zRun_wp [45] 60 ?_
      exact ⟨fun _ => hq S1 S' k1 k2 k3, fun w => absurd (Int32.le_refl _) w⟩
    | succ r ih =>
      intro k x3 S' hr e3 k2 k3
      subst e3
      have ix : (J k).toNatClampNeg = k := by simp (disch := omega) only [J_lit, J_neg, J_add, J_sub, J_mul, J_nI, J_le, J_lt, J_eq, J_in, J_nat]; omega
      have inn : vp_in (J k) 120 := by simp (disch := omega) only [J_lit, J_neg, J_add, J_sub, J_mul, J_nI, J_le, J_lt, J_eq, J_in, J_nat]; omega
      have iy : (60 * x + J k).toNatClampNeg = 60 * s + k := by rw [ex]; simp (disch := omega) only [J_lit, J_neg, J_add, J_sub, J_mul, J_nI, J_le, J_lt, J_eq, J_in, J_nat]; omega
      have iny : vp_in (60 * x + J k) 240 := by rw [ex]; simp (disch := omega) only [J_lit, J_neg, J_add, J_sub, J_mul, J_nI, J_le, J_lt, J_eq, J_in, J_nat]; omega
      refine zRun_wp [45] 60 ?_
      refine ⟨fun w => by simp (disch := omega) only [J_lit, J_neg, J_add, J_sub, J_mul, J_nI, J_le, J_lt, J_eq, J_in, J_nat] at w; omega, fun _ => ?_⟩
      refine ⟨hin, inn, ?_⟩
      rw [hx, ix, k2 1 (by decide), k1.1 1 (by decide) (by decide), h1, k2 24 (by decide), o2 k (by omega)]
      refine w_cut (d := d + 7) ?_
      refine ⟨iny, ?_⟩
      rw [iy]
      refine ih (k + 1) _ _ (by omega) (by simp only [J_lit, J_neg, J_add, J_sub, J_mul, J_nI]; congr 1) (fun c' hc' => by rw [zu_same hc']; exact k2 c' hc') (fun j => ?_)
      simp only [zu_r, if_true]
      by_cases e : j = 60 * s + k
      · rw [if_pos e, if_pos (by omega), show j - 60 * s = k by omega]
      · rw [if_neg e, k3 j]
        by_cases e2 : 60 * s ≤ j ∧ j < 60 * s + k
        · rw [if_pos e2, if_pos (by omega)]
        · rw [if_neg e2, if_neg (by omega)]
  have start : ∀ x2 : Int32, x2 = J mn → zWp shM (KM (d + 8)) kX12_write 1 Q 43 [some (.ref 0), some (.int x), some (.int x2), none] [] S1 := by
    intro x2 e2
    subst e2
    refine zRun_wp [45] 60 ?_
    exact loop mn 0 _ S1 (by omega) rfl (fun _ _ => rfl) (fun j => by rw [if_neg (by omega), k1.1 3 (by decide) (by decide)])
  refine start _ ?_
  rw [show S1 0 43 = _ from o1]
  by_cases q : m < (prB b n dd).length
  · rw [if_pos (by simp (disch := omega) only [J_lit, J_neg, J_add, J_sub, J_mul, J_nI, J_le, J_lt, J_eq, J_in, J_nat]; omega), ← eM, show Nat.min m (prB b n dd).length = m from Nat.min_eq_left (by omega)]
  · rw [if_neg (by simp (disch := omega) only [J_lit, J_neg, J_add, J_sub, J_mul, J_nI, J_le, J_lt, J_eq, J_in, J_nat]; omega), ← eM, show Nat.min m (prB b n dd).length = (prB b n dd).length from Nat.min_eq_right (by omega)]
set_option maxHeartbeats 1000000 in
theorem o_write (h : Rel SC SM b n dd) (x : Int32) : Op mX11_write mX12_write [.int x] SC SM := by
  by_cases hx : 0 ≤ x ∧ x < 4
  · obtain ⟨s, c, ci, hm⟩ := shs_of hx.1 (lt_le4 hx.2)
    obtain ⟨ex, hs4, e1, e2, x0, x3, -, hin, -⟩ := shs_x hm
    rcases h.2.2.2 x s c ci hm with ⟨a1, a2⟩ | ⟨f, m, hf, hm60, b1, b2, b3, b4, b5, b6⟩
    · -- lost
      refine eX11_write (zRun_wp [] 80 ?_)
      refine v_isSheet ?_
      rw [bb_t hx]
      refine ⟨fun _ => ?_, fun q => absurd q (by decide)⟩
      refine ⟨hin, fun q hq => ?_⟩
      obtain ⟨rfl, hcm, hc4⟩ := qcell hm hq
      have mod : KM 72 mX12_write [.ref 0, .int x] SM (fun r' M' => some (.int (-10 - 1)) = r' ∧ RR (zu SC 0 9 1) M') := by
        refine eX12_write (zRun_wp [] 80 ?_)
        refine w_isSheet (d := 69) ?_
        rw [bb_t ⟨x0, x3⟩]
        refine ⟨fun _ => ?_, fun q => absurd q (by decide)⟩
        refine ⟨hin, ?_⟩
        rw [ex, show SM 1 s = _ from a2]
        refine ⟨fun q => absurd q (by decide), fun _ => ?_⟩
        refine w_finds (d := 70) ?_
        exact ⟨rfl, (Rel_sh h (op_find h.2.2 (v := none))).2⟩
      simp only [shs, List.mem_cons, Prod.mk.injEq, List.not_mem_nil, or_false] at hm
      rcases hm with ⟨rfl, rfl, rfl, rfl⟩ | ⟨rfl, rfl, rfl, rfl⟩ | ⟨rfl, rfl, rfl, rfl⟩ | ⟨rfl, rfl, rfl, rfl⟩
      all_goals
        refine ⟨fun q => absurd (a1.symm.trans q) (by decide), fun _ => ?_⟩
        refine v_finding (d := 70) ?_
        exact mod
    · refine v_write (d := 14) h.1 hm b1 hm60 b3 (fun S1 S' c1 i1 k1 k2 => ?_)
      refine w_write (d := 63) h.2.1 hm hf b4 hm60 b5 (fun M1 M' m1 n1 n2 => ⟨rfl, b, n, dd, ?_, ?_, ?_⟩)
      · exact CI_k i1 (fun c' c0 c3 => k1 c' (by omega)) (fun j _ => by rw [k1 0 (by omega)])
      · obtain ⟨⟨g0, g1, g2, g3, g4⟩, g5, g6⟩ := MI_k h.2.1 m1
        exact ⟨⟨g0, by rw [n1 7 (by decide)]; exact g1, fun j hj => by rw [n1 5 (by decide)]; exact g2 j hj, by rw [n1 7 (by decide)]; exact g3, fun j hj => by rw [n1 6 (by decide)]; exact g4 j hj⟩, by rw [n1 0 (by decide)]; exact g5, g6⟩
      · have cS : S' c = SC c := by rw [k1 c (by omega), c1.1 c (by omega) (by omega)]
        refine ShAll_step hm h.2.2 ?_ (fun c' g1 g2 g3 => by rw [k1 c' g3, c1.1 c' (by omega) (by omega)]) (fun s' _ => by rw [n1 1 (by decide), m1.1 1 (by decide) (by decide)]) (fun s' _ => by rw [n1 2 (by decide), m1.1 2 (by decide) (by decide)]) (fun k hk => ?_) (Or.inr ⟨f, m, hf, hm60, ?_, ?_, ?_, ?_, ?_, fun k hk => ?_⟩)
        · rw [k1 0 (by omega), c1.2.1 9 (by decide), n1 0 (by decide), show M1 0 4 = SM 0 4 from m1.2.1]
          exact h.2.2.1
        · have ml := Nat.min_le_left m (prB b n dd).length
          have ml : Nat.min m (prB b n dd).length ≤ m := ml
          rw [show M' A_items k = M' 3 k from rfl, n2 k, if_neg (by omega)]
        · rw [cS]; exact b1
        · rw [cS]; exact b2
        · rw [cS]; exact b3
        · rw [n1 1 (by decide), m1.1 1 (by decide) (by decide)]; exact b4
        · rw [n1 2 (by decide), m1.1 2 (by decide) (by decide)]; exact b5
        · rw [show M' A_items (60 * s + k) = M' 3 (60 * s + k) from rfl, n2, k2, b2]
          by_cases w : k < Nat.min m (prB b n dd).length
          · rw [if_pos (by omega), if_pos w, show 60 * s + k - 60 * s = k by omega]
          · rw [if_neg (by omega), if_neg w]
            exact b6 k hk
  · have bad : KM 72 mX12_write [.ref 0, .int x] SM (fun r' M' => some (.int (-2)) = r' ∧ RR SC M') := by
      refine eX12_write (zRun_wp [] 80 ?_)
      refine w_isSheet (d := 69) ?_
      rw [bb_f (fun q => hx ⟨q.1, le_lt4 q.2⟩)]
      refine ⟨fun q => absurd rfl q, fun _ => ?_⟩
      exact ⟨rfl, b, n, dd, h⟩
    refine eX11_write (zRun_wp [] 80 ?_)
    refine v_isSheet ?_
    rw [bb_f hx]
    refine ⟨fun q => absurd rfl q, fun _ => ?_⟩
    exact bad
end write
