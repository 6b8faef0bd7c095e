section mmend
variable {d : Nat} {S : zS} {Q : Option Value → zS → Prop} {N : Nat} {g : Nat → Int}
/-- what mends writes -/
def MeK (S S' : zS) : Prop := (∀ c, c ≠ 0 → c ≠ A_order → c ≠ A_like → c ≠ A_cost → c ≠ A_how → S' c = S c) ∧ ∀ i, i ≠ M_many → (i < 38 ∨ 41 < i) → i ≠ M_mendWhich → i ≠ M_mendCost → S' 0 i = S 0 i
def MdM (S : zS) (s : Int × Nat) : Prop := S 0 M_mendWhich = J s.1 ∧ S 0 M_mendCost = J s.2
theorem skI_m1 (k : Nat) : skI (-1) k = k := by unfold skI; rw [if_neg (by omega)]
theorem cs_m1 (k : Nat) : cs (-1) k = k := by unfold cs; rw [if_neg (by omega)]
set_option maxHeartbeats 2000000 in
theorem w_mends {dd : Nat} (hN : N ≤ 24) (hS : S 0 M_bars = J N) (hg : ∀ k, k < N → S A_number k = J (nu g k)) (hd : S 0 M_depth = J dd) (hdd : dd ≤ 3)
    (hq : ∀ S', MeK S S' → S' 0 M_many = J N → (∀ i j, i ≤ 24 → j ≤ 24 → S' A_like (25 * i + j) = J (al g N i j)) → MdM S' (md g N dd N) → Q none S') : KM (d + 5) mX12_mends [.ref 0] S Q := by
  have loop : ∀ (r k : Nat) (x1 : Int32) (S' : zS), k + r = N → x1 = J k → MeK S S' → MdM S' (md g N dd k) → zWp shM (KM (d + 4)) kX12_mends 0 Q 14 [some (.ref 0), some (.int x1)] [] S' := by
    intro r
    induction r with
    | zero =>
      intro k x1 S' hr e1 kk hm
      subst e1
      have ek : k = N := by omega
      subst ek
      have s1 : S' 0 9 = J k := by rw [kk.2 9 (by decide) (by decide) (by decide) (by decide)]; exact hS
      refine zRun_wp [14] 80 ?_
      refine ⟨fun _ => ?_, fun q => ?_⟩
      · refine w_orders (w := -1) (g := g) hN (by omega) s1 (fun j hj => by rw [kk.1 A_number (by decide) (by decide) (by decide) (by decide) (by decide)]; exact hg j hj) (fun S1 a1 a2 a3 a4 => ?_)
        rw [cs_m1] at a3 a4
        refine hq S1 ⟨fun c c1 c2 c3 c4 c5 => by rw [a1 c c1 c2 c3]; exact kk.1 c c1 c2 c3 c4 c5, fun i c1 c2 c3 c4 => by rw [a2 i c1]; exact kk.2 i c1 c2 c3 c4⟩ a3 ?_ ⟨by rw [a2 _ (by decide)]; exact hm.1, by rw [a2 _ (by decide)]; exact hm.2⟩
        intro i j hi hj
        have := a4 i j hi hj
        rw [show (fun k => g (skI (-1) k)) = g from funext (fun k => by rw [skI_m1])] at this
        exact this
      · rw [s1] at q
        simp (disch := omega) only [J_lit, J_neg, J_add, J_sub, J_mul, J_nI, J_le, J_lt, J_eq, J_in, J_nat] at q
        omega
    | succ r ih =>
      intro k x1 S' hr e1 kk hm
      subst e1
      have s1 : S' 0 9 = J N := by rw [kk.2 9 (by decide) (by decide) (by decide) (by decide)]; exact hS
      refine zRun_wp [14, 51] 80 ?_
      refine ⟨fun q => ?_, fun _ => ?_⟩
      · rw [s1] at q
        simp (disch := omega) only [J_lit, J_neg, J_add, J_sub, J_mul, J_nI, J_le, J_lt, J_eq, J_in, J_nat] at q
        omega
      refine w_orders (w := (k : Int)) (g := g) hN (by omega) s1 (fun j hj => by rw [kk.1 A_number (by decide) (by decide) (by decide) (by decide) (by decide)]; exact hg j hj) (fun S1 a1 a2 a3 a4 => ?_)
      rw [csk (by omega)] at a3 a4
      have d1 : S1 0 M_depth = J dd := by rw [a2 _ (by decide), kk.2 _ (by decide) (by decide) (by decide) (by decide)]; exact hd
      refine w_finding (h := fun t => g (skI k t)) (m := N - 1) (by omega) a3 d1 hdd a4 (fun S2 b1 b2 _ b4 => ?_)
      have k2 : MeK S S2 := ⟨fun c c1 c2 c3 c4 c5 => by rw [b1 c c1 c4 c5, a1 c c1 c2 c3]; exact kk.1 c c1 c2 c3 c4 c5, fun i c1 c2 c3 c4 => by rw [b2 i c2, a2 i c1]; exact kk.2 i c1 c2 c3 c4⟩
      have f1 : S2 0 38 = J (mc g N dd k).1 := b4.1
      have w1 : S2 0 46 = J (md g N dd k).1 := by rw [b2 46 (by decide), a2 46 (by decide)]; exact hm.1
      have w2 : S2 0 47 = J (md g N dd k).2 := by rw [b2 47 (by decide), a2 47 (by decide)]; exact hm.2
      obtain ⟨o1, o2, -⟩ := mc_ok (g := g) (dd := dd) (k := k) hN
      have o3 : (md g N dd k).2 ≤ 9999999 := by
        rcases md_inv (g := g) (dd := dd) hN k with ⟨_, i, _⟩ | ⟨_, i⟩
        · omega
        · rw [i]; exact Nat.le_refl _
      have ms := md_s g N dd k
      have fin : ∀ x : Int32, x = J (md g N dd (k + 1)).1 → zWp shM (KM (d + 4)) kX12_mends 0 Q 51 [some (.ref 0), some (.int (J k))] [.int x, .ref 0] S2 := by
        intro x ex
        subst ex
        refine zRun_wp [14] 80 ?_
        refine ⟨rfl, fun e => absurd e (by decide), ?_⟩
        refine w_lesser ?_
        refine ⟨rfl, fun e => absurd e (by decide), ?_⟩
        refine ih (k + 1) _ _ (by omega) (by simp only [J_lit, J_neg, J_add, J_sub, J_mul, J_nI]; congr 1) ⟨fun c c1 c2 c3 c4 c5 => by rw [zu_same c1, zu_same c1]; exact k2.1 c c1 c2 c3 c4 c5, fun i c1 c2 c3 c4 => ?_⟩ ⟨?_, ?_⟩
        · simp only [zu_r, if_true]
          rw [if_neg c4, if_neg c3]
          exact k2.2 i c1 c2 c3 c4
        · simp only [zu_r, if_true]
          rw [if_neg (by decide)]
        · simp only [zu_r, if_true]
          rw [show (if (38 : Nat) = 46 then J (md g N dd (k + 1)).1 else S2 0 38) = S2 0 38 from rfl, show (if (47 : Nat) = 46 then J (md g N dd (k + 1)).1 else S2 0 47) = S2 0 47 from rfl, f1, w2]
          simp (disch := omega) only [J_lit, J_neg, J_add, J_sub, J_mul, J_nI, J_le, J_lt, J_eq, J_in, J_nat]
          rw [ms]
          by_cases c : (mc g N dd k).1 < (md g N dd k).2
          · rw [if_pos c, if_pos (by omega)]
          · rw [if_neg c, if_neg (by omega)]
      refine ⟨fun q => ?_, fun q => ?_⟩ <;> rw [f1, w2] at q <;> simp (disch := omega) only [J_lit, J_neg, J_add, J_sub, J_mul, J_nI, J_le, J_lt, J_eq, J_in, J_nat] at q
      · refine fin _ ?_
        rw [ms, if_neg (by omega)]
        exact w1
      · refine fin _ ?_
        rw [ms, if_pos (by omega)]
  refine eX12_mends (zRun_wp [14] 80 ?_)
  refine ⟨rfl, fun e => absurd e (by decide), rfl, fun e => absurd e (by decide), ?_⟩
  refine loop N 0 _ _ (by omega) rfl ⟨fun c c1 _ _ _ _ => by rw [zu_same c1, zu_same c1], fun i _ _ c3 c4 => by simp only [zu_r, if_true]; rw [if_neg c4, if_neg c3]⟩ ⟨?_, ?_⟩
  · simp only [zu_r, if_true]
    rw [if_neg (by decide)]
    rfl
  · simp only [zu_r, if_true]
    rfl
end mmend
