section sheets6
variable {d : Nat} {SC SM : zS}
/-- the class's copy -/
theorem v_copy {Q : Option Value → zS → Prop} {x y : Int32} {s c ci t e ei : Nat} {i j n : Int} (i1 : -2147483648 ≤ i) (i2 : i ≤ 2147483647) (j1 : -2147483648 ≤ j) (j2 : j ≤ 2147483647) (n1 : -2147483648 ≤ n) (n2 : n ≤ 2147483647) (hm : (x, s, c, ci) ∈ shs) (ht : (y, t, e, ei) ∈ shs)
    (hl1 : SC c 1 = 0 → ∃ m : Nat, m ≤ 60 ∧ SC c 3 = J m) (hl2 : SC e 1 = 0 → ∃ m : Nat, m ≤ 60 ∧ SC e 3 = J m)
    (hnull : ¬ SC c 1 = 0 ∨ ¬ SC e 1 = 0 → Q (some (.int (-11))) (zu SC 0 9 1))
    (hstore : SC c 1 = 0 → SC e 1 = 0 → ¬ SC c 2 = SC e 2 → Q (some (.int (-14))) (zu SC 0 9 4))
    (hrest : SC c 1 = 0 → SC e 1 = 0 → SC c 2 = SC e 2 → ∀ m1 m2 : Nat, m1 ≤ 60 → m2 ≤ 60 → SC c 3 = J m1 → SC e 3 = J m2 → (0 ≤ n ∧ 0 ≤ i ∧ 0 ≤ j ∧ i + n ≤ m1 ∧ j + n ≤ m2 → Q (some (.int 1)) (zcp SC ci ei i.toNat j.toNat n.toNat)) ∧ (¬ (0 ≤ n ∧ 0 ≤ i ∧ 0 ≤ j ∧ i + n ≤ m1 ∧ j + n ≤ m2) → Q (some (.int (-12))) (zu SC 0 9 2))) :
    KC (d + 3) mX11_copy [.ref 0, .int x, .int (J i), .int y, .int (J j), .int (J n)] SC Q := by
  obtain ⟨hx, hs4, e34, e35, x0, -, x4, hin, -⟩ := shs_x hm
  obtain ⟨hy, ht4, e34', e35', y0, -, y4, hin', -⟩ := shs_x ht
  have fin : ∀ (cells : c = 34 ∨ c = 36 ∨ c = 38 ∨ c = 40) (cells' : e = 34 ∨ e = 36 ∨ e = 38 ∨ e = 40), True := fun _ _ => trivial
  refine eX11_copy (zRun_wp [33] 80 ?_)
  refine v_isSheet ?_
  rw [bb_t ⟨x0, x4⟩]
  refine ⟨fun q => absurd q (by decide), fun _ => ?_⟩
  refine v_isSheet ?_
  rw [bb_t ⟨y0, y4⟩]
  refine ⟨fun _ => ?_, fun q => absurd q (by decide)⟩
  refine ⟨hin, fun q hq => ?_⟩
  obtain ⟨rfl, hcm, hc4⟩ := qcell hm hq
  refine ⟨hin', fun q' hq' => ?_⟩
  obtain ⟨rfl, hcm', hc4'⟩ := qcell ht hq'
  clear hq hq' hm ht
  have hold1 : ∀ {Q' : Option Value → zS → Prop} (m1 : Nat), m1 ≤ 60 → SC q 3 = J m1 → Q' (some (.int (bb (0 ≤ i ∧ 0 ≤ n ∧ i + n ≤ m1)))) SC → KC (d + 2) mX8_holds [.ref q, .int (J i), .int (J n)] SC Q' := fun m1 a b k => v_holds hc4 a b i1 i2 n1 n2 k
  have hold2 : ∀ {Q' : Option Value → zS → Prop} (m2 : Nat), m2 ≤ 60 → SC q' 3 = J m2 → Q' (some (.int (bb (0 ≤ j ∧ 0 ≤ n ∧ j + n ≤ m2)))) SC → KC (d + 2) mX8_holds [.ref q', .int (J j), .int (J n)] SC Q' := fun m2 a b k => v_holds hc4' a b j1 j2 n1 n2 k
  simp only [List.mem_cons, Prod.mk.injEq, List.not_mem_nil, or_false] at hcm hcm'
  clear hc4 hc4' fin
  rcases hcm with ⟨rfl, rfl⟩ | ⟨rfl, rfl⟩ | ⟨rfl, rfl⟩ | ⟨rfl, rfl⟩ <;> rcases hcm' with ⟨rfl, rfl⟩ | ⟨rfl, rfl⟩ | ⟨rfl, rfl⟩ | ⟨rfl, rfl⟩
  all_goals
    refine zRun_wp [] 80 ?_
    refine ⟨fun l1 => v_finding (hnull (Or.inl l1)), fun l1 => ?_⟩
    refine ⟨fun l2 => ?_, fun l2 => v_finding (hnull (Or.inr l2))⟩
    refine ⟨fun l3 => ?_, fun l3 => v_finding (hstore l1 l2 l3)⟩
    obtain ⟨m1, k1, k2⟩ := hl1 l1
    obtain ⟨m2, k3, k4⟩ := hl2 l2
    obtain ⟨g1, g2⟩ := hrest l1 l2 l3 m1 m2 k1 k3 k2 k4
    refine ⟨fun c1 => ?_, fun c1 => ?_⟩ <;> simp (disch := omega) only [J_lit, J_neg, J_add, J_sub, J_mul, J_nI, J_le, J_lt, J_eq, J_in, J_nat] at c1
    · exact v_finding (g2 (by omega))
    refine hold1 m1 k1 k2 ?_
    refine ⟨fun c2 => ?_, fun c2 => ?_⟩
    · rw [bb_0] at c2
      exact v_finding (g2 (by omega))
    rw [bb_0, Classical.not_not] at c2
    refine hold2 m2 k3 k4 ?_
    refine ⟨fun c3 => ?_, fun c3 => ?_⟩
    · rw [bb_0, Classical.not_not] at c3
      have ei : (J i).toNatClampNeg = i.toNat := by simp (disch := omega) only [J_lit, J_neg, J_add, J_sub, J_mul, J_nI, J_le, J_lt, J_eq, J_in, J_nat]
      have ej : (J j).toNatClampNeg = j.toNat := by simp (disch := omega) only [J_lit, J_neg, J_add, J_sub, J_mul, J_nI, J_le, J_lt, J_eq, J_in, J_nat]
      have en : (J n).toNatClampNeg = n.toNat := by simp (disch := omega) only [J_lit, J_neg, J_add, J_sub, J_mul, J_nI, J_le, J_lt, J_eq, J_in, J_nat]
      refine ⟨?_, ?_, ?_, ?_, ?_, ?_⟩
      · simp (disch := omega) only [J_lit, J_neg, J_add, J_sub, J_mul, J_nI, J_le, J_lt, J_eq, J_in, J_nat]; omega
      · simp (disch := omega) only [J_lit, J_neg, J_add, J_sub, J_mul, J_nI, J_le, J_lt, J_eq, J_in, J_nat]; omega
      · simp (disch := omega) only [J_lit, J_neg, J_add, J_sub, J_mul, J_nI, J_le, J_lt, J_eq, J_in, J_nat]; omega
      · rw [ei, en]; omega
      · rw [ej, en]; omega
      · rw [ei, ej, en]
        exact g1 (by omega)
    · rw [bb_0] at c3
      exact v_finding (g2 (by omega))
set_option maxHeartbeats 1000000 in
/-- the model's copy -/
theorem w_copy {Q : Option Value → zS → Prop} {x y : Int32} {s c ci t e ei : Nat} {i j n : Int} (i1 : -2147483648 ≤ i) (i2 : i ≤ 2147483647) (j1 : -2147483648 ≤ j) (j2 : j ≤ 2147483647) (n1 : -2147483648 ≤ n) (n2 : n ≤ 2147483647) (hm : (x, s, c, ci) ∈ shs) (ht : (y, t, e, ei) ∈ shs)
    (hnull : SM A_forms s < 0 ∨ SM A_forms t < 0 → Q (some (.int (-11))) (zu SM 0 M_latest 1))
    (hstore : ¬ SM A_forms s < 0 → ¬ SM A_forms t < 0 → ¬ SM A_forms s = SM A_forms t → Q (some (.int (-14))) (zu SM 0 M_latest 4))
    (hrest : ¬ SM A_forms s < 0 → ¬ SM A_forms t < 0 → SM A_forms s = SM A_forms t → ∃ m1 m2 : Nat, m1 ≤ 60 ∧ m2 ≤ 60 ∧ SM A_sizes s = J m1 ∧ SM A_sizes t = J m2 ∧ (0 ≤ n ∧ 0 ≤ i ∧ 0 ≤ j ∧ i + n ≤ m1 ∧ j + n ≤ m2 → ∀ M', (∀ c, c ≠ A_moved → c ≠ A_items → M' c = SM c) → (∀ k, M' A_items k = if 60 * t + j.toNat ≤ k ∧ k < 60 * t + j.toNat + n.toNat then SM A_items (60 * s + i.toNat + (k - (60 * t + j.toNat))) else SM A_items k) → Q (some (.int 1)) M') ∧ (¬ (0 ≤ n ∧ 0 ≤ i ∧ 0 ≤ j ∧ i + n ≤ m1 ∧ j + n ≤ m2) → Q (some (.int (-12))) (zu SM 0 M_latest 2))) :
    KM (d + 3) mX12_copy [.ref 0, .int x, .int (J i), .int y, .int (J j), .int (J n)] SM Q := by
  obtain ⟨hx, hs4, -, -, x0, x3, -, hin, ex⟩ := shs_x hm
  obtain ⟨hy, ht4, -, -, y0, y3, -, hin', ey⟩ := shs_x ht
  refine eX12_copy (zRun_wp [120, 157] 80 ?_)
  refine w_isSheet ?_
  rw [bb_t ⟨x0, x3⟩]
  refine ⟨fun q => absurd q (by decide), fun _ => ?_⟩
  refine w_isSheet ?_
  rw [bb_t ⟨y0, y3⟩]
  refine ⟨fun _ => ?_, fun q => absurd q (by decide)⟩
  refine ⟨hin, fun l1 => ?_, fun l1 => ?_⟩ <;> rw [hx] at l1
  · exact w_finds (hnull (Or.inl l1))
  refine ⟨hin', fun l2 => ?_, fun l2 => ?_⟩ <;> rw [hy] at l2
  rotate_left
  · exact w_finds (hnull (Or.inr (Int32.not_le.mp l2)))
  have l2 := Int32.not_lt.mpr l2
  refine ⟨hin, hin', fun l3 => ?_, fun l3 => ?_⟩ <;> rw [hx, hy] at l3
  rotate_left
  · exact w_finds (hstore l1 l2 l3)
  obtain ⟨m1, m2, k1, k2, k3, k4, g1, g2⟩ := hrest l1 l2 l3
  have bad : ∀ (P : ¬ (0 ≤ n ∧ 0 ≤ i ∧ 0 ≤ j ∧ i + n ≤ m1 ∧ j + n ≤ m2)), Q (some (.int (-12))) (zu SM 0 M_latest 2) := g2
  refine ⟨fun c1 => ?_, fun c1 => ?_⟩ <;> simp (disch := omega) only [J_lit, J_neg, J_add, J_sub, J_mul, J_nI, J_le, J_lt, J_eq, J_in, J_nat] at c1
  · exact w_finds (bad (by omega))
  refine ⟨fun c2 => ?_, fun c2 => ?_⟩ <;> simp (disch := omega) only [J_lit, J_neg, J_add, J_sub, J_mul, J_nI, J_le, J_lt, J_eq, J_in, J_nat] at c2
  · exact w_finds (bad (by omega))
  refine ⟨fun c3 => ?_, fun c3 => ?_⟩ <;> simp (disch := omega) only [J_lit, J_neg, J_add, J_sub, J_mul, J_nI, J_le, J_lt, J_eq, J_in, J_nat] at c3
  · exact w_finds (bad (by omega))
  refine ⟨hin, fun c4 => ?_, fun c4 => ?_⟩ <;> rw [hx, show SM 2 s = J m1 from k3, lc_sum i1 i2 n1 n2 (by omega) (by omega)] at c4
  · exact w_finds (bad (by omega))
  refine ⟨hin', fun c5 => ?_, fun c5 => ?_⟩ <;> rw [hy, show SM 2 t = J m2 from k4, lc_le, lc_sum j1 j2 n1 n2 (by omega) (by omega)] at c5
  rotate_left
  · exact w_finds (bad (by omega))
  have l2nd : ∀ (r a : Nat) (x6 : Int32) (M' : zS), a + r = n.toNat → x6 = J a → (∀ c, c ≠ A_moved → c ≠ A_items → M' c = SM c) → (∀ k, k < n.toNat → M' A_moved k = SM A_items (60 * s + i.toNat + k)) → (∀ k, M' A_items k = if 60 * t + j.toNat ≤ k ∧ k < 60 * t + j.toNat + a then SM A_items (60 * s + i.toNat + (k - (60 * t + j.toNat))) else SM A_items k) → zWp shM (KM (d + 2)) kX12_copy 1 Q 157 [some (.ref 0), some (.int x), some (.int (J i)), some (.int y), some (.int (J j)), some (.int (J n)), some (.int x6)] [] M' := by
    intro r
    induction r with
    | zero =>
      intro a x6 M' hr e6 q1 q2 q3
      subst e6
      refine zRun_wp [120, 157] 80 ?_
      refine ⟨fun _ => ?_, fun c6 => ?_⟩
      · exact g1 (by omega) M' q1 (by rw [show a = n.toNat by omega] at q3; exact q3)
      · simp (disch := omega) only [J_lit, J_neg, J_add, J_sub, J_mul, J_nI, J_le, J_lt, J_eq, J_in, J_nat] at c6
        omega
    | succ r ih =>
      intro a x6 M' hr e6 q1 q2 q3
      subst e6
      refine zRun_wp [120, 157] 80 ?_
      refine ⟨fun c6 => ?_, fun _ => ?_⟩
      · simp (disch := omega) only [J_lit, J_neg, J_add, J_sub, J_mul, J_nI, J_le, J_lt, J_eq, J_in, J_nat] at c6
        omega
      · have ha : vp_in (J a) 60 := by simp (disch := omega) only [J_lit, J_neg, J_add, J_sub, J_mul, J_nI, J_le, J_lt, J_eq, J_in, J_nat]; omega
        have hax : (J a).toNatClampNeg = a := by simp (disch := omega) only [J_lit, J_neg, J_add, J_sub, J_mul, J_nI, J_le, J_lt, J_eq, J_in, J_nat]; omega
        have hb : vp_in (60 * y + J j + J a) 240 := by rw [ey]; simp (disch := omega) only [J_lit, J_neg, J_add, J_sub, J_mul, J_nI, J_le, J_lt, J_eq, J_in, J_nat]; omega
        have hbx : (60 * y + J j + J a).toNatClampNeg = 60 * t + j.toNat + a := by rw [ey]; simp (disch := omega) only [J_lit, J_neg, J_add, J_sub, J_mul, J_nI, J_le, J_lt, J_eq, J_in, J_nat]; omega
        refine ⟨ha, hb, ?_⟩
        refine ih (a + 1) _ _ (by omega) (by simp only [J_lit, J_neg, J_add, J_sub, J_mul, J_nI]; congr 1) (fun c' e1 e2 => ?_) (fun k hk => ?_) (fun k => ?_)
        · rw [zu_same e2]
          exact q1 c' e1 e2
        · rw [zu_same (by decide)]
          exact q2 k hk
        · rw [hbx, hax, show M' 4 a = SM A_items (60 * s + i.toNat + a) from q2 a (by omega)]
          simp only [zu_r, if_true]
          by_cases e : k = 60 * t + j.toNat + a
          · rw [if_pos e, if_pos (by omega)]
            congr 1
            omega
          · rw [if_neg e, q3 k]
            by_cases e2 : 60 * t + j.toNat ≤ k ∧ k < 60 * t + j.toNat + a
            · rw [if_pos e2, if_pos (by omega)]
            · rw [if_neg e2, if_neg (by omega)]
  have l1st : ∀ (r a : Nat) (x6 : Int32) (M' : zS), a + r = n.toNat → x6 = J a → (∀ c, c ≠ A_moved → M' c = SM c) → (∀ k, k < a → M' A_moved k = SM A_items (60 * s + i.toNat + k)) → zWp shM (KM (d + 2)) kX12_copy 1 Q 120 [some (.ref 0), some (.int x), some (.int (J i)), some (.int y), some (.int (J j)), some (.int (J n)), some (.int x6)] [] M' := by
    intro r
    induction r with
    | zero =>
      intro a x6 M' hr e6 q1 q2
      subst e6
      refine zRun_wp [120, 157] 80 ?_
      refine ⟨fun _ => ?_, fun c6 => ?_⟩
      · exact l2nd n.toNat 0 _ _ (by omega) rfl (fun c e1 _ => q1 c e1) (fun k hk => q2 k (by omega)) (fun k => by rw [if_neg (by omega), q1 A_items (by decide)])
      · simp (disch := omega) only [J_lit, J_neg, J_add, J_sub, J_mul, J_nI, J_le, J_lt, J_eq, J_in, J_nat] at c6
        omega
    | succ r ih =>
      intro a x6 M' hr e6 q1 q2
      subst e6
      refine zRun_wp [120, 157] 80 ?_
      refine ⟨fun c6 => ?_, fun _ => ?_⟩
      · simp (disch := omega) only [J_lit, J_neg, J_add, J_sub, J_mul, J_nI, J_le, J_lt, J_eq, J_in, J_nat] at c6
        omega
      · have ha : vp_in (J a) 60 := by simp (disch := omega) only [J_lit, J_neg, J_add, J_sub, J_mul, J_nI, J_le, J_lt, J_eq, J_in, J_nat]; omega
        have hax : (J a).toNatClampNeg = a := by simp (disch := omega) only [J_lit, J_neg, J_add, J_sub, J_mul, J_nI, J_le, J_lt, J_eq, J_in, J_nat]; omega
        have hb : vp_in (60 * x + J i + J a) 240 := by rw [ex]; simp (disch := omega) only [J_lit, J_neg, J_add, J_sub, J_mul, J_nI, J_le, J_lt, J_eq, J_in, J_nat]; omega
        have hbx : (60 * x + J i + J a).toNatClampNeg = 60 * s + i.toNat + a := by rw [ex]; simp (disch := omega) only [J_lit, J_neg, J_add, J_sub, J_mul, J_nI, J_le, J_lt, J_eq, J_in, J_nat]; omega
        refine ⟨hb, ha, ?_⟩
        refine ih (a + 1) _ _ (by omega) (by simp only [J_lit, J_neg, J_add, J_sub, J_mul, J_nI]; congr 1) (fun c' e1 => ?_) (fun k hk => ?_)
        · rw [zu_same e1]
          exact q1 c' e1
        · rw [hbx, hax, show M' 3 = SM 3 from q1 3 (by decide)]
          simp only [zu_r, if_true]
          by_cases e : k = a
          · rw [if_pos e, e]
          · rw [if_neg e]
            exact q2 k (by omega)
  exact l1st n.toNat 0 _ _ (by omega) rfl (fun _ _ => rfl) (fun k hk => absurd hk (by omega))
end sheets6
