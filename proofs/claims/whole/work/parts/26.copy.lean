section sheets5
variable {d : Nat} {SC SM : zS}
theorem get_M {r : Option Value} {S' : zS} {x f : Int32} {z : Int} (z1 : -2147483648 ≤ z) (z2 : z ≤ 2147483647)
    (hbad : ¬ ((0 ≤ x ∧ x < 4) ∧ (0 ≤ f ∧ f < 3)) → OpR SC SM S' SM r (some (.int (-2147483648))))
    (hgo : (0 ≤ x ∧ x < 4) → (0 ≤ f ∧ f < 3) → (SM A_forms x.toNatClampNeg < 0 → OpR SC SM S' (zu SM 0 M_latest 1) r (some (.int (-2147483648)))) ∧ (¬ SM A_forms x.toNatClampNeg < 0 → SM A_forms x.toNatClampNeg ≠ f → OpR SC SM S' (zu SM 0 M_latest 3) r (some (.int (-2147483648)))) ∧ (¬ SM A_forms x.toNatClampNeg < 0 → SM A_forms x.toNatClampNeg = f → ∃ n : Nat, n ≤ 60 ∧ SM A_sizes x.toNatClampNeg = J n ∧ (0 ≤ z ∧ z < n → OpR SC SM S' SM r (some (.int (SM A_items (60 * x.toNatClampNeg + z.toNat))))) ∧ (¬ (0 ≤ z ∧ z < n) → OpR SC SM S' (zu SM 0 M_latest 2) r (some (.int (-2147483648)))))) : KM (d + 3) mX12_get [.ref 0, .int x, .int f, .int (J z)] SM (fun r' M' => OpR SC SM S' M' r r') := by
  refine eX12_get (zRun_wp [] 60 ?_)
  refine w_isSheet ?_
  refine ⟨fun c1 => ?_, fun c1 => ?_⟩
  · rw [bb_0, ← four_iff] at c1
    exact hbad (fun q => c1 q.1)
  rw [bb_0, Classical.not_not, ← four_iff] at c1
  refine w_inI ?_
  refine ⟨fun c2 => ?_, fun c2 => ?_⟩
  · rw [bb_0, ← three_iff] at c2
    exact hbad (fun q => c2 q.2)
  rw [bb_0, Classical.not_not, ← three_iff] at c2
  obtain ⟨g1, g3, g2⟩ := hgo c1 c2
  obtain ⟨s, c, ci, hm⟩ := shs_of c1.1 (lt_le4 c1.2)
  obtain ⟨hx, hs4, -, -, -, -, -, hin, ex⟩ := shs_x hm
  refine w_lacks z1 z2 hin (fun e => ?_) (fun e1 e2 => ?_) (fun e1 e2 => ?_)
  · exact ⟨fun q => absurd q (by decide), fun _ => g1 e⟩
  · exact ⟨fun q => absurd q (by decide), fun _ => g3 e1 e2⟩
  · obtain ⟨n, hn, hS, a, b⟩ := g2 e1 e2
    refine ⟨n, hn, hS, fun e => ?_, fun e => ?_⟩
    · refine ⟨fun _ => ?_, fun q => absurd rfl q⟩
      have hi : vp_in (60 * x + J z) 240 := by rw [ex]; simp (disch := omega) only [J_lit, J_neg, J_add, J_sub, J_mul, J_nI, J_le, J_lt, J_eq, J_in, J_nat]; omega
      have hxx : (60 * x + J z).toNatClampNeg = 60 * x.toNatClampNeg + z.toNat := by rw [hx, ex]; simp (disch := omega) only [J_lit, J_neg, J_add, J_sub, J_mul, J_nI, J_le, J_lt, J_eq, J_in, J_nat]; omega
      refine ⟨hi, ?_⟩
      rw [hxx]
      exact a e
    · exact ⟨fun q => absurd q (by decide), fun _ => b e⟩
set_option maxHeartbeats 2000000 in
theorem op_get (h : ShAll SC SM) (x f i : Int32) : KC (d + 3) mX11_get [.ref 0, .int x, .int f, .int i] SC (fun r S' => KM (d + 3) mX12_get [.ref 0, .int x, .int f, .int i] SM (fun r' M' => OpR SC SM S' M' r r')) := by
  obtain ⟨z, rfl, z1, z2⟩ := J_of i
  refine eX11_get (zRun_wp [] 80 ?_)
  refine v_isSheet ?_
  refine ⟨fun c1 => ?_, fun c1 => ?_⟩
  · rw [bb_0] at c1
    exact get_M z1 z2 (fun _ => op_same h) (fun q => absurd q c1)
  rw [bb_0, Classical.not_not] at c1
  refine v_isForm ?_
  refine ⟨fun c2 => ?_, fun c2 => ?_⟩
  rotate_left
  · rw [bb_0] at c2
    exact get_M z1 z2 (fun _ => op_same h) (fun _ q => absurd q c2)
  rw [bb_0, Classical.not_not] at c2
  obtain ⟨s, c, ci, hm⟩ := shs_of c1.1 (lt_le4 c1.2)
  obtain ⟨hx, hs4, e34, e35, -, -, -, hin, -⟩ := shs_x hm
  have hR := h.2 x s c ci hm
  refine ⟨hin, fun q hq => ?_⟩
  obtain ⟨rfl, hcm, hc4⟩ := qcell hm hq
  have bad : ∀ {P : Prop}, ¬ ((0 ≤ x ∧ x < 4) ∧ (0 ≤ f ∧ f < 3)) → P := fun e => absurd ⟨c1, c2⟩ e
  refine v_hind hc4 z1 z2 (fun l0 => ?_) (fun l1 => ?_) (fun l0 l2 => ?_) (fun l0 l2 n hn l3 => ?_)
  · rcases hR with ⟨a, -⟩ | ⟨g, n, a1, a2, a3, a4, a5, -⟩
    · exact absurd (a.symm.trans l0) (by decide)
    · exact ⟨n, a2, a5⟩
  · refine ⟨fun q => absurd q (by decide), fun _ => ?_⟩
    refine ⟨rfl, fun q => absurd q (by decide), ?_⟩
    rcases hR with ⟨a, b⟩ | ⟨g, n, a1, a2, a3, -⟩
    · refine get_M z1 z2 bad (fun _ _ => ⟨fun _ => op_find h, fun e => ?_, fun e => ?_⟩)
      · rw [hx, b] at e; exact absurd (by decide) e
      · rw [hx, b] at e; exact absurd (by decide) e
    · exact absurd a3 l1
  · refine ⟨fun q => absurd q (by decide), fun _ => ?_⟩
    refine ⟨rfl, fun q => absurd q (by decide), ?_⟩
    rcases hR with ⟨a, b⟩ | ⟨g, n, a1, a2, a3, a4, a5, a6, a7, -⟩
    · exact absurd (a.symm.trans l0) (by decide)
    · refine get_M z1 z2 bad (fun _ _ => ⟨fun e => ?_, fun _ _ => op_find h, fun _ e => ?_⟩)
      · rw [hx, a6] at e
        rcases a1 with rfl | rfl | rfl <;> exact absurd e (by decide)
      · rw [hx, a6, ← a4] at e
        exact absurd e l2
  · rcases hR with ⟨a, b⟩ | ⟨g, n', a1, a2, a3, a4, a5, a6, a7, a8⟩
    · exact absurd (a.symm.trans l0) (by decide)
    have en : n' = n := by
      have := a5.symm.trans l3
      simp (disch := omega) only [J_lit, J_neg, J_add, J_sub, J_mul, J_nI, J_le, J_lt, J_eq, J_in, J_nat] at this
      omega
    subst en
    have neg : ¬ SM A_forms x.toNatClampNeg < 0 := by
      rw [hx, a6]
      rcases a1 with rfl | rfl | rfl <;> decide
    have hf : SM A_forms x.toNatClampNeg = f := by rw [hx, a6, ← a4]; exact l2
    by_cases e : 0 ≤ z ∧ z < n'
    · rw [if_pos e]
      refine ⟨fun _ => ?_, fun q => absurd rfl q⟩
      refine ⟨hin, fun q2 hq2 => ?_⟩
      obtain ⟨rfl, -, -⟩ := qcell hm hq2
      have hiz : vp_in (J z) 60 := by simp (disch := omega) only [J_lit, J_neg, J_add, J_sub, J_mul, J_nI, J_le, J_lt, J_eq, J_in, J_nat]; omega
      have hzz : (J z).toNatClampNeg = z.toNat := by simp (disch := omega) only [J_lit, J_neg, J_add, J_sub, J_mul, J_nI, J_le, J_lt, J_eq, J_in, J_nat]
      have body : KM (d + 3) mX12_get [.ref 0, .int x, .int f, .int (J z)] SM (fun r' M' => OpR SC SM SC M' (some (.int (SC ci (J z).toNatClampNeg))) r') := by
        refine get_M z1 z2 bad (fun _ _ => ⟨fun e => absurd e neg, fun _ e => absurd hf e, fun _ _ => ⟨n', hn, by rw [hx]; exact a7, fun _ => ?_, fun q => absurd e q⟩⟩)
        rw [hx, a8 z.toNat (by omega), hzz]
        exact op_same h
      simp only [List.mem_cons, Prod.mk.injEq, List.not_mem_nil, or_false] at hcm
      rcases hcm with ⟨rfl, rfl⟩ | ⟨rfl, rfl⟩ | ⟨rfl, rfl⟩ | ⟨rfl, rfl⟩ <;> exact ⟨hiz, body⟩
    · rw [if_neg e]
      refine ⟨fun q => absurd q (by decide), fun _ => ?_⟩
      refine ⟨rfl, fun q => absurd q (by decide), ?_⟩
      exact get_M z1 z2 bad (fun _ _ => ⟨fun e => absurd e neg, fun _ e => absurd hf e, fun _ _ => ⟨n', hn, by rw [hx]; exact a7, fun q => absurd q e, fun _ => op_find h⟩⟩)
theorem lc_sum {a b c : Int} (a1 : -2147483648 ≤ a) (a2 : a ≤ 2147483647) (b1 : -2147483648 ≤ b) (b2 : b ≤ 2147483647) (c1 : -2147483648 ≤ c) (c2 : c ≤ 2147483647) : 0 < lg_cmp ((J a).toInt64 + (J b).toInt64) (J c).toInt64 ↔ c < a + b := by
  rw [lc_gt, Int64.lt_iff_toInt_lt, Int64.toInt_add, Int32.toInt_toInt64, Int32.toInt_toInt64, Int32.toInt_toInt64, J_int a1 a2, J_int b1 b2, J_int c1 c2]
  have : (a + b).bmod (2 ^ 64) = a + b := Int.bmod_eq_of_le (by omega) (by omega)
  rw [this]
theorem lc_le (x y : Int64) : lg_cmp x y ≤ 0 ↔ ¬ 0 < lg_cmp x y := Int32.not_lt.symm
end sheets5
