section sheets4
variable {d : Nat} {SC SM : zS}
theorem qcell {x : Int32} {s c ci q : Nat} (hm : (x, s, c, ci) ∈ shs) (hq : zn [34, 36, 38, 40] x.toNatClampNeg = some q) : q = c ∧ (c, ci) ∈ [(34, 35), (36, 37), (38, 39), (40, 41)] ∧ (c = 34 ∨ c = 36 ∨ c = 38 ∨ c = 40) := by
  simp only [shs, List.mem_cons, Prod.mk.injEq, List.not_mem_nil, or_false] at hm
  rcases hm with ⟨rfl, rfl, rfl, rfl⟩ | ⟨rfl, rfl, rfl, rfl⟩ | ⟨rfl, rfl, rfl, rfl⟩ | ⟨rfl, rfl, rfl, rfl⟩ <;> exact ⟨(Option.some.inj hq).symm, by decide, by decide⟩
/-- lacks: what stands in the way of item i, the finding told -/
theorem w_lacks {Q : Option Value → zS → Prop} {x f : Int32} {z : Int} (z1 : -2147483648 ≤ z) (z2 : z ≤ 2147483647) (hx : vp_in x 4)
    (h1 : SM A_forms x.toNatClampNeg < 0 → Q (some (.int (-11))) (zu SM 0 M_latest 1))
    (h3 : ¬ SM A_forms x.toNatClampNeg < 0 → SM A_forms x.toNatClampNeg ≠ f → Q (some (.int (-13))) (zu SM 0 M_latest 3))
    (h2 : ¬ SM A_forms x.toNatClampNeg < 0 → SM A_forms x.toNatClampNeg = f → ∃ n : Nat, n ≤ 60 ∧ SM A_sizes x.toNatClampNeg = J n ∧ (0 ≤ z ∧ z < n → Q (some (.int 0)) SM) ∧ (¬ (0 ≤ z ∧ z < n) → Q (some (.int (-12))) (zu SM 0 M_latest 2))) : KM (d + 2) mX12_lacks [.ref 0, .int x, .int f, .int (J z)] SM Q := by
  refine eX12_lacks (zRun_wp [] 60 ?_)
  refine ⟨hx, fun c1 => ?_, fun c1 => ?_⟩
  · have c1' := Int32.not_lt.mpr c1
    refine ⟨hx, fun c2 => ?_, fun c2 => ?_⟩
    · refine ⟨hx, ?_⟩
      refine w_inI ?_
      obtain ⟨n, hn, hS, a, b⟩ := h2 c1' c2
      refine ⟨fun c3 => ?_, fun c3 => ?_⟩
      · rw [bb_0, show SM 2 x.toNatClampNeg = J n from hS] at c3
        simp (disch := omega) only [J_lit, J_neg, J_add, J_sub, J_mul, J_nI, J_le, J_lt, J_eq, J_in, J_nat] at c3
        refine w_finds ?_
        exact b (by omega)
      · rw [bb_0, Classical.not_not, show SM 2 x.toNatClampNeg = J n from hS] at c3
        simp (disch := omega) only [J_lit, J_neg, J_add, J_sub, J_mul, J_nI, J_le, J_lt, J_eq, J_in, J_nat] at c3
        exact a (by omega)
    · refine w_finds ?_
      exact h3 c1' c2
  · refine w_finds ?_
    exact h1 (Int32.not_le.mp c1)
theorem lay_M {r : Option Value} {S' : zS} {x f v : Int32} {z : Int} (z1 : -2147483648 ≤ z) (z2 : z ≤ 2147483647)
    (hbad : ¬ ((0 ≤ x ∧ x < 4) ∧ (0 ≤ f ∧ f < 3)) → OpR SC SM S' SM r (some (.int (-2))))
    (hgo : (0 ≤ x ∧ x < 4) → (0 ≤ f ∧ f < 3) → (SM A_forms x.toNatClampNeg < 0 → OpR SC SM S' (zu SM 0 M_latest 1) r (some (.int (-11)))) ∧ (¬ SM A_forms x.toNatClampNeg < 0 → SM A_forms x.toNatClampNeg ≠ f → OpR SC SM S' (zu SM 0 M_latest 3) r (some (.int (-13)))) ∧ (¬ SM A_forms x.toNatClampNeg < 0 → SM A_forms x.toNatClampNeg = f → ∃ n : Nat, n ≤ 60 ∧ SM A_sizes x.toNatClampNeg = J n ∧ (0 ≤ z ∧ z < n → OpR SC SM S' (zu SM A_items (60 * x.toNatClampNeg + z.toNat) (cutv f v)) r (some (.int 1))) ∧ (¬ (0 ≤ z ∧ z < n) → OpR SC SM S' (zu SM 0 M_latest 2) r (some (.int (-12)))))) : KM (d + 3) mX12_lay [.ref 0, .int x, .int f, .int (J z), .int v] SM (fun r' M' => OpR SC SM S' M' r r') := by
  refine eX12_lay (zRun_wp [] 60 ?_)
  refine w_isSheet ?_
  refine ⟨fun c1 => ?_, fun c1 => ?_⟩
  · rw [bb_0, ← four_iff] at c1
    exact hbad (fun q => c1 q.1)
  rw [bb_0, Classical.not_not, ← four_iff] at c1
  refine w_inI ?_
  refine ⟨fun c2 => ?_, fun c2 => ?_⟩
  rotate_left
  · rw [bb_0, ← three_iff] at c2
    exact hbad (fun q => c2 q.2)
  rw [bb_0, Classical.not_not, ← three_iff] at c2
  obtain ⟨g1, g3, g2⟩ := hgo c1 c2
  obtain ⟨s, c, ci, hm⟩ := shs_of c1.1 (lt_le4 c1.2)
  obtain ⟨hx, hs4, -, -, -, -, -, hin, ex⟩ := shs_x hm
  refine w_lacks z1 z2 hin (fun e => ?_) (fun e1 e2 => ?_) (fun e1 e2 => ?_)
  · exact ⟨fun q => absurd q (by decide), fun _ => g1 e⟩
  · exact ⟨fun q => absurd q (by decide), fun _ => g3 e1 e2⟩
  · obtain ⟨n, hn, hS, a, b⟩ := g2 e1 e2
    refine ⟨n, hn, hS, fun e => ?_, fun e => ?_⟩
    · refine ⟨fun _ => ?_, fun q => absurd rfl q⟩
      refine w_cut ?_
      have hi : vp_in (60 * x + J z) 240 := by rw [ex]; simp (disch := omega) only [J_lit, J_neg, J_add, J_sub, J_mul, J_nI, J_le, J_lt, J_eq, J_in, J_nat]; omega
      have hxx : (60 * x + J z).toNatClampNeg = 60 * x.toNatClampNeg + z.toNat := by rw [hx, ex]; simp (disch := omega) only [J_lit, J_neg, J_add, J_sub, J_mul, J_nI, J_le, J_lt, J_eq, J_in, J_nat]; omega
      refine ⟨hi, ?_⟩
      rw [hxx]
      exact a e
    · exact ⟨fun q => absurd q (by decide), fun _ => b e⟩
set_option maxHeartbeats 2000000 in
theorem op_lay (h : ShAll SC SM) (x f i v : Int32) : KC (d + 3) mX11_lay [.ref 0, .int x, .int f, .int i, .int v] SC (fun r S' => KM (d + 3) mX12_lay [.ref 0, .int x, .int f, .int i, .int v] SM (fun r' M' => OpR SC SM S' M' r r')) := by
  obtain ⟨z, rfl, z1, z2⟩ := J_of i
  refine eX11_lay (zRun_wp [] 80 ?_)
  refine v_isSheet ?_
  refine ⟨fun c1 => ?_, fun c1 => ?_⟩
  · rw [bb_0] at c1
    exact lay_M z1 z2 (fun _ => op_same h) (fun q => absurd q c1)
  rw [bb_0, Classical.not_not] at c1
  refine v_isForm ?_
  refine ⟨fun c2 => ?_, fun c2 => ?_⟩
  rotate_left
  · rw [bb_0] at c2
    exact lay_M z1 z2 (fun _ => op_same h) (fun _ q => absurd q c2)
  rw [bb_0, Classical.not_not] at c2
  obtain ⟨s, c, ci, hm⟩ := shs_of c1.1 (lt_le4 c1.2)
  obtain ⟨hx, hs4, e34, e35, -, -, -, hin, -⟩ := shs_x hm
  have hstep := fun SC' SM' => ShAll_step (SC' := SC') (SM' := SM') hm h
  have hR := h.2 x s c ci hm
  refine ⟨hin, fun q hq => ?_⟩
  obtain ⟨rfl, hcm, hc4⟩ := qcell hm hq
  have bad : ∀ {P : Prop}, ¬ ((0 ≤ x ∧ x < 4) ∧ (0 ≤ f ∧ f < 3)) → P := fun e => absurd ⟨c1, c2⟩ e
  refine v_hind hc4 z1 z2 (fun l0 => ?_) (fun l1 => ?_) (fun l0 l2 => ?_) (fun l0 l2 n hn l3 => ?_)
  · rcases hR with ⟨a, -⟩ | ⟨g, n, a1, a2, a3, a4, a5, -⟩
    · exact absurd (a.symm.trans l0) (by decide)
    · exact ⟨n, a2, a5⟩
  · refine ⟨fun q => absurd q (by decide), fun _ => ?_⟩
    refine v_finding ?_
    rcases hR with ⟨a, b⟩ | ⟨g, n, a1, a2, a3, -⟩
    · refine lay_M z1 z2 bad (fun _ _ => ⟨fun _ => op_find h, fun e => ?_, fun e => ?_⟩)
      · rw [hx, b] at e; exact absurd (by decide) e
      · rw [hx, b] at e; exact absurd (by decide) e
    · exact absurd a3 l1
  · refine ⟨fun q => absurd q (by decide), fun _ => ?_⟩
    refine v_finding ?_
    rcases hR with ⟨a, b⟩ | ⟨g, n, a1, a2, a3, a4, a5, a6, a7, -⟩
    · exact absurd (a.symm.trans l0) (by decide)
    · refine lay_M z1 z2 bad (fun _ _ => ⟨fun e => ?_, fun _ _ => op_find h, fun _ e => ?_⟩)
      · rw [hx, a6] at e
        rcases a1 with rfl | rfl | rfl <;> exact absurd e (by decide)
      · rw [hx, a6, ← a4] at e
        exact absurd e l2
  · rcases hR with ⟨a, b⟩ | ⟨g, n', a1, a2, a3, a4, a5, a6, a7, a8⟩
    · exact absurd (a.symm.trans l0) (by decide)
    have en : n' = n := by
      have := a5.symm.trans l3
      simp (disch := omega) only [J_lit, J_neg, J_add, J_sub, J_mul, J_nI, J_le, J_lt, J_eq, J_in, J_nat] at this
      omega
    subst en
    have neg : ¬ SM A_forms x.toNatClampNeg < 0 := by
      rw [hx, a6]
      rcases a1 with rfl | rfl | rfl <;> decide
    have hf : SM A_forms x.toNatClampNeg = f := by rw [hx, a6, ← a4]; exact l2
    by_cases e : 0 ≤ z ∧ z < n'
    · rw [if_pos e]
      refine ⟨fun _ => ?_, fun q => absurd rfl q⟩
      refine ⟨hin, fun q2 hq2 => ?_⟩
      obtain ⟨rfl, -, -⟩ := qcell hm hq2
      have body : KC (d + 2) mX8_put [.ref q2, .int (J z), .int v] SC (fun rv S' => KM (d + 3) mX12_lay [.ref 0, .int x, .int f, .int (J z), .int v] SM (fun r' M' => OpR SC SM S' M' (some (.int 1)) r')) := by
        refine v_put hcm hn l3 e.1 e.2 ?_
        refine lay_M z1 z2 bad (fun _ _ => ⟨fun e => absurd e neg, fun _ e => absurd hf e, fun _ _ => ⟨n', hn, by rw [hx]; exact a7, fun _ => ?_, fun q => absurd e q⟩⟩)
        rw [l2, hx]
        refine ⟨rfl, hstep _ _ ?_ ?_ ?_ ?_ ?_ ?_, ?_, ?_⟩
        · rw [zu_same (by omega), zu_same (by decide)]; exact h.1
        · intro c' _ _ e2; exact zu_same e2
        · intro s' _; rw [zu_same (by decide)]
        · intro s' _; rw [zu_same (by decide)]
        · intro k e2; simp only [zu_r, if_true]; rw [if_neg (by omega)]
        · refine Or.inr ⟨g, n', a1, hn, ?_, ?_, ?_, ?_, ?_, ?_⟩
          · rw [zu_same (by omega)]; exact a3
          · rw [zu_same (by omega)]; exact a4
          · rw [zu_same (by omega)]; exact a5
          · rw [zu_same (by decide)]; exact a6
          · rw [zu_same (by decide)]; exact a7
          · intro k hk
            simp only [zu_r, if_true]
            by_cases e3 : k = z.toNat
            · rw [if_pos e3, if_pos (by omega)]
            · rw [if_neg e3, if_neg (by omega)]
              exact a8 k hk
        · exact ⟨fun c' e1 e2 => zu_same (by omega), fun k _ => by rw [zu_same (by omega)]⟩
        · exact ⟨fun c' e1 => zu_same (by intro e; rw [e] at e1; exact absurd e1 (by decide)), fun k _ => by rw [zu_same (by decide)]⟩
      rcases hc4 with rfl | rfl | rfl | rfl <;> exact body
    · rw [if_neg e]
      refine ⟨fun q => absurd q (by decide), fun _ => ?_⟩
      refine v_finding ?_
      exact lay_M z1 z2 bad (fun _ _ => ⟨fun e => absurd e neg, fun _ e => absurd hf e, fun _ _ => ⟨n', hn, by rw [hx]; exact a7, fun q => absurd q e, fun _ => op_find h⟩⟩)
end sheets4
