section sheets7
variable {d : Nat} {SC SM : zS}
theorem copy_bad {Q : Option Value → zS → Prop} {x y i j n : Int32} (h : ¬ ((0 ≤ x ∧ x < 4) ∧ (0 ≤ y ∧ y < 4))) (hq : Q (some (.int (-2))) SC) : KC (d + 3) mX11_copy [.ref 0, .int x, .int i, .int y, .int j, .int n] SC Q := by
  refine eX11_copy (zRun_wp [33] 80 ?_)
  refine v_isSheet ?_
  refine ⟨fun _ => hq, fun c1 => ?_⟩
  rw [bb_0, Classical.not_not] at c1
  refine v_isSheet ?_
  refine ⟨fun c2 => ?_, fun _ => hq⟩
  rw [bb_0, Classical.not_not] at c2
  exact absurd ⟨c1, c2⟩ h
theorem copy_badM {Q : Option Value → zS → Prop} {x y i j n : Int32} (h : ¬ ((0 ≤ x ∧ x < 4) ∧ (0 ≤ y ∧ y < 4))) (hq : Q (some (.int (-2))) SM) : KM (d + 3) mX12_copy [.ref 0, .int x, .int i, .int y, .int j, .int n] SM Q := by
  refine eX12_copy (zRun_wp [120, 157] 80 ?_)
  refine w_isSheet ?_
  refine ⟨fun _ => hq, fun c1 => ?_⟩
  rw [bb_0, Classical.not_not, ← four_iff] at c1
  refine w_isSheet ?_
  refine ⟨fun c2 => ?_, fun _ => hq⟩
  rw [bb_0, Classical.not_not, ← four_iff] at c2
  exact absurd ⟨c1, c2⟩ h
theorem f_neg {f : Int32} (h : f = 0 ∨ f = 1 ∨ f = 2) : ¬ f < 0 := by rcases h with rfl | rfl | rfl <;> decide
theorem op_copy (h : ShAll SC SM) (x i y j n : Int32) : KC (d + 3) mX11_copy [.ref 0, .int x, .int i, .int y, .int j, .int n] SC (fun r S' => KM (d + 3) mX12_copy [.ref 0, .int x, .int i, .int y, .int j, .int n] SM (fun r' M' => OpR SC SM S' M' r r')) := by
  by_cases hb : (0 ≤ x ∧ x < 4) ∧ (0 ≤ y ∧ y < 4)
  rotate_left
  · exact copy_bad hb (copy_badM hb (op_same h))
  obtain ⟨c1, c2⟩ := hb
  obtain ⟨i, rfl, i1, i2⟩ := J_of i
  obtain ⟨j, rfl, j1, j2⟩ := J_of j
  obtain ⟨n, rfl, n1, n2⟩ := J_of n
  obtain ⟨s, c, ci, hm⟩ := shs_of c1.1 (lt_le4 c1.2)
  obtain ⟨t, e, ei, ht⟩ := shs_of c2.1 (lt_le4 c2.2)
  obtain ⟨-, hs4, e34, e35, -⟩ := shs_x hm
  obtain ⟨-, ht4, e34', e35', -⟩ := shs_x ht
  have hstep := fun SC' SM' => ShAll_step (SC' := SC') (SM' := SM') ht h
  have hR := h.2 x s c ci hm
  have hR' := h.2 y t e ei ht
  have sz : ∀ {s c ci : Nat}, ShR SC SM s c ci → SC c 1 = 0 → ∃ m : Nat, m ≤ 60 ∧ SC c 3 = J m := by
    intro s c ci hR l0
    rcases hR with ⟨a, -⟩ | ⟨g, n, a1, a2, a3, a4, a5, -⟩
    · exact absurd (a.symm.trans l0) (by decide)
    · exact ⟨n, a2, a5⟩
  have lost : ∀ {s c ci : Nat}, ShR SC SM s c ci → (SC c 1 = 0 ↔ ¬ SM A_forms s < 0) := by
    intro s c ci hR
    rcases hR with ⟨a, b⟩ | ⟨g, n, a1, a2, a3, a4, a5, a6, -⟩
    · rw [a, b]; decide
    · rw [a3, a6]; exact ⟨fun _ => f_neg a1, fun _ => rfl⟩
  have form : ∀ {s c ci : Nat}, ShR SC SM s c ci → SC c 1 = 0 → SC c 2 = SM A_forms s ∧ SM A_sizes s = SC c 3 := by
    intro s c ci hR l0
    rcases hR with ⟨a, -⟩ | ⟨g, n, a1, a2, a3, a4, a5, a6, a7, -⟩
    · exact absurd (a.symm.trans l0) (by decide)
    · exact ⟨by rw [a4, a6], by rw [a5, a7]⟩
  refine v_copy i1 i2 j1 j2 n1 n2 hm ht (sz hR) (sz hR') (fun hn => ?_) (fun l1 l2 l3 => ?_) (fun l1 l2 l3 m1 m2 k1 k2 k3 k4 => ⟨fun hin => ?_, fun hin => ?_⟩)
  · refine w_copy i1 i2 j1 j2 n1 n2 hm ht (fun _ => op_find h) (fun q1 q2 => ?_) (fun q1 q2 => ?_)
    · rcases hn with hn | hn
      · exact absurd ((lost hR).mpr q1) hn
      · exact absurd ((lost hR').mpr q2) hn
    · rcases hn with hn | hn
      · exact absurd ((lost hR).mpr q1) hn
      · exact absurd ((lost hR').mpr q2) hn
  · have nn : ¬ (SM A_forms s < 0 ∨ SM A_forms t < 0) := by
      rintro (q | q)
      · exact (lost hR).mp l1 q
      · exact (lost hR').mp l2 q
    refine w_copy i1 i2 j1 j2 n1 n2 hm ht (fun q => absurd q nn) (fun _ _ _ => op_find h) (fun _ _ q => ?_)
    rw [(form hR l1).1, (form hR' l2).1] at l3
    exact absurd q l3
  all_goals
    have nn : ¬ (SM A_forms s < 0 ∨ SM A_forms t < 0) := by
      rintro (q | q)
      · exact (lost hR).mp l1 q
      · exact (lost hR').mp l2 q
    have ff := form hR l1
    have ff' := form hR' l2
    rw [ff.1, ff'.1] at l3
    refine w_copy i1 i2 j1 j2 n1 n2 hm ht (fun q => absurd q nn) (fun _ _ q => absurd l3 q) (fun _ _ _ => ⟨m1, m2, k1, k2, by rw [ff.2, k3], by rw [ff'.2, k4], fun q => ?_, fun q => ?_⟩)
  · intro M' q1 q2
    refine ⟨rfl, hstep _ _ ?_ ?_ ?_ ?_ ?_ ?_, ?_, ?_⟩
    · rw [zcp_same (by omega), q1 0 (by decide) (by decide)]; exact h.1
    · intro c' _ _ e2; exact zcp_same e2
    · intro s' _; rw [q1 A_forms (by decide) (by decide)]
    · intro s' _; rw [q1 A_sizes (by decide) (by decide)]
    · intro k e2; rw [q2, if_neg (by omega)]
    · rcases hR' with ⟨a, -⟩ | ⟨g, m, a1, a2, a3, a4, a5, a6, a7, a8⟩
      · exact absurd (a.symm.trans l2) (by decide)
      have em : m = m2 := by
        have := a5.symm.trans k4
        simp (disch := omega) only [J_lit, J_neg, J_add, J_sub, J_mul, J_nI, J_le, J_lt, J_eq, J_in, J_nat] at this
        omega
      subst em
      refine Or.inr ⟨g, m, a1, a2, ?_, ?_, ?_, ?_, ?_, ?_⟩
      · rw [zcp_same (by omega)]; exact a3
      · rw [zcp_same (by omega)]; exact a4
      · rw [zcp_same (by omega)]; exact a5
      · rw [q1 A_forms (by decide) (by decide)]; exact a6
      · rw [q1 A_sizes (by decide) (by decide)]; exact a7
      · intro k hk
        rw [q2, zcp_self]
        unfold va_cpy
        by_cases e2 : j.toNat ≤ k ∧ k < j.toNat + n.toNat
        · rw [if_pos e2, if_pos (by omega)]
          rcases hR with ⟨b, -⟩ | ⟨g', m', b1, b2, b3, b4, b5, b6, b7, b8⟩
          · exact absurd (b.symm.trans l1) (by decide)
          have em : m' = m1 := by
            have := b5.symm.trans k3
            simp (disch := omega) only [J_lit, J_neg, J_add, J_sub, J_mul, J_nI, J_le, J_lt, J_eq, J_in, J_nat] at this
            omega
          subst em
          rw [← b8 _ (by omega)]
          congr 1
          omega
        · rw [if_neg e2, if_neg (by omega)]
          exact a8 k hk
    · exact ⟨fun c' e1 e2 => zcp_same (by omega), fun k _ => by rw [zcp_same (by omega)]⟩
    · exact ⟨fun c' e1 => q1 c' (by intro e; rw [e] at e1; exact absurd e1 (by decide)) (by intro e; rw [e] at e1; exact absurd e1 (by decide)), fun k _ => by rw [q1 0 (by decide) (by decide)]⟩
  · exact absurd hin q
  · exact absurd q hin
  · exact op_find h
end sheets7
