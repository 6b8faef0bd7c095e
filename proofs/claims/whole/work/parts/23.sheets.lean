/-! sheets: the class's cells and the model's agree -/
/-- sheet s: its number, its cell, its items' cell -/
def shs : List (Int32 × Nat × Nat × Nat) := [(0, 0, 34, 35), (1, 1, 36, 37), (2, 2, 38, 39), (3, 3, 40, 41)]
def ShR (SC SM : zS) (s c ci : Nat) : Prop := (SC c 1 = 1 ∧ SM A_forms s = -1) ∨
  ∃ f : Int32, ∃ n : Nat, (f = 0 ∨ f = 1 ∨ f = 2) ∧ n ≤ 60 ∧ SC c 1 = 0 ∧ SC c 2 = f ∧ SC c 3 = J n ∧ SM A_forms s = f ∧ SM A_sizes s = J n ∧ ∀ k, k < n → SM A_items (60 * s + k) = SC ci k
def ShAll (SC SM : zS) : Prop := SC 0 9 = SM 0 M_latest ∧ ∀ x s c ci, (x, s, c, ci) ∈ shs → ShR SC SM s c ci
/-- what an act on sheets leaves as it was -/
def FrC (S S' : zS) : Prop := (∀ c, c ≠ 0 → c ≤ 33 → S' c = S c) ∧ ∀ k, k ≠ 9 → S' 0 k = S 0 k
def FrM (M M' : zS) : Prop := (∀ c, 5 ≤ c → M' c = M c) ∧ ∀ k, k ≠ M_latest → M' 0 k = M 0 k
theorem shs_of {x : Int32} (h1 : 0 ≤ x) (h2 : x ≤ 3) : ∃ s c ci, (x, s, c, ci) ∈ shs := by
  obtain ⟨z, rfl, r1, r2⟩ := J_of x
  simp (disch := omega) only [J_lit, J_neg, J_add, J_sub, J_mul, J_nI, J_le, J_lt, J_eq, J_in, J_nat] at h1 h2
  have : z = 0 ∨ z = 1 ∨ z = 2 ∨ z = 3 := by omega
  rcases this with rfl | rfl | rfl | rfl
  · exact ⟨0, 34, 35, by simp [shs]; decide⟩
  · exact ⟨1, 36, 37, by simp [shs]; decide⟩
  · exact ⟨2, 38, 39, by simp [shs]; decide⟩
  · exact ⟨3, 40, 41, by simp [shs]; decide⟩
theorem shs_x {x : Int32} {s c ci : Nat} (h : (x, s, c, ci) ∈ shs) : x.toNatClampNeg = s ∧ s < 4 ∧ c = 34 + 2 * s ∧ ci = 35 + 2 * s ∧ 0 ≤ x ∧ x ≤ 3 ∧ x < 4 ∧ vp_in x 4 ∧ x = J s := by
  simp only [shs, List.mem_cons, Prod.mk.injEq, List.not_mem_nil, or_false] at h
  rcases h with ⟨rfl, rfl, rfl, rfl⟩ | ⟨rfl, rfl, rfl, rfl⟩ | ⟨rfl, rfl, rfl, rfl⟩ | ⟨rfl, rfl, rfl, rfl⟩ <;> refine ⟨by decide, by decide, by decide, by decide, by decide, by decide, by decide, ?_, rfl⟩ <;> (rw [vp_in_iff]; decide)
theorem ShR_congr {SC SM SC' SM' : zS} {s c ci : Nat} (h : ShR SC SM s c ci) (h1 : ∀ k, k ≤ 3 → SC' c k = SC c k) (h2 : SC' ci = SC ci) (h3 : SM' A_forms s = SM A_forms s) (h4 : SM' A_sizes s = SM A_sizes s) (h5 : ∀ k, k < 60 → SM' A_items (60 * s + k) = SM A_items (60 * s + k)) : ShR SC' SM' s c ci := by
  rcases h with ⟨a, b⟩ | ⟨f, n, a1, a2, a3, a4, a5, a6, a7, a8⟩
  · exact Or.inl ⟨by rw [h1 1 (by omega)]; exact a, by rw [h3]; exact b⟩
  · refine Or.inr ⟨f, n, a1, a2, ?_, ?_, ?_, ?_, ?_, ?_⟩
    · rw [h1 1 (by omega)]; exact a3
    · rw [h1 2 (by omega)]; exact a4
    · rw [h1 3 (by omega)]; exact a5
    · rw [h3]; exact a6
    · rw [h4]; exact a7
    · intro k hk
      rw [h5 k (by omega), h2]
      exact a8 k hk
/-- a sheet has changed, the others not -/
theorem ShAll_step {SC SM SC' SM' : zS} {x : Int32} {s c ci : Nat} (hm : (x, s, c, ci) ∈ shs) (h : ShAll SC SM) (hl : SC' 0 9 = SM' 0 M_latest) (h1 : ∀ c', 34 ≤ c' → c' ≠ c → c' ≠ ci → SC' c' = SC c') (h3 : ∀ s', s' ≠ s → SM' A_forms s' = SM A_forms s') (h4 : ∀ s', s' ≠ s → SM' A_sizes s' = SM A_sizes s') (h5 : ∀ k, k < 60 * s ∨ 60 * s + 60 ≤ k → SM' A_items k = SM A_items k) (hs : ShR SC' SM' s c ci) : ShAll SC' SM' := by
  refine ⟨hl, fun x' s' c' ci' hm' => ?_⟩
  obtain ⟨-, a1, a2, a3, -, -, -, -, a4⟩ := shs_x hm
  obtain ⟨-, b1, b2, b3, -, -, -, -, b4⟩ := shs_x hm'
  by_cases e : s' = s
  · subst e
    rw [b2, ← a2, b3, ← a3]
    exact hs
  · refine ShR_congr (h.2 x' s' c' ci' hm') (fun k _ => ?_) ?_ (h3 s' e) (h4 s' e) (fun k hk => h5 _ (by omega))
    · rw [h1 c' (by omega) (by omega) (by omega)]
    · rw [h1 ci' (by omega) (by omega) (by omega)]
section sheets
variable {d : Nat} {SC SM : zS}
theorem FrC_rfl : FrC SC SC := ⟨fun _ _ _ => rfl, fun _ _ => rfl⟩
theorem FrM_rfl : FrM SM SM := ⟨fun _ _ => rfl, fun _ _ => rfl⟩
theorem FrC_9 {x : Int32} : FrC SC (zu SC 0 9 x) := ⟨fun c h _ => zu_same h, fun k hk => by simp [zu_r, A_forms, A_sizes, A_items, A_moved, M_latest, A_run, A_score, A_typed, M_depth, M_bars, A_bar, A_number, M_unlike, M_place, M_reason, M_open, A_opens, A_stages, A_colon, A_semi, A_shut, M_percent, M_bang, M_dollar, M_printed, M_signs, M_deepest, A_which, A_bytesOf, A_order, M_many, A_like, A_played, M_plays, A_passes, A_from, A_cost, A_how, M_foundCost, M_foundHow, M_foundA, M_foundB, A_out, M_shown, A_waits, M_high, M_mendWhich, M_mendCost, hk]⟩
theorem FrM_l {x : Int32} : FrM SM (zu SM 0 M_latest x) := ⟨fun c h => zu_same (by omega), fun k hk => by simp only [zu_r, if_true]; rw [if_neg hk]⟩
theorem ShAll_find {x : Int32} (h : ShAll SC SM) : ShAll (zu SC 0 9 x) (zu SM 0 M_latest x) := by
  refine ⟨by simp [zu_r, A_forms, A_sizes, A_items, A_moved, M_latest, A_run, A_score, A_typed, M_depth, M_bars, A_bar, A_number, M_unlike, M_place, M_reason, M_open, A_opens, A_stages, A_colon, A_semi, A_shut, M_percent, M_bang, M_dollar, M_printed, M_signs, M_deepest, A_which, A_bytesOf, A_order, M_many, A_like, A_played, M_plays, A_passes, A_from, A_cost, A_how, M_foundCost, M_foundHow, M_foundA, M_foundB, A_out, M_shown, A_waits, M_high, M_mendWhich, M_mendCost], fun x' s c ci hm => ?_⟩
  obtain ⟨-, b1, b2, b3, -, -, -, -, b4⟩ := shs_x hm
  exact ShR_congr (h.2 x' s c ci hm) (fun k _ => by rw [zu_same (by omega)]) (zu_same (by omega)) (by rw [zu_same (by decide)]) (by rw [zu_same (by decide)]) (fun k _ => by rw [zu_same (by decide)])
abbrev OpR (SC SM S' M' : zS) (r r' : Option Value) : Prop := r = r' ∧ ShAll S' M' ∧ FrC SC S' ∧ FrM SM M'
/-- both refuse, nothing changes -/
theorem op_same (h : ShAll SC SM) {v : Option Value} : OpR SC SM SC SM v v := ⟨rfl, h, FrC_rfl, FrM_rfl⟩
theorem op_find (h : ShAll SC SM) {x : Int32} {v : Option Value} : OpR SC SM (zu SC 0 9 x) (zu SM 0 M_latest x) v v := ⟨rfl, ShAll_find h, FrC_9, FrM_l⟩
theorem lt_le4 {x : Int32} (h : x < 4) : x ≤ 3 := by
  obtain ⟨z, rfl, r1, r2⟩ := J_of x
  simp (disch := omega) only [J_lit, J_neg, J_add, J_sub, J_mul, J_nI, J_le, J_lt, J_eq, J_in, J_nat] at h ⊢
  omega
theorem le_lt4 {x : Int32} (h : x ≤ 3) : x < 4 := by
  obtain ⟨z, rfl, r1, r2⟩ := J_of x
  simp (disch := omega) only [J_lit, J_neg, J_add, J_sub, J_mul, J_nI, J_le, J_lt, J_eq, J_in, J_nat] at h ⊢
  omega
set_option maxHeartbeats 1000000 in
theorem op_lose (h : ShAll SC SM) (x : Int32) : KC (d + 3) mX11_lose [.ref 0, .int x] SC (fun r S' => KM (d + 3) mX12_lose [.ref 0, .int x] SM (fun r' M' => OpR SC SM S' M' r r')) := by
  refine eX11_lose (zRun_wp [] 60 ?_)
  refine v_isSheet ?_
  refine ⟨fun c1 => ?_, fun c1 => ?_⟩
  · rw [bb_0, Classical.not_not] at c1
    obtain ⟨s, c, ci, hm⟩ := shs_of c1.1 (lt_le4 c1.2)
    obtain ⟨hx, hs4, -, -, -, hx3, -, hin, -⟩ := shs_x hm
    have hstep := fun SC' SM' => ShAll_step (SC' := SC') (SM' := SM') hm h
    have hR := h.2 x s c ci hm
    simp only [shs, List.mem_cons, Prod.mk.injEq, List.not_mem_nil, or_false] at hm
    rcases hm with ⟨rfl, rfl, rfl, rfl⟩ | ⟨rfl, rfl, rfl, rfl⟩ | ⟨rfl, rfl, rfl, rfl⟩ | ⟨rfl, rfl, rfl, rfl⟩
    all_goals
      refine ⟨hin, fun q hq => ?_⟩
      obtain rfl := Option.some.inj hq
      rcases hR with ⟨l1, l2⟩ | ⟨f, n, f1, f2, f3, f4, f5, f6, f7, f8⟩
      · refine ⟨fun c2 => absurd (l1.symm.trans c2) (by decide), fun _ => ?_⟩
        refine v_finding ?_
        refine eX12_lose (zRun_wp [] 60 ?_)
        refine w_isSheet ?_
        refine ⟨fun _ => ?_, fun c2 => absurd (bb_0.mp c2) (Classical.not_not.mpr ⟨c1.1, hx3⟩)⟩
        refine ⟨hin, fun c3 => ?_, fun _ => ?_⟩
        · rw [hx, l2] at c3
          exact absurd c3 (by decide)
        · refine w_finds ?_
          exact op_find h
      · refine ⟨fun _ => ?_, fun c2 => absurd f3 c2⟩
        refine ⟨hin, fun q hq => ?_⟩
        obtain rfl := Option.some.inj hq
        refine ⟨rfl, fun _ => Or.inr rfl, hin, fun q hq => ?_⟩
        obtain rfl := Option.some.inj hq
        refine eX12_lose (zRun_wp [] 60 ?_)
        refine w_isSheet ?_
        refine ⟨fun _ => ?_, fun c2 => absurd (bb_0.mp c2) (Classical.not_not.mpr ⟨c1.1, hx3⟩)⟩
        refine ⟨hin, fun _ => ?_, fun c3 => ?_⟩
        · refine ⟨hin, hin, ?_⟩
          rw [hx]
          refine ⟨?_, hstep _ _ ?_ ?_ ?_ ?_ ?_ ?_, ?_, ?_⟩
          · simp [zu_r, A_forms, A_sizes, A_items, A_moved, M_latest, A_run, A_score, A_typed, M_depth, M_bars, A_bar, A_number, M_unlike, M_place, M_reason, M_open, A_opens, A_stages, A_colon, A_semi, A_shut, M_percent, M_bang, M_dollar, M_printed, M_signs, M_deepest, A_which, A_bytesOf, A_order, M_many, A_like, A_played, M_plays, A_passes, A_from, A_cost, A_how, M_foundCost, M_foundHow, M_foundA, M_foundB, A_out, M_shown, A_waits, M_high, M_mendWhich, M_mendCost, f5, f7]
          · simp [zu_r, A_forms, A_sizes, A_items, A_moved, M_latest, A_run, A_score, A_typed, M_depth, M_bars, A_bar, A_number, M_unlike, M_place, M_reason, M_open, A_opens, A_stages, A_colon, A_semi, A_shut, M_percent, M_bang, M_dollar, M_printed, M_signs, M_deepest, A_which, A_bytesOf, A_order, M_many, A_like, A_played, M_plays, A_passes, A_from, A_cost, A_how, M_foundCost, M_foundHow, M_foundA, M_foundB, A_out, M_shown, A_waits, M_high, M_mendWhich, M_mendCost, h.1]
          · intro c' _ e1 _
            exact zu_same e1
          · intro s' e
            simp [zu_r, A_forms, A_sizes, A_items, A_moved, M_latest, A_run, A_score, A_typed, M_depth, M_bars, A_bar, A_number, M_unlike, M_place, M_reason, M_open, A_opens, A_stages, A_colon, A_semi, A_shut, M_percent, M_bang, M_dollar, M_printed, M_signs, M_deepest, A_which, A_bytesOf, A_order, M_many, A_like, A_played, M_plays, A_passes, A_from, A_cost, A_how, M_foundCost, M_foundHow, M_foundA, M_foundB, A_out, M_shown, A_waits, M_high, M_mendWhich, M_mendCost, e]
          · intro s' _
            simp [zu_r, A_forms, A_sizes, A_items, A_moved, M_latest, A_run, A_score, A_typed, M_depth, M_bars, A_bar, A_number, M_unlike, M_place, M_reason, M_open, A_opens, A_stages, A_colon, A_semi, A_shut, M_percent, M_bang, M_dollar, M_printed, M_signs, M_deepest, A_which, A_bytesOf, A_order, M_many, A_like, A_played, M_plays, A_passes, A_from, A_cost, A_how, M_foundCost, M_foundHow, M_foundA, M_foundB, A_out, M_shown, A_waits, M_high, M_mendWhich, M_mendCost]
          · intro k _
            simp [zu_r, A_forms, A_sizes, A_items, A_moved, M_latest, A_run, A_score, A_typed, M_depth, M_bars, A_bar, A_number, M_unlike, M_place, M_reason, M_open, A_opens, A_stages, A_colon, A_semi, A_shut, M_percent, M_bang, M_dollar, M_printed, M_signs, M_deepest, A_which, A_bytesOf, A_order, M_many, A_like, A_played, M_plays, A_passes, A_from, A_cost, A_how, M_foundCost, M_foundHow, M_foundA, M_foundB, A_out, M_shown, A_waits, M_high, M_mendWhich, M_mendCost]
          · exact Or.inl ⟨by simp [zu_r, A_forms, A_sizes, A_items, A_moved, M_latest, A_run, A_score, A_typed, M_depth, M_bars, A_bar, A_number, M_unlike, M_place, M_reason, M_open, A_opens, A_stages, A_colon, A_semi, A_shut, M_percent, M_bang, M_dollar, M_printed, M_signs, M_deepest, A_which, A_bytesOf, A_order, M_many, A_like, A_played, M_plays, A_passes, A_from, A_cost, A_how, M_foundCost, M_foundHow, M_foundA, M_foundB, A_out, M_shown, A_waits, M_high, M_mendWhich, M_mendCost], by simp [zu_r, A_forms, A_sizes, A_items, A_moved, M_latest, A_run, A_score, A_typed, M_depth, M_bars, A_bar, A_number, M_unlike, M_place, M_reason, M_open, A_opens, A_stages, A_colon, A_semi, A_shut, M_percent, M_bang, M_dollar, M_printed, M_signs, M_deepest, A_which, A_bytesOf, A_order, M_many, A_like, A_played, M_plays, A_passes, A_from, A_cost, A_how, M_foundCost, M_foundHow, M_foundA, M_foundB, A_out, M_shown, A_waits, M_high, M_mendWhich, M_mendCost]⟩
          · exact ⟨fun c' _ e => zu_same (by omega), fun k _ => by rw [zu_same (by decide)]⟩
          · exact ⟨fun c' e => zu_same (by omega), fun k _ => by rw [zu_same (by decide)]⟩
        · rw [hx, f6] at c3
          rcases f1 with rfl | rfl | rfl <;> exact absurd (by decide) c3
  · rw [bb_0] at c1
    refine eX12_lose (zRun_wp [] 60 ?_)
    refine w_isSheet ?_
    refine ⟨fun c2 => ?_, fun _ => op_same h⟩
    rw [bb_0, Classical.not_not] at c2
    exact absurd ⟨c2.1, le_lt4 c2.2⟩ c1
end sheets
