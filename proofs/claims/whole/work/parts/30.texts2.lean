section texts2
variable {d : Nat} {SC SM : zS} {b : Nat → Nat → Int} {n : Nat → Nat}
set_option maxHeartbeats 1000000 in
theorem op_wipe (h : TX SC SM b n) (x : Int32) : KC (d + 3) mX11_wipe [.ref 0, .int x] SC (fun r S' => KM (d + 3) mX12_wipe [.ref 0, .int x] SM (fun r' M' => OpT SC SM S' M' b n r r')) := by
  refine eX11_wipe (zRun_wp [] 80 ?_)
  refine v_isText ?_
  refine ⟨fun c1 => ?_, fun c1 => ?_⟩
  rotate_left
  · rw [bb_0] at c1
    refine eX12_wipe (zRun_wp [] 80 ?_)
    refine w_isTwo ?_
    refine ⟨fun c2 => ?_, fun _ => ⟨rfl, Or.inl ⟨rfl, rfl⟩⟩⟩
    rw [bb_0, Classical.not_not, ← two_iff] at c2
    exact absurd c2 c1
  rw [bb_0, Classical.not_not] at c1
  obtain ⟨t, o, oa, cap, A, hm⟩ := txs_of c1
  obtain ⟨hx, ht2, eo, eoa, ecap, eA, -, x01, hin, ex⟩ := txs_x hm
  obtain ⟨k1, k2, k3, k4, k5, k6⟩ := h x t o oa cap A hm
  refine ⟨hin, fun q hq => ?_⟩
  obtain rfl := tcell hm hq
  have notek : ∀ {S0 : zS} {Q' : Option Value → zS → Prop}, (∀ S', (∀ c, c ≠ 0 → S' c = S0 c) → TFlag t S0 S' → Q' none S') → KC (d + 2) mX11_noteChange [.ref 0, .int x] S0 Q' := fun k => v_note hm k
  have rest : ∀ (S' : zS) (rv : Int32), (∀ c, c ≠ 0 → S' c = zu SC q 1 0 c) → TFlag t (zu SC q 1 0) S' → rv = J (n t) → KM (d + 3) mX12_wipe [.ref 0, .int x] SM (fun r' M' => OpT SC SM S' M' b n (some (.int rv)) r') := by
    intro S' rv j1 j2 j4
    subst j4
    refine eX12_wipe (zRun_wp [] 80 ?_)
    refine w_isTwo ?_
    rw [bb_t x01]
    refine ⟨fun _ => ?_, fun q => absurd q (by decide)⟩
    refine ⟨hin, hin, ?_⟩
    rw [hx, show SM 7 t = J (n t) from k5]
    refine ⟨rfl, Or.inr ⟨x, t, q, oa, cap, A, b, upF n t 0, hm, ?_, ?_, ?_, ?_, ?_⟩⟩
    · refine TX_step hm h (fun t' e => ⟨upF_n e, rfl⟩) (fun c e0 e1 e2 => by rw [j1 c e0, zu_same e1]) (fun c e1 e2 => by rw [zu_same e2]) (fun t' e => ?_) ?_ ?_ ?_ ?_ ?_ ?_
      · simp only [zu_r, A_forms, A_sizes, A_items, A_moved, M_latest, A_run, A_score, A_typed, M_depth, M_bars, A_bar, A_number, M_unlike, M_place, M_reason, M_open, A_opens, A_stages, A_colon, A_semi, A_shut, M_percent, M_bang, M_dollar, M_printed, M_signs, M_deepest, A_which, A_bytesOf, A_order, M_many, A_like, A_played, M_plays, A_passes, A_from, A_cost, A_how, M_foundCost, M_foundHow, M_foundA, M_foundB, A_out, M_shown, A_waits, M_high, M_mendWhich, M_mendCost, if_true]; rw [if_neg e]
      · rw [upF_s]; omega
      · rw [upF_s]; intro k hk; exact absurd hk (by omega)
      · rw [upF_s, j1 q (by omega)]; simp [zu_r]; rfl
      · rw [upF_s]; intro k hk; exact absurd hk (by omega)
      · rw [upF_s]; simp [zu_r, A_forms, A_sizes, A_items, A_moved, M_latest, A_run, A_score, A_typed, M_depth, M_bars, A_bar, A_number, M_unlike, M_place, M_reason, M_open, A_opens, A_stages, A_colon, A_semi, A_shut, M_percent, M_bang, M_dollar, M_printed, M_signs, M_deepest, A_which, A_bytesOf, A_order, M_many, A_like, A_played, M_plays, A_passes, A_from, A_cost, A_how, M_foundCost, M_foundHow, M_foundA, M_foundB, A_out, M_shown, A_waits, M_high, M_mendWhich, M_mendCost]; rfl
      · rw [upF_s]; intro k hk; exact absurd hk (by omega)
    · exact fun t' e => ⟨upF_n e, rfl⟩
    · exact fun c e0 e1 e2 => by rw [j1 c e0, zu_same e1]
    · unfold TFlag at j2 ⊢
      rw [zu_same (by omega)] at j2
      exact j2
    · exact fun c e1 e2 => by rw [zu_same e2]
  simp only [txs, List.mem_cons, Prod.mk.injEq, List.not_mem_nil, or_false] at hm
  rcases hm with ⟨rfl, rfl, rfl, rfl, rfl, rfl⟩ | ⟨rfl, rfl, rfl, rfl, rfl, rfl⟩
  all_goals
    refine ⟨hin, fun q hq => ?_⟩
    obtain rfl := Option.some.inj hq
    refine ⟨rfl, fun e => absurd e (by decide), ?_⟩
    refine notek (fun S' j1 j2 => ?_)
    exact rest S' _ j1 j2 k3
set_option maxHeartbeats 1000000 in
theorem op_undo (h : TX SC SM b n) (x : Int32) : KC (d + 3) mX11_undo [.ref 0, .int x] SC (fun r S' => KM (d + 3) mX12_undo [.ref 0, .int x] SM (fun r' M' => OpT SC SM S' M' b n r r')) := by
  refine eX11_undo (zRun_wp [] 80 ?_)
  refine v_isText ?_
  refine ⟨fun c1 => ?_, fun c1 => ?_⟩
  rotate_left
  · rw [bb_0] at c1
    refine eX12_undo (zRun_wp [] 80 ?_)
    refine w_isTwo ?_
    refine ⟨fun c2 => ?_, fun _ => ⟨rfl, Or.inl ⟨rfl, rfl⟩⟩⟩
    rw [bb_0, Classical.not_not, ← two_iff] at c2
    exact absurd c2 c1
  rw [bb_0, Classical.not_not] at c1
  obtain ⟨t, o, oa, cap, A, hm⟩ := txs_of c1
  obtain ⟨hx, ht2, eo, eoa, ecap, eA, -, x01, hin, ex⟩ := txs_x hm
  obtain ⟨k1, k2, k3, k4, k5, k6⟩ := h x t o oa cap A hm
  refine ⟨hin, fun q hq => ?_⟩
  obtain rfl := tcell hm hq
  have notek : ∀ {S0 : zS} {Q' : Option Value → zS → Prop}, (∀ S', (∀ c, c ≠ 0 → S' c = S0 c) → TFlag t S0 S' → Q' none S') → KC (d + 2) mX11_noteChange [.ref 0, .int x] S0 Q' := fun k => v_note hm k
  have none0 : n t = 0 → KM (d + 3) mX12_undo [.ref 0, .int x] SM (fun r' M' => OpT SC SM SC M' b n (some (.int (-3))) r') := by
    intro e0
    refine eX12_undo (zRun_wp [] 80 ?_)
    refine w_isTwo ?_
    rw [bb_t x01]
    refine ⟨fun _ => ?_, fun q => absurd q (by decide)⟩
    refine ⟨hin, fun c2 => ?_, fun _ => ⟨rfl, Or.inl ⟨rfl, rfl⟩⟩⟩
    rw [hx, show SM 7 t = J (n t) from k5, e0] at c2
    exact absurd rfl c2
  have rest : ∀ (S' : zS) (rv : Int32), n t ≠ 0 → (∀ c, c ≠ 0 → S' c = zu SC q 1 (J (n t - 1 : Nat)) c) → TFlag t (zu SC q 1 (J (n t - 1 : Nat))) S' → rv = J (n t - 1 : Nat) → KM (d + 3) mX12_undo [.ref 0, .int x] SM (fun r' M' => OpT SC SM S' M' b n (some (.int rv)) r') := by
    intro S' rv j0 j1 j2 j4
    subst j4
    have em : J (n t) - 1 = J (n t - 1 : Nat) := by rw [J_lit, J_sub]; congr 1; omega
    refine eX12_undo (zRun_wp [] 80 ?_)
    refine w_isTwo ?_
    rw [bb_t x01]
    refine ⟨fun _ => ?_, fun q => absurd q (by decide)⟩
    refine ⟨hin, fun _ => ?_, fun c2 => ?_⟩
    rotate_left
    · rw [hx, show SM 7 t = J (n t) from k5] at c2
      simp (disch := omega) only [J_lit, J_neg, J_add, J_sub, J_mul, J_nI, J_le, J_lt, J_eq, J_in, J_nat] at c2
      omega
    refine ⟨hin, hin, hin, ?_⟩
    rw [hx, show SM 7 t = J (n t) from k5, em]
    have e3 : zu SM 7 t (J (n t - 1 : Nat)) 7 t = J (n t - 1 : Nat) := by simp [zu_r]
    rw [e3]
    refine ⟨rfl, Or.inr ⟨x, t, q, oa, cap, A, b, upF n t (n t - 1), hm, ?_, ?_, ?_, ?_, ?_⟩⟩
    · refine TX_step hm h (fun t' e => ⟨upF_n e, rfl⟩) (fun c e0 e1 e2 => by rw [j1 c e0, zu_same e1]) (fun c e1 e2 => by rw [zu_same e2]) (fun t' e => ?_) ?_ ?_ ?_ ?_ ?_ ?_
      · simp only [zu_r, A_forms, A_sizes, A_items, A_moved, M_latest, A_run, A_score, A_typed, M_depth, M_bars, A_bar, A_number, M_unlike, M_place, M_reason, M_open, A_opens, A_stages, A_colon, A_semi, A_shut, M_percent, M_bang, M_dollar, M_printed, M_signs, M_deepest, A_which, A_bytesOf, A_order, M_many, A_like, A_played, M_plays, A_passes, A_from, A_cost, A_how, M_foundCost, M_foundHow, M_foundA, M_foundB, A_out, M_shown, A_waits, M_high, M_mendWhich, M_mendCost, if_true]; rw [if_neg e]
      · rw [upF_s]; omega
      · rw [upF_s]; intro k hk; exact k2 k (by omega)
      · rw [upF_s, j1 q (by omega)]; simp [zu_r]
      · rw [upF_s]; intro k hk; rw [j1 oa (by omega), zu_same (by omega)]; exact k4 k (by omega)
      · rw [upF_s]; simp [zu_r, A_forms, A_sizes, A_items, A_moved, M_latest, A_run, A_score, A_typed, M_depth, M_bars, A_bar, A_number, M_unlike, M_place, M_reason, M_open, A_opens, A_stages, A_colon, A_semi, A_shut, M_percent, M_bang, M_dollar, M_printed, M_signs, M_deepest, A_which, A_bytesOf, A_order, M_many, A_like, A_played, M_plays, A_passes, A_from, A_cost, A_how, M_foundCost, M_foundHow, M_foundA, M_foundB, A_out, M_shown, A_waits, M_high, M_mendWhich, M_mendCost]
      · rw [upF_s]; intro k hk; rw [zu_same (by omega)]; exact k6 k (by omega)
    · exact fun t' e => ⟨upF_n e, rfl⟩
    · exact fun c e0 e1 e2 => by rw [j1 c e0, zu_same e1]
    · unfold TFlag at j2 ⊢
      rw [zu_same (by omega)] at j2
      exact j2
    · exact fun c e1 e2 => by rw [zu_same e2]
  have em : n t ≠ 0 → J (n t) - 1 = J (n t - 1 : Nat) := fun j0 => by rw [J_lit, J_sub]; congr 1; omega
  simp only [txs, List.mem_cons, Prod.mk.injEq, List.not_mem_nil, or_false] at hm
  rcases hm with ⟨rfl, rfl, rfl, rfl, rfl, rfl⟩ | ⟨rfl, rfl, rfl, rfl, rfl, rfl⟩
  all_goals
    refine ⟨fun c2 => ?_, fun c2 => ?_⟩ <;> rw [k3] at c2 <;> simp (disch := omega) only [J_lit, J_neg, J_add, J_sub, J_mul, J_nI, J_le, J_lt, J_eq, J_in, J_nat] at c2
    rotate_left
    · exact none0 (by omega)
    refine ⟨hin, fun q hq => ?_⟩
    obtain rfl := Option.some.inj hq
    refine ⟨rfl, fun e => absurd e (by decide), ?_⟩
    refine notek (fun S' j1 j2 => ?_)
    refine ⟨hin, fun q hq => ?_⟩
    obtain rfl := Option.some.inj hq
    rw [k3, em (by omega)] at j1 j2
    refine rest S' _ (by omega) j1 j2 ?_
    rw [j1 _ (by omega)]
    simp [zu_r]
theorem op_depth (hd : ∃ z : Int, SC 0 8 = J z ∧ SM 0 M_depth = J z) (v : Int32) : KC (d + 3) mX11_depth [.ref 0, .int v] SC (fun r S' => KM (d + 3) mX12_depth [.ref 0, .int v] SM (fun r' M' => r = r' ∧ ((S' = SC ∧ M' = SM) ∨ ((0 ≤ v ∧ v ≤ 3) ∧ M' = zu SM 0 M_depth v ∧ ((SC 0 8 = v ∧ S' = zu SC 0 8 v) ∨ (SC 0 8 ≠ v ∧ S' = zu (zu (zu SC 0 8 v) 0 13 1) 0 14 1)))))) := by
  obtain ⟨z, d1, d2⟩ := hd
  have model : ∀ (S' : zS) (r : Option Value) (P : zS → Option Value → Prop), (¬ (0 ≤ v ∧ v ≤ 3) → P SM (some (.int (-2)))) → ((0 ≤ v ∧ v ≤ 3) → P (zu SM 0 M_depth v) (some (.int (J z)))) → KM (d + 3) mX12_depth [.ref 0, .int v] SM (fun r' M' => P M' r') := by
    intro S' r P p1 p2
    refine eX12_depth (zRun_wp [] 80 ?_)
    refine w_inI ?_
    refine ⟨fun c1 => ?_, fun c1 => ?_⟩
    · rw [bb_0, Classical.not_not] at c1
      refine ⟨rfl, fun e => absurd e (by decide), ?_⟩
      rw [show SM 0 8 = J z from d2]
      exact p2 c1
    · rw [bb_0] at c1
      exact p1 c1
  refine eX11_depth (zRun_wp [] 80 ?_)
  refine v_isDepth ?_
  refine ⟨fun c1 => ?_, fun c1 => ?_⟩
  rotate_left
  · rw [bb_0] at c1
    exact model SC none _ (fun _ => ⟨rfl, Or.inl ⟨rfl, rfl⟩⟩) (fun q => absurd q c1)
  rw [bb_0, Classical.not_not] at c1
  refine ⟨rfl, fun e => absurd e (by decide), fun c2 => ?_, fun c2 => ?_⟩
  · rw [d1]
    exact model SC none _ (fun q => absurd c1 q) (fun _ => ⟨rfl, Or.inr ⟨c1, rfl, Or.inl ⟨by rw [← d1]; exact c2, rfl⟩⟩⟩)
  · refine ⟨rfl, fun _ => Or.inr rfl, rfl, fun _ => Or.inr rfl, ?_⟩
    rw [d1]
    exact model SC none _ (fun q => absurd c1 q) (fun _ => ⟨rfl, Or.inr ⟨c1, rfl, Or.inr ⟨by rw [← d1]; exact c2, rfl⟩⟩⟩)
end texts2
