/-! texts -/
def txs : List (Int32 × Nat × Nat × Nat × Nat × Nat) := [(0, 0, 2, 3, 24, 5), (1, 1, 4, 5, 40, 6)]
/-- the texts of both: n t bytes b t -/
def TX (SC SM : zS) (b : Nat → Nat → Int) (n : Nat → Nat) : Prop := ∀ x t o oa cap A, (x, t, o, oa, cap, A) ∈ txs → n t ≤ cap ∧ (∀ k, k < n t → 0 ≤ b t k ∧ b t k ≤ 255) ∧ SC o 1 = J (n t) ∧ (∀ k, k < n t → SC oa k = J (b t k)) ∧ SM A_typed t = J (n t) ∧ ∀ k, k < n t → SM A k = J (b t k)
def TFlag (t : Nat) (S S' : zS) : Prop := (t = 0 → (∀ k, k ≠ 10 → k ≠ 12 → k ≠ 13 → k ≠ 14 → S' 0 k = S 0 k) ∧ S' 0 10 = 1 ∧ S' 0 12 = 1 ∧ S' 0 13 = 1 ∧ S' 0 14 = 1) ∧ (t = 1 → (∀ k, k ≠ 11 → S' 0 k = S 0 k) ∧ S' 0 11 = 1)
theorem txs_of {x : Int32} (h : 0 ≤ x ∧ x < 2) : ∃ t o oa cap A, (x, t, o, oa, cap, A) ∈ txs := by
  obtain ⟨z, rfl, r1, r2⟩ := J_of x
  simp (disch := omega) only [J_lit, J_neg, J_add, J_sub, J_mul, J_nI, J_le, J_lt, J_eq, J_in, J_nat] at h
  have : z = 0 ∨ z = 1 := by omega
  rcases this with rfl | rfl
  · exact ⟨0, 2, 3, 24, 5, by simp [txs]; decide⟩
  · exact ⟨1, 4, 5, 40, 6, by simp [txs]; decide⟩
theorem txs_x {x : Int32} {t o oa cap A : Nat} (h : (x, t, o, oa, cap, A) ∈ txs) : x.toNatClampNeg = t ∧ t < 2 ∧ o = 2 + 2 * t ∧ oa = 3 + 2 * t ∧ cap = 24 + 16 * t ∧ A = 5 + t ∧ (0 ≤ x ∧ x < 2) ∧ (0 ≤ x ∧ x ≤ 1) ∧ vp_in x 2 ∧ x = J t := by
  simp only [txs, List.mem_cons, Prod.mk.injEq, List.not_mem_nil, or_false] at h
  rcases h with ⟨rfl, rfl, rfl, rfl, rfl, rfl⟩ | ⟨rfl, rfl, rfl, rfl, rfl, rfl⟩ <;> refine ⟨by decide, by decide, by decide, by decide, by decide, by decide, by decide, by decide, ?_, rfl⟩ <;> (rw [vp_in_iff]; decide)
theorem two_iff {x : Int32} : (0 ≤ x ∧ x < 2) ↔ (0 ≤ x ∧ x ≤ 1) := by
  obtain ⟨z, rfl, r1, r2⟩ := J_of x
  simp (disch := omega) only [J_lit, J_neg, J_add, J_sub, J_mul, J_nI, J_le, J_lt, J_eq, J_in, J_nat]
  omega
section texts
variable {d : Nat} {S SC SM : zS} {Q : Option Value → zS → Prop} {x : Int32} {t o oa cap A : Nat}
theorem tcell {q : Nat} (hm : (x, t, o, oa, cap, A) ∈ txs) (hq : zn [2, 4] x.toNatClampNeg = some q) : q = o := by
  simp only [txs, List.mem_cons, Prod.mk.injEq, List.not_mem_nil, or_false] at hm
  rcases hm with ⟨rfl, rfl, rfl, rfl, rfl, rfl⟩ | ⟨rfl, rfl, rfl, rfl, rfl, rfl⟩ <;> exact (Option.some.inj hq).symm
theorem v_isFull (hm : (x, t, o, oa, cap, A) ∈ txs) {n : Nat} (hn : n ≤ cap) (hS : S o 1 = J n) (h : Q (some (.int (bb (cap ≤ n)))) S) : KC (d + 1) mX10_isFull [.ref o] S Q := by
  simp only [txs, List.mem_cons, Prod.mk.injEq, List.not_mem_nil, or_false] at hm
  rcases hm with ⟨rfl, rfl, rfl, rfl, rfl, rfl⟩ | ⟨rfl, rfl, rfl, rfl, rfl, rfl⟩
  all_goals
    refine eX10_isFull (zRun_wp [] 60 ?_)
    refine ⟨fun c1 => ?_, fun c1 => ?_⟩ <;> rw [hS] at c1 <;> simp (disch := omega) only [J_lit, J_neg, J_add, J_sub, J_mul, J_nI, J_le, J_lt, J_eq, J_in, J_nat] at c1
    · exact ⟨Or.inl rfl, by rwa [bb_f (by omega)] at h⟩
    · exact ⟨Or.inr rfl, by rwa [bb_t (by omega)] at h⟩
theorem v_add (hm : (x, t, o, oa, cap, A) ∈ txs) {n : Nat} {v : Int32} (hn : n < cap) (hS : S o 1 = J n) (h : Q none (zu (zu S oa n v) o 1 (J (n + 1 : Nat)))) : KC (d + 2) mX10_add [.ref o, .int v] S Q := by
  have hfull : ∀ {Q' : Option Value → zS → Prop}, Q' (some (.int (bb (cap ≤ n)))) S → KC (d + 1) mX10_isFull [.ref o] S Q' := fun k => v_isFull hm (Nat.le_of_lt hn) hS k
  simp only [txs, List.mem_cons, Prod.mk.injEq, List.not_mem_nil, or_false] at hm
  rcases hm with ⟨rfl, rfl, rfl, rfl, rfl, rfl⟩ | ⟨rfl, rfl, rfl, rfl, rfl, rfl⟩
  all_goals
    refine eX10_add (zRun_wp [] 60 ?_)
    refine hfull ?_
    rw [bb_f (by omega)]
    refine ⟨fun q => absurd rfl q, fun _ => ?_⟩
    refine ⟨?_, rfl, fun e => absurd e (by decide), ?_⟩
    · rw [hS]; simp (disch := omega) only [J_lit, J_neg, J_add, J_sub, J_mul, J_nI, J_le, J_lt, J_eq, J_in, J_nat]; omega
    · have e1 : (J n).toNatClampNeg = n := by simp (disch := omega) only [J_lit, J_neg, J_add, J_sub, J_mul, J_nI, J_le, J_lt, J_eq, J_in, J_nat]; omega
      rw [hS, e1, zu_same (by omega), hS, J_lit, J_add]
      exact h
theorem v_note (hm : (x, t, o, oa, cap, A) ∈ txs) (h : ∀ S', (∀ c, c ≠ 0 → S' c = S c) → TFlag t S S' → Q none S') : KC (d + 1) mX11_noteChange [.ref 0, .int x] S Q := by
  simp only [txs, List.mem_cons, Prod.mk.injEq, List.not_mem_nil, or_false] at hm
  rcases hm with ⟨rfl, rfl, rfl, rfl, rfl, rfl⟩ | ⟨rfl, rfl, rfl, rfl, rfl, rfl⟩
  · refine v_noteChange0 (h _ (fun c hc => ?_) ⟨fun _ => ⟨fun k a1 a2 a3 a4 => ?_, ?_, ?_, ?_, ?_⟩, fun e => absurd e (by decide)⟩)
    · rw [zu_same hc, zu_same hc, zu_same hc, zu_same hc]
    · simp [zu_r, a1, a2, a3, a4]
    · simp [zu_r]
    · simp [zu_r]
    · simp [zu_r]
    · simp [zu_r]
  · refine v_noteChange1 (h _ (fun c hc => ?_) ⟨fun e => absurd e (by decide), fun _ => ⟨fun k a1 => ?_, ?_⟩⟩)
    · rw [zu_same hc]
    · simp [zu_r, a1]
    · simp [zu_r]
/-- the model's type -/
theorem w_type {M : zS} {v : Int32} {z : Int} (hv : v = J z) (z1 : -2147483648 ≤ z) (z2 : z ≤ 2147483647) (hm : (x, t, o, oa, cap, A) ∈ txs) {n : Nat} (hn : n ≤ cap) (hM : M A_typed t = J n)
    (hbad : ¬ (0 ≤ z ∧ z ≤ 255) → Q (some (.int (-2))) M) (hfull : (0 ≤ z ∧ z ≤ 255) → n = cap → Q (some (.int (-4))) M) (hok : (0 ≤ z ∧ z ≤ 255) → n < cap → Q (some (.int (J (n + 1 : Nat)))) (zu (zu M A n v) A_typed t (J (n + 1 : Nat)))) : KM (d + 3) mX12_type [.ref 0, .int x, .int v] M Q := by
  obtain ⟨hx, ht2, -, -, ecap, eA, -, x01, hin, ex⟩ := txs_x hm
  refine eX12_type (zRun_wp [] 80 ?_)
  refine w_isTwo ?_
  rw [bb_t x01]
  refine ⟨fun q => absurd q (by decide), fun _ => ?_⟩
  refine w_inI ?_
  subst hv
  refine ⟨fun c1 => ?_, fun c1 => ?_⟩
  rotate_left
  · rw [bb_0] at c1
    simp (disch := omega) only [J_lit, J_neg, J_add, J_sub, J_mul, J_nI, J_le, J_lt, J_eq, J_in, J_nat] at c1
    exact hbad (by omega)
  rw [bb_0, Classical.not_not] at c1
  simp (disch := omega) only [J_lit, J_neg, J_add, J_sub, J_mul, J_nI, J_le, J_lt, J_eq, J_in, J_nat] at c1
  have e1 : (J n).toNatClampNeg = n := by simp (disch := omega) only [J_lit, J_neg, J_add, J_sub, J_mul, J_nI, J_le, J_lt, J_eq, J_in, J_nat]; omega
  simp only [txs, List.mem_cons, Prod.mk.injEq, List.not_mem_nil, or_false] at hm
  rcases hm with ⟨rfl, rfl, rfl, rfl, rfl, rfl⟩ | ⟨rfl, rfl, rfl, rfl, rfl, rfl⟩
  · refine ⟨hin, fun q => absurd rfl q, fun _ => ?_⟩
    have hM' : M 7 (Int32.toNatClampNeg 0) = J n := by rw [hx]; exact hM
    refine ⟨fun c2 => ?_, fun c2 => ?_⟩ <;> rw [hM'] at c2 <;> simp (disch := omega) only [J_lit, J_neg, J_add, J_sub, J_mul, J_nI, J_le, J_lt, J_eq, J_in, J_nat] at c2
    · refine ⟨fun q => absurd rfl q, fun _ => ?_⟩
      refine ⟨hin, ?_⟩
      rw [hM']
      refine ⟨by simp (disch := omega) only [J_lit, J_neg, J_add, J_sub, J_mul, J_nI, J_le, J_lt, J_eq, J_in, J_nat]; omega, hin, hin, hin, ?_⟩
      rw [e1, hx]
      have e2 : zu M 5 n (J z) 7 0 + 1 = J (n + 1 : Nat) := by rw [zu_same (by decide), show M 7 0 = J n from hM, J_lit, J_add]; rfl
      rw [e2]
      have e3 : zu (zu M 5 n (J z)) 7 0 (J (n + 1 : Nat)) 7 0 = J (n + 1 : Nat) := by simp [zu_r]
      rw [e3]
      exact hok (by omega) (by omega)
    · exact hfull (by omega) (by omega)
  · refine ⟨hin, fun _ => ?_, fun q => absurd q (by decide)⟩
    have hM' : M 7 (Int32.toNatClampNeg 1) = J n := by rw [hx]; exact hM
    refine ⟨fun c2 => ?_, fun c2 => ?_⟩ <;> rw [hM'] at c2 <;> simp (disch := omega) only [J_lit, J_neg, J_add, J_sub, J_mul, J_nI, J_le, J_lt, J_eq, J_in, J_nat] at c2
    · refine ⟨fun _ => ?_, fun q => absurd q (by decide)⟩
      refine ⟨hin, ?_⟩
      rw [hM']
      refine ⟨by simp (disch := omega) only [J_lit, J_neg, J_add, J_sub, J_mul, J_nI, J_le, J_lt, J_eq, J_in, J_nat]; omega, hin, hin, hin, ?_⟩
      rw [e1, hx]
      have e2 : zu M 6 n (J z) 7 1 + 1 = J (n + 1 : Nat) := by rw [zu_same (by decide), show M 7 1 = J n from hM, J_lit, J_add]; rfl
      rw [e2]
      have e3 : zu (zu M 6 n (J z)) 7 1 (J (n + 1 : Nat)) 7 1 = J (n + 1 : Nat) := by simp [zu_r]
      rw [e3]
      exact hok (by omega) (by omega)
    · exact hfull (by omega) (by omega)
/-- what an act on a text does: nothing, or to that text alone -/
def OpT (SC SM S' M' : zS) (b : Nat → Nat → Int) (n : Nat → Nat) (r r' : Option Value) : Prop := r = r' ∧ ((S' = SC ∧ M' = SM) ∨ ∃ (x : Int32) (t o oa cap A : Nat) (b' : Nat → Nat → Int) (n' : Nat → Nat), (x, t, o, oa, cap, A) ∈ txs ∧ TX S' M' b' n' ∧ (∀ t', t' ≠ t → n' t' = n t' ∧ b' t' = b t') ∧ (∀ c, c ≠ 0 → c ≠ o → c ≠ oa → S' c = SC c) ∧ TFlag t SC S' ∧ ∀ c, c ≠ A → c ≠ A_typed → M' c = SM c)
theorem TX_step {b b' : Nat → Nat → Int} {n n' : Nat → Nat} {S' M' : zS} (hm : (x, t, o, oa, cap, A) ∈ txs) (h : TX SC SM b n) (hb : ∀ t', t' ≠ t → n' t' = n t' ∧ b' t' = b t') (h1 : ∀ c, c ≠ 0 → c ≠ o → c ≠ oa → S' c = SC c) (h2 : ∀ c, c ≠ A → c ≠ A_typed → M' c = SM c) (h3 : ∀ t', t' ≠ t → M' A_typed t' = SM A_typed t')
    (g1 : n' t ≤ cap) (g2 : ∀ k, k < n' t → 0 ≤ b' t k ∧ b' t k ≤ 255) (g3 : S' o 1 = J (n' t)) (g4 : ∀ k, k < n' t → S' oa k = J (b' t k)) (g5 : M' A_typed t = J (n' t)) (g6 : ∀ k, k < n' t → M' A k = J (b' t k)) : TX S' M' b' n' := by
  intro x2 t2 o2 oa2 cap2 A2 hm2
  obtain ⟨-, a1, a2, a3, a4, a5, -⟩ := txs_x hm
  obtain ⟨-, b1, b2, b3, b4, b5, -⟩ := txs_x hm2
  by_cases e : t2 = t
  · subst e
    rw [b2, ← a2, b3, ← a3, b4, ← a4, b5, ← a5]
    exact ⟨g1, g2, g3, g4, g5, g6⟩
  · obtain ⟨k1, k2, k3, k4, k5, k6⟩ := h x2 t2 o2 oa2 cap2 A2 hm2
    obtain ⟨q1, q2⟩ := hb t2 e
    rw [q1, q2, h1 o2 (by omega) (by omega) (by omega), h1 oa2 (by omega) (by omega) (by omega), h3 t2 e, h2 A2 (by omega) (by show A2 ≠ 7; omega)]
    exact ⟨k1, k2, k3, k4, k5, k6⟩
def upF {α : Type} (f : Nat → α) (k : Nat) (v : α) : Nat → α := fun j => if j = k then v else f j
theorem upF_s {α : Type} {f : Nat → α} {k : Nat} {v : α} : upF f k v k = v := if_pos rfl
theorem upF_n {α : Type} {f : Nat → α} {k j : Nat} {v : α} (h : j ≠ k) : upF f k v j = f j := if_neg h
set_option maxHeartbeats 1000000 in
theorem op_type {b : Nat → Nat → Int} {n : Nat → Nat} (h : TX SC SM b n) (x v : Int32) : KC (d + 3) mX11_type [.ref 0, .int x, .int v] SC (fun r S' => KM (d + 3) mX12_type [.ref 0, .int x, .int v] SM (fun r' M' => OpT SC SM S' M' b n r r')) := by
  obtain ⟨z, rfl, z1, z2⟩ := J_of v
  have badM : ¬ (0 ≤ x ∧ x < 2) → KM (d + 3) mX12_type [.ref 0, .int x, .int (J z)] SM (fun r' M' => OpT SC SM SC M' b n (some (.int (-2))) r') := by
    intro hx
    refine eX12_type (zRun_wp [] 80 ?_)
    refine w_isTwo ?_
    refine ⟨fun _ => ⟨rfl, Or.inl ⟨rfl, rfl⟩⟩, fun c1 => ?_⟩
    rw [bb_0, Classical.not_not, ← two_iff] at c1
    exact absurd c1 hx
  refine eX11_type (zRun_wp [] 80 ?_)
  refine v_isText ?_
  refine ⟨fun c1 => ?_, fun c1 => ?_⟩
  · rw [bb_0] at c1
    exact badM c1
  rw [bb_0, Classical.not_not] at c1
  obtain ⟨t, o, oa, cap, A, hm⟩ := txs_of c1
  obtain ⟨hx, ht2, eo, eoa, ecap, eA, -, x01, hin, ex⟩ := txs_x hm
  obtain ⟨k1, k2, k3, k4, k5, k6⟩ := h x t o oa cap A hm
  refine v_isByte ?_
  refine ⟨fun c2 => ?_, fun c2 => ?_⟩
  rotate_left
  · rw [bb_0] at c2
    simp (disch := omega) only [J_lit, J_neg, J_add, J_sub, J_mul, J_nI, J_le, J_lt, J_eq, J_in, J_nat] at c2
    exact w_type rfl z1 z2 hm k1 k5 (fun _ => ⟨rfl, Or.inl ⟨rfl, rfl⟩⟩) (fun q => absurd q (by omega)) (fun q => absurd q (by omega))
  rw [bb_0, Classical.not_not] at c2
  simp (disch := omega) only [J_lit, J_neg, J_add, J_sub, J_mul, J_nI, J_le, J_lt, J_eq, J_in, J_nat] at c2
  refine ⟨hin, fun q hq => ?_⟩
  obtain rfl := tcell hm hq
  have rest : ∀ (S' : zS) (rv : Int32), (∀ c, c ≠ 0 → S' c = zu (zu SC oa (n t) (J z)) q 1 (J (n t + 1 : Nat)) c) → TFlag t (zu (zu SC oa (n t) (J z)) q 1 (J (n t + 1 : Nat))) S' → n t < cap → rv = J (n t + 1 : Nat) → KM (d + 3) mX12_type [.ref 0, .int x, .int (J z)] SM (fun r' M' => OpT SC SM S' M' b n (some (.int rv)) r') := by
    intro S' rv j1 j2 j3 j4
    subst j4
    refine w_type rfl z1 z2 hm k1 k5 (fun q => absurd c2 (by omega)) (fun _ q => absurd q (by omega)) (fun _ _ => ⟨rfl, Or.inr ⟨x, t, q, oa, cap, A, upF b t (upF (b t) (n t) z), upF n t (n t + 1), hm, ?_, ?_, ?_, ?_, ?_⟩⟩)
    · refine TX_step hm h (fun t' e => ⟨upF_n e, upF_n e⟩) (fun c e0 e1 e2 => by rw [j1 c e0, zu_same e1, zu_same e2]) (fun c e1 e2 => by rw [zu_same e2, zu_same e1]) (fun t' e => ?_) ?_ ?_ ?_ ?_ ?_ ?_
      · simp only [zu_r, if_true]; rw [if_neg e, if_neg (by show ¬ (7 = A); omega)]
      · rw [upF_s]; omega
      · rw [upF_s, upF_s]
        intro k hk
        by_cases e : k = n t
        · rw [e, upF_s]; omega
        · rw [upF_n e]; exact k2 k (by omega)
      · rw [upF_s, j1 q (by omega)]; simp [zu_r]
      · rw [upF_s, upF_s]
        intro k hk
        rw [j1 oa (by omega), zu_same (by omega)]
        by_cases e : k = n t
        · rw [e, upF_s]; simp [zu_r]
        · rw [upF_n e]; simp only [zu_r, if_true]; rw [if_neg e]; exact k4 k (by omega)
      · rw [upF_s]; simp [zu_r, A_forms, A_sizes, A_items, A_moved, M_latest, A_run, A_score, A_typed, M_depth, M_bars, A_bar, A_number, M_unlike, M_place, M_reason, M_open, A_opens, A_stages, A_colon, A_semi, A_shut, M_percent, M_bang, M_dollar, M_printed, M_signs, M_deepest, A_which, A_bytesOf, A_order, M_many, A_like, A_played, M_plays, A_passes, A_from, A_cost, A_how, M_foundCost, M_foundHow, M_foundA, M_foundB, A_out, M_shown, A_waits, M_high, M_mendWhich, M_mendCost]
      · rw [upF_s, upF_s]
        intro k hk
        rw [zu_same (by show A ≠ 7; omega)]
        by_cases e : k = n t
        · rw [e, upF_s]; simp [zu_r]
        · rw [upF_n e]; simp only [zu_r, if_true]; rw [if_neg e]; exact k6 k (by omega)
    · exact fun t' e => ⟨upF_n e, upF_n e⟩
    · exact fun c e0 e1 e2 => by rw [j1 c e0, zu_same e1, zu_same e2]
    · unfold TFlag at j2 ⊢
      rw [zu_same (by omega), zu_same (by omega)] at j2
      exact j2
    · exact fun c e1 e2 => by rw [zu_same e2, zu_same e1]
  have full : KC (d + 2) mX10_isFull [.ref q] SC (fun rv S' => ∃ y, rv = some (.int y) ∧ S' = SC ∧ y = bb (cap ≤ n t)) := v_isFull hm k1 k3 ⟨_, rfl, rfl, rfl⟩
  have addk : n t < cap → ∀ {Q' : Option Value → zS → Prop}, Q' none (zu (zu SC oa (n t) (J z)) q 1 (J (n t + 1 : Nat))) → KC (d + 2) mX10_add [.ref q, .int (J z)] SC Q' := fun hc _ k => v_add hm hc k3 k
  have fullk : ∀ {Q' : Option Value → zS → Prop}, Q' (some (.int (bb (cap ≤ n t)))) SC → KC (d + 2) mX10_isFull [.ref q] SC Q' := fun k => v_isFull hm k1 k3 k
  have notek : ∀ {S0 : zS} {Q' : Option Value → zS → Prop}, (∀ S', (∀ c, c ≠ 0 → S' c = S0 c) → TFlag t S0 S' → Q' none S') → KC (d + 2) mX11_noteChange [.ref 0, .int x] S0 Q' := fun k => v_note hm k
  have fullM : ¬ n t < cap → KM (d + 3) mX12_type [.ref 0, .int x, .int (J z)] SM (fun r' M' => OpT SC SM SC M' b n (some (.int (-4))) r') := fun hc => w_type rfl z1 z2 hm k1 k5 (fun q => absurd c2 (by omega)) (fun _ _ => ⟨rfl, Or.inl ⟨rfl, rfl⟩⟩) (fun _ q => absurd q hc)
  clear full
  simp only [txs, List.mem_cons, Prod.mk.injEq, List.not_mem_nil, or_false] at hm
  rcases hm with ⟨rfl, rfl, rfl, rfl, rfl, rfl⟩ | ⟨rfl, rfl, rfl, rfl, rfl, rfl⟩
  all_goals
    refine fullk ?_
    refine ⟨fun c3 => ?_, fun c3 => ?_⟩
    · rw [bb_0] at c3
      refine ⟨hin, fun q hq => ?_⟩
      obtain rfl := Option.some.inj hq
      refine addk (by omega) ?_
      refine notek (fun S' j1 j2 => ?_)
      refine ⟨hin, fun q hq => ?_⟩
      obtain rfl := Option.some.inj hq
      refine rest S' _ j1 j2 (by omega) ?_
      rw [j1 _ (by omega)]
      simp [zu_r]
    · rw [bb_0, Classical.not_not] at c3
      exact fullM (by omega)
end texts
