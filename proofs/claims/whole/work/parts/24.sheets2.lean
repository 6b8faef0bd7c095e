section sheets2
variable {d : Nat} {S : zS} {Q : Option Value → zS → Prop}
theorem v_holds {c : Nat} (hc : c = 34 ∨ c = 36 ∨ c = 38 ∨ c = 40) {n : Nat} (hn : n ≤ 60) (hS : S c 3 = J n) {z m : Int} (z1 : -2147483648 ≤ z) (z2 : z ≤ 2147483647) (m1 : -2147483648 ≤ m) (m2 : m ≤ 2147483647) (h : Q (some (.int (bb (0 ≤ z ∧ 0 ≤ m ∧ z + m ≤ n)))) S) : KC (d + 1) mX8_holds [.ref c, .int (J z), .int (J m)] S Q := by
  rcases hc with rfl | rfl | rfl | rfl
  all_goals
    refine eX8_holds (zRun_wp [] 60 ?_)
    refine ⟨fun c1 => ?_, fun c1 => ?_⟩ <;> simp (disch := omega) only [J_lit, J_neg, J_add, J_sub, J_mul, J_nI, J_le, J_lt, J_eq, J_in, J_nat] at c1
    · exact ⟨Or.inl rfl, by rwa [bb_f (by omega)] at h⟩
    refine ⟨fun c2 => ?_, fun c2 => ?_⟩ <;> simp (disch := omega) only [J_lit, J_neg, J_add, J_sub, J_mul, J_nI, J_le, J_lt, J_eq, J_in, J_nat] at c2
    · exact ⟨Or.inl rfl, by rwa [bb_f (by omega)] at h⟩
    refine ⟨fun c3 => ?_, fun c3 => ?_⟩ <;> rw [hS] at c3 <;> simp (disch := omega) only [J_lit, J_neg, J_add, J_sub, J_mul, J_nI, J_le, J_lt, J_eq, J_in, J_nat] at c3
    · exact ⟨Or.inl rfl, by rwa [bb_f (by omega)] at h⟩
    refine ⟨fun c4 => ?_, fun c4 => ?_⟩ <;> rw [hS] at c4 <;> simp (disch := omega) only [J_lit, J_neg, J_add, J_sub, J_mul, J_nI, J_le, J_lt, J_eq, J_in, J_nat] at c4
    · exact ⟨Or.inl rfl, by rwa [bb_f (by omega)] at h⟩
    · exact ⟨Or.inr rfl, by rwa [bb_t (by omega)] at h⟩
theorem v_put {c ci : Nat} (hc : (c, ci) ∈ [(34, 35), (36, 37), (38, 39), (40, 41)]) {n : Nat} (hn : n ≤ 60) (hS : S c 3 = J n) {z : Int} {v : Int32} (z1 : 0 ≤ z) (z2 : z < n) (h : Q none (zu S ci z.toNat (cutv (S c 2) v))) : KC (d + 2) mX8_put [.ref c, .int (J z), .int v] S Q := by
  have hin : vp_in (J z) 60 := by simp (disch := omega) only [J_lit, J_neg, J_add, J_sub, J_mul, J_nI, J_le, J_lt, J_eq, J_in, J_nat]; omega
  have hz : (J z).toNatClampNeg = z.toNat := by simp (disch := omega) only [J_lit, J_neg, J_add, J_sub, J_mul, J_nI, J_le, J_lt, J_eq, J_in, J_nat]
  simp only [List.mem_cons, Prod.mk.injEq, List.not_mem_nil, or_false] at hc
  unfold cutv at h
  rcases hc with ⟨rfl, rfl⟩ | ⟨rfl, rfl⟩ | ⟨rfl, rfl⟩ | ⟨rfl, rfl⟩
  all_goals
    refine eX8_put (zRun_wp [] 60 ?_)
    refine v_holds (z := z) (m := 1) (by omega) hn hS (by omega) (by omega) (by omega) (by omega) ?_
    rw [bb_t (by omega)]
    refine ⟨fun _ => ?_, fun e => absurd e (by decide)⟩
    refine ⟨fun c1 => ?_, fun c1 => ?_⟩
    · rw [if_neg c1] at h
      refine ⟨fun c2 => ?_, fun c2 => ?_⟩
      · rw [if_neg c2, ← hz] at h
        exact ⟨hin, h⟩
      · rw [if_pos c2, ← hz] at h
        exact ⟨hin, h⟩
    · rw [if_pos c1, ← hz] at h
      exact ⟨hin, h⟩
theorem v_hind {c : Nat} (hc : c = 34 ∨ c = 36 ∨ c = 38 ∨ c = 40) {f : Int32} {z : Int} (z1 : -2147483648 ≤ z) (z2 : z ≤ 2147483647) (hl : S c 1 = 0 → ∃ n : Nat, n ≤ 60 ∧ S c 3 = J n)
    (h1 : S c 1 ≠ 0 → Q (some (.int 1)) S) (h3 : S c 1 = 0 → S c 2 ≠ f → Q (some (.int 3)) S) (h2 : S c 1 = 0 → S c 2 = f → ∀ n : Nat, n ≤ 60 → S c 3 = J n → Q (some (.int (if 0 ≤ z ∧ z < n then 0 else 2))) S) : KC (d + 2) mX11_hindranceAt [.ref c, .int f, .int (J z)] S Q := by
  rcases hc with rfl | rfl | rfl | rfl
  all_goals
    refine eX11_hindranceAt (zRun_wp [] 60 ?_)
    refine ⟨fun c1 => ?_, fun c1 => h1 c1⟩
    refine ⟨fun c2 => ?_, fun c2 => h3 c1 c2⟩
    obtain ⟨n, hn, hS⟩ := hl c1
    refine v_holds (z := z) (m := 1) (by omega) hn hS (by omega) (by omega) (by omega) (by omega) ?_
    have h2 := h2 c1 c2 n hn hS
    refine ⟨fun c3 => ?_, fun c3 => ?_⟩
    · rw [bb_0] at c3
      rwa [if_neg (by omega)] at h2
    · rw [bb_0, Classical.not_not] at c3
      rwa [if_pos (by omega)] at h2
theorem v_renew {c ci : Nat} (hc : (c, ci) ∈ [(34, 35), (36, 37), (38, 39), (40, 41)]) {n : Nat} {f : Int32} (hn : n ≤ 60) (h : ∀ S', (∀ c', c' ≠ c → c' ≠ ci → S' c' = S c') → S' c 1 = 0 → S' c 2 = f → S' c 3 = J n → (∀ k, k < 60 → S' ci k = 0) → Q none S') : KC (d + 1) mX8_renew [.ref c, .int f, .int (J n)] S Q := by
  simp only [List.mem_cons, Prod.mk.injEq, List.not_mem_nil, or_false] at hc
  have hmx : (if (0 : Int32) < (if nI 60 < J n then nI 60 else J n) then (if nI 60 < J n then nI 60 else J n) else 0) = J n := by
    have e1 : ¬ nI 60 < J n := by simp (disch := omega) only [J_lit, J_neg, J_add, J_sub, J_mul, J_nI, J_le, J_lt, J_eq, J_in, J_nat]; omega
    rw [if_neg e1]
    by_cases e : n = 0
    · subst e; rfl
    · rw [if_pos (by simp (disch := omega) only [J_lit, J_neg, J_add, J_sub, J_mul, J_nI, J_le, J_lt, J_eq, J_in, J_nat]; omega)]
  have loop : ∀ (j i : Nat) (x3 : Int32) (S' : zS), i + j = 60 → x3 = J i → (∀ c', c' ≠ ci → S' c' = S c') → (∀ k, k < i → S' ci k = 0) → zWp shC (KC d) kX8_renew 0 Q 2 [some (.ref c), some (.int f), some (.int (J n)), some (.int x3)] [] S' := by
    intro j
    induction j with
    | zero =>
      intro i x3 S' hi e3 k1 k2
      subst e3
      rcases hc with ⟨rfl, rfl⟩ | ⟨rfl, rfl⟩ | ⟨rfl, rfl⟩ | ⟨rfl, rfl⟩
      all_goals
        refine zRun_wp [2] 60 ?_
        refine ⟨fun _ => ?_, fun c1 => ?_⟩
        · refine ⟨rfl, fun _ => Or.inl rfl, rfl, fun e => absurd e (by decide), rfl, fun e => absurd e (by decide), ?_⟩
          rw [hmx]
          refine h _ (fun c' a1 a2 => ?_) ?_ ?_ ?_ (fun k hk => ?_)
          · rw [zu_same a1, zu_same a1, zu_same a1]
            exact k1 c' a2
          · simp [zu_r]
          · simp [zu_r]
          · simp [zu_r]
          · simp only [zu_r]
            simp
            exact k2 k (by omega)
        · simp (disch := omega) only [J_lit, J_neg, J_add, J_sub, J_mul, J_nI, J_le, J_lt, J_eq, J_in, J_nat] at c1
          omega
    | succ j ih =>
      intro i x3 S' hi e3 k1 k2
      subst e3
      have hin : vp_in (J i) 60 := by simp (disch := omega) only [J_lit, J_neg, J_add, J_sub, J_mul, J_nI, J_le, J_lt, J_eq, J_in, J_nat]; omega
      have hx : (J i).toNatClampNeg = i := by simp (disch := omega) only [J_lit, J_neg, J_add, J_sub, J_mul, J_nI, J_le, J_lt, J_eq, J_in, J_nat]; omega
      rcases hc with ⟨rfl, rfl⟩ | ⟨rfl, rfl⟩ | ⟨rfl, rfl⟩ | ⟨rfl, rfl⟩
      all_goals
        refine zRun_wp [2] 60 ?_
        refine ⟨fun c1 => ?_, fun _ => ?_⟩
        · simp (disch := omega) only [J_lit, J_neg, J_add, J_sub, J_mul, J_nI, J_le, J_lt, J_eq, J_in, J_nat] at c1
          omega
        · refine ⟨hin, ?_⟩
          refine ih (i + 1) _ _ (by omega) (by simp only [J_lit, J_neg, J_add, J_sub, J_mul, J_nI]; congr 1) (fun c' e => ?_) (fun k hk => ?_)
          · rw [zu_same e]
            exact k1 c' e
          · rw [hx]
            simp only [zu_r, if_true]
            by_cases e : k = i
            · rw [if_pos e]
            · rw [if_neg e]
              exact k2 k (by omega)
  have fin := loop 60 0 0 S (by omega) rfl (fun _ _ => rfl) (fun k hk => absurd hk (by omega))
  rcases hc with ⟨rfl, rfl⟩ | ⟨rfl, rfl⟩ | ⟨rfl, rfl⟩ | ⟨rfl, rfl⟩
  all_goals
    refine eX8_renew (zRun_wp [2] 60 ?_)
    exact fin
end sheets2
section sheets3
variable {d : Nat} {SC SM : zS}
/-- the two ways in which a sheet's number is tested say the same -/
theorem four_iff {x : Int32} : (0 ≤ x ∧ x < 4) ↔ (0 ≤ x ∧ x ≤ 3) := ⟨fun h => ⟨h.1, lt_le4 h.2⟩, fun h => ⟨h.1, le_lt4 h.2⟩⟩
theorem three_iff {x : Int32} : (0 ≤ x ∧ x < 3) ↔ (0 ≤ x ∧ x ≤ 2) := by
  obtain ⟨z, rfl, r1, r2⟩ := J_of x
  simp (disch := omega) only [J_lit, J_neg, J_add, J_sub, J_mul, J_nI, J_le, J_lt, J_eq, J_in, J_nat]
  omega
theorem form3 {x : Int32} (h : 0 ≤ x ∧ x < 3) : x = 0 ∨ x = 1 ∨ x = 2 := by
  obtain ⟨z, rfl, r1, r2⟩ := J_of x
  simp (disch := omega) only [J_lit, J_neg, J_add, J_sub, J_mul, J_nI, J_le, J_lt, J_eq, J_in, J_nat] at h ⊢
  omega
set_option maxHeartbeats 2000000 in
theorem op_sheet (h : ShAll SC SM) (x f n : Int32) : KC (d + 3) mX11_sheet [.ref 0, .int x, .int f, .int n] SC (fun r S' => KM (d + 3) mX12_sheet [.ref 0, .int x, .int f, .int n] SM (fun r' M' => OpR SC SM S' M' r r')) := by
  obtain ⟨z, rfl, z1, z2⟩ := J_of n
  have model : ∀ (S' : zS) (r : Option Value), (¬ (0 ≤ x ∧ x < 4) ∨ ¬ (0 ≤ f ∧ f < 3) ∨ 60 < z → OpR SC SM S' SM r (some (.int (-2)))) → ((0 ≤ x ∧ x < 4) → (0 ≤ f ∧ f < 3) → z < 0 → OpR SC SM S' (zu SM 0 M_latest 5) r (some (.int (-15)))) → ((0 ≤ x ∧ x < 4) → (0 ≤ f ∧ f < 3) → 0 ≤ z → z ≤ 60 → ∀ M', (∀ c, c ≠ A_forms → c ≠ A_sizes → c ≠ A_items → M' c = SM c) → (∀ k, M' A_forms k = if k = x.toNatClampNeg then f else SM A_forms k) → (∀ k, M' A_sizes k = if k = x.toNatClampNeg then J z else SM A_sizes k) → (∀ k, M' A_items k = if 60 * x.toNatClampNeg ≤ k ∧ k < 60 * x.toNatClampNeg + z.toNat then 0 else SM A_items k) → OpR SC SM S' M' r (some (.int (J z)))) → KM (d + 3) mX12_sheet [.ref 0, .int x, .int f, .int (J z)] SM (fun r' M' => OpR SC SM S' M' r r') := by
    intro S' r hbad hneg hok
    have loop : ∀ (j i : Nat) (x4 : Int32) (M' : zS), i + j = z.toNat → x4 = J i → (0 ≤ x ∧ x < 4) → (0 ≤ f ∧ f < 3) → 0 ≤ z → z ≤ 60 → (∀ c, c ≠ A_forms → c ≠ A_sizes → c ≠ A_items → M' c = SM c) → (∀ k, M' A_forms k = if k = x.toNatClampNeg then f else SM A_forms k) → (∀ k, M' A_sizes k = if k = x.toNatClampNeg then J z else SM A_sizes k) → (∀ k, M' A_items k = if 60 * x.toNatClampNeg ≤ k ∧ k < 60 * x.toNatClampNeg + i then 0 else SM A_items k) → zWp shM (KM (d + 2)) kX12_sheet 1 (fun r' M' => OpR SC SM S' M' r r') 55 [some (.ref 0), some (.int x), some (.int f), some (.int (J z)), some (.int x4)] [] M' := by
      intro j
      induction j with
      | zero =>
        intro i x4 M' hi e4 c1 c2 z3 z4 k1 k2 k3 k4
        subst e4
        refine zRun_wp [55] 80 ?_
        refine ⟨fun _ => ?_, fun c3 => ?_⟩
        · exact hok c1 c2 z3 z4 M' k1 k2 k3 (by rw [← hi]; exact k4)
        · simp (disch := omega) only [J_lit, J_neg, J_add, J_sub, J_mul, J_nI, J_le, J_lt, J_eq, J_in, J_nat] at c3
          omega
      | succ j ih =>
        intro i x4 M' hi e4 c1 c2 z3 z4 k1 k2 k3 k4
        subst e4
        refine zRun_wp [55] 80 ?_
        refine ⟨fun c3 => ?_, fun c3 => ?_⟩
        · simp (disch := omega) only [J_lit, J_neg, J_add, J_sub, J_mul, J_nI, J_le, J_lt, J_eq, J_in, J_nat] at c3
          omega
        · obtain ⟨zx, rfl, x1, x2⟩ := J_of x
          simp (disch := omega) only [J_lit, J_neg, J_add, J_sub, J_mul, J_nI, J_le, J_lt, J_eq, J_in, J_nat] at c1 k2 k3 k4 ih
          have hin : vp_in (60 * J zx + J i) 240 := by simp (disch := omega) only [J_lit, J_neg, J_add, J_sub, J_mul, J_nI, J_le, J_lt, J_eq, J_in, J_nat]; omega
          have hx : (60 * J zx + J i).toNatClampNeg = 60 * zx.toNat + i := by simp (disch := omega) only [J_lit, J_neg, J_add, J_sub, J_mul, J_nI, J_le, J_lt, J_eq, J_in, J_nat]; omega
          refine ⟨hin, ?_⟩
          refine ih (i + 1) _ _ (by omega) (by simp only [J_lit, J_neg, J_add, J_sub, J_mul, J_nI]; congr 1) c1 c2 z3 z4 (fun c' e1 e2 e3 => ?_) (fun k => ?_) (fun k => ?_) (fun k => ?_)
          · rw [zu_same e3]
            exact k1 c' e1 e2 e3
          · rw [zu_same (by decide)]; exact k2 k
          · rw [zu_same (by decide)]; exact k3 k
          · rw [hx]
            simp only [zu_r, if_true]
            rw [k4 k]
            by_cases e : k = 60 * zx.toNat + i
            · rw [if_pos e, if_pos (by omega)]; rfl
            · rw [if_neg e]
              by_cases e2 : 60 * zx.toNat ≤ k ∧ k < 60 * zx.toNat + i
              · rw [if_pos e2, if_pos (by omega)]
              · rw [if_neg e2, if_neg (by omega)]
    refine eX12_sheet (zRun_wp [55] 80 ?_)
    refine w_isSheet ?_
    refine ⟨fun c1 => ?_, fun c1 => ?_⟩
    · rw [bb_0, ← four_iff] at c1
      exact hbad (Or.inl c1)
    rw [bb_0, Classical.not_not, ← four_iff] at c1
    refine w_inI ?_
    refine ⟨fun c2 => ?_, fun c2 => ?_⟩
    · rw [bb_0, ← three_iff] at c2
      exact hbad (Or.inr (Or.inl c2))
    rw [bb_0, Classical.not_not, ← three_iff] at c2
    refine ⟨fun c3 => ?_, fun c3 => ?_⟩ <;> simp (disch := omega) only [J_lit, J_neg, J_add, J_sub, J_mul, J_nI, J_le, J_lt, J_eq, J_in, J_nat] at c3
    · refine ⟨fun c4 => ?_, fun c4 => ?_⟩ <;> simp (disch := omega) only [J_lit, J_neg, J_add, J_sub, J_mul, J_nI, J_le, J_lt, J_eq, J_in, J_nat] at c4
      · obtain ⟨s, c, ci, hm⟩ := shs_of c1.1 (lt_le4 c1.2)
        obtain ⟨-, -, -, -, -, -, -, hin, -⟩ := shs_x hm
        refine ⟨hin, hin, ?_⟩
        refine loop z.toNat 0 _ _ (by omega) rfl c1 c2 c4 (by omega) (fun c' e1 e2 e3 => ?_) (fun k => ?_) (fun k => ?_) (fun k => ?_)
        · rw [zu_same e2, zu_same e1]
        · rw [zu_same (by decide)]; simp [zu_r, A_forms, A_sizes, A_items, A_moved, M_latest, A_run, A_score, A_typed, M_depth, M_bars, A_bar, A_number, M_unlike, M_place, M_reason, M_open, A_opens, A_stages, A_colon, A_semi, A_shut, M_percent, M_bang, M_dollar, M_printed, M_signs, M_deepest, A_which, A_bytesOf, A_order, M_many, A_like, A_played, M_plays, A_passes, A_from, A_cost, A_how, M_foundCost, M_foundHow, M_foundA, M_foundB, A_out, M_shown, A_waits, M_high, M_mendWhich, M_mendCost]
        · simp [zu_r, A_forms, A_sizes, A_items, A_moved, M_latest, A_run, A_score, A_typed, M_depth, M_bars, A_bar, A_number, M_unlike, M_place, M_reason, M_open, A_opens, A_stages, A_colon, A_semi, A_shut, M_percent, M_bang, M_dollar, M_printed, M_signs, M_deepest, A_which, A_bytesOf, A_order, M_many, A_like, A_played, M_plays, A_passes, A_from, A_cost, A_how, M_foundCost, M_foundHow, M_foundA, M_foundB, A_out, M_shown, A_waits, M_high, M_mendWhich, M_mendCost]
        · rw [zu_same (by decide), zu_same (by decide), if_neg (by omega)]
      · refine w_finds ?_
        exact hneg c1 c2 (by omega)
    · exact hbad (Or.inr (Or.inr (by omega)))
  refine eX11_sheet (zRun_wp [] 80 ?_)
  refine v_isSheet ?_
  refine ⟨fun c1 => ?_, fun c1 => ?_⟩
  · rw [bb_0] at c1
    exact model _ _ (fun _ => op_same h) (fun q => absurd q c1) (fun q => absurd q c1)
  rw [bb_0, Classical.not_not] at c1
  refine v_isForm ?_
  refine ⟨fun c2 => ?_, fun c2 => ?_⟩
  · rw [bb_0] at c2
    exact model _ _ (fun _ => op_same h) (fun _ q => absurd q c2) (fun _ q => absurd q c2)
  rw [bb_0, Classical.not_not] at c2
  refine ⟨fun c3 => ?_, fun c3 => ?_⟩ <;> simp (disch := omega) only [J_lit, J_neg, J_add, J_sub, J_mul, J_nI, J_le, J_lt, J_eq, J_in, J_nat] at c3
  · refine ⟨fun c4 => ?_, fun c4 => ?_⟩ <;> simp (disch := omega) only [J_lit, J_neg, J_add, J_sub, J_mul, J_nI, J_le, J_lt, J_eq, J_in, J_nat] at c4
    · obtain ⟨s, c, ci, hm⟩ := shs_of c1.1 (lt_le4 c1.2)
      obtain ⟨hx, hs4, e34, e35, -, -, -, hin, -⟩ := shs_x hm
      have hstep := fun SC' SM' => ShAll_step (SC' := SC') (SM' := SM') hm h
      refine ⟨hin, fun q hq => ?_⟩
      have hq' : q = c ∧ (c, ci) ∈ [(34, 35), (36, 37), (38, 39), (40, 41)] := by
        simp only [shs, List.mem_cons, Prod.mk.injEq, List.not_mem_nil, or_false] at hm
        rcases hm with ⟨rfl, rfl, rfl, rfl⟩ | ⟨rfl, rfl, rfl, rfl⟩ | ⟨rfl, rfl, rfl, rfl⟩ | ⟨rfl, rfl, rfl, rfl⟩ <;> exact ⟨(Option.some.inj hq).symm, by decide⟩
      obtain ⟨rfl, hcm⟩ := hq'
      have ez : J z = J (z.toNat : Int) := by congr 1; omega
      have body : KC (d + 2) mX8_renew [.ref q, .int f, .int (J z)] SC (fun rv S' => KM (d + 3) mX12_sheet [.ref 0, .int x, .int f, .int (J z)] SM (fun r' M' => OpR SC SM S' M' (some (.int (J z))) r')) := by
        rw [ez]
        refine v_renew hcm (by omega) (fun S' k1 k2 k3 k4 k5 => ?_)
        rw [← ez]
        refine model _ _ (fun e => e.elim (fun q => absurd c1 q) (fun e => e.elim (fun q => absurd c2 q) (fun e => by omega))) (fun _ _ e => by omega) (fun _ _ _ _ M' j1 j2 j3 j4 => ?_)
        rw [hx] at j2 j3 j4
        refine ⟨rfl, hstep _ _ ?_ ?_ ?_ ?_ ?_ ?_, ?_, ?_⟩
        · rw [k1 0 (by omega) (by omega), j1 0 (by decide) (by decide) (by decide)]
          exact h.1
        · intro c' _ e1 e2
          exact k1 c' e1 e2
        · intro s' e
          rw [j2, if_neg e]
        · intro s' e
          rw [j3, if_neg e]
        · intro k e
          rw [j4, if_neg (by omega)]
        · refine Or.inr ⟨f, z.toNat, form3 c2, by omega, k2, k3, k4, ?_, ?_, ?_⟩
          · rw [j2, if_pos rfl]
          · rw [j3, if_pos rfl, ← ez]
          · intro k hk
            rw [j4, if_pos (by omega), k5 k (by omega)]
        · exact ⟨fun c' e1 e2 => k1 c' (by omega) (by omega), fun k _ => by rw [k1 0 (by omega) (by omega)]⟩
        · exact ⟨fun c' e1 => j1 c' (by intro e; rw [e] at e1; exact absurd e1 (by decide)) (by intro e; rw [e] at e1; exact absurd e1 (by decide)) (by intro e; rw [e] at e1; exact absurd e1 (by decide)), fun k _ => by rw [j1 0 (by decide) (by decide) (by decide)]⟩
      simp only [List.mem_cons, Prod.mk.injEq, List.not_mem_nil, or_false] at hcm
      rcases hcm with ⟨rfl, rfl⟩ | ⟨rfl, rfl⟩ | ⟨rfl, rfl⟩ | ⟨rfl, rfl⟩ <;> exact body
    · refine v_finding ?_
      exact model _ _ (fun e => e.elim (fun q => absurd c1 q) (fun e => e.elim (fun q => absurd c2 q) (fun e => by omega))) (fun _ _ _ => op_find h) (fun _ _ e => by omega)
  · exact model _ _ (fun _ => op_same h) (fun _ _ e => by omega) (fun _ _ _ e => by omega)
end sheets3
