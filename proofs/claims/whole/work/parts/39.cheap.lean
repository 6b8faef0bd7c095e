section cheap
variable {d : Nat} {S : zS} {Q : Option Value → zS → Prop} {c c1 c2 c3 m : Nat} {h : Nat → Int}
theorem Jmin {a b : Nat} (ha : a ≤ 100000) (hb : b ≤ 100000) : (if J b < J a then J b else J a) = J (Nat.min a b : Nat) := by
  by_cases q : b < a
  · rw [if_pos (by simp (disch := omega) only [J_lit, J_neg, J_add, J_sub, J_mul, J_nI, J_le, J_lt, J_eq, J_in, J_nat]; omega), show Nat.min a b = b from Nat.min_eq_right (by omega)]
  · rw [if_neg (by simp (disch := omega) only [J_lit, J_neg, J_add, J_sub, J_mul, J_nI, J_le, J_lt, J_eq, J_in, J_nat]; omega), show Nat.min a b = a from Nat.min_eq_left (by omega)]
set_option maxHeartbeats 2000000 in
/-- the cheapest with two endings: no cheaper than the best, and than none of them dearer -/
theorem v_cheapestEndings (hc : (c, c1, c2, c3) ∈ sps) (hS : SpOk S c c1 c2 h m) {dd i j : Nat} (hd : dd ≤ 2) (hij : i + 2 ≤ j) (hj : j ≤ m) (hC : ∀ i' j', i' < j' → i ≤ i' → j' ≤ j → j' - i' < j - i → CoOk S c3 h dd i' j')
    (hq : ∀ v : Nat, v ≤ 8000 → cv (co h (dd + 1) i (j - i)) ≤ v → (∀ a b, 1 ≤ a → 1 ≤ b → 2 * a + b + 1 ≤ j - i → er h i (i + a + b) a → v ≤ ecv h dd i (j - i) a b) → Q (some (.int (J v))) S) : KC (d + 2) mX9_cheapestEndings [.ref c, .int (J (dd + 1 : Nat)), .int (J i), .int (J j)] S Q := by
  have hS' := hS
  obtain ⟨hm, s1, -, s3⟩ := hS
  have low : ∀ a b, 1 ≤ a → 1 ≤ b → 2 * a + b + 1 ≤ j - i → er h i (i + a + b) a → cv (co h (dd + 1) i (j - i)) ≤ ecv h dd i (j - i) a b := by
    intro a b h1 h2 h3 h4
    rw [ecv_eq (by omega) (by omega)]
    have x := co_few h dd i a (by omega)
    have y := co_few h dd (i + a) b (by omega)
    have z := co_few h dd (i + 2 * a + b) (j - i - 2 * a - b) (by omega)
    have w := co_few h (dd + 1) i (j - i) (by omega)
    exact cv_mono (by omega) (by omega) (co_end h1 h2 h3 h4)
  have ecs : ∀ a b, 1 ≤ a → 1 ≤ b → 2 * a + b + 1 ≤ j - i → ecv h dd i (j - i) a b ≤ 30000 := by
    intro a b _ _ _
    have x := cv_small (co_le h dd i a) (by omega)
    have y := cv_small (co_le h dd (i + a) b) (by omega)
    have z := cv_small (co_le h dd (i + 2 * a + b) (j - i - 2 * a - b)) (by omega)
    unfold ecv
    omega
  -- the inner loop: how long the first part is
  have inner : ∀ (back lg : Nat), i + 2 ≤ back → back + 1 < j → lg = Nat.min (Nat.min (back - i - 1) (j - back - 1)) (al h m i back) → (∀ (v : Nat), v ≤ 8000 → cv (co h (dd + 1) i (j - i)) ≤ v → (∀ a b, 1 ≤ a → 1 ≤ b → 2 * a + b + 1 ≤ j - i → er h i (i + a + b) a → i + a + b ≤ back → v ≤ ecv h dd i (j - i) a b) → ∀ x6 x7 x8 j9, zWp shC (KC (d + 1)) kX9_cheapestEndings 1 Q 14 [some (.ref c), some (.int (J (dd + 1 : Nat))), some (.int (J i)), some (.int (J j)), some (.int (J v)), some (.int (J back + 1)), x6, x7, x8, j9] [] S) → ∀ (r a v : Nat) (x7 x8 : Int32) (x6 j9 : Option Value), x7 = J lg → a + r = lg + 1 → 1 ≤ a → x8 = J a → v ≤ 8000 → cv (co h (dd + 1) i (j - i)) ≤ v → (∀ a' b, 1 ≤ a' → 1 ≤ b → 2 * a' + b + 1 ≤ j - i → er h i (i + a' + b) a' → (i + a' + b < back ∨ i + a' + b = back ∧ a' < a) → v ≤ ecv h dd i (j - i) a' b) → zWp shC (KC (d + 1)) kX9_cheapestEndings 1 Q 61 [some (.ref c), some (.int (J (dd + 1 : Nat))), some (.int (J i)), some (.int (J j)), some (.int (J v)), some (.int (J back)), x6, some (.int x7), some (.int x8), j9] [] S := by
    intro back lg hb1 hb2 hlg cont r
    have lgb : lg ≤ back - i - 1 ∧ lg ≤ j - back - 1 ∧ lg ≤ al h m i back := by
      rw [hlg]
      have q1 := Nat.min_le_left (Nat.min (back - i - 1) (j - back - 1)) (al h m i back)
      have q2 := Nat.min_le_right (Nat.min (back - i - 1) (j - back - 1)) (al h m i back)
      have q3 := Nat.min_le_left (back - i - 1) (j - back - 1)
      have q4 := Nat.min_le_right (back - i - 1) (j - back - 1)
      exact ⟨Nat.le_trans q1 q3, Nat.le_trans q1 q4, q2⟩
    have lgm : ∀ a, a ≤ back - i - 1 → a ≤ j - back - 1 → a ≤ al h m i back → a ≤ lg := by
      intro a q1 q2 q3
      rw [hlg]
      exact Nat.le_min.mpr ⟨Nat.le_min.mpr ⟨q1, q2⟩, q3⟩
    have ec := fun {a : Nat} {Q' : Option Value → zS → Prop} (a1 : 1 ≤ a) (a2 : i + a < back) (a3 : back + a < j) (k : Q' (some (.int (J (ecv h dd i (j - i) a (back - i - a))))) S) => v_endingsCost (d := d) (S := S) (Q := Q') (h := h) (dd := dd) (i := i) (j := j) (a := a) (back := back) hc (by omega) hd a1 a2 a3 hC k
    induction r with
    | zero =>
      intro a v x7 x8 x6 j9 e7 ha a1 e8 v1 v2 v3
      subst e8 e7
      have go := cont v v1 v2 (fun a' b q1 q2 q3 q4 q5 => by
        by_cases e : i + a' + b = back
        · refine v3 a' b q1 q2 q3 q4 (Or.inr ⟨e, ?_⟩)
          have := lgm a' (by omega) (by omega) ((al_er (by omega) (by omega)).mpr (by rw [← e]; exact q4))
          omega
        · exact v3 a' b q1 q2 q3 q4 (Or.inl (by omega)))
      simp only [sps, List.mem_cons, Prod.mk.injEq, List.not_mem_nil, or_false] at hc
      rcases hc with ⟨rfl, rfl, rfl, rfl⟩ | ⟨rfl, rfl, rfl, rfl⟩
      all_goals
        refine zRun_wp [14, 61] 80 ?_
        refine ⟨fun _ => go _ _ _ _, fun k1 => ?_⟩
        simp (disch := omega) only [J_lit, J_neg, J_add, J_sub, J_mul, J_nI, J_le, J_lt, J_eq, J_in, J_nat] at k1
        omega
    | succ r ih =>
      intro a v x7 x8 x6 j9 e7 ha a1 e8 v1 v2 v3
      subst e8 e7
      have hera : er h i (i + a + (back - i - a)) a := by
        rw [show i + a + (back - i - a) = back by omega]
        exact (al_er (m := m) (by omega) (by omega)).mp (by omega)
      have hlow := low a (back - i - a) a1 (by omega) (by omega) hera
      have hecs := ecs a (back - i - a) a1 (by omega) (by omega)
      have next : ∀ (v' : Nat) (j9 : Option Value), v' ≤ v → v' ≤ ecv h dd i (j - i) a (back - i - a) → cv (co h (dd + 1) i (j - i)) ≤ v' → zWp shC (KC (d + 1)) kX9_cheapestEndings 1 Q 61 [some (.ref c), some (.int (J (dd + 1 : Nat))), some (.int (J i)), some (.int (J j)), some (.int (J v')), some (.int (J back)), x6, some (.int (J lg)), some (.int (J a + 1)), j9] [] S := by
        intro v' j9 w1 w2 w3
        refine ih (a + 1) v' _ _ _ _ rfl (by omega) (by omega) (by simp only [J_lit, J_neg, J_add, J_sub, J_mul, J_nI]; congr 1) (by omega) w3 (fun a' b q1 q2 q3 q4 q5 => ?_)
        by_cases e : a' = a ∧ i + a' + b = back
        · have : b = back - i - a := by omega
          rw [e.1, this]; exact w2
        · have := v3 a' b q1 q2 q3 q4 (by omega)
          omega
      have ec := fun {Q' : Option Value → zS → Prop} => ec (a := a) (Q' := Q') a1 (by omega) (by omega)
      clear cont ih
      simp only [sps, List.mem_cons, Prod.mk.injEq, List.not_mem_nil, or_false] at hc
      rcases hc with ⟨rfl, rfl, rfl, rfl⟩ | ⟨rfl, rfl, rfl, rfl⟩
      all_goals
        refine zRun_wp [14, 61] 80 ?_
        refine ⟨fun k1 => ?_, fun _ => ?_⟩
        · simp (disch := omega) only [J_lit, J_neg, J_add, J_sub, J_mul, J_nI, J_le, J_lt, J_eq, J_in, J_nat] at k1; omega
        refine ec ?_
        refine ⟨fun k2 => ?_, fun k2 => ?_⟩ <;> simp (disch := omega) only [J_lit, J_neg, J_add, J_sub, J_mul, J_nI, J_le, J_lt, J_eq, J_in, J_nat] at k2
        · exact next v _ (by omega) (by omega) v2
        · exact next _ _ (by omega) (by omega) hlow
  have outer : ∀ (r back v : Nat) (x5 : Int32) (x6 x7 x8 j9 : Option Value), j ≤ back + r + 1 → i + 2 ≤ back → back ≤ j → x5 = J back → v ≤ 8000 → cv (co h (dd + 1) i (j - i)) ≤ v → (∀ a b, 1 ≤ a → 1 ≤ b → 2 * a + b + 1 ≤ j - i → er h i (i + a + b) a → i + a + b < back → v ≤ ecv h dd i (j - i) a b) → zWp shC (KC (d + 1)) kX9_cheapestEndings 1 Q 14 [some (.ref c), some (.int (J (dd + 1 : Nat))), some (.int (J i)), some (.int (J j)), some (.int (J v)), some (.int x5), x6, x7, x8, j9] [] S := by
    intro r
    induction r with
    | zero =>
      intro back v x5 x6 x7 x8 j9 hr hb hbj e5 v1 v2 v3
      subst e5
      have fin := hq v v1 v2 (fun a b q1 q2 q3 q4 => v3 a b q1 q2 q3 q4 (by omega))
      clear inner
      simp only [sps, List.mem_cons, Prod.mk.injEq, List.not_mem_nil, or_false] at hc
      rcases hc with ⟨rfl, rfl, rfl, rfl⟩ | ⟨rfl, rfl, rfl, rfl⟩
      all_goals
        refine zRun_wp [14, 61] 80 ?_
        refine ⟨fun _ => fin, fun k1 => ?_⟩
        simp (disch := omega) only [J_lit, J_neg, J_add, J_sub, J_mul, J_nI, J_le, J_lt, J_eq, J_in, J_nat] at k1
        omega
    | succ r ih =>
      intro back v x5 x6 x7 x8 j9 hr hb hbj e5 v1 v2 v3
      subst e5
      have fin : j ≤ back + 1 → Q (some (.int (J v))) S := fun e => hq v v1 v2 (fun a b q1 q2 q3 q4 => v3 a b q1 q2 q3 q4 (by omega))
      have hal := al_lei h m i back
      have e1 : J back - J i - 1 = J (back - i - 1 : Nat) := by simp only [J_lit, J_neg, J_add, J_sub, J_mul, J_nI]; congr 1; omega
      have body : back + 1 < j → ∀ (x7 x8 : Int32) (x6 j9 : Option Value), x7 = J (Nat.min (Nat.min (back - i - 1) (j - back - 1)) (al h m i back) : Nat) → x8 = J (1 : Nat) → zWp shC (KC (d + 1)) kX9_cheapestEndings 1 Q 61 [some (.ref c), some (.int (J (dd + 1 : Nat))), some (.int (J i)), some (.int (J j)), some (.int (J v)), some (.int (J back)), x6, some (.int x7), some (.int x8), j9] [] S := by
        intro hbj x7 x8 x6 j9 e7 e8
        refine inner back _ hb hbj rfl (fun v' w1 w2 w3 x6 x7 x8 j9 => ?_) _ 1 v x7 x8 x6 j9 e7 (Nat.add_comm _ _) (by omega) e8 v1 v2 (fun a' b q1 q2 q3 q4 q5 => v3 a' b q1 q2 q3 q4 (by omega))
        exact ih (back + 1) v' _ _ _ _ _ (by omega) (by omega) (by omega) (by simp only [J_lit, J_neg, J_add, J_sub, J_mul, J_nI]; congr 1) w1 w2 (fun a b q1 q2 q3 q4 q5 => w3 a b q1 q2 q3 q4 (by omega))
      have e2 : back + 1 < j → J j - J back - 1 = J (j - back - 1 : Nat) := fun q => by simp only [J_lit, J_neg, J_add, J_sub, J_mul, J_nI]; congr 1; omega
      have ix : (J i * 25 + J back).toNatClampNeg = 25 * i + back := by simp (disch := omega) only [J_lit, J_neg, J_add, J_sub, J_mul, J_nI, J_le, J_lt, J_eq, J_in, J_nat]; omega
      have mle := Nat.min_le_left (back - i - 1) (j - back - 1)
      have mle2 : Nat.min (back - i - 1) (j - back - 1) ≤ back - i - 1 := mle
      clear inner ih
      simp only [sps, List.mem_cons, Prod.mk.injEq, List.not_mem_nil, or_false] at hc
      rcases hc with ⟨rfl, rfl, rfl, rfl⟩ | ⟨rfl, rfl, rfl, rfl⟩
      all_goals
        refine zRun_wp [14, 61] 80 ?_
        refine ⟨fun k1 => ?_, fun k1 => ?_⟩ <;> simp (disch := omega) only [J_lit, J_neg, J_add, J_sub, J_mul, J_nI, J_le, J_lt, J_eq, J_in, J_nat] at k1
        · exact fin (by omega)
        refine ⟨by simp (disch := omega) only [J_lit, J_neg, J_add, J_sub, J_mul, J_nI, J_le, J_lt, J_eq, J_in, J_nat]; omega, ?_⟩
        rw [e1, e2 (by omega), Jmin (by omega) (by omega), ix, s3 i back (by omega) (by omega)]
        refine body (by omega) _ _ _ _ ?_ rfl
        rw [Jmin (by omega) (by omega)]
  have v0 : J j - J i = J (j - i : Nat) := by simp only [J_lit, J_neg, J_add, J_sub, J_mul, J_nI]; congr 1; omega
  have start : zWp shC (KC (d + 1)) kX9_cheapestEndings 1 Q 14 [some (.ref c), some (.int (J (dd + 1 : Nat))), some (.int (J i)), some (.int (J j)), some (.int (J (256 * (j - i) : Nat))), some (.int (J i + 2)), none, none, none, none] [] S := by
    refine outer (j - i) (i + 2) (256 * (j - i)) _ _ _ _ _ (by omega) (by omega) (by omega) (by simp only [J_lit, J_neg, J_add, J_sub, J_mul, J_nI]; congr 1) (by omega) ?_ (fun a b q1 q2 q3 q4 q5 => by omega)
    have x := co_le h (dd + 1) i (j - i)
    have y := co_few h (dd + 1) i (j - i) (by omega)
    have := cv_mono (a := co h (dd + 1) i (j - i)) (b := 1000 * (j - i)) (by omega) (by omega) x
    unfold cv at this ⊢
    omega
  have e0 : (J j - J i) * 256 = J (256 * (j - i) : Nat) := by rw [v0]; simp only [J_lit, J_neg, J_add, J_sub, J_mul, J_nI]; congr 1; omega
  clear outer inner
  rw [← e0] at start
  simp only [sps, List.mem_cons, Prod.mk.injEq, List.not_mem_nil, or_false] at hc
  rcases hc with ⟨rfl, rfl, rfl, rfl⟩ | ⟨rfl, rfl, rfl, rfl⟩
  all_goals
    refine eX9_cheapestEndings (zRun_wp [14, 61] 80 ?_)
    exact start
end cheap
