section settle
variable {d : Nat} {S : zS} {Q : Option Value → zS → Prop} {c c1 c2 c3 m : Nat} {h : Nat → Int}
set_option maxHeartbeats 2000000 in
theorem v_cheapest (hc : (c, c1, c2, c3) ∈ sps) (hS : SpOk S c c1 c2 h m) {dd i j : Nat} (hd : dd ≤ 3) (hij : i < j) (hj : j ≤ m) (hC : ∀ d' i' j', d' ≤ dd → i' < j' → i ≤ i' → j' ≤ j → j' - i' < j - i → CoOk S c3 h d' i' j')
    (hq : Q (some (.int (J (cv (co h dd i (j - i)))))) S) : KC (d + 3) mX9_cheapest [.ref c, .int (J dd), .int (J i), .int (J j)] S Q := by
  have hS' := hS
  obtain ⟨hm, s1, -, s3⟩ := hS
  have x0 := co_le h dd i (j - i)
  have y0 := co_few h dd i (j - i) (by omega)
  have top : cv (co h dd i (j - i)) ≤ 256 * (j - i) := by
    have := cv_mono (a := co h dd i (j - i)) (b := 1000 * (j - i)) (by omega) (by omega) x0
    unfold cv at this ⊢
    omega
  have v0 : (J j - J i) * 256 = J (256 * (j - i) : Nat) := by simp only [J_lit, J_neg, J_add, J_sub, J_mul, J_nI]; congr 1; omega
  -- what a split costs
  have spl : ∀ k, i < k → k < j → cv (co h dd i (j - i)) ≤ cv (co h dd i (k - i)) + cv (co h dd k (j - k)) ∧ cv (co h dd i (k - i)) + cv (co h dd k (j - k)) ≤ 16000 := by
    intro k k1 k2
    have a := co_few h dd i (k - i) (by omega)
    have b := co_few h dd k (j - k) (by omega)
    have e := co_split (h := h) (d := dd) (i := i) (n := j - i) (k := k - i) (by omega) (by omega)
    rw [show i + (k - i) = k by omega, show j - i - (k - i) = j - k by omega] at e
    have := cv_mono (by omega) (by omega) e
    rw [cv_add (by omega)] at this
    have p := cv_small (co_le h dd i (k - i)) (by omega)
    have q := cv_small (co_le h dd k (j - k)) (by omega)
    omega
  have short : dd < 1 ∨ j - i = 1 → cv (co h dd i (j - i)) = 256 * (j - i) := by
    rintro (q | q)
    · rw [show dd = 0 by omega, co_d0]; unfold cv; omega
    · rw [q, co_1]; rfl
  by_cases hs : dd < 1 ∨ j - i = 1
  · have e := short hs
    rw [e, ← v0] at hq
    clear spl
    simp only [sps, List.mem_cons, Prod.mk.injEq, List.not_mem_nil, or_false] at hc
    rcases hc with ⟨rfl, rfl, rfl, rfl⟩ | ⟨rfl, rfl, rfl, rfl⟩
    all_goals
      refine eX9_cheapest (zRun_wp [36] 80 ?_)
      refine ⟨fun _ => hq, fun k1 => ?_⟩
      refine ⟨fun k2 => ?_, fun _ => hq⟩
      simp (disch := omega) only [J_lit, J_neg, J_add, J_sub, J_mul, J_nI, J_le, J_lt, J_eq, J_in, J_nat] at k1 k2
      omega
  have hn2 : 2 ≤ j - i := by omega
  obtain ⟨e, rfl⟩ : ∃ e, dd = e + 1 := ⟨dd - 1, by omega⟩
  have hmr := fun {Q' : Option Value → zS → Prop} (k : Q' (some (.int (bb (0 < e + 1 ∧ (j - i) % 2 = 0 ∧ er h i (i + (j - i) / 2) ((j - i) / 2))))) S) => v_mayRepeat (d := d + 1) (Q := Q') hc hS' hd hij hj k
  have hce := fun {Q' : Option Value → zS → Prop} (k : ∀ v : Nat, v ≤ 8000 → cv (co h (e + 1) i (j - i)) ≤ v → (∀ a b, 1 ≤ a → 1 ≤ b → 2 * a + b + 1 ≤ j - i → er h i (i + a + b) a → v ≤ ecv h e i (j - i) a b) → Q' (some (.int (J v))) S) => v_cheapestEndings (d := d) (Q := Q') hc hS' (dd := e) (by omega) (by omega) hj (fun i' j' b1 b2 b3 b4 => hC e i' j' (by omega) b1 b2 b3 b4) k
  -- the least of all is the best
  have isBest : ∀ v : Nat, cv (co h (e + 1) i (j - i)) ≤ v → (∀ k, i < k → k < j → v ≤ cv (co h (e + 1) i (k - i)) + cv (co h (e + 1) k (j - k))) → ((j - i) % 2 = 0 → er h i (i + (j - i) / 2) ((j - i) / 2) → v ≤ cv (co h e i ((j - i) / 2)) + 2) → (∀ a b, 1 ≤ a → 1 ≤ b → 2 * a + b + 1 ≤ j - i → er h i (i + a + b) a → v ≤ ecv h e i (j - i) a b) → v = cv (co h (e + 1) i (j - i)) := by
    intro v l1 l2 l3 l4
    rcases co_cases (h := h) (d := e + 1) (i := i) (n := j - i) hn2 with ⟨k, k1, k2, q⟩ | ⟨d', a, q0, a1, a2, r, q⟩ | ⟨d', a, b, q0, a1, b1, ab, r, q⟩
    · have := l2 (i + k) (by omega) (by omega)
      rw [show i + k - i = k by omega, show j - (i + k) = j - i - k by omega] at this
      have f1 := co_few h (e + 1) i k (by omega)
      have f2 := co_few h (e + 1) (i + k) (j - i - k) (by omega)
      rw [q, cv_add (by omega)] at l1 ⊢
      omega
    · have e1 : d' = e := by omega
      subst e1
      have e2 : (j - i) / 2 = a := by omega
      have := l3 (by omega) (by rw [e2]; exact r)
      rw [e2] at this
      have f1 := co_few h d' i a (by omega)
      rw [q, cv_sgn (by omega)] at l1 ⊢
      omega
    · have e1 : d' = e := by omega
      subst e1
      have := l4 a b a1 b1 ab r
      rw [ecv_eq (by omega) (by omega), ← q] at this
      omega
  -- behind the splits
  have after : ∀ (v : Nat) (x6 x7 : Option Value), v ≤ 8000 → cv (co h (e + 1) i (j - i)) ≤ v → (∀ k, i < k → k < j → v ≤ cv (co h (e + 1) i (k - i)) + cv (co h (e + 1) k (j - k))) → zWp shC (KC (d + 2)) kX9_cheapest 1 Q 92 [some (.ref c), some (.int (J (e + 1 : Nat))), some (.int (J i)), some (.int (J j)), some (.int (J v)), some (.int (J (e + 1 : Nat) * 625)), x6, x7] [] S := by
    intro v x6 x7 v1 v2 v3
    have last : ∀ (v' : Nat) (x6 x7 : Option Value), v' ≤ v → cv (co h (e + 1) i (j - i)) ≤ v' → ((j - i) % 2 = 0 → er h i (i + (j - i) / 2) ((j - i) / 2) → v' ≤ cv (co h e i ((j - i) / 2)) + 2) → zWp shC (KC (d + 2)) kX9_cheapest 1 Q 133 [some (.ref c), some (.int (J (e + 1 : Nat))), some (.int (J i)), some (.int (J j)), some (.int (J v')), some (.int (J (e + 1 : Nat) * 625)), x6, x7] [] S := by
      intro v' x6 x7 w1 w2 w3
      have fin : ∀ u : Nat, u ≤ 8000 → cv (co h (e + 1) i (j - i)) ≤ u → (∀ a b, 1 ≤ a → 1 ≤ b → 2 * a + b + 1 ≤ j - i → er h i (i + a + b) a → u ≤ ecv h e i (j - i) a b) → Q (some (.int (if J u < J v' then J u else J v'))) S := by
        intro u u1 u2 u3
        rw [Jmin (by omega) (by omega)]
        have m1 : Nat.min v' u ≤ v' := Nat.min_le_left _ _
        have m2 : Nat.min v' u ≤ u := Nat.min_le_right _ _
        have m3 : cv (co h (e + 1) i (j - i)) ≤ Nat.min v' u := Nat.le_min.mpr ⟨w2, u2⟩
        rw [isBest (Nat.min v' u) m3 (fun k k1 k2 => by have := v3 k k1 k2; omega) (fun p1 p2 => by have := w3 p1 p2; omega) (fun a b q1 q2 q3 q4 => by have := u3 a b q1 q2 q3 q4; omega)]
        exact hq
      clear hmr
      simp only [sps, List.mem_cons, Prod.mk.injEq, List.not_mem_nil, or_false] at hc
      rcases hc with ⟨rfl, rfl, rfl, rfl⟩ | ⟨rfl, rfl, rfl, rfl⟩
      all_goals
        refine zRun_wp [] 80 ?_
        refine hce (fun u u1 u2 u3 => ?_)
        exact fin u u1 u2 u3
    have hv : (0 < e + 1 ∧ (j - i) % 2 = 0 ∧ er h i (i + (j - i) / 2) ((j - i) / 2)) → vp_in (J (e + 1 : Nat) * 625 - 625 + J i * 25 + (J i + J j) / 2) 2500 ∧ S c3 (J (e + 1 : Nat) * 625 - 625 + J i * 25 + (J i + J j) / 2).toNatClampNeg = J (cv (co h e i ((j - i) / 2)) : Nat) := by
      intro p
      have e1 : (J i + J j) / 2 = J (i + (j - i) / 2 : Nat) := by
        rw [J_add, show (2 : Int32) = J 2 from rfl, J_div (by omega) (by omega) (by omega) (by omega)]
        congr 1; omega
      rw [e1]
      have ix : (J (e + 1 : Nat) * 625 - 625 + J i * 25 + J (i + (j - i) / 2 : Nat)).toNatClampNeg = 625 * e + 25 * i + (i + (j - i) / 2) := by simp (disch := omega) only [J_lit, J_neg, J_add, J_sub, J_mul, J_nI, J_le, J_lt, J_eq, J_in, J_nat]; omega
      refine ⟨by simp (disch := omega) only [J_lit, J_neg, J_add, J_sub, J_mul, J_nI, J_le, J_lt, J_eq, J_in, J_nat]; omega, ?_⟩
      have := hC e i (i + (j - i) / 2) (by omega) (by omega) (by omega) (by omega) (by omega)
      unfold CoOk at this
      rw [ix, this, show i + (j - i) / 2 - i = (j - i) / 2 by omega]
    have e2 : J (cv (co h e i ((j - i) / 2)) : Nat) + 2 = J (cv (co h e i ((j - i) / 2)) + 2 : Nat) := by simp only [J_lit, J_neg, J_add, J_sub, J_mul, J_nI]; congr 1
    have hmin : ∀ p : (0 < e + 1 ∧ (j - i) % 2 = 0 ∧ er h i (i + (j - i) / 2) ((j - i) / 2)), cv (co h (e + 1) i (j - i)) ≤ cv (co h e i ((j - i) / 2)) + 2 ∧ cv (co h e i ((j - i) / 2)) + 2 ≤ 9000 := by
      intro p
      have a := co_few h e i ((j - i) / 2) (by omega)
      have r := co_rep (h := h) (d := e) (i := i) (a := (j - i) / 2) (by omega) p.2.2
      rw [show 2 * ((j - i) / 2) = j - i by omega] at r
      have := cv_mono (by omega) (by omega) r
      rw [cv_sgn (by omega)] at this
      have q := cv_small (co_le h e i ((j - i) / 2)) (by omega)
      omega
    clear hce isBest
    simp only [sps, List.mem_cons, Prod.mk.injEq, List.not_mem_nil, or_false] at hc
    rcases hc with ⟨rfl, rfl, rfl, rfl⟩ | ⟨rfl, rfl, rfl, rfl⟩
    all_goals
      refine zRun_wp [133] 80 ?_
      refine hmr ?_
      refine ⟨fun k1 => ?_, fun k1 => ?_⟩ <;> rw [bb_0] at k1
      · exact last v _ _ (by omega) v2 (fun p1 p2 => absurd ⟨by omega, p1, p2⟩ k1)
      · rw [Classical.not_not] at k1
        obtain ⟨g1, g2⟩ := hv k1
        obtain ⟨g3, g4⟩ := hmin k1
        refine ⟨by decide, g1, ?_⟩
        rw [g2]
        have m1 : Nat.min v (cv (co h e i ((j - i) / 2)) + 2) ≤ v := Nat.min_le_left _ _
        have m2 : Nat.min v (cv (co h e i ((j - i) / 2)) + 2) ≤ cv (co h e i ((j - i) / 2)) + 2 := Nat.min_le_right _ _
        have go := last (Nat.min v (cv (co h e i ((j - i) / 2)) + 2)) x6 x7 m1 (Nat.le_min.mpr ⟨v2, g3⟩) (fun _ _ => m2)
        rw [← Jmin (by omega) (by omega), ← e2] at go
        exact go
  have loop : ∀ (r k v : Nat) (x6 : Int32) (x7 : Option Value), k + r = j → i < k → x6 = J k → v ≤ 8000 → cv (co h (e + 1) i (j - i)) ≤ v → (∀ k', i < k' → k' < k → v ≤ cv (co h (e + 1) i (k' - i)) + cv (co h (e + 1) k' (j - k'))) → zWp shC (KC (d + 2)) kX9_cheapest 1 Q 36 [some (.ref c), some (.int (J (e + 1 : Nat))), some (.int (J i)), some (.int (J j)), some (.int (J v)), some (.int (J (e + 1 : Nat) * 625)), some (.int x6), x7] [] S := by
    intro r
    induction r with
    | zero =>
      intro k v x6 x7 hk ik e6 v1 v2 v3
      subst e6
      have go := after v (some (.int (J k))) x7 v1 v2 (fun k' a b => v3 k' a (by omega))
      clear hmr hce isBest after
      simp only [sps, List.mem_cons, Prod.mk.injEq, List.not_mem_nil, or_false] at hc
      rcases hc with ⟨rfl, rfl, rfl, rfl⟩ | ⟨rfl, rfl, rfl, rfl⟩
      all_goals
        refine zRun_wp [36, 92] 80 ?_
        refine ⟨fun _ => go, fun k1 => ?_⟩
        simp (disch := omega) only [J_lit, J_neg, J_add, J_sub, J_mul, J_nI, J_le, J_lt, J_eq, J_in, J_nat] at k1
        omega
    | succ r ih =>
      intro k v x6 x7 hk ik e6 v1 v2 v3
      subst e6
      obtain ⟨sp1, sp2⟩ := spl k ik (by omega)
      have a := hC (e + 1) i k (by omega) (by omega) (by omega) (by omega) (by omega)
      have b := hC (e + 1) k j (by omega) (by omega) (by omega) (by omega) (by omega)
      unfold CoOk at a b
      have i1 : (J (e + 1 : Nat) * 625 + J i * 25 + J k).toNatClampNeg = 625 * (e + 1) + 25 * i + k := by simp (disch := omega) only [J_lit, J_neg, J_add, J_sub, J_mul, J_nI, J_le, J_lt, J_eq, J_in, J_nat]; omega
      have i2 : (J (e + 1 : Nat) * 625 + J k * 25 + J j).toNatClampNeg = 625 * (e + 1) + 25 * k + j := by simp (disch := omega) only [J_lit, J_neg, J_add, J_sub, J_mul, J_nI, J_le, J_lt, J_eq, J_in, J_nat]; omega
      have sm : J (cv (co h (e + 1) i (k - i))) + J (cv (co h (e + 1) k (j - k))) = J (cv (co h (e + 1) i (k - i)) + cv (co h (e + 1) k (j - k)) : Nat) := by simp only [J_lit, J_neg, J_add, J_sub, J_mul, J_nI]; congr 1
      have next : ∀ (v' : Nat) (x7 : Option Value), v' ≤ v → cv (co h (e + 1) i (j - i)) ≤ v' → v' ≤ cv (co h (e + 1) i (k - i)) + cv (co h (e + 1) k (j - k)) → zWp shC (KC (d + 2)) kX9_cheapest 1 Q 36 [some (.ref c), some (.int (J (e + 1 : Nat))), some (.int (J i)), some (.int (J j)), some (.int (J v')), some (.int (J (e + 1 : Nat) * 625)), some (.int (J k + 1)), x7] [] S := by
        intro v' x7 w1 w2 w3
        refine ih (k + 1) v' _ _ (by omega) (by omega) (by simp only [J_lit, J_neg, J_add, J_sub, J_mul, J_nI]; congr 1) (by omega) w2 (fun k' q1 q2 => ?_)
        by_cases ek : k' = k
        · rw [ek]; exact w3
        · have := v3 k' q1 (by omega); omega
      clear hmr hce isBest after ih
      simp only [sps, List.mem_cons, Prod.mk.injEq, List.not_mem_nil, or_false] at hc
      rcases hc with ⟨rfl, rfl, rfl, rfl⟩ | ⟨rfl, rfl, rfl, rfl⟩
      all_goals
        refine zRun_wp [36, 92] 80 ?_
        refine ⟨fun k1 => ?_, fun _ => ?_⟩
        · simp (disch := omega) only [J_lit, J_neg, J_add, J_sub, J_mul, J_nI, J_le, J_lt, J_eq, J_in, J_nat] at k1; omega
        refine ⟨by simp (disch := omega) only [J_lit, J_neg, J_add, J_sub, J_mul, J_nI, J_le, J_lt, J_eq, J_in, J_nat]; omega, by simp (disch := omega) only [J_lit, J_neg, J_add, J_sub, J_mul, J_nI, J_le, J_lt, J_eq, J_in, J_nat]; omega, ?_⟩
        rw [i1, i2, a, b]
        refine ⟨fun k2 => ?_, fun k2 => ?_⟩ <;> rw [sm] at k2 <;> simp (disch := omega) only [J_lit, J_neg, J_add, J_sub, J_mul, J_nI, J_le, J_lt, J_eq, J_in, J_nat] at k2
        · exact next v _ (by omega) v2 (by omega)
        · have go := next (cv (co h (e + 1) i (k - i)) + cv (co h (e + 1) k (j - k))) (some (.int (J (cv (co h (e + 1) i (k - i))) + J (cv (co h (e + 1) k (j - k)))))) (by omega) sp1 (by omega)
          rw [← sm] at go
          exact go
  have start := loop (j - (i + 1)) (i + 1) (256 * (j - i)) (J i + 1) none (by omega) (by omega) (by simp only [J_lit, J_neg, J_add, J_sub, J_mul, J_nI]; congr 1) (by omega) top (fun k' a b => by omega)
  rw [← v0] at start
  clear loop after isBest hmr hce
  simp only [sps, List.mem_cons, Prod.mk.injEq, List.not_mem_nil, or_false] at hc
  rcases hc with ⟨rfl, rfl, rfl, rfl⟩ | ⟨rfl, rfl, rfl, rfl⟩
  all_goals
    refine eX9_cheapest (zRun_wp [36] 80 ?_)
    refine ⟨fun k1 => ?_, fun _ => ?_⟩
    · simp (disch := omega) only [J_lit, J_neg, J_add, J_sub, J_mul, J_nI, J_le, J_lt, J_eq, J_in, J_nat] at k1; omega
    refine ⟨fun _ => start, fun k2 => ?_⟩
    simp (disch := omega) only [J_lit, J_neg, J_add, J_sub, J_mul, J_nI, J_le, J_lt, J_eq, J_in, J_nat] at k2
    omega
end settle
