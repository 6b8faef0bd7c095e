/-! the class's cut, isRepeat, endings: one after the other they tell how the best of a span is -/
section cut
variable {d : Nat} {S : zS} {Q : Option Value → zS → Prop} {m : Nat} {h : Nat → Int}
theorem sps20 : ((20, 21, 22, 23) : Nat × Nat × Nat × Nat) ∈ sps := by decide
theorem v_costX {c c1 c2 c3 dd i j : Nat} (hc : (c, c1, c2, c3) ∈ sps) (hS : SpOk S c c1 c2 h m) (hC : AllC S c3 h m dd) (hd : dd ≤ 3) (hi : i ≤ m) (hj : j ≤ m) {w x y : Int32} (ew : w = J dd) (ex : x = J i) (ey : y = J j) (hq : Q (some (.int (J (cv (co h dd i (j - i)))))) S) : KC (d + 2) mX9_cost [.ref c, .int w, .int x, .int y] S Q := by
  subst ew ex ey
  exact v_cost hc hS hd hi hj (fun q => hC i j q hj) hq
theorem sp_cv {dd i n k : Nat} (hn : n ≤ 24) (hk : k ≤ n) : cv (sp h dd i n k) = cv (co h dd i k) + cv (co h dd (i + k) (n - k)) ∧ sp h dd i n k % 1000 < 200 := by
  have x := co_few h dd i k (by omega)
  have y := co_few h dd (i + k) (n - k) (by omega)
  unfold sp cv
  omega
set_option maxHeartbeats 1000000 in
theorem v_cut {dd i n : Nat} (hS : SpOk S 20 21 22 h m) (hC : AllC S 23 h m dd) (hd : dd ≤ 3) (hn : 2 ≤ n) (hj : i + n ≤ m)
    (h1 : ∀ k, 1 ≤ k → k < n → HowOk h dd i n (1000 + 30 * k) → Q (some (.int (J (i + k : Nat)))) S)
    (h2 : (∀ k, 1 ≤ k → k < n → co h dd i n < sp h dd i n k) → Q (some (.int (-1))) S) {y : Int32} (ey : y = J (i + n : Nat)) : KC (d + 3) mX9_cut [.ref 20, .int (J dd), .int (J i), .int y] S Q := by
  subst ey
  have hm := hS.1
  have cst := fun {i j : Nat} {x y : Int32} {Q' : Option Value → zS → Prop} (hi : i ≤ m) (hj2 : j ≤ m) (ex : x = J i) (ey : y = J j) (k : Q' (some (.int (J (cv (co h dd i (j - i)))))) S) => v_costE (d := d) (Q := Q') sps20 hS hC hd hi hj2 ex ey k
  have few := co_few h dd i n (by omega)
  have loop : ∀ (r k : Nat) (x4 x5 : Int32), k + r = n → 1 ≤ k → x4 = J (cv (co h dd i n)) → x5 = J (i + k : Nat) → (∀ k', 1 ≤ k' → k' < k → co h dd i n < sp h dd i n k') → zWp shC (KC (d + 2)) kX9_cut 1 Q 14 [some (.ref 20), some (.int (J dd)), some (.int (J i)), some (.int (J (i + n : Nat))), some (.int x4), some (.int x5)] [] S := by
    intro r
    induction r with
    | zero =>
      intro k x4 x5 hr k1 e4 e5 hlt
      subst e4 e5
      refine zRun_wp [14] 80 ?_
      refine ⟨fun _ => h2 (fun k' a b => hlt k' a (by omega)), fun g => ?_⟩
      simp (disch := omega) only [J_lit, J_neg, J_add, J_sub, J_mul, J_nI, J_le, J_lt, J_eq, J_in, J_nat] at g
      omega
    | succ r ih =>
      intro k x4 x5 hr k1 e4 e5 hlt
      subst e4 e5
      refine zRun_wp [14] 80 ?_
      refine ⟨fun g => ?_, fun g => ?_⟩ <;> simp (disch := omega) only [J_lit, J_neg, J_add, J_sub, J_mul, J_nI, J_le, J_lt, J_eq, J_in, J_nat] at g
      · omega
      refine cst (i := i) (j := i + k) (by omega) (by omega) rfl rfl ?_
      refine cst (i := i + k) (j := i + n) (by omega) (by omega) rfl rfl ?_
      obtain ⟨s1, s2⟩ := sp_cv (h := h) (dd := dd) (i := i) (n := n) (k := k) (by omega) (by omega)
      have ge := co_split (h := h) (d := dd) (i := i) (n := n) (k := k) (by omega) (by omega)
      have q1 := cv_small (co_le h dd i k) (by omega)
      have q2 := cv_small (co_le h dd (i + k) (n - k)) (by omega)
      have q3 := cv_small (co_le h dd i n) (by omega)
      have eqv := cv_eq (a := sp h dd i n k) (b := co h dd i n) (by omega) (by omega)
      have ge' : co h dd i n ≤ sp h dd i n k := ge
      refine ⟨fun g2 => ?_, fun g2 => ?_⟩
      · rw [show i + k - i = k by omega, show i + n - (i + k) = n - k by omega] at g2
        simp (disch := omega) only [J_lit, J_neg, J_add, J_sub, J_mul, J_nI, J_le, J_lt, J_eq, J_in, J_nat] at g2
        refine ih (k + 1) _ _ (by omega) (by omega) rfl (by simp only [J_lit, J_neg, J_add, J_sub, J_mul, J_nI]; congr 1) (fun k' a b => ?_)
        by_cases e : k' = k
        · subst e
          have : sp h dd i n k' ≠ co h dd i n := fun e => by have := eqv.mpr e; omega
          omega
        · exact hlt k' a (by omega)
      · rw [show i + k - i = k by omega, show i + n - (i + k) = n - k by omega] at g2
        simp (disch := omega) only [J_lit, J_neg, J_add, J_sub, J_mul, J_nI, J_le, J_lt, J_eq, J_in, J_nat] at g2
        exact h1 k k1 (by omega) (Or.inr ⟨hn, Or.inl ⟨k, k1, by omega, (eqv.mp (by omega)).symm, rfl, hlt⟩⟩)
  refine eX9_cut (zRun_wp [14] 80 ?_)
  refine cst (i := i) (j := i + n) (by omega) (by omega) rfl rfl ?_
  exact loop (n - 1) 1 _ _ (by omega) (by omega) (by rw [show i + n - i = n by omega]) (by simp only [J_lit, J_neg, J_add, J_sub, J_mul, J_nI]; congr 1) (fun k' a b => absurd b (by omega))
set_option maxHeartbeats 1000000 in
theorem v_isRepeat {dd i n : Nat} (hS : SpOk S 20 21 22 h m) (hC : ∀ dd, dd ≤ 3 → AllC S 23 h m dd) (hd : dd ≤ 3) (hn : 2 ≤ n) (hj : i + n ≤ m)
    (h1 : rv h dd i n → co h dd i n = rp h dd i n → Q (some (.int 1)) S)
    (h2 : (rv h dd i n → co h dd i n < rp h dd i n) → Q (some (.int 0)) S) {y : Int32} (ey : y = J (i + n : Nat)) : KC (d + 3) mX9_isRepeat [.ref 20, .int (J dd), .int (J i), .int y] S Q := by
  subst ey
  have hm := hS.1
  have hC' := hC dd hd
  have half : (J (i + n : Nat) - J i) / 2 = J (n / 2 : Nat) := by
    rw [J_sub, show (2 : Int32) = J 2 from rfl, J_div (by omega) (by omega) (by omega) (by omega)]
    congr 1; omega
  refine eX9_isRepeat (zRun_wp [] 80 ?_)
  refine ⟨by decide, ?_⟩
  rw [half]
  refine v_mayRepeat sps20 hS hd (by omega) hj ?_
  rw [show i + n - i = n by omega]
  by_cases r : rv h dd i n
  · have r' := id r
    obtain ⟨r1, r2, r3⟩ := r
    have e1 : J dd - 1 = J (dd - 1 : Nat) := by simp only [J_lit, J_neg, J_add, J_sub, J_mul, J_nI]; congr 1; omega
    have e2 : J i + J (n / 2 : Nat) = J (i + n / 2 : Nat) := by simp only [J_lit, J_neg, J_add, J_sub, J_mul, J_nI]; congr 1
    rw [bb_t ⟨r1, r2, r3⟩]
    refine ⟨fun q => absurd q (by decide), fun _ => ?_⟩
    refine v_costX (dd := dd - 1) (i := i) (j := i + n / 2) sps20 hS (hC (dd - 1) (by omega)) (by omega) (by omega) (by omega) e1 rfl e2 ?_
    refine v_costE (dd := dd) (i := i) (j := i + n) sps20 hS hC' (by omega) (by omega) (by omega) rfl rfl ?_
    rw [show i + n / 2 - i = n / 2 by omega, show i + n - i = n by omega]
    have ge := rp_ge hn r'
    have f1 := co_few h (dd - 1) i (n / 2) (by omega)
    have f2 := co_few h dd i n (by omega)
    have q1 := cv_small (co_le h (dd - 1) i (n / 2)) (by omega)
    have q3 := cv_small (co_le h dd i n) (by omega)
    have er : rp h dd i n = co h (dd - 1) i (n / 2) + 2 := rfl
    have e3 := cv_sgn (a := co h (dd - 1) i (n / 2)) (k := 2) (by omega)
    have eqv := cv_eq (a := rp h dd i n) (b := co h dd i n) (by omega) (by omega)
    rw [er] at eqv ge
    refine ⟨fun g => ?_, fun g => ?_⟩ <;> simp (disch := omega) only [J_lit, J_neg, J_add, J_sub, J_mul, J_nI, J_le, J_lt, J_eq, J_in, J_nat] at g
    · refine ⟨Or.inl rfl, h2 (fun _ => ?_)⟩
      have : co h (dd - 1) i (n / 2) + 2 ≠ co h dd i n := fun e => by have := eqv.mpr e; omega
      rw [er]; omega
    · exact ⟨Or.inr rfl, h1 r' (by rw [er]; exact (eqv.mp (by omega)).symm)⟩
  · rw [bb_f (fun q => r ⟨q.1, q.2.1, q.2.2⟩)]
    refine ⟨fun _ => ⟨Or.inl rfl, h2 (fun q => absurd q r)⟩, fun q => absurd rfl q⟩
end cut
