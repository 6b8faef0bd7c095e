section endings
variable {d : Nat} {S : zS} {Q : Option Value → zS → Prop} {m : Nat} {h : Nat → Int}
set_option maxHeartbeats 2000000 in
theorem v_endings {dd i n : Nat} (hS : SpOk S 20 21 22 h m) (hC : ∀ dd, dd ≤ 3 → AllC S 23 h m dd) (hd : dd ≤ 2) (hn : 2 ≤ n) (hj : i + n ≤ m)
    (h1 : ∀ a b, ev h (dd + 1) i n a b → co h (dd + 1) i n = en h (dd + 1) i n a b → (∀ a' b', ev h (dd + 1) i n a' b' → (a' < a ∨ a' = a ∧ b' < b) → co h (dd + 1) i n < en h (dd + 1) i n a' b') → Q (some (.int (J (25 * a + b : Nat)))) S)
    (h2 : (∀ a b, ev h (dd + 1) i n a b → co h (dd + 1) i n < en h (dd + 1) i n a b) → Q (some (.int (-1))) S) {y : Int32} (ey : y = J (i + n : Nat)) : KC (d + 2) mX9_endings [.ref 20, .int (J (dd + 1 : Nat)), .int (J i), .int y] S Q := by
  subst ey
  have hS' := hS
  obtain ⟨hm, s1, -, s3⟩ := hS
  have hask := fun {z : Int} {Q' : Option Value → zS → Prop} (z1 : -2147483648 ≤ z) (z2 : z ≤ 2147483647) (k : Q' (some (.int (bb (0 ≤ z ∧ z ≤ m)))) S) => v_has (d := d) (Q := Q') sps20 hS' z1 z2 k
  have hC0 := hC dd (by omega)
  have few := co_few h (dd + 1) i n (by omega)
  have q3 := cv_small (co_le h (dd + 1) i n) (by omega)
  have enc : ∀ a b, 2 * a + b ≤ n → ecv h dd i n a b = cv (en h (dd + 1) i n a b) ∧ en h (dd + 1) i n a b % 1000 < 200 ∧ ecv h dd i n a b ≤ 30000 := by
    intro a b q
    have x := co_few h dd i a (by omega)
    have y := co_few h dd (i + a) b (by omega)
    have z := co_few h dd (i + 2 * a + b) (n - 2 * a - b) (by omega)
    have x' := cv_small (co_le h dd i a) (by omega)
    have y' := cv_small (co_le h dd (i + a) b) (by omega)
    have z' := cv_small (co_le h dd (i + 2 * a + b) (n - 2 * a - b)) (by omega)
    refine ⟨ecv_eq (by omega) q, ?_, ?_⟩
    · show (co h dd i a + co h dd (i + a) b + co h dd (i + 2 * a + b) (n - 2 * a - b) + 4) % 1000 < 200
      omega
    · unfold ecv; omega
  have ec := fun {a b : Nat} {Q' : Option Value → zS → Prop} (a1 : 1 ≤ a) (b1 : 1 ≤ b) (ab : 2 * a + b + 1 ≤ n) {x : Int32} (ex : x = J (i + a + b : Nat)) (k : Q' (some (.int (J (ecv h dd i n a b)))) S) => (show KC (d + 1) mX9_endingsCost [.ref 20, .int (J (dd + 1 : Nat)), .int (J i), .int (J (i + n : Nat)), .int (J a), .int x] S Q' from by
    subst ex
    refine v_endingsCost (d := d) (S := S) (Q := Q') (h := h) (dd := dd) (i := i) (j := i + n) (a := a) (back := i + a + b) sps20 (by omega) hd a1 (by omega) (by omega) (fun i' j' p1 p2 p3 p4 => hC0 i' j' p1 (by omega)) ?_
    rw [show i + n - i = n by omega, show i + a + b - i - a = b by omega]
    exact k)
  let Lt := fun (a b : Nat) => ∀ a' b', ev h (dd + 1) i n a' b' → (a' < a ∨ a' = a ∧ b' < b) → co h (dd + 1) i n < en h (dd + 1) i n a' b'
  have inner : ∀ a, 1 ≤ a → 2 * a + 2 ≤ n → (∀ (x6 x7 : Option Value), Lt (a + 1) 0 → zWp shC (KC (d + 1)) kX9_endings 1 Q 56 [some (.ref 20), some (.int (J (dd + 1 : Nat))), some (.int (J i)), some (.int (J (i + n : Nat))), some (.int (J (cv (co h (dd + 1) i n)))), some (.int (J a + 1)), x6, x7] [] S) → ∀ (r b : Nat) (x6 : Int32) (x7 : Option Value), b + r = n → 1 ≤ b → x6 = J b → Lt a b → zWp shC (KC (d + 1)) kX9_endings 1 Q 71 [some (.ref 20), some (.int (J (dd + 1 : Nat))), some (.int (J i)), some (.int (J (i + n : Nat))), some (.int (J (cv (co h (dd + 1) i n)))), some (.int (J a)), some (.int x6), x7] [] S := by
    intro a a1 a2 cont r
    induction r with
    | zero =>
      intro b x6 x7 hr b1 e6 hlt
      subst e6
      refine zRun_wp [56, 71] 80 ?_
      refine ⟨fun _ => cont _ _ (fun a' b' e q => hlt a' b' e ?_), fun g => ?_⟩
      · have := e.2.2.2.1
        omega
      · simp (disch := omega) only [J_lit, J_neg, J_add, J_sub, J_mul, J_nI, J_le, J_lt, J_eq, J_in, J_nat] at g
        omega
    | succ r ih =>
      intro b x6 x7 hr b1 e6 hlt
      subst e6
      refine zRun_wp [56, 71] 80 ?_
      refine ⟨fun g => ?_, fun g => ?_⟩ <;> simp (disch := omega) only [J_lit, J_neg, J_add, J_sub, J_mul, J_nI, J_le, J_lt, J_eq, J_in, J_nat] at g
      · refine cont _ _ (fun a' b' e q => hlt a' b' e ?_)
        have := e.2.2.2.1
        omega
      have ix : (J i * 25 + (J i + J a + J b)).toNatClampNeg = 25 * i + (i + a + b) := by simp (disch := omega) only [J_lit, J_neg, J_add, J_sub, J_mul, J_nI, J_le, J_lt, J_eq, J_in, J_nat]; omega
      have hal := al_lei h m i (i + a + b)
      have hae := al_er (h := h) (m := m) (i := i) (j := i + a + b) (a := a) (by omega) (by omega)
      obtain ⟨c1, c2, c3⟩ := enc a b (by omega)
      have eqv := cv_eq (a := en h (dd + 1) i n a b) (b := co h (dd + 1) i n) (by omega) (by omega)
      refine ⟨by simp (disch := omega) only [J_lit, J_neg, J_add, J_sub, J_mul, J_nI, J_le, J_lt, J_eq, J_in, J_nat]; omega, ?_⟩
      rw [ix, s3 i (i + a + b) (by omega) (by omega)]
      refine ⟨fun g2 => ?_, fun g2 => ?_⟩ <;> simp (disch := omega) only [J_lit, J_neg, J_add, J_sub, J_mul, J_nI, J_le, J_lt, J_eq, J_in, J_nat] at g2
      · refine ih (b + 1) _ _ (by omega) (by omega) (by simp only [J_lit, J_neg, J_add, J_sub, J_mul, J_nI]; congr 1) (fun a' b' e q => ?_)
        by_cases w : a' = a ∧ b' = b
        · have e5 := e.2.2.2.2
          rw [w.1, w.2] at e5
          have := hae.mpr e5
          omega
        · exact hlt a' b' e (by omega)
      refine ec a1 b1 (by omega) (by simp only [J_lit, J_neg, J_add, J_sub, J_mul, J_nI]; congr 1) ?_
      have evv : ev h (dd + 1) i n a b := ⟨by omega, a1, b1, by omega, hae.mp (by omega)⟩
      have ge := en_ge evv
      refine ⟨fun g3 => ?_, fun g3 => ?_⟩ <;> simp (disch := omega) only [J_lit, J_neg, J_add, J_sub, J_mul, J_nI, J_le, J_lt, J_eq, J_in, J_nat] at g3
      · refine ih (b + 1) _ _ (by omega) (by omega) (by simp only [J_lit, J_neg, J_add, J_sub, J_mul, J_nI]; congr 1) (fun a' b' e q => ?_)
        by_cases w : a' = a ∧ b' = b
        · rw [w.1, w.2]
          have : en h (dd + 1) i n a b ≠ co h (dd + 1) i n := fun e => by have := eqv.mpr e; omega
          omega
        · exact hlt a' b' e (by omega)
      · have := h1 a b evv (eqv.mp (by omega)).symm hlt
        rw [show J (25 * a + b : Nat) = J a * 25 + J b by simp only [J_lit, J_neg, J_add, J_sub, J_mul, J_nI]; congr 1; omega] at this
        exact this
  have outer : ∀ (r a : Nat) (x5 : Int32) (x6 x7 : Option Value), a + r = n → 1 ≤ a → x5 = J a → Lt a 0 → zWp shC (KC (d + 1)) kX9_endings 1 Q 56 [some (.ref 20), some (.int (J (dd + 1 : Nat))), some (.int (J i)), some (.int (J (i + n : Nat))), some (.int (J (cv (co h (dd + 1) i n)))), some (.int x5), x6, x7] [] S := by
    intro r
    induction r with
    | zero =>
      intro a x5 x6 x7 hr a1 e5 hlt
      subst e5
      refine zRun_wp [56, 71] 80 ?_
      refine ⟨fun _ => h2 (fun a' b' e => hlt a' b' e ?_), fun g => ?_⟩
      · have := e.2.2.2.1
        omega
      · simp (disch := omega) only [J_lit, J_neg, J_add, J_sub, J_mul, J_nI, J_le, J_lt, J_eq, J_in, J_nat] at g
        omega
    | succ r ih =>
      intro a x5 x6 x7 hr a1 e5 hlt
      subst e5
      refine zRun_wp [56, 71] 80 ?_
      refine ⟨fun g => ?_, fun g => ?_⟩ <;> simp (disch := omega) only [J_lit, J_neg, J_add, J_sub, J_mul, J_nI, J_le, J_lt, J_eq, J_in, J_nat] at g
      · refine h2 (fun a' b' e => hlt a' b' e ?_)
        have := e.2.2.2.1
        have := e.2.2.1
        omega
      refine inner a a1 (by omega) (fun x6 x7 lt => ih (a + 1) _ x6 x7 (by omega) (by omega) (by simp only [J_lit, J_neg, J_add, J_sub, J_mul, J_nI]; congr 1) lt) (n - 1) 1 _ _ (by omega) (by omega) rfl (fun a' b' e q => ?_)
      have := e.2.2.1
      exact hlt a' b' e (by omega)
  refine eX9_endings (zRun_wp [56, 71] 80 ?_)
  refine v_isDepth ?_
  rw [bb_t (by simp (disch := omega) only [J_lit, J_neg, J_add, J_sub, J_mul, J_nI, J_le, J_lt, J_eq, J_in, J_nat]; omega)]
  refine ⟨fun q => absurd q (by decide), fun _ => ?_⟩
  refine v_isDepth ?_
  rw [bb_t (by simp (disch := omega) only [J_lit, J_neg, J_add, J_sub, J_mul, J_nI, J_le, J_lt, J_eq, J_in, J_nat]; omega)]
  refine ⟨fun q => absurd q (by decide), fun _ => ?_⟩
  refine hask (by omega) (by omega) ?_
  rw [bb_t (by omega)]
  refine ⟨fun q => absurd q (by decide), fun _ => ?_⟩
  refine hask (by omega) (by omega) ?_
  rw [bb_t (by omega)]
  refine ⟨fun _ => ?_, fun q => absurd q (by decide)⟩
  have ix : (J (dd + 1 : Nat) * 625 + J i * 25 + J (i + n : Nat)).toNatClampNeg = 625 * (dd + 1) + 25 * i + (i + n) := by simp (disch := omega) only [J_lit, J_neg, J_add, J_sub, J_mul, J_nI, J_le, J_lt, J_eq, J_in, J_nat]; omega
  refine ⟨by simp (disch := omega) only [J_lit, J_neg, J_add, J_sub, J_mul, J_nI, J_le, J_lt, J_eq, J_in, J_nat]; omega, ?_⟩
  rw [ix, show S _ (625 * (dd + 1) + 25 * i + (i + n)) = _ from hC (dd + 1) (by omega) i (i + n) (by omega) (by omega), show i + n - i = n by omega]
  exact outer (n - 1) 1 _ _ _ (by omega) (by omega) rfl (fun a' b' e q => by have := e.2.1; omega)
end endings
