/-! the class's Spans: what is asked of them -/
/-- Spans at cell c hold the m bars h, and how they are alike -/
def SpOk (S : zS) (c c1 c2 : Nat) (h : Nat → Int) (m : Nat) : Prop := m ≤ 24 ∧ S c 1 = J m ∧ (∀ k, k < m → S c1 k = J (h k)) ∧ ∀ i j, i ≤ m → j ≤ m → S c2 (25 * i + j) = J (al h m i j)
/-- a span's cost stands -/
def CoOk (S : zS) (c3 : Nat) (h : Nat → Int) (d i j : Nat) : Prop := S c3 (625 * d + 25 * i + j) = J (cv (co h d i (j - i)))
section spans
variable {d : Nat} {S : zS} {Q : Option Value → zS → Prop} {c c1 c2 c3 m : Nat} {h : Nat → Int}
theorem v_has (hc : (c, c1, c2, c3) ∈ sps) (hS : SpOk S c c1 c2 h m) {z : Int} (z1 : -2147483648 ≤ z) (z2 : z ≤ 2147483647) (hq : Q (some (.int (bb (0 ≤ z ∧ z ≤ m)))) S) : KC (d + 1) mX9_has [.ref c, .int (J z)] S Q := by
  obtain ⟨hm, s1, -⟩ := hS
  simp only [sps, List.mem_cons, Prod.mk.injEq, List.not_mem_nil, or_false] at hc
  rcases hc with ⟨rfl, rfl, rfl, rfl⟩ | ⟨rfl, rfl, rfl, rfl⟩
  all_goals
    refine eX9_has (zRun_wp [] 60 ?_)
    refine ⟨fun k1 => ?_, fun k1 => ?_⟩ <;> simp (disch := omega) only [J_lit, J_neg, J_add, J_sub, J_mul, J_nI, J_le, J_lt, J_eq, J_in, J_nat] at k1
    · exact ⟨Or.inl rfl, by rwa [bb_f (by omega)] at hq⟩
    refine ⟨fun k2 => ?_, fun k2 => ?_⟩ <;> rw [s1] at k2 <;> simp (disch := omega) only [J_lit, J_neg, J_add, J_sub, J_mul, J_nI, J_le, J_lt, J_eq, J_in, J_nat] at k2
    · exact ⟨Or.inl rfl, by rwa [bb_f (by omega)] at hq⟩
    · exact ⟨Or.inr rfl, by rwa [bb_t (by omega)] at hq⟩
theorem v_alikeFrom (hc : (c, c1, c2, c3) ∈ sps) (hS : SpOk S c c1 c2 h m) {i j : Nat} (hi : i ≤ 24) (hj : j ≤ 24) (hq : Q (some (.int (J (al h m i j)))) S) : KC (d + 2) mX9_alikeFrom [.ref c, .int (J i), .int (J j)] S Q := by
  have hask := fun {z : Int} {Q' : Option Value → zS → Prop} (z1 : -2147483648 ≤ z) (z2 : z ≤ 2147483647) (k : Q' (some (.int (bb (0 ≤ z ∧ z ≤ m)))) S) => v_has (d := d) (Q := Q') hc hS z1 z2 k
  obtain ⟨hm, s1, -, s3⟩ := hS
  have zero : ¬ (i ≤ m ∧ j ≤ m) → al h m i j = 0 := fun q => by rw [al_s, if_neg (by omega)]
  simp only [sps, List.mem_cons, Prod.mk.injEq, List.not_mem_nil, or_false] at hc
  rcases hc with ⟨rfl, rfl, rfl, rfl⟩ | ⟨rfl, rfl, rfl, rfl⟩
  all_goals
    refine eX9_alikeFrom (zRun_wp [] 60 ?_)
    refine hask (by omega) (by omega) ?_
    refine ⟨fun k1 => ?_, fun k1 => ?_⟩ <;> rw [bb_0] at k1
    · rwa [zero (by omega)] at hq
    refine hask (by omega) (by omega) ?_
    refine ⟨fun k2 => ?_, fun k2 => ?_⟩ <;> rw [bb_0] at k2
    · rwa [zero (by omega)] at hq
    have ix : (J i * 25 + J j).toNatClampNeg = 25 * i + j := by simp (disch := omega) only [J_lit, J_neg, J_add, J_sub, J_mul, J_nI, J_le, J_lt, J_eq, J_in, J_nat]; omega
    refine ⟨by simp (disch := omega) only [J_lit, J_neg, J_add, J_sub, J_mul, J_nI, J_le, J_lt, J_eq, J_in, J_nat]; omega, ?_⟩
    rw [ix, s3 i j (by omega) (by omega)]
    exact hq
theorem v_cost (hc : (c, c1, c2, c3) ∈ sps) (hS : SpOk S c c1 c2 h m) {dd i j : Nat} (hd : dd ≤ 3) (hi : i ≤ m) (hj : j ≤ m) (hC : i < j → CoOk S c3 h dd i j) (hq : Q (some (.int (J (cv (co h dd i (j - i)))))) S) : KC (d + 2) mX9_cost [.ref c, .int (J dd), .int (J i), .int (J j)] S Q := by
  have hask := fun {z : Int} {Q' : Option Value → zS → Prop} (z1 : -2147483648 ≤ z) (z2 : z ≤ 2147483647) (k : Q' (some (.int (bb (0 ≤ z ∧ z ≤ m)))) S) => v_has (d := d) (Q := Q') hc hS z1 z2 k
  obtain ⟨hm, s1, -, s3⟩ := hS
  simp only [sps, List.mem_cons, Prod.mk.injEq, List.not_mem_nil, or_false] at hc
  rcases hc with ⟨rfl, rfl, rfl, rfl⟩ | ⟨rfl, rfl, rfl, rfl⟩
  all_goals
    refine eX9_cost (zRun_wp [] 60 ?_)
    refine v_isDepth ?_
    rw [bb_t (by simp (disch := omega) only [J_lit, J_neg, J_add, J_sub, J_mul, J_nI, J_le, J_lt, J_eq, J_in, J_nat]; omega)]
    refine ⟨fun q => absurd q (by decide), fun _ => ?_⟩
    refine hask (by omega) (by omega) ?_
    rw [bb_t (by omega)]
    refine ⟨fun q => absurd q (by decide), fun _ => ?_⟩
    refine hask (by omega) (by omega) ?_
    rw [bb_t (by omega)]
    refine ⟨fun q => absurd q (by decide), fun _ => ?_⟩
    refine ⟨fun k1 => ?_, fun k1 => ?_⟩ <;> simp (disch := omega) only [J_lit, J_neg, J_add, J_sub, J_mul, J_nI, J_le, J_lt, J_eq, J_in, J_nat] at k1
    · have ix : (J dd * 625 + J i * 25 + J j).toNatClampNeg = 625 * dd + 25 * i + j := by simp (disch := omega) only [J_lit, J_neg, J_add, J_sub, J_mul, J_nI, J_le, J_lt, J_eq, J_in, J_nat]; omega
      refine ⟨by simp (disch := omega) only [J_lit, J_neg, J_add, J_sub, J_mul, J_nI, J_le, J_lt, J_eq, J_in, J_nat]; omega, ?_⟩
      rw [ix, show S _ (625 * dd + 25 * i + j) = _ from hC (by omega)]
      exact hq
    · rw [show j - i = 0 by omega, co_0] at hq
      exact hq
theorem v_mayRepeat (hc : (c, c1, c2, c3) ∈ sps) (hS : SpOk S c c1 c2 h m) {dd i j : Nat} (hd : dd ≤ 3) (hij : i < j) (hj : j ≤ m) (hq : Q (some (.int (bb (0 < dd ∧ (j - i) % 2 = 0 ∧ er h i (i + (j - i) / 2) ((j - i) / 2))))) S) : KC (d + 1) mX9_mayRepeat [.ref c, .int (J dd), .int (J i), .int (J j)] S Q := by
  obtain ⟨hm, s1, -, s3⟩ := hS
  have half : (J j - J i) / 2 = J ((j - i) / 2 : Nat) := by
    rw [J_sub, show (2 : Int32) = J 2 from rfl, J_div (by omega) (by omega) (by omega) (by omega)]
    congr 1; omega
  simp only [sps, List.mem_cons, Prod.mk.injEq, List.not_mem_nil, or_false] at hc
  rcases hc with ⟨rfl, rfl, rfl, rfl⟩ | ⟨rfl, rfl, rfl, rfl⟩
  all_goals
    refine eX9_mayRepeat (zRun_wp [] 60 ?_)
    refine ⟨by decide, ?_⟩
    rw [half]
    refine ⟨fun k1 => ?_, fun k1 => ?_⟩ <;> simp (disch := omega) only [J_lit, J_neg, J_add, J_sub, J_mul, J_nI, J_le, J_lt, J_eq, J_in, J_nat] at k1
    · exact ⟨Or.inl rfl, by rwa [bb_f (by omega)] at hq⟩
    refine ⟨fun k2 => ?_, fun k2 => ?_⟩ <;> simp (disch := omega) only [J_lit, J_neg, J_add, J_sub, J_mul, J_nI, J_le, J_lt, J_eq, J_in, J_nat] at k2
    · exact ⟨Or.inl rfl, by rwa [bb_f (by omega)] at hq⟩
    refine ⟨fun k3 => ?_, fun k3 => ?_⟩ <;> simp (disch := omega) only [J_lit, J_neg, J_add, J_sub, J_mul, J_nI, J_le, J_lt, J_eq, J_in, J_nat] at k3
    · exact ⟨Or.inl rfl, by rwa [bb_f (by omega)] at hq⟩
    have ix : (J i * 25 + J i + J ((j - i) / 2 : Nat)).toNatClampNeg = 25 * i + (i + (j - i) / 2) := by simp (disch := omega) only [J_lit, J_neg, J_add, J_sub, J_mul, J_nI, J_le, J_lt, J_eq, J_in, J_nat]; omega
    refine ⟨by simp (disch := omega) only [J_lit, J_neg, J_add, J_sub, J_mul, J_nI, J_le, J_lt, J_eq, J_in, J_nat]; omega, ?_⟩
    have hal := al_lei h m i (i + (j - i) / 2)
    have hae := al_er (h := h) (m := m) (i := i) (j := i + (j - i) / 2) (a := (j - i) / 2) (by omega) (by omega)
    refine ⟨fun k4 => ?_, fun k4 => ?_⟩ <;> rw [ix, s3 i (i + (j - i) / 2) (by omega) (by omega)] at k4 <;> simp (disch := omega) only [J_lit, J_neg, J_add, J_sub, J_mul, J_nI, J_le, J_lt, J_eq, J_in, J_nat] at k4
    · exact ⟨Or.inl rfl, by rwa [bb_f (fun q => by have := hae.mpr q.2.2; omega)] at hq⟩
    · exact ⟨Or.inr rfl, by rwa [bb_t ⟨by omega, by omega, hae.mp (by omega)⟩] at hq⟩
/-- what [ : ; ] costs, as the class writes it -/
def ecv (h : Nat → Int) (d i n a b : Nat) : Nat := cv (co h d i a) + cv (co h d (i + a) b) + cv (co h d (i + 2 * a + b) (n - 2 * a - b)) + 4
theorem ecv_eq {h : Nat → Int} {d i n a b : Nat} (hn : n ≤ 24) (hab : 2 * a + b ≤ n) : ecv h d i n a b = cv (co h d i a + co h d (i + a) b + co h d (i + 2 * a + b) (n - 2 * a - b) + 4) := by
  have x := co_few h d i a (by omega)
  have y := co_few h d (i + a) b (by omega)
  have z := co_few h d (i + 2 * a + b) (n - 2 * a - b) (by omega)
  unfold ecv cv
  omega
theorem v_endingsCost (hc : (c, c1, c2, c3) ∈ sps) {dd i j a back : Nat} (hm : j ≤ 24) (hd : dd ≤ 2) (ha : 1 ≤ a) (hb : i + a < back) (hj : back + a < j) (hC : ∀ i' j', i' < j' → i ≤ i' → j' ≤ j → j' - i' < j - i → CoOk S c3 h dd i' j') (hq : Q (some (.int (J (ecv h dd i (j - i) a (back - i - a))))) S) : KC (d + 1) mX9_endingsCost [.ref c, .int (J (dd + 1 : Nat)), .int (J i), .int (J j), .int (J a), .int (J back)] S Q := by
  have x := hC i (i + a) (by omega) (by omega) (by omega) (by omega)
  have y := hC (i + a) back (by omega) (by omega) (by omega) (by omega)
  have z := hC (back + a) j (by omega) (by omega) (by omega) (by omega)
  unfold CoOk at x y z
  have e1 : i + a - i = a := by omega
  have e2 : back - (i + a) = back - i - a := by omega
  have e3 : j - (back + a) = j - i - 2 * a - (back - i - a) := by omega
  have e4 : i + 2 * a + (back - i - a) = back + a := by omega
  simp only [sps, List.mem_cons, Prod.mk.injEq, List.not_mem_nil, or_false] at hc
  rcases hc with ⟨rfl, rfl, rfl, rfl⟩ | ⟨rfl, rfl, rfl, rfl⟩
  all_goals
    refine eX9_endingsCost (zRun_wp [] 80 ?_)
    have i1 : ((J (dd + 1 : Nat) - 1) * 625 + J i * 25 + J i + J a).toNatClampNeg = 625 * dd + 25 * i + (i + a) := by simp (disch := omega) only [J_lit, J_neg, J_add, J_sub, J_mul, J_nI, J_le, J_lt, J_eq, J_in, J_nat]; omega
    have i2 : ((J (dd + 1 : Nat) - 1) * 625 + (J i + J a) * 25 + J back).toNatClampNeg = 625 * dd + 25 * (i + a) + back := by simp (disch := omega) only [J_lit, J_neg, J_add, J_sub, J_mul, J_nI, J_le, J_lt, J_eq, J_in, J_nat]; omega
    have i3 : ((J (dd + 1 : Nat) - 1) * 625 + (J back + J a) * 25 + J j).toNatClampNeg = 625 * dd + 25 * (back + a) + j := by simp (disch := omega) only [J_lit, J_neg, J_add, J_sub, J_mul, J_nI, J_le, J_lt, J_eq, J_in, J_nat]; omega
    refine ⟨by simp (disch := omega) only [J_lit, J_neg, J_add, J_sub, J_mul, J_nI, J_le, J_lt, J_eq, J_in, J_nat]; omega, by simp (disch := omega) only [J_lit, J_neg, J_add, J_sub, J_mul, J_nI, J_le, J_lt, J_eq, J_in, J_nat]; omega, by simp (disch := omega) only [J_lit, J_neg, J_add, J_sub, J_mul, J_nI, J_le, J_lt, J_eq, J_in, J_nat]; omega, ?_⟩
    rw [i1, i2, i3, x, y, z, e1, e2, e3]
    unfold ecv at hq
    rw [e4] at hq
    have hv : J (cv (co h dd i a)) + J (cv (co h dd (i + a) (back - i - a))) + J (cv (co h dd (back + a) (j - i - 2 * a - (back - i - a)))) + 4 = J (cv (co h dd i a) + cv (co h dd (i + a) (back - i - a)) + cv (co h dd (back + a) (j - i - 2 * a - (back - i - a))) + 4 : Nat) := by simp only [J_lit, J_neg, J_add, J_sub, J_mul, J_nI]; congr 1
    rw [← hv] at hq
    exact hq
end spans
