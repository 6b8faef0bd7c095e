/-! ints as whole numbers -/
def J (z : Int) : Int32 := Int32.ofInt z
theorem J_lit (n : Nat) : (OfNat.ofNat n : Int32) = J (OfNat.ofNat n : Int) := rfl
theorem J_nI (n : Nat) : nI n = J (n : Int) := rfl
theorem J_add (a b : Int) : J a + J b = J (a + b) := (Int32.ofInt_add a b).symm
theorem J_sub (a b : Int) : J a - J b = J (a - b) := (Int32.ofInt_sub a b).symm
theorem J_mul (a b : Int) : J a * J b = J (a * b) := (Int32.ofInt_mul a b).symm
theorem J_neg (a : Int) : -J a = J (-a) := (Int32.ofInt_neg a).symm
theorem J_of (x : Int32) : ∃ z : Int, x = J z ∧ -2147483648 ≤ z ∧ z ≤ 2147483647 := ⟨x.toInt, (Int32.ofInt_toInt x).symm, by have := Int32.le_toInt x; omega, by have := Int32.toInt_lt x; omega⟩
theorem J_int {a : Int} (h1 : -2147483648 ≤ a) (h2 : a ≤ 2147483647) : (J a).toInt = a := Int32.toInt_ofInt_of_le (by omega) (by omega)
theorem J_le {a b : Int} (h1 : -2147483648 ≤ a) (h2 : a ≤ 2147483647) (h3 : -2147483648 ≤ b) (h4 : b ≤ 2147483647) : J a ≤ J b ↔ a ≤ b := by
  rw [Int32.le_iff_toInt_le, J_int h1 h2, J_int h3 h4]
theorem J_lt {a b : Int} (h1 : -2147483648 ≤ a) (h2 : a ≤ 2147483647) (h3 : -2147483648 ≤ b) (h4 : b ≤ 2147483647) : J a < J b ↔ a < b := by
  rw [Int32.lt_iff_toInt_lt, J_int h1 h2, J_int h3 h4]
theorem J_eq {a b : Int} (h1 : -2147483648 ≤ a) (h2 : a ≤ 2147483647) (h3 : -2147483648 ≤ b) (h4 : b ≤ 2147483647) : J a = J b ↔ a = b := by
  rw [← Int32.toInt_inj, J_int h1 h2, J_int h3 h4]
theorem J_nat {a : Int} (h1 : -2147483648 ≤ a) (h2 : a ≤ 2147483647) : (J a).toNatClampNeg = a.toNat := Int32.toNatClampNeg_ofInt_of_le (by omega) (by omega)
theorem J_in {a : Int} {n : Nat} (h1 : -2147483648 ≤ a) (h2 : a ≤ 2147483647) : vp_in (J a) n ↔ 0 ≤ a ∧ a < n := by
  rw [vp_in_iff, J_int h1 h2]
theorem J_div {a b : Int} (h1 : 0 ≤ a) (h2 : a ≤ 2147483647) (h3 : 0 < b) (h4 : b ≤ 2147483647) : J a / J b = J (a / b) := by
  apply Int32.toInt.inj
  have hb : J b ≠ -1 := by
    intro e
    have := (J_eq (a := b) (b := -1) (by omega) (by omega) (by omega) (by omega)).mp (e.trans (by decide))
    omega
  rw [Int32.toInt_div_of_ne_right _ _ hb, J_int (by omega) h2, J_int (by omega) h4, Int.tdiv_eq_ediv_of_nonneg h1, J_int]
  · have := Int.ediv_nonneg h1 (Int.le_of_lt h3); omega
  · have := Int.ediv_le_self b h1; omega
theorem J_rem {a b : Int} (h1 : 0 ≤ a) (h2 : a ≤ 2147483647) (h3 : 0 < b) (h4 : b ≤ 2147483647) : J a - J a / J b * J b = J (a % b) := by
  rw [J_div h1 h2 h3 h4, J_mul, J_sub, Int.emod_def, Int.mul_comm]
theorem J_n0 {b : Int} (h3 : 0 < b) (h4 : b ≤ 2147483647) : ¬ J b = 0 := by
  intro e
  have := (J_eq (a := b) (b := 0) (by omega) (by omega) (by omega) (by omega)).mp e
  omega
theorem J_0 : (0 : Int32) = J 0 := rfl
/-- a table read behind a write -/
theorem zu_r (S : zS) (c k : Nat) (v : Int32) (c' k' : Nat) : zu S c k v c' k' = if c' = c then (if k' = k then v else S c' k') else S c' k' := by
  unfold zu upd
  by_cases h : c' = c
  · subst h; simp
  · simp [h]
def cnt (f : Nat → Int32) (p : Int32) : Nat → Nat
  | 0 => 0
  | n + 1 => cnt f p n + (if f n = p then 1 else 0)
theorem cnt_le (f : Nat → Int32) (p : Int32) (n : Nat) : cnt f p n ≤ n := by
  induction n with
  | zero => exact Nat.le_refl _
  | succ n ih => unfold cnt; split <;> omega
