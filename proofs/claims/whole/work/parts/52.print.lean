/-! what is printed of a span -/
noncomputable def hw (h : Nat → Int) (d i n : Nat) : Nat := if e : 1 ≤ n then (HowOk_ex h d i n e).choose else 0
theorem hw_eq {h : Nat → Int} {d i n w : Nat} (hn : 1 ≤ n) (e : HowOk h d i n w) : hw h d i n = w := by
  unfold hw
  rw [dif_pos hn]
  exact HowOk_uniq (HowOk_ex h d i n hn).choose_spec e
noncomputable def pr (h : Nat → Int) (bb : Nat → List Nat) : Nat → Nat → Nat → Nat → List Nat
  | 0, _, _, _ => []
  | f + 1, d, i, n =>
    if hw h d i n < 1000 then bb i
    else if hw h d i n < 2000 then pr h bb f d i ((hw h d i n - 1000) / 30) ++ pr h bb f d (i + (hw h d i n - 1000) / 30) (n - (hw h d i n - 1000) / 30)
    else if hw h d i n < 3000 then 91 :: (pr h bb f (d - 1) i (n / 2) ++ [93])
    else 91 :: (pr h bb f (d - 1) i ((hw h d i n - 3000) / 30) ++ 58 :: (pr h bb f (d - 1) (i + (hw h d i n - 3000) / 30) ((hw h d i n - 3000) % 30) ++ 59 :: (pr h bb f (d - 1) (i + 2 * ((hw h d i n - 3000) / 30) + (hw h d i n - 3000) % 30) (n - 2 * ((hw h d i n - 3000) / 30) - (hw h d i n - 3000) % 30) ++ [93])))
theorem pr_s (h : Nat → Int) (bb : Nat → List Nat) (f d i n : Nat) : pr h bb (f + 1) d i n = if hw h d i n < 1000 then bb i
    else if hw h d i n < 2000 then pr h bb f d i ((hw h d i n - 1000) / 30) ++ pr h bb f d (i + (hw h d i n - 1000) / 30) (n - (hw h d i n - 1000) / 30)
    else if hw h d i n < 3000 then 91 :: (pr h bb f (d - 1) i (n / 2) ++ [93])
    else 91 :: (pr h bb f (d - 1) i ((hw h d i n - 3000) / 30) ++ 58 :: (pr h bb f (d - 1) (i + (hw h d i n - 3000) / 30) ((hw h d i n - 3000) % 30) ++ 59 :: (pr h bb f (d - 1) (i + 2 * ((hw h d i n - 3000) / 30) + (hw h d i n - 3000) % 30) (n - 2 * ((hw h d i n - 3000) / 30) - (hw h d i n - 3000) % 30) ++ [93]))) := rfl
theorem pr_one {h : Nat → Int} {bb : Nat → List Nat} {f d i : Nat} : pr h bb (f + 1) d i 1 = bb i := by
  rw [pr_s, hw_eq (by omega) (Or.inl ⟨rfl, rfl⟩), if_pos (by omega)]
theorem pr_split {h : Nat → Int} {bb : Nat → List Nat} {f d i n k : Nat} (hn : 1 ≤ n) (hk : k ≤ 24) (e : HowOk h d i n (1000 + 30 * k)) : pr h bb (f + 1) d i n = pr h bb f d i k ++ pr h bb f d (i + k) (n - k) := by
  rw [pr_s, hw_eq hn e, if_neg (by omega), if_pos (by omega), show (1000 + 30 * k - 1000) / 30 = k by omega]
theorem pr_rep {h : Nat → Int} {bb : Nat → List Nat} {f d i n k : Nat} (hn : 1 ≤ n) (hk : k ≤ 24) (e : HowOk h d i n (2000 + 30 * k)) : pr h bb (f + 1) d i n = 91 :: (pr h bb f (d - 1) i (n / 2) ++ [93]) := by
  rw [pr_s, hw_eq hn e, if_neg (by omega), if_neg (by omega), if_pos (by omega)]
theorem pr_end {h : Nat → Int} {bb : Nat → List Nat} {f d i n a b : Nat} (hn : 1 ≤ n) (hb : b ≤ 24) (e : HowOk h d i n (3000 + 30 * a + b)) : pr h bb (f + 1) d i n = 91 :: (pr h bb f (d - 1) i a ++ 58 :: (pr h bb f (d - 1) (i + a) b ++ 59 :: (pr h bb f (d - 1) (i + 2 * a + b) (n - 2 * a - b) ++ [93]))) := by
  rw [pr_s, hw_eq hn e, if_neg (by omega), if_neg (by omega), if_neg (by omega), show (3000 + 30 * a + b - 3000) / 30 = a by omega, show (3000 + 30 * a + b - 3000) % 30 = b by omega]
