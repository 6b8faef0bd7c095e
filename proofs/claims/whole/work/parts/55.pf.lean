/-! what is printed, without fuel; how long it is -/
theorem pr_fuel (h : Nat → Int) (bb : Nat → List Nat) : ∀ n, 1 ≤ n → n ≤ 24 → ∀ f d i, n ≤ f → pr h bb f d i n = pr h bb n d i n := by
  intro n
  induction n using Nat.strongRecOn with
  | _ n ih =>
    intro h1 h24 f d i hf
    obtain ⟨w, hw⟩ := HowOk_ex h d i n h1
    obtain ⟨f, rfl⟩ : ∃ f', f = f' + 1 := ⟨f - 1, by omega⟩
    obtain ⟨g, eg⟩ : ∃ g, n = g + 1 := ⟨n - 1, by omega⟩
    have hw' := hw
    rcases hw with ⟨n1, rfl⟩ | ⟨n2, hw⟩
    · subst n1
      rw [pr_one, pr_one]
    rcases hw with ⟨k, k1, k2, -, rfl, -⟩ | ⟨r, -, rfl, -⟩ | ⟨a, b, ⟨e1, e2, e3, e4, e5⟩, -, rfl, -⟩
    · rw [pr_split h1 (by omega) hw']
      have := pr_split (bb := bb) (f := g) h1 (by omega) hw'
      rw [← eg] at this
      rw [this, ih k (by omega) k1 (by omega) f _ _ (by omega), ih (n - k) (by omega) (by omega) (by omega) f _ _ (by omega), ih k (by omega) k1 (by omega) g _ _ (by omega), ih (n - k) (by omega) (by omega) (by omega) g _ _ (by omega)]
    · rw [pr_rep h1 (by omega) hw']
      have := pr_rep (bb := bb) (f := g) h1 (by omega) hw'
      rw [← eg] at this
      rw [this, ih (n / 2) (by omega) (by omega) (by omega) f _ _ (by omega), ih (n / 2) (by omega) (by omega) (by omega) g _ _ (by omega)]
    · rw [pr_end h1 (by omega) hw']
      have := pr_end (bb := bb) (f := g) h1 (by omega) hw'
      rw [← eg] at this
      rw [this, ih a (by omega) e2 (by omega) f _ _ (by omega), ih b (by omega) e3 (by omega) f _ _ (by omega), ih (n - 2 * a - b) (by omega) (by omega) (by omega) f _ _ (by omega), ih a (by omega) e2 (by omega) g _ _ (by omega), ih b (by omega) e3 (by omega) g _ _ (by omega), ih (n - 2 * a - b) (by omega) (by omega) (by omega) g _ _ (by omega)]
noncomputable def pf (h : Nat → Int) (bb : Nat → List Nat) (d i n : Nat) : List Nat := pr h bb n d i n
theorem pf_0 {h : Nat → Int} {bb : Nat → List Nat} {d i : Nat} : pf h bb d i 0 = [] := rfl
theorem pf_1 {h : Nat → Int} {bb : Nat → List Nat} {d i : Nat} : pf h bb d i 1 = bb i := pr_one
theorem pf_split {h : Nat → Int} {bb : Nat → List Nat} {d i n k : Nat} (hn : n ≤ 24) (k1 : 1 ≤ k) (k2 : k < n) (e : HowOk h d i n (1000 + 30 * k)) : pf h bb d i n = pf h bb d i k ++ pf h bb d (i + k) (n - k) := by
  unfold pf
  obtain ⟨g, eg⟩ : ∃ g, n = g + 1 := ⟨n - 1, by omega⟩
  have := pr_split (bb := bb) (f := g) (by omega) (by omega) e
  rw [← eg] at this
  rw [this, pr_fuel h bb k k1 (by omega) g _ _ (by omega), pr_fuel h bb (n - k) (by omega) (by omega) g _ _ (by omega)]
theorem pf_rep {h : Nat → Int} {bb : Nat → List Nat} {d i n : Nat} (hn : n ≤ 24) (n2 : 2 ≤ n) (e : HowOk h d i n (2000 + 30 * (n / 2))) : pf h bb d i n = 91 :: (pf h bb (d - 1) i (n / 2) ++ [93]) := by
  unfold pf
  obtain ⟨g, eg⟩ : ∃ g, n = g + 1 := ⟨n - 1, by omega⟩
  have := pr_rep (bb := bb) (f := g) (by omega) (by omega) e
  rw [← eg] at this
  rw [this, pr_fuel h bb (n / 2) (by omega) (by omega) g _ _ (by omega)]
theorem pf_end {h : Nat → Int} {bb : Nat → List Nat} {d i n a b : Nat} (hn : n ≤ 24) (a1 : 1 ≤ a) (b1 : 1 ≤ b) (ab : 2 * a + b + 1 ≤ n) (e : HowOk h d i n (3000 + 30 * a + b)) : pf h bb d i n = 91 :: (pf h bb (d - 1) i a ++ 58 :: (pf h bb (d - 1) (i + a) b ++ 59 :: (pf h bb (d - 1) (i + 2 * a + b) (n - 2 * a - b) ++ [93]))) := by
  unfold pf
  obtain ⟨g, eg⟩ : ∃ g, n = g + 1 := ⟨n - 1, by omega⟩
  have := pr_end (bb := bb) (f := g) (by omega) (by omega) e
  rw [← eg] at this
  rw [this, pr_fuel h bb a a1 (by omega) g _ _ (by omega), pr_fuel h bb b b1 (by omega) g _ _ (by omega), pr_fuel h bb (n - 2 * a - b) (by omega) (by omega) g _ _ (by omega)]
/-- how long: W counts the bytes of the bars ahead -/
theorem W_mono {W : Nat → Nat} {m : Nat} (hW : ∀ i, i < m → W i + 1 ≤ W (i + 1)) : ∀ n i, i + n ≤ m → W i + n ≤ W (i + n) := by
  intro n
  induction n with
  | zero => intro i _; exact Nat.le_refl _
  | succ n ih => intro i hi; have a := ih i (by omega); have b := hW (i + n) (by omega); rw [show i + (n + 1) = i + n + 1 by omega]; omega
theorem pf_len {h : Nat → Int} {bb : Nat → List Nat} {W : Nat → Nat} {m : Nat} (hm : m ≤ 24) (hb : ∀ i, i < m → 1 ≤ (bb i).length ∧ W i + (bb i).length = W (i + 1)) : ∀ n, 1 ≤ n → ∀ d i, i + n ≤ m → W i + (pf h bb d i n).length + 1 ≤ W (i + n) + n := by
  have hW : ∀ i, i < m → W i + 1 ≤ W (i + 1) := fun i hi => by have := hb i hi; omega
  intro n
  induction n using Nat.strongRecOn with
  | _ n ih =>
    intro h1 d i hi
    obtain ⟨w, hw⟩ := HowOk_ex h d i n h1
    have hw' := hw
    rcases hw with ⟨n1, rfl⟩ | ⟨n2, hw⟩
    · subst n1
      rw [pf_1]
      have := hb i (by omega)
      omega
    rcases hw with ⟨k, k1, k2, -, rfl, -⟩ | ⟨r, -, rfl, -⟩ | ⟨a, b, ⟨e1, e2, e3, e4, e5⟩, -, rfl, -⟩
    · rw [pf_split (by omega) k1 k2 hw', List.length_append]
      have x := ih k (by omega) k1 d i (by omega)
      have y := ih (n - k) (by omega) (by omega) d (i + k) (by omega)
      rw [show i + k + (n - k) = i + n by omega] at y
      omega
    · rw [pf_rep (by omega) n2 hw', List.length_cons, List.length_append, List.length_singleton]
      have x := ih (n / 2) (by omega) (by omega) (d - 1) i (by omega)
      have y := W_mono hW (n / 2) (i + n / 2) (by omega)
      rw [show i + n / 2 + n / 2 = i + n by have := r.2.1; omega] at y
      have := r.2.1
      omega
    · rw [pf_end (by omega) e2 e3 e4 hw']
      simp only [List.length_cons, List.length_append, List.length_singleton, List.length_nil]
      have x := ih a (by omega) e2 (d - 1) i (by omega)
      have y := ih b (by omega) e3 (d - 1) (i + a) (by omega)
      have z := ih (n - 2 * a - b) (by omega) (by omega) (d - 1) (i + 2 * a + b) (by omega)
      have w := W_mono hW a (i + a + b) (by omega)
      rw [show i + a + b + a = i + 2 * a + b by omega] at w
      rw [show i + 2 * a + b + (n - 2 * a - b) = i + n by omega] at z
      omega
