/-! what a span costs: 1000 a bar, 1 a sign -/
abbrev er (h : Nat → Int) (i j a : Nat) : Prop := ∀ t, t < a → h (i + t) = h (j + t)
def cands (C : Nat → Nat → Nat → Nat) (h : Nat → Int) (d i n : Nat) : List Nat :=
  (List.range (n - 1)).map (fun k => C d i (k + 1) + C d (i + (k + 1)) (n - (k + 1))) ++ ((if 0 < d ∧ n % 2 = 0 ∧ er h i (i + n / 2) (n / 2) then [C (d - 1) i (n / 2) + 2] else []) ++
  (if 0 < d then (List.range n).flatMap (fun a => (List.range n).filterMap (fun b => if 2 * (a + 1) + (b + 1) + 1 ≤ n ∧ er h i (i + (a + 1) + (b + 1)) (a + 1) then some (C (d - 1) i (a + 1) + C (d - 1) (i + (a + 1)) (b + 1) + C (d - 1) (i + 2 * (a + 1) + (b + 1)) (n - 2 * (a + 1) - (b + 1)) + 4) else none)) else []))
def cof (h : Nat → Int) : Nat → Nat → Nat → Nat → Nat
  | 0, _, _, _ => 0
  | f + 1, d, i, n => if n ≤ 1 then 1000 * n else (cands (cof h f) h d i n).foldl Nat.min (1000 * n)
def co (h : Nat → Int) (d i n : Nat) : Nat := cof h n d i n
theorem fmin (l : List Nat) : ∀ x, (l.foldl Nat.min x ≤ x ∧ ∀ y ∈ l, l.foldl Nat.min x ≤ y) ∧ (l.foldl Nat.min x = x ∨ l.foldl Nat.min x ∈ l) := by
  induction l with
  | nil => intro x; exact ⟨⟨Nat.le_refl _, fun y h => by cases h⟩, Or.inl rfl⟩
  | cons a t ih =>
    intro x
    obtain ⟨⟨h1, h2⟩, h3⟩ := ih (Nat.min x a)
    have e : (a :: t).foldl Nat.min x = t.foldl Nat.min (Nat.min x a) := rfl
    rw [e]
    have m1 : Nat.min x a ≤ x := Nat.min_le_left x a
    have m2 : Nat.min x a ≤ a := Nat.min_le_right x a
    refine ⟨⟨by omega, fun y hy => ?_⟩, ?_⟩
    · rcases List.mem_cons.mp hy with rfl | hy
      · omega
      · exact h2 y hy
    · rcases h3 with h3 | h3
      · rcases Nat.le_total x a with q | q
        · left; rw [h3]; exact Nat.min_eq_left q
        · right; rw [h3, show Nat.min x a = a from Nat.min_eq_right q]; exact List.mem_cons_self
      · exact Or.inr (List.mem_cons_of_mem _ h3)
theorem cands_congr {C C' : Nat → Nat → Nat → Nat} {h : Nat → Int} {d i n : Nat} (e : ∀ d i k, k < n → C d i k = C' d i k) (hn : 2 ≤ n) : cands C h d i n = cands C' h d i n := by
  unfold cands
  congr 1
  · apply List.map_congr_left
    intro k hk
    have := List.mem_range.mp hk
    rw [e _ _ _ (by omega), e _ _ _ (by omega)]
  congr 1
  · rw [e _ _ _ (by omega)]
  · split
    · congr 1
      funext a
      congr 1
      funext b
      refine ite_congr rfl (fun q => ?_) (fun _ => rfl)
      rw [e _ _ _ (by omega), e _ _ _ (by omega), e _ _ _ (by omega)]
    · rfl
theorem cof_more (h : Nat → Int) : ∀ n f d i, n ≤ f → cof h f d i n = cof h n d i n := by
  intro n
  induction n using Nat.strongRecOn with
  | _ n ih =>
    intro f d i hf
    cases f with
    | zero => have : n = 0 := by omega
              subst this; rfl
    | succ f =>
      cases n with
      | zero => rfl
      | succ n =>
        unfold cof
        by_cases q : n + 1 ≤ 1
        · rw [if_pos q, if_pos q]
        · rw [if_neg q, if_neg q]
          rw [cands_congr (C := cof h f) (C' := cof h n) (fun d i k hk => by rw [ih k (by omega) f d i (by omega), ih k (by omega) n d i (by omega)]) (by omega)]
theorem co_s (h : Nat → Int) (d i n : Nat) (hn : 2 ≤ n) : co h d i n = (cands (co h) h d i n).foldl Nat.min (1000 * n) := by
  cases n with
  | zero => omega
  | succ n =>
    have e : co h d i (n + 1) = if n + 1 ≤ 1 then 1000 * (n + 1) else (cands (cof h n) h d i (n + 1)).foldl Nat.min (1000 * (n + 1)) := rfl
    rw [e, if_neg (by omega), cands_congr (C := cof h n) (C' := co h) (fun d i k hk => cof_more h k n d i (by omega)) hn]
theorem co_0 (h : Nat → Int) (d i : Nat) : co h d i 0 = 0 := rfl
theorem co_1 (h : Nat → Int) (d i : Nat) : co h d i 1 = 1000 := rfl
theorem co_le (h : Nat → Int) (d i n : Nat) : co h d i n ≤ 1000 * n := by
  by_cases q : n ≤ 1
  · have : n = 0 ∨ n = 1 := by omega
    rcases this with rfl | rfl
    · rw [co_0]; omega
    · rw [co_1]; omega
  · rw [co_s h d i n (by omega)]
    exact (fmin _ _).1.1
theorem co_split {h : Nat → Int} {d i n k : Nat} (h1 : 1 ≤ k) (h2 : k < n) : co h d i n ≤ co h d i k + co h d (i + k) (n - k) := by
  rw [co_s h d i n (by omega)]
  refine (fmin _ _).1.2 _ ?_
  unfold cands
  refine List.mem_append_left _ (List.mem_map.mpr ⟨k - 1, List.mem_range.mpr (by omega), ?_⟩)
  rw [show k - 1 + 1 = k by omega]
theorem co_rep {h : Nat → Int} {d i a : Nat} (h1 : 1 ≤ a) (h2 : er h i (i + a) a) : co h (d + 1) i (2 * a) ≤ co h d i a + 2 := by
  rw [co_s h (d + 1) i (2 * a) (by omega)]
  refine (fmin _ _).1.2 _ ?_
  unfold cands
  refine List.mem_append_right _ (List.mem_append_left _ ?_)
  have e : 2 * a / 2 = a := by omega
  rw [e, if_pos ⟨by omega, by omega, h2⟩]
  exact List.mem_singleton.mpr rfl
theorem co_end {h : Nat → Int} {d i n a b : Nat} (h1 : 1 ≤ a) (h2 : 1 ≤ b) (h3 : 2 * a + b + 1 ≤ n) (h4 : er h i (i + a + b) a) : co h (d + 1) i n ≤ co h d i a + co h d (i + a) b + co h d (i + 2 * a + b) (n - 2 * a - b) + 4 := by
  rw [co_s h (d + 1) i n (by omega)]
  refine (fmin _ _).1.2 _ ?_
  unfold cands
  refine List.mem_append_right _ (List.mem_append_right _ ?_)
  rw [if_pos (by omega)]
  refine List.mem_flatMap.mpr ⟨a - 1, List.mem_range.mpr (by omega), List.mem_filterMap.mpr ⟨b - 1, List.mem_range.mpr (by omega), ?_⟩⟩
  rw [show a - 1 + 1 = a by omega, show b - 1 + 1 = b by omega, if_pos ⟨by omega, h4⟩]
  rfl
theorem co_cases {h : Nat → Int} {d i n : Nat} (hn : 2 ≤ n) : (∃ k, 1 ≤ k ∧ k < n ∧ co h d i n = co h d i k + co h d (i + k) (n - k)) ∨ (∃ d' a, d = d' + 1 ∧ 1 ≤ a ∧ n = 2 * a ∧ er h i (i + a) a ∧ co h d i n = co h d' i a + 2) ∨ (∃ d' a b, d = d' + 1 ∧ 1 ≤ a ∧ 1 ≤ b ∧ 2 * a + b + 1 ≤ n ∧ er h i (i + a + b) a ∧ co h d i n = co h d' i a + co h d' (i + a) b + co h d' (i + 2 * a + b) (n - 2 * a - b) + 4) := by
  have hs := co_s h d i n hn
  rcases (fmin (cands (co h) h d i n) (1000 * n)).2 with q | q
  · -- all bars: then as a split, too
    rw [← hs] at q
    left
    have h1 := co_split (h := h) (d := d) (i := i) (n := n) (k := 1) (by omega) (by omega)
    have h2 := co_le h d (i + 1) (n - 1)
    rw [co_1] at h1
    exact ⟨1, by omega, by omega, by rw [co_1]; omega⟩
  · rw [← hs] at q
    unfold cands at q
    rcases List.mem_append.mp q with q | q
    · obtain ⟨k, hk, e⟩ := List.mem_map.mp q
      have := List.mem_range.mp hk
      exact Or.inl ⟨k + 1, by omega, by omega, e.symm⟩
    · rcases List.mem_append.mp q with q | q
      · split at q
        · rename_i c
          right; left
          refine ⟨d - 1, n / 2, by omega, by omega, by omega, c.2.2, List.mem_singleton.mp q⟩
        · cases q
      · split at q
        · rename_i c
          obtain ⟨a, ha, q⟩ := List.mem_flatMap.mp q
          obtain ⟨b, hb, q⟩ := List.mem_filterMap.mp q
          split at q
          · rename_i c2
            right; right
            exact ⟨d - 1, a + 1, b + 1, by omega, by omega, by omega, c2.1, c2.2, (Option.some.inj q).symm⟩
          · cases q
        · cases q
/-- bars and signs together are fewer than twice the bars played -/
theorem co_bs (h : Nat → Int) : ∀ n d i, 1 ≤ n → n ≤ 100 → 1000 ≤ co h d i n ∧ co h d i n / 1000 + co h d i n % 1000 ≤ 2 * n - 1 := by
  intro n
  induction n using Nat.strongRecOn with
  | _ n ih =>
    intro d i h1 h2
    by_cases q : n = 1
    · subst q; rw [co_1]; omega
    · rcases co_cases (h := h) (d := d) (i := i) (n := n) (by omega) with ⟨k, k1, k2, e⟩ | ⟨d', a, -, a1, a2, -, e⟩ | ⟨d', a, b, -, a1, b1, ab, -, e⟩
      · have x := ih k (by omega) d i (by omega) (by omega)
        have y := ih (n - k) (by omega) d (i + k) (by omega) (by omega)
        rw [e]; omega
      · have x := ih a (by omega) d' i (by omega) (by omega)
        rw [e]; omega
      · have x := ih a (by omega) d' i (by omega) (by omega)
        have y := ih b (by omega) d' (i + a) (by omega) (by omega)
        have z := ih (n - 2 * a - b) (by omega) d' (i + 2 * a + b) (by omega) (by omega)
        rw [e]; omega
theorem co_d0 (h : Nat → Int) : ∀ n i, co h 0 i n = 1000 * n := by
  intro n
  induction n using Nat.strongRecOn with
  | _ n ih =>
    intro i
    by_cases q : n ≤ 1
    · have : n = 0 ∨ n = 1 := by omega
      rcases this with rfl | rfl
      · rw [co_0]
      · rw [co_1]
    · rcases co_cases (h := h) (d := 0) (i := i) (n := n) (by omega) with ⟨k, k1, k2, e⟩ | ⟨d', a, e, -⟩ | ⟨d', a, b, e, -⟩
      · rw [e, ih k (by omega), ih (n - k) (by omega)]; omega
      · omega
      · omega
/-- it rests on the span's own bars -/
theorem co_congr : ∀ (n : Nat) {h h' : Nat → Int} {d i i' : Nat}, (∀ t, t < n → h (i + t) = h' (i' + t)) → co h d i n = co h' d i' n := by
  have key : ∀ (n : Nat), (∀ k, k < n → ∀ {h h' : Nat → Int} {d i i' : Nat}, (∀ t, t < k → h (i + t) = h' (i' + t)) → co h d i k = co h' d i' k) → ∀ {h h' : Nat → Int} {d i i' : Nat}, (∀ t, t < n → h (i + t) = h' (i' + t)) → 2 ≤ n → co h d i n ≤ co h' d i' n := by
    intro n ih h h' d i i' e hn
    rcases co_cases (h := h') (d := d) (i := i') (n := n) hn with ⟨k, k1, k2, q⟩ | ⟨d', a, rfl, a1, a2, r, q⟩ | ⟨d', a, b, rfl, a1, b1, ab, r, q⟩
    · rw [q, ← ih k k2 (h := h) (i := i) (fun t ht => e t (by omega)), ← ih (n - k) (by omega) (h := h) (i := i + k) (fun t ht => by have := e (k + t) (by omega); rw [← Nat.add_assoc, ← Nat.add_assoc] at this; exact this)]
      exact co_split k1 k2
    · rw [q, ← ih a (by omega) (h := h) (i := i) (fun t ht => e t (by omega)), a2]
      refine co_rep a1 (fun t ht => ?_)
      have r1 := r t ht
      have e1 := e t (by omega)
      have e2 := e (a + t) (by omega)
      rw [← Nat.add_assoc, ← Nat.add_assoc] at e2
      rw [e1, e2, r1]
    · rw [q, ← ih a (by omega) (h := h) (i := i) (fun t ht => e t (by omega)), ← ih b (by omega) (h := h) (i := i + a) (fun t ht => by have := e (a + t) (by omega); rw [← Nat.add_assoc, ← Nat.add_assoc] at this; exact this), ← ih (n - 2 * a - b) (by omega) (h := h) (i := i + 2 * a + b) (fun t ht => by have := e (2 * a + b + t) (by omega); rw [show i + 2 * a + b + t = i + (2 * a + b + t) by omega, show i' + 2 * a + b + t = i' + (2 * a + b + t) by omega]; exact this)]
      refine co_end a1 b1 ab (fun t ht => ?_)
      have r1 := r t ht
      have e1 := e t (by omega)
      have e2 := e (a + b + t) (by omega)
      rw [show i + (a + b + t) = i + a + b + t by omega, show i' + (a + b + t) = i' + a + b + t by omega] at e2
      rw [e1, e2, r1]
  intro n
  induction n using Nat.strongRecOn with
  | _ n ih =>
    intro h h' d i i' e
    by_cases q : n ≤ 1
    · have : n = 0 ∨ n = 1 := by omega
      rcases this with rfl | rfl
      · rw [co_0, co_0]
      · rw [co_1, co_1]
    · have a := key n (fun k hk _ _ _ _ _ e => ih k hk e) e (by omega) (d := d)
      have b := key n (fun k hk _ _ _ _ _ e => ih k hk e) (fun t ht => (e t ht).symm) (by omega) (d := d)
      omega
/-- the class's way to write a cost: 256 a bar -/
def cv (c : Nat) : Nat := 256 * (c / 1000) + c % 1000
theorem cv_lt {a b : Nat} (ha : a % 1000 < 256) (hb : b % 1000 < 256) : cv a < cv b ↔ a < b := by unfold cv; omega
theorem cv_eq {a b : Nat} (ha : a % 1000 < 256) (hb : b % 1000 < 256) : cv a = cv b ↔ a = b := by unfold cv; omega
theorem cv_add {a b : Nat} (h : a % 1000 + b % 1000 < 1000) : cv (a + b) = cv a + cv b := by unfold cv; omega
theorem cv_sgn {a k : Nat} (h : a % 1000 + k < 1000) : cv (a + k) = cv a + k := by unfold cv; omega
theorem cv_bars {a : Nat} (ha : a % 1000 < 256) : cv a / 256 = a / 1000 ∧ cv a % 256 = a % 1000 := by unfold cv; omega
theorem al_er {h : Nat → Int} {m i j a : Nat} (h1 : j + a ≤ m) (h2 : i ≤ j) : a ≤ al h m i j ↔ er h i j a := by
  rw [al_ge]
  exact ⟨fun q t ht => (q t ht).2.2, fun q t ht => ⟨by omega, by omega, q t ht⟩⟩
theorem cv_small {c n : Nat} (h : c ≤ 1000 * n) (hn : n ≤ 24) : cv c ≤ 8000 := by unfold cv; omega
theorem cv_mono {a b : Nat} (ha : a % 1000 < 256) (hb : b % 1000 < 256) (h : a ≤ b) : cv a ≤ cv b := by unfold cv; omega
/-- a cost's signs are few -/
theorem co_few (h : Nat → Int) (d i n : Nat) (hn : n ≤ 24) : co h d i n % 1000 < 48 := by
  by_cases q : n = 0
  · subst q; rw [co_0]; omega
  · have := co_bs h n d i (by omega) (by omega); omega
