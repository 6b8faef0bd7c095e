/-! what is found: the first cheapest of plain, !, % -/
abbrev FS : Type := Nat × Nat × Nat × Nat
def ofr (s : FS) (c k a b : Nat) : FS := if c < s.1 then (c, k, a, b) else s
def c1f (h : Nat → Int) (m d a : Nat) : Nat := co h d 0 a + co h d a (m - a - a) + 2
def c2f (h : Nat → Int) (m d a b : Nat) : Nat := co h d 0 a + co h d a b + co h d (a + b) (m - b - (a + b)) + 3
/-- behind the first A offers of ! -/
def fa1 (h : Nat → Int) (m d : Nat) : Nat → FS
  | 0 => (co h d 0 m, 0, 0, 0)
  | A + 1 => if 2 * (A + 1) + 1 ≤ m ∧ er h 0 (m - (A + 1)) (A + 1) then ofr (fa1 h m d A) (c1f h m d (A + 1)) 1 (A + 1) 0 else fa1 h m d A
/-- behind the first B offers of % with a -/
def fb2 (h : Nat → Int) (m d a : Nat) (s : FS) : Nat → FS
  | 0 => s
  | B + 1 => if a + 2 * (B + 1) + 1 ≤ m ∧ er h a (m - (B + 1)) (B + 1) then ofr (fb2 h m d a s B) (c2f h m d a (B + 1)) 2 a (B + 1) else fb2 h m d a s B
def fa2 (h : Nat → Int) (m d : Nat) : Nat → FS
  | 0 => fa1 h m d m
  | A + 1 => if A + 1 + 3 ≤ m then fb2 h m d (A + 1) (fa2 h m d A) m else fa2 h m d A
def fnd (h : Nat → Int) (m d : Nat) : FS := fa2 h m d m
theorem fa1_stop {h : Nat → Int} {m d A : Nat} : ∀ B, m ≤ 2 * A + 2 → A ≤ B → fa1 h m d B = fa1 h m d A := by
  intro B
  induction B with
  | zero => intro _ h2; have : A = 0 := by omega
            subst this; rfl
  | succ B ih =>
    intro h1 h2
    by_cases e : A = B + 1
    · rw [e]
    · rw [show fa1 h m d (B + 1) = if 2 * (B + 1) + 1 ≤ m ∧ er h 0 (m - (B + 1)) (B + 1) then ofr (fa1 h m d B) (c1f h m d (B + 1)) 1 (B + 1) 0 else fa1 h m d B from rfl, if_neg (fun q => by omega)]
      exact ih h1 (by omega)
theorem fb2_stop {h : Nat → Int} {m d a A : Nat} {s : FS} : ∀ B, m ≤ a + 2 * A + 2 → A ≤ B → fb2 h m d a s B = fb2 h m d a s A := by
  intro B
  induction B with
  | zero => intro _ h2; have : A = 0 := by omega
            subst this; rfl
  | succ B ih =>
    intro h1 h2
    by_cases e : A = B + 1
    · rw [e]
    · rw [show fb2 h m d a s (B + 1) = if a + 2 * (B + 1) + 1 ≤ m ∧ er h a (m - (B + 1)) (B + 1) then ofr (fb2 h m d a s B) (c2f h m d a (B + 1)) 2 a (B + 1) else fb2 h m d a s B from rfl, if_neg (fun q => by omega)]
      exact ih h1 (by omega)
theorem fa2_stop {h : Nat → Int} {m d A : Nat} : ∀ B, m ≤ A + 3 → A ≤ B → fa2 h m d B = fa2 h m d A := by
  intro B
  induction B with
  | zero => intro _ h2; have : A = 0 := by omega
            subst this; rfl
  | succ B ih =>
    intro h1 h2
    by_cases e : A = B + 1
    · rw [e]
    · rw [show fa2 h m d (B + 1) = if B + 1 + 3 ≤ m then fb2 h m d (B + 1) (fa2 h m d B) m else fa2 h m d B from rfl, if_neg (by omega)]
      exact ih h1 (by omega)
/-- what may stand in a finding: few signs, and a, b within the bars -/
def FOk (m : Nat) (s : FS) : Prop := s.1 ≤ 1000 * m ∧ s.1 % 1000 < 200 ∧ s.2.1 ≤ 2 ∧ (s.2.1 = 1 → 1 ≤ s.2.2.1 ∧ 2 * s.2.2.1 + 1 ≤ m) ∧ (s.2.1 = 2 → 1 ≤ s.2.2.1 ∧ 1 ≤ s.2.2.2 ∧ s.2.2.1 + 2 * s.2.2.2 + 1 ≤ m)
theorem c1f_few {h : Nat → Int} {m d a : Nat} (hm : m ≤ 24) : c1f h m d a % 1000 < 200 ∧ cv (c1f h m d a) = cv (co h d 0 a) + cv (co h d a (m - a - a)) + 2 ∨ 24 < a := by
  by_cases q : 24 < a
  · exact Or.inr q
  · have x := co_few h d 0 a (by omega)
    have y := co_few h d a (m - a - a) (by omega)
    unfold c1f cv
    omega
theorem c2f_few {h : Nat → Int} {m d a b : Nat} (hm : m ≤ 24) (hab : a + b ≤ 24) : c2f h m d a b % 1000 < 200 ∧ cv (c2f h m d a b) = cv (co h d 0 a) + cv (co h d a b) + cv (co h d (a + b) (m - b - (a + b))) + 3 := by
  have x := co_few h d 0 a (by omega)
  have y := co_few h d a b (by omega)
  have z := co_few h d (a + b) (m - b - (a + b)) (by omega)
  unfold c2f cv
  omega
theorem FOk_ofr {m : Nat} {s : FS} {c k a b : Nat} (hs : FOk m s) (hc : c % 1000 < 200) (hk : k ≤ 2) (h1 : k = 1 → 1 ≤ a ∧ 2 * a + 1 ≤ m) (h2 : k = 2 → 1 ≤ a ∧ 1 ≤ b ∧ a + 2 * b + 1 ≤ m) : FOk m (ofr s c k a b) := by
  unfold ofr
  split
  · rename_i q
    exact ⟨by have := hs.1; show c ≤ _; omega, hc, hk, h1, h2⟩
  · exact hs
theorem fa1_ok {h : Nat → Int} {m d : Nat} (hm : m ≤ 24) : ∀ A, FOk m (fa1 h m d A) := by
  intro A
  induction A with
  | zero =>
    refine ⟨co_le h d 0 m, ?_, by show (0 : Nat) ≤ 2; omega, fun q => absurd (show (0 : Nat) = 1 from q) (by decide), fun q => absurd (show (0 : Nat) = 2 from q) (by decide)⟩
    have := co_few h d 0 m hm
    show co h d 0 m % 1000 < 200
    omega
  | succ A ih =>
    unfold fa1
    split
    · rename_i q
      refine FOk_ofr ih ?_ (by omega) (fun _ => ⟨by omega, q.1⟩) (fun e => absurd e (by decide))
      rcases c1f_few (h := h) (d := d) (a := A + 1) hm with x | x
      · exact x.1
      · omega
    · exact ih
theorem fb2_ok {h : Nat → Int} {m d a : Nat} {s : FS} (hm : m ≤ 24) (ha : 1 ≤ a) (hs : FOk m s) : ∀ B, FOk m (fb2 h m d a s B) := by
  intro B
  induction B with
  | zero => exact hs
  | succ B ih =>
    unfold fb2
    split
    · rename_i q
      exact FOk_ofr ih (c2f_few (h := h) (d := d) hm (by omega)).1 (by omega) (fun e => absurd e (by decide)) (fun _ => ⟨ha, by omega, q.1⟩)
    · exact ih
theorem fa2_ok {h : Nat → Int} {m d : Nat} (hm : m ≤ 24) : ∀ A, FOk m (fa2 h m d A) := by
  intro A
  induction A with
  | zero => exact fa1_ok hm m
  | succ A ih =>
    unfold fa2
    split
    · exact fb2_ok hm (by omega) ih m
    · exact ih
