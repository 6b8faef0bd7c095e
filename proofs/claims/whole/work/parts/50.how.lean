/-! how the best is, is one number -/
theorem HowOk_uniq {h : Nat → Int} {d i n w w' : Nat} (a : HowOk h d i n w) (b : HowOk h d i n w') : w = w' := by
  rcases a with ⟨a1, rfl⟩ | ⟨a1, a⟩ <;> rcases b with ⟨b1, rfl⟩ | ⟨b1, b⟩
  · rfl
  · omega
  · omega
  rcases a with ⟨k, k1, k2, k3, rfl, k4⟩ | ⟨r1, r2, rfl, r3⟩ | ⟨x, y, e1, e2, rfl, e3, e4, e5⟩ <;> rcases b with ⟨k', k1', k2', k3', rfl, k4'⟩ | ⟨r1', r2', rfl, r3'⟩ | ⟨x', y', e1', e2', rfl, e3', e4', e5'⟩
  · rcases Nat.lt_trichotomy k k' with q | q | q
    · have := k4' k k1 q; omega
    · rw [q]
    · have := k4 k' k1' q; omega
  · have := r3' k k1 k2; omega
  · have := e3' k k1 k2; omega
  · have := r3 k' k1' k2'; omega
  · rfl
  · have := e4' r1; omega
  · have := e3 k' k1' k2'; omega
  · have := e4 r1'; omega
  · by_cases q : x = x' ∧ y = y'
    · rw [q.1, q.2]
    · by_cases q2 : x < x' ∨ x = x' ∧ y < y'
      · have := e5' x y e1 q2; omega
      · have := e5 x' y' e1' (by omega); omega
