theorem leastN (P : Nat → Prop) : ∀ n, P n → ∃ k, P k ∧ ∀ k', k' < k → ¬ P k' := by
  intro n
  induction n using Nat.strongRecOn with
  | ind n ih =>
    intro hp
    by_cases q : ∃ k, k < n ∧ P k
    · obtain ⟨k, a, b⟩ := q
      exact ih k a b
    · exact ⟨n, hp, fun k a b => q ⟨k, a, b⟩⟩
theorem en_ge {h : Nat → Int} {d i n a b : Nat} (e : ev h d i n a b) : co h d i n ≤ en h d i n a b := by
  obtain ⟨e1, e2, e3, e4, e5⟩ := e
  unfold en
  obtain ⟨e, rfl⟩ : ∃ e, d = e + 1 := ⟨d - 1, by omega⟩
  exact co_end e2 e3 e4 e5
theorem rp_ge {h : Nat → Int} {d i n : Nat} (hn : 2 ≤ n) (r : rv h d i n) : co h d i n ≤ rp h d i n := by
  obtain ⟨r1, r2, r3⟩ := r
  unfold rp
  obtain ⟨e, rfl⟩ : ∃ e, d = e + 1 := ⟨d - 1, by omega⟩
  have := co_rep (h := h) (d := e) (i := i) (a := n / 2) (by omega) r3
  rw [show 2 * (n / 2) = n by omega] at this
  exact this
theorem HowOk_ex (h : Nat → Int) (d i n : Nat) (hn : 1 ≤ n) : ∃ w, HowOk h d i n w := by
  by_cases n1 : n = 1
  · exact ⟨0, Or.inl ⟨n1, rfl⟩⟩
  have n2 : 2 ≤ n := by omega
  have spg : ∀ k, 1 ≤ k → k < n → co h d i n ≤ sp h d i n k := fun k a b => co_split a b
  by_cases A : ∃ k, 1 ≤ k ∧ k < n ∧ co h d i n = sp h d i n k
  · obtain ⟨k0, q0⟩ := A
    obtain ⟨k, ⟨k1, k2, k3⟩, k4⟩ := leastN (fun k => 1 ≤ k ∧ k < n ∧ co h d i n = sp h d i n k) k0 q0
    refine ⟨_, Or.inr ⟨n2, Or.inl ⟨k, k1, k2, k3, rfl, fun k' a b => ?_⟩⟩⟩
    have w1 := spg k' a (by omega)
    have w2 : co h d i n ≠ sp h d i n k' := fun e => k4 k' b ⟨a, by omega, e⟩
    omega
  have spl : ∀ k, 1 ≤ k → k < n → co h d i n < sp h d i n k := fun k a b => by
    have w1 := spg k a b
    have w2 : co h d i n ≠ sp h d i n k := fun e => A ⟨k, a, b, e⟩
    omega
  by_cases B : rv h d i n ∧ co h d i n = rp h d i n
  · exact ⟨_, Or.inr ⟨n2, Or.inr (Or.inl ⟨B.1, B.2, rfl, spl⟩)⟩⟩
  have rpl : rv h d i n → co h d i n < rp h d i n := fun r => by
    have w1 := rp_ge n2 r
    have w2 : co h d i n ≠ rp h d i n := fun e => B ⟨r, e⟩
    omega
  have C : ∃ a b, ev h d i n a b ∧ co h d i n = en h d i n a b := by
    rcases co_cases (h := h) (d := d) (i := i) n2 with ⟨k, a, b, e⟩ | ⟨d', a, rfl, a1, a2, a3, a4⟩ | ⟨d', a, b, rfl, a1, a2, a3, a4, a5⟩
    · exact absurd ⟨k, a, b, e⟩ A
    · have na : n / 2 = a := by omega
      refine absurd ⟨⟨by omega, by omega, by rw [na]; exact a3⟩, ?_⟩ B
      unfold rp
      rw [na]; exact a4
    · exact ⟨a, b, ⟨by omega, a1, a2, a3, a4⟩, a5⟩
  obtain ⟨a0, q0⟩ := C
  obtain ⟨a, ⟨b0, q1⟩, a2⟩ := leastN (fun a => ∃ b, ev h d i n a b ∧ co h d i n = en h d i n a b) a0 q0
  obtain ⟨b, ⟨b1, b2⟩, b3⟩ := leastN (fun b => ev h d i n a b ∧ co h d i n = en h d i n a b) b0 q1
  refine ⟨_, Or.inr ⟨n2, Or.inr (Or.inr ⟨a, b, b1, b2, rfl, spl, rpl, fun a' b' e' q => ?_⟩)⟩⟩
  have w1 := en_ge e'
  have w2 : co h d i n ≠ en h d i n a' b' := by
    intro e
    rcases q with q | ⟨rfl, q⟩
    · exact a2 a' q ⟨b', e', e⟩
    · exact b3 b' q ⟨e', e⟩
  omega
