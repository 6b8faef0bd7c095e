section mfind
variable {d : Nat} {S : zS} {Q : Option Value → zS → Prop} {m : Nat} {h : Nat → Int}
theorem FK_two (T : zS) (x y : Int32) : FK T (zu (zu T 0 38 x) 0 39 y) := by
  refine ⟨fun c hc => ?_, fun i hi => ?_⟩
  · rw [zu_same hc, zu_same hc]
  · simp only [zu_r, if_true]
    rw [if_neg (by omega), if_neg (by omega)]
theorem MJ_two (T : zS) (x : Nat) {y : Int32} (e : y = J x) : MJ (zu (zu T 0 38 y) 0 39 0) (x, 0, 0, 0) := by
  subst e
  refine ⟨?_, ?_, fun q => absurd rfl q⟩
  · simp [zu_r, M_foundCost]
  · simp [zu_r, M_foundHow]; rfl
set_option maxHeartbeats 1000000 in
theorem w_finding {dd : Nat} (hm : m ≤ 24) (hS : S 0 M_many = J m) (hd : S 0 M_depth = J dd) (hdd : dd ≤ 3) (hL : ∀ a b, a ≤ 24 → b ≤ 24 → S A_like (25 * a + b) = J (al h m a b))
    (hq : ∀ S', (∀ c, c ≠ 0 → c ≠ A_cost → c ≠ A_how → S' c = S c) → (∀ i, i < 38 ∨ 41 < i → S' 0 i = S 0 i) → (∀ d' i' j', d' ≤ 3 → i' < j' → j' ≤ m → MOk S' h d' i' j') → MJ S' (fnd h m dd) → Q none S') : KM (d + 4) mX12_finding [.ref 0] S Q := by
  refine eX12_finding (zRun_wp [34, 87, 96] 80 ?_)
  refine w_tables hm hS hL (fun T t1 t2 => ?_)
  have tm : T 0 30 = J m := by rw [t1 0 (by decide) (by decide)]; exact hS
  have td : T 0 8 = J dd := by rw [t1 0 (by decide) (by decide)]; exact hd
  have tl : ∀ a b, a ≤ 24 → b ≤ 24 → T A_like (25 * a + b) = J (al h m a b) := fun a b p q => by rw [t1 A_like (by decide) (by decide)]; exact hL a b p q
  have tq : ∀ S', FK T S' → MJ S' (fnd h m dd) → Q none S' := by
    intro S' k1 k2
    refine hq S' (fun c a1 a2 a3 => by rw [k1.1 c a1]; exact t1 c a2 a3) (fun i hi => by rw [k1.2 i hi, t1 0 (by decide) (by decide)]) (fun d' i' j' a1 a2 a3 => ?_) k2
    have := t2 d' i' j' a1 a2 a3
    unfold MOk at this ⊢
    rw [k1.1 A_cost (by decide), k1.1 A_how (by decide)]
    exact this
  have tc : ∀ i j, i < j → j ≤ m → T A_cost (625 * dd + 25 * i + j) = J (co h dd i (j - i)) := fun i j a b => (t2 dd i j hdd a b).1
  refine ⟨fun g1 => ?_, fun g1 => ?_⟩ <;> rw [tm] at g1 <;> simp (disch := omega) only [J_lit, J_neg, J_add, J_sub, J_mul, J_nI, J_le, J_lt, J_eq, J_in, J_nat] at g1
  · refine w_costOf (d := d + 2) (i := 0) (j := m) rfl tm (by omega) hm td hdd (tc 0 m (by omega) (by omega)) ?_
    refine ⟨rfl, fun e => absurd e (by decide), rfl, fun e => absurd e (by decide), ?_⟩
    exact w_find34 hm td hdd tl tc tq tm (FK_two T _ _) (MJ_two T _ rfl)
  · have m0 : m = 0 := by omega
    have c0 : co h dd 0 m = 0 := by have := co_le h dd 0 m; omega
    refine ⟨rfl, fun e => absurd e (by decide), rfl, fun e => absurd e (by decide), ?_⟩
    exact w_find34 hm td hdd tl tc tq tm (FK_two T _ _) (MJ_two T _ (by rw [c0]; rfl))
end mfind
