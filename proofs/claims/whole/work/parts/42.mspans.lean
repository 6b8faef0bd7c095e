/-! the model's spans: costs, and how -/
def sp (h : Nat → Int) (d i n k : Nat) : Nat := co h d i k + co h d (i + k) (n - k)
def rp (h : Nat → Int) (d i n : Nat) : Nat := co h (d - 1) i (n / 2) + 2
def rv (h : Nat → Int) (d i n : Nat) : Prop := 0 < d ∧ n % 2 = 0 ∧ er h i (i + n / 2) (n / 2)
def en (h : Nat → Int) (d i n a b : Nat) : Nat := co h (d - 1) i a + co h (d - 1) (i + a) b + co h (d - 1) (i + 2 * a + b) (n - 2 * a - b) + 4
def ev (h : Nat → Int) (d i n a b : Nat) : Prop := 0 < d ∧ 1 ≤ a ∧ 1 ≤ b ∧ 2 * a + b + 1 ≤ n ∧ er h i (i + a + b) a
/-- v is the cost of the way w, all ways told ahead of it cost more -/
def Wd (h : Nat → Int) (d i n v w : Nat) : Prop :=
  (∃ k, 1 ≤ k ∧ k < n ∧ v = sp h d i n k ∧ w = 1000 + 30 * k ∧ ∀ k', 1 ≤ k' → k' < k → v < sp h d i n k') ∨
  (rv h d i n ∧ v = rp h d i n ∧ w = 2000 + 30 * (n / 2) ∧ ∀ k, 1 ≤ k → k < n → v < sp h d i n k) ∨
  (∃ a b, ev h d i n a b ∧ v = en h d i n a b ∧ w = 3000 + 30 * a + b ∧ (∀ k, 1 ≤ k → k < n → v < sp h d i n k) ∧ (rv h d i n → v < rp h d i n) ∧ ∀ a' b', ev h d i n a' b' → (a' < a ∨ a' = a ∧ b' < b) → v < en h d i n a' b')
/-- how the best of a span is -/
def HowOk (h : Nat → Int) (d i n w : Nat) : Prop := (n = 1 ∧ w = 0) ∨ (2 ≤ n ∧ Wd h d i n (co h d i n) w)
theorem Wd_ge {h : Nat → Int} {d i n v w : Nat} (hn : 2 ≤ n) (hw : Wd h d i n v w) : co h d i n ≤ v := by
  rcases hw with ⟨k, k1, k2, rfl, -⟩ | ⟨⟨r1, r2, r3⟩, rfl, -⟩ | ⟨a, b, ⟨e1, e2, e3, e4, e5⟩, rfl, -⟩
  · exact co_split k1 k2
  · unfold rp
    obtain ⟨e, rfl⟩ : ∃ e, d = e + 1 := ⟨d - 1, by omega⟩
    have := co_rep (h := h) (d := e) (i := i) (a := n / 2) (by omega) r3
    rw [show 2 * (n / 2) = n by omega] at this
    exact this
  · unfold en
    obtain ⟨e, rfl⟩ : ∃ e, d = e + 1 := ⟨d - 1, by omega⟩
    exact co_end e2 e3 e4 e5
theorem Wd_best {h : Nat → Int} {d i n v w : Nat} (hn : 2 ≤ n) (hw : Wd h d i n v w) (l1 : ∀ k, 1 ≤ k → k < n → v ≤ sp h d i n k) (l2 : rv h d i n → v ≤ rp h d i n) (l3 : ∀ a b, ev h d i n a b → v ≤ en h d i n a b) : v = co h d i n := by
  have ge := Wd_ge hn hw
  rcases co_cases (h := h) (d := d) (i := i) (n := n) hn with ⟨k, k1, k2, q⟩ | ⟨d', a, rfl, a1, a2, r, q⟩ | ⟨d', a, b, rfl, a1, b1, ab, r, q⟩
  · have := l1 k k1 k2
    unfold sp at this
    omega
  · have e : n / 2 = a := by omega
    have := l2 ⟨by omega, by omega, by rw [e]; exact r⟩
    unfold rp at this
    rw [e, Nat.add_sub_cancel] at this
    omega
  · have := l3 a b ⟨by omega, a1, b1, ab, r⟩
    unfold en at this
    rw [Nat.add_sub_cancel] at this
    omega
section mspans
variable {d : Nat} {S : zS} {Q : Option Value → zS → Prop} {m : Nat} {h : Nat → Int}
theorem w_offers {p v x y : Nat} (hp : p < 2500) (hv : v ≤ 1000000) (hx : x ≤ 1000000) (hS : S A_cost p = J v) (h1 : x < v → Q none (zu (zu S A_cost p (J x)) A_how p (J y))) (h2 : ¬ x < v → Q none S) : KM (d + 1) mX12_offers [.ref 0, .int (J p), .int (J x), .int (J y)] S Q := by
  have pin : vp_in (J p) 2500 := by simp (disch := omega) only [J_lit, J_neg, J_add, J_sub, J_mul, J_nI, J_le, J_lt, J_eq, J_in, J_nat]; omega
  have pix : (J p).toNatClampNeg = p := by simp (disch := omega) only [J_lit, J_neg, J_add, J_sub, J_mul, J_nI, J_le, J_lt, J_eq, J_in, J_nat]; omega
  refine eX12_offers (zRun_wp [] 60 ?_)
  refine ⟨pin, fun k1 => ?_, fun k1 => ?_⟩ <;> rw [pix, show S 22 p = J v from hS] at k1 <;> simp (disch := omega) only [J_lit, J_neg, J_add, J_sub, J_mul, J_nI, J_le, J_lt, J_eq, J_in, J_nat] at k1
  · exact h2 (by omega)
  · refine ⟨pin, pin, ?_⟩
    rw [pix]
    exact h1 (by omega)
/-- the cell of a span while its ways are offered -/
def St (S0 S' : zS) (p v w : Nat) : Prop := (∀ c, c ≠ 22 → c ≠ 23 → S' c = S0 c) ∧ (∀ q, q ≠ p → S' 22 q = S0 22 q ∧ S' 23 q = S0 23 q) ∧ S' 22 p = J v ∧ S' 23 p = J w
theorem St_put {S0 S' : zS} {p v w x y : Nat} (hs : St S0 S' p v w) : St S0 (zu (zu S' A_cost p (J x)) A_how p (J y)) p x y := by
  obtain ⟨a, b, -, -⟩ := hs
  refine ⟨fun c h1 h2 => ?_, fun q hq => ⟨?_, ?_⟩, ?_, ?_⟩
  · rw [zu_same h2, zu_same h1]; exact a c h1 h2
  · rw [zu_same (by decide)]; simp only [zu_r, A_forms, A_sizes, A_items, A_moved, M_latest, A_run, A_score, A_typed, M_depth, M_bars, A_bar, A_number, M_unlike, M_place, M_reason, M_open, A_opens, A_stages, A_colon, A_semi, A_shut, M_percent, M_bang, M_dollar, M_printed, M_signs, M_deepest, A_which, A_bytesOf, A_order, M_many, A_like, A_played, M_plays, A_passes, A_from, A_cost, A_how, M_foundCost, M_foundHow, M_foundA, M_foundB, A_out, M_shown, A_waits, M_high, M_mendWhich, M_mendCost, if_true]; rw [if_neg hq]; exact (b q hq).1
  · simp only [zu_r, A_forms, A_sizes, A_items, A_moved, M_latest, A_run, A_score, A_typed, M_depth, M_bars, A_bar, A_number, M_unlike, M_place, M_reason, M_open, A_opens, A_stages, A_colon, A_semi, A_shut, M_percent, M_bang, M_dollar, M_printed, M_signs, M_deepest, A_which, A_bytesOf, A_order, M_many, A_like, A_played, M_plays, A_passes, A_from, A_cost, A_how, M_foundCost, M_foundHow, M_foundA, M_foundB, A_out, M_shown, A_waits, M_high, M_mendWhich, M_mendCost, if_true]; rw [if_neg hq]; exact (b q hq).2
  · rw [zu_same (by decide)]; simp only [zu_r, A_forms, A_sizes, A_items, A_moved, M_latest, A_run, A_score, A_typed, M_depth, M_bars, A_bar, A_number, M_unlike, M_place, M_reason, M_open, A_opens, A_stages, A_colon, A_semi, A_shut, M_percent, M_bang, M_dollar, M_printed, M_signs, M_deepest, A_which, A_bytesOf, A_order, M_many, A_like, A_played, M_plays, A_passes, A_from, A_cost, A_how, M_foundCost, M_foundHow, M_foundA, M_foundB, A_out, M_shown, A_waits, M_high, M_mendWhich, M_mendCost, if_true]
  · simp only [zu_r, A_forms, A_sizes, A_items, A_moved, M_latest, A_run, A_score, A_typed, M_depth, M_bars, A_bar, A_number, M_unlike, M_place, M_reason, M_open, A_opens, A_stages, A_colon, A_semi, A_shut, M_percent, M_bang, M_dollar, M_printed, M_signs, M_deepest, A_which, A_bytesOf, A_order, M_many, A_like, A_played, M_plays, A_passes, A_from, A_cost, A_how, M_foundCost, M_foundHow, M_foundA, M_foundB, A_out, M_shown, A_waits, M_high, M_mendWhich, M_mendCost, if_true]
set_option maxHeartbeats 4000000 in
theorem w_spans {dd i j : Nat} (hm : m ≤ 24) (hd : dd ≤ 3) (hij : i < j) (hj : j ≤ m) (hL : ∀ a b, a ≤ 24 → b ≤ 24 → S A_like (25 * a + b) = J (al h m a b))
    (hC : ∀ i' j', i' < j' → i ≤ i' → j' ≤ j → j' - i' < j - i → S A_cost (625 * dd + 25 * i' + j') = J (co h dd i' (j' - i')))
    (hB : 0 < dd → ∀ i' j', i' < j' → i ≤ i' → j' ≤ j → S A_cost (625 * (dd - 1) + 25 * i' + j') = J (co h (dd - 1) i' (j' - i')))
    (hq : ∀ S' w, St S S' (625 * dd + 25 * i + j) (co h dd i (j - i)) w → HowOk h dd i (j - i) w → Q none S') : KM (d + 2) mX12_spans [.ref 0, .int (J dd), .int (J i), .int (J j)] S Q := by
  obtain ⟨n, hn⟩ : ∃ n, n = j - i := ⟨_, rfl⟩
  obtain ⟨p, hp⟩ : ∃ p, p = 625 * dd + 25 * i + j := ⟨_, rfl⟩
  rw [← hn, ← hp] at hq
  have rd : ∀ {S' : zS} {v w : Nat}, St S S' p v w → ∀ i' j', i' < j' → i ≤ i' → j' ≤ j → j' - i' < j - i → S' 22 (625 * dd + 25 * i' + j') = J (co h dd i' (j' - i')) := by
    intro S' v w hs i' j' a1 a2 a3 a4
    rw [(hs.2.1 _ (by omega)).1]
    exact hC i' j' a1 a2 a3 a4
  have rb : ∀ {S' : zS} {v w : Nat}, St S S' p v w → 0 < dd → ∀ i' j', i' < j' → i ≤ i' → j' ≤ j → S' 22 (625 * (dd - 1) + 25 * i' + j') = J (co h (dd - 1) i' (j' - i')) := by
    intro S' v w hs h0 i' j' a1 a2 a3
    rw [(hs.2.1 _ (by omega)).1]
    exact hB h0 i' j' a1 a2 a3
  have rl : ∀ {S' : zS} {v w : Nat}, St S S' p v w → ∀ a b, a ≤ 24 → b ≤ 24 → S' 18 (25 * a + b) = J (al h m a b) := by
    intro S' v w hs a b h1 h2
    rw [hs.1 18 (by omega) (by omega)]
    exact hL a b h1 h2
  have col : ∀ e i' k, k ≤ 24 → co h e i' k ≤ 24000 := fun e i' k hk => by have := co_le h e i' k; omega
  -- behind all: what is offered last has been told
  have fin : ∀ (S' : zS) (v w : Nat), St S S' p v w → (n = 1 ∧ v = 1000 ∧ w = 0) ∨ (2 ≤ n ∧ Wd h dd i n v w) → (∀ k, 1 ≤ k → k < n → v ≤ sp h dd i n k) → (rv h dd i n → v ≤ rp h dd i n) → (∀ a b, ev h dd i n a b → v ≤ en h dd i n a b) → Q none S' := by
    intro S' v w hs hw l1 l2 l3
    rcases hw with ⟨n1, rfl, rfl⟩ | ⟨n2, hw⟩
    · refine hq S' 0 ?_ (Or.inl ⟨n1, rfl⟩)
      rw [n1, co_1]; exact hs
    · have e := Wd_best n2 hw l1 l2 l3
      subst e
      exact hq S' w hs (Or.inr ⟨n2, hw⟩)
  -- the endings
  have inner : 0 < dd → ∀ (a : Nat), 1 ≤ a → 2 * a + 2 ≤ n → (∀ (S' : zS) (v w : Nat) (j9 j10 j11 : Option Value), St S S' p v w → v ≤ 999999 → 2 ≤ n ∧ Wd h dd i n v w → (∀ k, 1 ≤ k → k < n → v ≤ sp h dd i n k) → (rv h dd i n → v ≤ rp h dd i n) → (∀ a' b', ev h dd i n a' b' → a' < a + 1 → v ≤ en h dd i n a' b') → zWp shM (KM (d + 1)) kX12_spans 0 Q 203 [some (.ref 0), some (.int (J dd)), some (.int (J i)), some (.int (J j)), some (.int (J p)), some (.int (J n)), some (.int (J (625 * (dd - 1) : Nat))), some (.int (J (n / 2 : Nat))), some (.int (J a + 1)), j9, j10, j11] [] S') → ∀ (r b : Nat) (S' : zS) (v w : Nat) (x10 : Int32) (j11 : Option Value), b + r = n - 2 * a → 1 ≤ b → x10 = J b → St S S' p v w → v ≤ 999999 → 2 ≤ n ∧ Wd h dd i n v w → (∀ k, 1 ≤ k → k < n → v ≤ sp h dd i n k) → (rv h dd i n → v ≤ rp h dd i n) → (∀ a' b', ev h dd i n a' b' → (a' < a ∨ a' = a ∧ b' < b) → v ≤ en h dd i n a' b') → zWp shM (KM (d + 1)) kX12_spans 0 Q 236 [some (.ref 0), some (.int (J dd)), some (.int (J i)), some (.int (J j)), some (.int (J p)), some (.int (J n)), some (.int (J (625 * (dd - 1) : Nat))), some (.int (J (n / 2 : Nat))), some (.int (J a)), some (.int (J (co h (dd - 1) i a))), some (.int x10), j11] [] S' := by
    intro h0 a a1 a2 cont r
    induction r with
    | zero =>
      intro b S' v w x10 j11 hr b1 e10 hs v1 hw l1 l2 l3
      subst e10
      refine zRun_wp [54, 203, 236] 90 ?_
      refine ⟨fun _ => ?_, fun k1 => ?_⟩
      · exact cont S' v w _ _ _ hs v1 hw l1 l2 (fun a' b' q1 q2 => l3 a' b' q1 (by have := q1.2.2.2.1; omega))
      · simp (disch := omega) only [J_lit, J_neg, J_add, J_sub, J_mul, J_nI, J_le, J_lt, J_eq, J_in, J_nat] at k1
        omega
    | succ r ih =>
      intro b S' v w x10 j11 hr b1 e10 hs v1 hw l1 l2 l3
      subst e10
      have ix : (25 * J i + (J i + J a + J b)).toNatClampNeg = 25 * i + (i + a + b) := by simp (disch := omega) only [J_lit, J_neg, J_add, J_sub, J_mul, J_nI, J_le, J_lt, J_eq, J_in, J_nat]; omega
      have hal := al_lei h m i (i + a + b)
      have hae := al_er (h := h) (m := m) (i := i) (j := i + a + b) (a := a) (by omega) (by omega)
      refine zRun_wp [54, 203, 236] 90 ?_
      refine ⟨fun k1 => ?_, fun _ => ?_⟩
      · simp (disch := omega) only [J_lit, J_neg, J_add, J_sub, J_mul, J_nI, J_le, J_lt, J_eq, J_in, J_nat] at k1; omega
      refine ⟨by simp (disch := omega) only [J_lit, J_neg, J_add, J_sub, J_mul, J_nI, J_le, J_lt, J_eq, J_in, J_nat]; omega, fun k2 => ?_, fun k2 => ?_⟩ <;> rw [ix, rl hs i (i + a + b) (by omega) (by omega)] at k2 <;> simp (disch := omega) only [J_lit, J_neg, J_add, J_sub, J_mul, J_nI, J_le, J_lt, J_eq, J_in, J_nat] at k2
      · -- not alike
        refine ih (b + 1) S' v w _ _ (by omega) (by omega) (by simp only [J_lit, J_neg, J_add, J_sub, J_mul, J_nI]; congr 1) hs v1 hw l1 l2 (fun a' b' q1 q2 => ?_)
        by_cases e : a' = a ∧ b' = b
        · have := hae.mpr (by rw [← e.1, ← e.2]; rw [e.1, e.2]; have := q1.2.2.2.2; rw [e.1, e.2] at this; exact this)
          omega
        · exact l3 a' b' q1 (by omega)
      · have hev : ev h dd i n a b := ⟨h0, a1, b1, by omega, hae.mp (by omega)⟩
        have i2 : (J (625 * (dd - 1) : Nat) + 25 * (J i + J a) + (J i + J a + J b)).toNatClampNeg = 625 * (dd - 1) + 25 * (i + a) + (i + a + b) := by simp (disch := omega) only [J_lit, J_neg, J_add, J_sub, J_mul, J_nI, J_le, J_lt, J_eq, J_in, J_nat]; omega
        have i3 : (J (625 * (dd - 1) : Nat) + 25 * (J i + J a + J b + J a) + J j).toNatClampNeg = 625 * (dd - 1) + 25 * (i + 2 * a + b) + j := by simp (disch := omega) only [J_lit, J_neg, J_add, J_sub, J_mul, J_nI, J_le, J_lt, J_eq, J_in, J_nat]; omega
        have c2 := rb hs h0 (i + a) (i + a + b) (by omega) (by omega) (by omega)
        have c3 := rb hs h0 (i + 2 * a + b) j (by omega) (by omega) (by omega)
        rw [show i + a + b - (i + a) = b by omega] at c2
        rw [show j - (i + 2 * a + b) = n - 2 * a - b by omega] at c3
        refine ⟨by simp (disch := omega) only [J_lit, J_neg, J_add, J_sub, J_mul, J_nI, J_le, J_lt, J_eq, J_in, J_nat]; omega, by simp (disch := omega) only [J_lit, J_neg, J_add, J_sub, J_mul, J_nI, J_le, J_lt, J_eq, J_in, J_nat]; omega, ?_⟩
        rw [i2, i3, c2, c3]
        have en1 := col (dd - 1) i a (by omega)
        have en2 := col (dd - 1) (i + a) b (by omega)
        have en3 := col (dd - 1) (i + 2 * a + b) (n - 2 * a - b) (by omega)
        have off : ∀ {Q' : Option Value → zS → Prop} (x y : Int32), x = J (en h dd i n a b) → y = J (3000 + 30 * a + b : Nat) → (en h dd i n a b < v → Q' none (zu (zu S' A_cost p (J (en h dd i n a b))) A_how p (J (3000 + 30 * a + b : Nat)))) → (¬ en h dd i n a b < v → Q' none S') → KM (d + 1) mX12_offers [.ref 0, .int (J p), .int x, .int y] S' Q' := by
          intro Q' x y ex ey g1 g2
          subst ex ey
          refine w_offers (by omega) (by omega) ?_ hs.2.2.1 g1 g2
          unfold en
          omega
        refine off _ _ ?_ ?_ (fun lt => ?_) (fun nl => ?_)
        · unfold en; simp only [J_lit, J_neg, J_add, J_sub, J_mul, J_nI]; congr 1
        · simp only [J_lit, J_neg, J_add, J_sub, J_mul, J_nI]; congr 1
        · refine ih (b + 1) _ (en h dd i n a b) (3000 + 30 * a + b) _ _ (by omega) (by omega) (by simp only [J_lit, J_neg, J_add, J_sub, J_mul, J_nI]; congr 1) (St_put hs) (by omega) ⟨hw.1, Or.inr (Or.inr ⟨a, b, hev, rfl, rfl, fun k q1 q2 => ?_, fun q => ?_, fun a' b' q1 q2 => ?_⟩)⟩ (fun k q1 q2 => ?_) (fun q => ?_) (fun a' b' q1 q2 => ?_)
          · have := l1 k q1 q2; omega
          · have := l2 q; omega
          · have := l3 a' b' q1 q2; omega
          · have := l1 k q1 q2; omega
          · have := l2 q; omega
          · by_cases e : a' = a ∧ b' = b
            · rw [e.1, e.2]; exact Nat.le_refl _
            · have := l3 a' b' q1 (by omega); omega
        · refine ih (b + 1) S' v w _ _ (by omega) (by omega) (by simp only [J_lit, J_neg, J_add, J_sub, J_mul, J_nI]; congr 1) hs v1 hw l1 l2 (fun a' b' q1 q2 => ?_)
          by_cases e : a' = a ∧ b' = b
          · rw [e.1, e.2]; omega
          · exact l3 a' b' q1 (by omega)
  have ends : 0 < dd → ∀ (r a : Nat) (S' : zS) (v w : Nat) (x8 : Int32) (j9 j10 j11 : Option Value), a + r = n → 1 ≤ a → x8 = J a → St S S' p v w → v ≤ 999999 → (n = 1 ∧ v = 1000 ∧ w = 0) ∨ (2 ≤ n ∧ Wd h dd i n v w) → (∀ k, 1 ≤ k → k < n → v ≤ sp h dd i n k) → (rv h dd i n → v ≤ rp h dd i n) → (∀ a' b', ev h dd i n a' b' → a' < a → v ≤ en h dd i n a' b') → zWp shM (KM (d + 1)) kX12_spans 0 Q 203 [some (.ref 0), some (.int (J dd)), some (.int (J i)), some (.int (J j)), some (.int (J p)), some (.int (J n)), some (.int (J (625 * (dd - 1) : Nat))), some (.int (J (n / 2 : Nat))), some (.int x8), j9, j10, j11] [] S' := by
    intro h0 r
    induction r with
    | zero =>
      intro a S' v w x8 j9 j10 j11 hr a1 e8 hs v1 hw l1 l2 l3
      subst e8
      refine zRun_wp [54, 203, 236] 90 ?_
      refine ⟨fun _ => fin S' v w hs hw l1 l2 (fun a' b' q => l3 a' b' q (by have := q.2.2.2.1; omega)), fun k1 => ?_⟩
      simp (disch := omega) only [J_lit, J_neg, J_add, J_sub, J_mul, J_nI, J_le, J_lt, J_eq, J_in, J_nat] at k1
      omega
    | succ r ih =>
      intro a S' v w x8 j9 j10 j11 hr a1 e8 hs v1 hw l1 l2 l3
      subst e8
      refine zRun_wp [54, 203, 236] 90 ?_
      refine ⟨fun k1 => ?_, fun k1 => ?_⟩ <;> simp (disch := omega) only [J_lit, J_neg, J_add, J_sub, J_mul, J_nI, J_le, J_lt, J_eq, J_in, J_nat] at k1
      · exact fin S' v w hs hw l1 l2 (fun a' b' q => l3 a' b' q (by have := q.2.2.2.1; have := q.2.2.1; omega))
      have ix : (J (625 * (dd - 1) : Nat) + 25 * J i + J i + J a).toNatClampNeg = 625 * (dd - 1) + 25 * i + (i + a) := by simp (disch := omega) only [J_lit, J_neg, J_add, J_sub, J_mul, J_nI, J_le, J_lt, J_eq, J_in, J_nat]; omega
      refine ⟨by simp (disch := omega) only [J_lit, J_neg, J_add, J_sub, J_mul, J_nI, J_le, J_lt, J_eq, J_in, J_nat]; omega, ?_⟩
      rw [ix, rb hs h0 i (i + a) (by omega) (by omega) (by omega), show i + a - i = a by omega]
      refine inner h0 a a1 (by omega) (fun S2 v2 w2 j9 j10 j11 b1 b2 b3 b4 b5 b6 => ?_) (n - 2 * a - 1) 1 S' v w _ _ (by omega) (by omega) rfl hs v1 (hw.elim (fun q => by omega) id) l1 l2 (fun a' b' q1 q2 => l3 a' b' q1 (by have := q1.2.2.1; omega))
      exact ih (a + 1) S2 v2 w2 _ _ _ _ (by omega) (by omega) (by simp only [J_lit, J_neg, J_add, J_sub, J_mul, J_nI]; congr 1) b1 b2 (Or.inr b3) b4 b5 b6
  have toEnds : 0 < dd → ∀ (S' : zS) (v w : Nat) (x6 x7 : Int32) (j9 j10 j11 : Option Value), x6 = J (625 * (dd - 1) : Nat) → x7 = J (n / 2 : Nat) → St S S' p v w → v ≤ 999999 → (n = 1 ∧ v = 1000 ∧ w = 0) ∨ (2 ≤ n ∧ Wd h dd i n v w) → (∀ k, 1 ≤ k → k < n → v ≤ sp h dd i n k) → (rv h dd i n → v ≤ rp h dd i n) → zWp shM (KM (d + 1)) kX12_spans 0 Q 203 [some (.ref 0), some (.int (J dd)), some (.int (J i)), some (.int (J j)), some (.int (J p)), some (.int (J n)), some (.int x6), some (.int x7), some (.int 1), j9, j10, j11] [] S' := by
    intro h0 S' v w x6 x7 j9 j10 j11 e6 e7 hs v1 hw l1 l2
    subst e6 e7
    exact ends h0 (n - 1) 1 S' v w _ _ _ _ (by omega) (by omega) rfl hs v1 hw l1 l2 (fun a' b' q1 q2 => by have := q1.2.1; omega)
  -- behind the splits
  have behind : ∀ (S' : zS) (v w : Nat) (j6 : Option Value), St S S' p v w → v ≤ 999999 → (n = 1 ∧ v = 1000 ∧ w = 0) ∨ (2 ≤ n ∧ Wd h dd i n v w) → (∀ k, 1 ≤ k → k < n → v ≤ sp h dd i n k) → zWp shM (KM (d + 1)) kX12_spans 0 Q 120 [some (.ref 0), some (.int (J dd)), some (.int (J i)), some (.int (J j)), some (.int (J p)), some (.int (J n)), j6, none, none, none, none, none] [] S' := by
    intro S' v w j6 hs v1 hw l1
    refine zRun_wp [54, 203, 236] 90 ?_
    refine ⟨fun k1 => ?_, fun k1 => ?_⟩ <;> simp (disch := omega) only [J_lit, J_neg, J_add, J_sub, J_mul, J_nI, J_le, J_lt, J_eq, J_in, J_nat] at k1
    rotate_left
    · exact fin S' v w hs hw l1 (fun q => by have := q.1; omega) (fun a b q => by have := q.1; omega)
    have h0 : 0 < dd := by omega
    have e6 : 625 * (J dd - 1) = J (625 * (dd - 1) : Nat) := by simp only [J_lit, J_neg, J_add, J_sub, J_mul, J_nI]; congr 1; omega
    have e7 : J n / 2 = J (n / 2 : Nat) := by
      rw [show (2 : Int32) = J 2 from rfl, J_div (by omega) (by omega) (by omega) (by omega)]
      congr 1
    have e8 : J n - J n / 2 * 2 = J (n % 2 : Nat) := by
      rw [show (2 : Int32) = J 2 from rfl, J_rem (by omega) (by omega) (by omega) (by omega)]
      congr 1
    refine ⟨by decide, by decide, fun k2 => ?_, fun k2 => ?_⟩ <;> rw [e8] at k2 <;> simp (disch := omega) only [J_lit, J_neg, J_add, J_sub, J_mul, J_nI, J_le, J_lt, J_eq, J_in, J_nat] at k2
    · exact toEnds h0 S' v w _ _ _ _ _ e6 e7 hs v1 hw l1 (fun q => by have := q.2.1; omega)
    have ix : (25 * J i + J i + J n / 2).toNatClampNeg = 25 * i + (i + n / 2) := by rw [e7]; simp (disch := omega) only [J_lit, J_neg, J_add, J_sub, J_mul, J_nI, J_le, J_lt, J_eq, J_in, J_nat]; omega
    have hal := al_lei h m i (i + n / 2)
    have hae := al_er (h := h) (m := m) (i := i) (j := i + n / 2) (a := n / 2) (by omega) (by omega)
    refine ⟨by rw [e7]; simp (disch := omega) only [J_lit, J_neg, J_add, J_sub, J_mul, J_nI, J_le, J_lt, J_eq, J_in, J_nat]; omega, fun k3 => ?_, fun k3 => ?_⟩ <;> rw [ix, e7, rl hs i (i + n / 2) (by omega) (by omega)] at k3 <;> simp (disch := omega) only [J_lit, J_neg, J_add, J_sub, J_mul, J_nI, J_le, J_lt, J_eq, J_in, J_nat] at k3
    · exact toEnds h0 S' v w _ _ _ _ _ e6 e7 hs v1 hw l1 (fun q => by have := hae.mpr q.2.2; omega)
    have hr : rv h dd i n := ⟨h0, by omega, hae.mp (by omega)⟩
    have i2 : (625 * (J dd - 1) + 25 * J i + J i + J n / 2).toNatClampNeg = 625 * (dd - 1) + 25 * i + (i + n / 2) := by rw [e6, e7]; simp (disch := omega) only [J_lit, J_neg, J_add, J_sub, J_mul, J_nI, J_le, J_lt, J_eq, J_in, J_nat]; omega
    have c2 := rb hs h0 i (i + n / 2) (by omega) (by omega) (by omega)
    rw [show i + n / 2 - i = n / 2 by omega] at c2
    refine ⟨by rw [e6, e7]; simp (disch := omega) only [J_lit, J_neg, J_add, J_sub, J_mul, J_nI, J_le, J_lt, J_eq, J_in, J_nat]; omega, ?_⟩
    rw [i2, c2]
    have en1 := col (dd - 1) i (n / 2) (by omega)
    have off : ∀ {Q' : Option Value → zS → Prop} (x y : Int32), x = J (rp h dd i n) → y = J (2000 + 30 * (n / 2) : Nat) → (rp h dd i n < v → Q' none (zu (zu S' A_cost p (J (rp h dd i n))) A_how p (J (2000 + 30 * (n / 2) : Nat)))) → (¬ rp h dd i n < v → Q' none S') → KM (d + 1) mX12_offers [.ref 0, .int (J p), .int x, .int y] S' Q' := by
      intro Q' x y ex ey g1 g2
      subst ex ey
      refine w_offers (by omega) (by omega) ?_ hs.2.2.1 g1 g2
      unfold rp
      omega
    refine off _ _ ?_ ?_ (fun lt => ?_) (fun nl => ?_)
    · unfold rp; simp only [J_lit, J_neg, J_add, J_sub, J_mul, J_nI]; congr 1
    · rw [e7]; simp only [J_lit, J_neg, J_add, J_sub, J_mul, J_nI]; congr 1
    · refine toEnds h0 _ (rp h dd i n) (2000 + 30 * (n / 2)) _ _ _ _ _ e6 e7 (St_put hs) (by omega) (Or.inr ⟨by omega, Or.inr (Or.inl ⟨hr, rfl, rfl, fun k q1 q2 => ?_⟩)⟩) (fun k q1 q2 => ?_) (fun _ => Nat.le_refl _)
      · have := l1 k q1 q2; omega
      · have := l1 k q1 q2; omega
    · exact toEnds h0 S' v w _ _ _ _ _ e6 e7 hs v1 hw l1 (fun _ => by omega)
  have splits : ∀ (r k : Nat) (S' : zS) (v w : Nat) (x6 : Int32), k + r = n → 1 ≤ k → x6 = J (i + k : Nat) → St S S' p v w → v ≤ 999999 → (n = 1 ∧ v = 1000 ∧ w = 0) ∨ (2 ≤ n ∧ k = 1 ∧ v = 999999 ∧ w = 0) ∨ (2 ≤ n ∧ Wd h dd i n v w) → (∀ k', 1 ≤ k' → k' < k → v ≤ sp h dd i n k') → zWp shM (KM (d + 1)) kX12_spans 0 Q 54 [some (.ref 0), some (.int (J dd)), some (.int (J i)), some (.int (J j)), some (.int (J p)), some (.int (J n)), some (.int x6), none, none, none, none, none] [] S' := by
    intro r
    induction r with
    | zero =>
      intro k S' v w x6 hr k1 e6 hs v1 hw l1
      subst e6
      refine zRun_wp [54, 120] 90 ?_
      refine ⟨fun _ => ?_, fun k2 => ?_⟩
      · refine behind S' v w _ hs v1 ?_ (fun k' q1 q2 => l1 k' q1 (by omega))
        rcases hw with q | q | q
        · exact Or.inl q
        · omega
        · exact Or.inr q
      · simp (disch := omega) only [J_lit, J_neg, J_add, J_sub, J_mul, J_nI, J_le, J_lt, J_eq, J_in, J_nat] at k2
        omega
    | succ r ih =>
      intro k S' v w x6 hr k1 e6 hs v1 hw l1
      subst e6
      have i1 : (625 * J dd + 25 * J i + J (i + k : Nat)).toNatClampNeg = 625 * dd + 25 * i + (i + k) := by simp (disch := omega) only [J_lit, J_neg, J_add, J_sub, J_mul, J_nI, J_le, J_lt, J_eq, J_in, J_nat]; omega
      have i2 : (625 * J dd + 25 * J (i + k : Nat) + J j).toNatClampNeg = 625 * dd + 25 * (i + k) + j := by simp (disch := omega) only [J_lit, J_neg, J_add, J_sub, J_mul, J_nI, J_le, J_lt, J_eq, J_in, J_nat]; omega
      have c1 := rd hs i (i + k) (by omega) (by omega) (by omega) (by omega)
      have c2 := rd hs (i + k) j (by omega) (by omega) (by omega) (by omega)
      rw [show i + k - i = k by omega] at c1
      rw [show j - (i + k) = n - k by omega] at c2
      have s1 := col dd i k (by omega)
      have s2 := col dd (i + k) (n - k) (by omega)
      refine zRun_wp [54, 120] 90 ?_
      refine ⟨fun k2 => ?_, fun _ => ?_⟩
      · simp (disch := omega) only [J_lit, J_neg, J_add, J_sub, J_mul, J_nI, J_le, J_lt, J_eq, J_in, J_nat] at k2; omega
      refine ⟨by simp (disch := omega) only [J_lit, J_neg, J_add, J_sub, J_mul, J_nI, J_le, J_lt, J_eq, J_in, J_nat]; omega, by simp (disch := omega) only [J_lit, J_neg, J_add, J_sub, J_mul, J_nI, J_le, J_lt, J_eq, J_in, J_nat]; omega, ?_⟩
      rw [i1, i2, c1, c2]
      have off : ∀ {Q' : Option Value → zS → Prop} (x y : Int32), x = J (sp h dd i n k) → y = J (1000 + 30 * k : Nat) → (sp h dd i n k < v → Q' none (zu (zu S' A_cost p (J (sp h dd i n k))) A_how p (J (1000 + 30 * k : Nat)))) → (¬ sp h dd i n k < v → Q' none S') → KM (d + 1) mX12_offers [.ref 0, .int (J p), .int x, .int y] S' Q' := by
        intro Q' x y ex ey g1 g2
        subst ex ey
        refine w_offers (by omega) (by omega) ?_ hs.2.2.1 g1 g2
        unfold sp
        omega
      refine off _ _ ?_ ?_ (fun lt => ?_) (fun nl => ?_)
      · unfold sp; simp only [J_lit, J_neg, J_add, J_sub, J_mul, J_nI]; congr 1
      · simp only [J_lit, J_neg, J_add, J_sub, J_mul, J_nI]; congr 1; omega
      · refine ih (k + 1) _ (sp h dd i n k) (1000 + 30 * k) _ (by omega) (by omega) (by simp only [J_lit, J_neg, J_add, J_sub, J_mul, J_nI]; congr 1) (St_put hs) (by omega) (Or.inr (Or.inr ⟨by omega, Or.inl ⟨k, k1, by omega, rfl, rfl, fun k' q1 q2 => ?_⟩⟩)) (fun k' q1 q2 => ?_)
        · have := l1 k' q1 q2; omega
        · by_cases e : k' = k
          · rw [e]; exact Nat.le_refl _
          · have := l1 k' q1 (by omega); omega
      · have hw2 : 2 ≤ n ∧ Wd h dd i n v w := by
          rcases hw with q | q | q
          · omega
          · unfold sp at nl; omega
          · exact q
        refine ih (k + 1) S' v w _ (by omega) (by omega) (by simp only [J_lit, J_neg, J_add, J_sub, J_mul, J_nI]; congr 1) hs v1 (Or.inr (Or.inr hw2)) (fun k' q1 q2 => ?_)
        by_cases e : k' = k
        · rw [e]; omega
        · exact l1 k' q1 (by omega)
  have e4 : 625 * J dd + 25 * J i + J j = J p := by rw [hp]; simp only [J_lit, J_neg, J_add, J_sub, J_mul, J_nI]; congr 1
  have e5 : J j - J i = J n := by rw [hn]; simp only [J_lit, J_neg, J_add, J_sub, J_mul, J_nI]; congr 1; omega
  have pin : vp_in (J p) 2500 := by simp (disch := omega) only [J_lit, J_neg, J_add, J_sub, J_mul, J_nI, J_le, J_lt, J_eq, J_in, J_nat]; omega
  have pix : (J p).toNatClampNeg = p := by simp (disch := omega) only [J_lit, J_neg, J_add, J_sub, J_mul, J_nI, J_le, J_lt, J_eq, J_in, J_nat]; omega
  have start : ∀ (v : Nat) (x4 x5 vv : Int32), x4 = J p → x5 = J n → vv = J v → v ≤ 999999 → (n = 1 ∧ v = 1000) ∨ (2 ≤ n ∧ v = 999999) → zWp shM (KM (d + 1)) kX12_spans 0 Q 54 [some (.ref 0), some (.int (J dd)), some (.int (J i)), some (.int (J j)), some (.int x4), some (.int x5), some (.int (J i + 1)), none, none, none, none, none] [] (zu (zu S 22 p vv) 23 p 0) := by
    intro v x4 x5 vv e4 e5 ev v1 hv
    subst e4 e5 ev
    have s0 : St S (zu (zu S 22 p (J v)) 23 p 0) p v 0 := by
      refine ⟨fun c h1 h2 => by rw [zu_same h2, zu_same h1], fun q hq => ⟨?_, ?_⟩, ?_, ?_⟩
      · rw [zu_same (by decide)]; simp only [zu_r, if_true]; rw [if_neg hq]
      · simp only [zu_r, if_true]; rw [if_neg hq]; rfl
      · rw [zu_same (by decide)]; simp only [zu_r, if_true]
      · simp only [zu_r, if_true]; rfl
    refine splits (n - 1) 1 _ v 0 _ (by omega) (by omega) (by simp only [J_lit, J_neg, J_add, J_sub, J_mul, J_nI]; congr 1) s0 v1 ?_ (fun k' a b => by omega)
    rcases hv with ⟨a, b⟩ | ⟨a, b⟩
    · exact Or.inl ⟨a, b, rfl⟩
    · exact Or.inr (Or.inl ⟨a, rfl, b, rfl⟩)
  refine eX12_spans (zRun_wp [54] 90 ?_)
  refine ⟨fun k1 => ?_, fun k1 => ?_⟩ <;> rw [e5] at k1 <;> simp (disch := omega) only [J_lit, J_neg, J_add, J_sub, J_mul, J_nI, J_le, J_lt, J_eq, J_in, J_nat] at k1
  · refine ⟨by rw [e4]; exact pin, by rw [e4]; exact pin, ?_⟩
    have go := start 999999 _ _ 999999 e4 e5 rfl (by omega) (Or.inr ⟨by omega, rfl⟩)
    rw [← pix, ← e4] at go
    exact go
  · refine ⟨by rw [e4]; exact pin, by rw [e4]; exact pin, ?_⟩
    have go := start 1000 _ _ 1000 e4 e5 rfl (by omega) (Or.inl ⟨by omega, rfl⟩)
    rw [← pix, ← e4] at go
    exact go
end mspans
