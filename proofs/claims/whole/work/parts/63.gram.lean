/-! how a score is read: what is open, the marks, why it cannot go on -/
/-- one that is open: the place of [, of its : and ; (-1: none) -/
abbrev En : Type := Nat × Int × Int
/-- what is open (the innermost first), the places of %, !, $ -/
abbrev Gs : Type := List En × Int × Int × Int
def gcol (i : Nat) : List En → List En
  | (p, _, q) :: t => (p, (i : Int), q) :: t
  | [] => []
def gsem (i : Nat) : List En → List En
  | (p, c, _) :: t => (p, c, (i : Int)) :: t
  | [] => []
def gstep (z : Int) (i : Nat) (s : Gs) : Gs :=
  if z = 91 then ((i, -1, -1) :: s.1, s.2)
  else if z = 93 then (s.1.tail, s.2)
  else if z = 58 then (gcol i s.1, s.2)
  else if z = 59 then (gsem i s.1, s.2)
  else if z = 37 then (s.1, (i : Int), s.2.2.1, s.2.2.2)
  else if z = 33 then (s.1, s.2.1, (i : Int), s.2.2.2)
  else if z = 36 then (s.1, s.2.1, s.2.2.1, (i : Int))
  else s
def gst (b : Nat → Int) : Nat → Gs
  | 0 => ([], -1, -1, -1)
  | i + 1 => gstep (b i) i (gst b i)
theorem gst_s (b : Nat → Int) (i : Nat) : gst b (i + 1) = gstep (b i) i (gst b i) := rfl
abbrev sgz (z : Int) : Prop := z = 91 ∨ z = 93 ∨ z = 58 ∨ z = 59 ∨ z = 33 ∨ z = 37 ∨ z = 36
abbrev due (b : Nat → Int) (i : Nat) : Prop := i = 0 ∨ b (i - 1) = 91 ∨ b (i - 1) = 58 ∨ b (i - 1) = 59 ∨ b (i - 1) = 37 ∨ b (i - 1) = 33
def fitE (z c q : Int) : Prop := (z = 58 ∧ c = -1) ∨ (z = 59 ∧ c ≠ -1 ∧ q = -1) ∨ (z = 93 ∧ (c = -1 ∨ q ≠ -1))
def fitM (z : Int) (m : Int × Int × Int) : Prop := (z = 37 ∧ m.1 = -1 ∧ m.2.1 = -1) ∨ (z = 33 ∧ m.2.1 = -1) ∨ (z = 36 ∧ m.2.1 ≠ -1 ∧ m.2.2 = -1)
def fits (z : Int) (s : Gs) : Bool := match s.1 with
  | (_, c, q) :: _ => decide ((z = 58 ∧ c = -1) ∨ (z = 59 ∧ c ≠ -1 ∧ q = -1) ∨ (z = 93 ∧ (c = -1 ∨ q ≠ -1)))
  | [] => decide ((z = 37 ∧ s.2.1 = -1 ∧ s.2.2.1 = -1) ∨ (z = 33 ∧ s.2.2.1 = -1) ∨ (z = 36 ∧ s.2.2.1 ≠ -1 ∧ s.2.2.2 = -1))
/-- why it cannot go on with byte i; 0: it does -/
def rsn (b : Nat → Int) (i : Nat) : Nat :=
  if ¬ (letr (b i) ∨ figr (b i) ∨ sgz (b i)) then 1
  else if (gst b i).2.2.2 ≠ -1 then 4
  else if letr (b i) then 0
  else if figr (b i) then (if 0 < i ∧ letr (b (i - 1)) then 0 else 4)
  else if b i = 91 then (if (gst b i).1.length < 3 then 0 else 3)
  else if due b i then 2
  else if fits (b i) (gst b i) then 0 else 4
theorem fits_c {z c q : Int} {p : Nat} {t : List En} {m : Int × Int × Int} : fits z ((p, c, q) :: t, m) = true ↔ fitE z c q := by
  unfold fits fitE; exact decide_eq_true_iff
theorem fits_n {z : Int} {m : Int × Int × Int} : fits z ([], m) = true ↔ fitM z m := by
  unfold fits fitM; exact decide_eq_true_iff
/-- what an accepted byte is -/
theorem rsn_0 {b : Nat → Int} {i : Nat} (h : rsn b i = 0) : (gst b i).2.2.2 = -1 ∧ (letr (b i) ∨ (figr (b i) ∧ 0 < i ∧ letr (b (i - 1))) ∨ (b i = 91 ∧ (gst b i).1.length < 3) ∨ (¬ due b i ∧ ((∃ p c q t, (gst b i).1 = (p, c, q) :: t ∧ fitE (b i) c q) ∨ ((gst b i).1 = [] ∧ fitM (b i) (gst b i).2)))) := by
  unfold rsn at h
  split at h
  · cases h
  split at h
  · cases h
  rename_i n1 n2
  refine ⟨Decidable.not_not.mp n2, ?_⟩
  split at h
  · rename_i c; exact Or.inl c
  split at h
  · rename_i c
    split at h
    · rename_i c2; exact Or.inr (Or.inl ⟨c, c2⟩)
    · cases h
  split at h
  · rename_i c
    split at h
    · rename_i c2; exact Or.inr (Or.inr (Or.inl ⟨c, c2⟩))
    · cases h
  split at h
  · cases h
  split at h
  · rename_i nd c
    refine Or.inr (Or.inr (Or.inr ⟨nd, ?_⟩))
    generalize gst b i = s at c
    obtain ⟨l, m⟩ := s
    cases l with
    | nil => exact Or.inr ⟨rfl, fits_n.mp c⟩
    | cons e t =>
      obtain ⟨p, x, y⟩ := e
      exact Or.inl ⟨p, x, y, t, rfl, fits_c.mp c⟩
  · cases h
/-- the first i bytes are accepted -/
def Acc (b : Nat → Int) (i : Nat) : Prop := ∀ k, k < i → rsn b k = 0
theorem Acc_le {b : Nat → Int} {i j : Nat} (h : Acc b i) (hj : j ≤ i) : Acc b j := fun k hk => h k (by omega)
/-- how many are accepted -/
def acc (b : Nat → Int) : Nat → Nat
  | 0 => 0
  | i + 1 => if acc b i = i ∧ rsn b i = 0 then i + 1 else acc b i
theorem acc_spec (b : Nat → Int) : ∀ n, acc b n ≤ n ∧ Acc b (acc b n) ∧ (acc b n < n → rsn b (acc b n) ≠ 0) := by
  intro n
  induction n with
  | zero => exact ⟨Nat.le_refl _, fun k hk => absurd hk (Nat.not_lt_zero k), fun h => absurd h (Nat.lt_irrefl 0)⟩
  | succ n ih =>
    obtain ⟨h1, h2, h3⟩ := ih
    unfold acc
    split
    · rename_i c
      refine ⟨Nat.le_refl _, fun k hk => ?_, fun h => absurd h (by omega)⟩
      by_cases e : k = n
      · subst e; exact c.2
      · exact h2 k (by omega)
    · rename_i c
      refine ⟨by omega, h2, fun _ => ?_⟩
      by_cases e : acc b n = n
      · rw [e]; exact fun q => c ⟨e, q⟩
      · exact h3 (by omega)
theorem acc_is {b : Nat → Int} {n i : Nat} (hi : i ≤ n) (h1 : Acc b i) (h2 : i < n → rsn b i ≠ 0) : acc b n = i := by
  obtain ⟨a1, a2, a3⟩ := acc_spec b n
  by_cases c : acc b n < i
  · exact absurd (h1 _ c) (a3 (by omega))
  · by_cases e : i < acc b n
    · exact absurd (a2 _ e) (h2 (by omega))
    · omega
abbrev mayEnd (b : Nat → Int) (n : Nat) : Prop := (gst b n).1 = [] ∧ ¬ due b n ∧ (((gst b n).2.1 = -1 ∧ (gst b n).2.2.1 = -1) ∨ (gst b n).2.2.2 ≠ -1)
/-- the reason of the fault, 0: none -/
def fre (b : Nat → Int) (n : Nat) : Nat := if acc b n < n then rsn b (acc b n) else if n = 0 ∨ mayEnd b n then 0 else 5
/-- what an open one's past is -/
def HS (b : Nat → Int) (i : Nat) : List En → Prop
  | [] => True
  | (p, c, q) :: t => (p < i ∧ b p = 91 ∧ (gst b p).1 = t ∧ (gst b (p + 1)).1 = (p, -1, -1) :: t ∧ (∀ k, p < k → k ≤ i → t.length < (gst b k).1.length) ∧ (∀ k, p ≤ k → k ≤ i → (gst b k).2 = (gst b i).2) ∧
      ((c = -1 ∧ q = -1) ∨ ∃ c' : Nat, c = (c' : Int) ∧ p < c' ∧ c' < i ∧ b c' = 58 ∧ (gst b c').1 = (p, -1, -1) :: t ∧ (gst b (c' + 1)).1 = (p, c, -1) :: t ∧
        (q = -1 ∨ ∃ q' : Nat, q = (q' : Int) ∧ c' < q' ∧ q' < i ∧ b q' = 59 ∧ (gst b q').1 = (p, c, -1) :: t ∧ (gst b (q' + 1)).1 = (p, c, q) :: t))) ∧ HS b i t
theorem HS_mono {b : Nat → Int} {i : Nat} : ∀ {l : List En}, HS b i l → l.length ≤ (gst b (i + 1)).1.length → (l ≠ [] → (gst b (i + 1)).2 = (gst b i).2) → HS b (i + 1) l := by
  intro l
  induction l with
  | nil => intro _ _ _; trivial
  | cons e t ih =>
    obtain ⟨p, c, q⟩ := e
    intro h h1 h2
    obtain ⟨⟨a1, a2, a3, a4, a5, a6, a7⟩, ht⟩ := h
    have m := h2 (by simp)
    rw [List.length_cons] at h1
    refine ⟨⟨by omega, a2, a3, a4, fun k k1 k2 => ?_, fun k k1 k2 => ?_, ?_⟩, ih ht (by omega) (fun _ => m)⟩
    · by_cases e : k = i + 1
      · subst e; omega
      · exact a5 k k1 (by omega)
    · by_cases e : k = i + 1
      · rw [e]
      · rw [a6 k k1 (by omega), m]
    · rcases a7 with a7 | ⟨c', e1, e2, e3, e4, e5, e6, e7⟩
      · exact Or.inl a7
      · refine Or.inr ⟨c', e1, e2, by omega, e4, e5, e6, ?_⟩
        rcases e7 with e7 | ⟨q', f1, f2, f3, f4, f5, f6⟩
        · exact Or.inl e7
        · exact Or.inr ⟨q', f1, f2, by omega, f4, f5, f6⟩
theorem gst_letter {b : Nat → Int} {i : Nat} (h : letr (b i) ∨ figr (b i)) : gst b (i + 1) = gst b i := by
  rw [gst_s]; unfold gstep
  rw [if_neg (by omega), if_neg (by omega), if_neg (by omega), if_neg (by omega), if_neg (by omega), if_neg (by omega), if_neg (by omega)]
theorem gst_open {b : Nat → Int} {i : Nat} (h : b i = 91) : gst b (i + 1) = ((i, -1, -1) :: (gst b i).1, (gst b i).2) := by
  rw [gst_s]; unfold gstep; rw [if_pos h]
theorem gst_shut {b : Nat → Int} {i : Nat} (h : b i = 93) : gst b (i + 1) = ((gst b i).1.tail, (gst b i).2) := by
  rw [gst_s]; unfold gstep; rw [if_neg (by omega), if_pos h]
theorem gst_col {b : Nat → Int} {i : Nat} (h : b i = 58) : gst b (i + 1) = (gcol i (gst b i).1, (gst b i).2) := by
  rw [gst_s]; unfold gstep; rw [if_neg (by omega), if_neg (by omega), if_pos h]
theorem gst_sem {b : Nat → Int} {i : Nat} (h : b i = 59) : gst b (i + 1) = (gsem i (gst b i).1, (gst b i).2) := by
  rw [gst_s]; unfold gstep; rw [if_neg (by omega), if_neg (by omega), if_neg (by omega), if_pos h]
theorem gst_pct {b : Nat → Int} {i : Nat} (h : b i = 37) : gst b (i + 1) = ((gst b i).1, (i : Int), (gst b i).2.2.1, (gst b i).2.2.2) := by
  rw [gst_s]; unfold gstep; rw [if_neg (by omega), if_neg (by omega), if_neg (by omega), if_neg (by omega), if_pos h]
theorem gst_bng {b : Nat → Int} {i : Nat} (h : b i = 33) : gst b (i + 1) = ((gst b i).1, (gst b i).2.1, (i : Int), (gst b i).2.2.2) := by
  rw [gst_s]; unfold gstep; rw [if_neg (by omega), if_neg (by omega), if_neg (by omega), if_neg (by omega), if_neg (by omega), if_pos h]
theorem gst_dol {b : Nat → Int} {i : Nat} (h : b i = 36) : gst b (i + 1) = ((gst b i).1, (gst b i).2.1, (gst b i).2.2.1, (i : Int)) := by
  rw [gst_s]; unfold gstep; rw [if_neg (by omega), if_neg (by omega), if_neg (by omega), if_neg (by omega), if_neg (by omega), if_neg (by omega), if_pos h]
theorem HS_all {b : Nat → Int} : ∀ i, Acc b i → HS b i (gst b i).1 := by
  intro i
  induction i with
  | zero => intro _; trivial
  | succ i ih =>
    intro h
    have hi := ih (Acc_le h (by omega))
    obtain ⟨r1, r2⟩ := rsn_0 (h i (by omega))
    have same : gst b (i + 1) = gst b i → HS b (i + 1) (gst b (i + 1)).1 := by
      intro e
      have := HS_mono hi (by rw [e]; exact Nat.le_refl _) (fun _ => by rw [e])
      rw [e]; exact this
    rcases r2 with r2 | ⟨r2, -⟩ | ⟨r2, -⟩ | ⟨-, ⟨p, c, q, t, e, f⟩ | ⟨e, f⟩⟩
    · exact same (gst_letter (Or.inl r2))
    · exact same (gst_letter (Or.inr r2))
    · have g := gst_open r2
      rw [g]
      refine ⟨⟨by omega, r2, rfl, by rw [g], fun k k1 k2 => ?_, fun k k1 k2 => ?_, Or.inl ⟨rfl, rfl⟩⟩, ?_⟩
      · have : k = i + 1 := by omega
        rw [this, g]; simp
      · by_cases e : k = i + 1
        · rw [e]
        · have : k = i := by omega
          rw [this, g]
      · exact HS_mono hi (by rw [g]; simp) (fun _ => by rw [g])
    · rw [e] at hi
      have hi' := hi
      obtain ⟨⟨a1, a2, a3, a4, a5, a6, a7⟩, ht⟩ := hi
      rcases f with ⟨z, fc⟩ | ⟨z, fc, fq⟩ | ⟨z, -⟩
      · have g := gst_col z
        rw [e] at g
        have g1 : (gst b (i + 1)).1 = (p, (i : Int), q) :: t := by rw [g]; rfl
        have g2 : (gst b (i + 1)).2 = (gst b i).2 := by rw [g]
        have eq1 : q = -1 := by
          rcases a7 with a7 | ⟨c', e1, _⟩
          · exact a7.2
          · omega
        rw [g1]
        refine ⟨⟨by omega, a2, a3, a4, fun k k1 k2 => ?_, fun k k1 k2 => ?_, Or.inr ⟨i, rfl, a1, by omega, z, ?_, ?_, Or.inl eq1⟩⟩, HS_mono ht (by rw [g1]; simp) (fun _ => g2)⟩
        · by_cases w : k = i + 1
          · rw [w, g1]; simp
          · exact a5 k k1 (by omega)
        · by_cases w : k = i + 1
          · rw [w]
          · rw [a6 k k1 (by omega), g2]
        · rw [e, fc, eq1]
        · rw [g1, eq1]
      · have g := gst_sem z
        rw [e] at g
        have g1 : (gst b (i + 1)).1 = (p, c, (i : Int)) :: t := by rw [g]; rfl
        have g2 : (gst b (i + 1)).2 = (gst b i).2 := by rw [g]
        rw [g1]
        rcases a7 with a7 | ⟨c', e1, e2, e3, e4, e5, e6, e7⟩
        · exact absurd a7.1 fc
        refine ⟨⟨by omega, a2, a3, a4, fun k k1 k2 => ?_, fun k k1 k2 => ?_, Or.inr ⟨c', e1, e2, by omega, e4, e5, e6, Or.inr ⟨i, rfl, e3, by omega, z, ?_, g1⟩⟩⟩, HS_mono ht (by rw [g1]; simp) (fun _ => g2)⟩
        · by_cases w : k = i + 1
          · rw [w, g1]; simp
          · exact a5 k k1 (by omega)
        · by_cases w : k = i + 1
          · rw [w]
          · rw [a6 k k1 (by omega), g2]
        · rw [e, fq]
      · have g := gst_shut z
        rw [e] at g
        have g1 : (gst b (i + 1)).1 = t := by rw [g]; rfl
        have g2 : (gst b (i + 1)).2 = (gst b i).2 := by rw [g]
        rw [g1]
        exact HS_mono ht (by rw [g1]; exact Nat.le_refl _) (fun _ => g2)
    · have : (gst b (i + 1)).1 = [] := by
        rcases f with ⟨z, -⟩ | ⟨z, -⟩ | ⟨z, -⟩
        · rw [gst_pct z]; exact e
        · rw [gst_bng z]; exact e
        · rw [gst_dol z]; exact e
      rw [this]
      trivial
