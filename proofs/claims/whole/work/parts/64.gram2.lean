/-! the marks' past; the printed bars; what is played -/
def MK (b : Nat → Int) (i : Nat) (m : Int × Int × Int) : Prop :=
  (m.1 = -1 ∨ ∃ P : Nat, m.1 = (P : Int) ∧ P < i ∧ b P = 37 ∧ gst b P = ([], -1, -1, -1) ∧ gst b (P + 1) = ([], m.1, -1, -1)) ∧
  (m.2.1 = -1 ∨ ∃ B : Nat, m.2.1 = (B : Int) ∧ B < i ∧ m.1 < (B : Int) ∧ b B = 33 ∧ gst b B = ([], m.1, -1, -1) ∧ gst b (B + 1) = ([], m.1, m.2.1, -1)) ∧
  (m.2.2 = -1 ∨ ∃ D : Nat, m.2.2 = (D : Int) ∧ i = D + 1 ∧ b D = 36 ∧ m.2.1 ≠ -1 ∧ m.2.1 < (D : Int) ∧ gst b D = ([], m.1, m.2.1, -1))
theorem MK_all {b : Nat → Int} : ∀ i, Acc b i → MK b i (gst b i).2 := by
  intro i
  induction i with
  | zero => intro _; exact ⟨Or.inl rfl, Or.inl rfl, Or.inl rfl⟩
  | succ i ih =>
    intro h
    obtain ⟨m1, m2, m3⟩ := ih (Acc_le h (by omega))
    obtain ⟨r1, r2⟩ := rsn_0 (h i (by omega))
    have up1 : (gst b i).2.1 = -1 ∨ ∃ P : Nat, (gst b i).2.1 = (P : Int) ∧ P < i + 1 ∧ b P = 37 ∧ gst b P = ([], -1, -1, -1) ∧ gst b (P + 1) = ([], (gst b i).2.1, -1, -1) := by
      rcases m1 with m1 | ⟨P, a1, a2, a3⟩
      · exact Or.inl m1
      · exact Or.inr ⟨P, a1, by omega, a3⟩
    have up2 : (gst b i).2.2.1 = -1 ∨ ∃ B : Nat, (gst b i).2.2.1 = (B : Int) ∧ B < i + 1 ∧ (gst b i).2.1 < (B : Int) ∧ b B = 33 ∧ gst b B = ([], (gst b i).2.1, -1, -1) ∧ gst b (B + 1) = ([], (gst b i).2.1, (gst b i).2.2.1, -1) := by
      rcases m2 with m2 | ⟨P, a1, a2, a3⟩
      · exact Or.inl m2
      · exact Or.inr ⟨P, a1, by omega, a3⟩
    have same : (gst b (i + 1)).2 = (gst b i).2 → MK b (i + 1) (gst b (i + 1)).2 := by
      intro e
      rw [e]
      exact ⟨up1, up2, Or.inl r1⟩
    rcases r2 with r2 | ⟨r2, -⟩ | ⟨r2, -⟩ | ⟨-, ⟨p, c, q, t, e, f⟩ | ⟨e, f⟩⟩
    · exact same (by rw [gst_letter (Or.inl r2)])
    · exact same (by rw [gst_letter (Or.inr r2)])
    · exact same (by rw [gst_open r2])
    · rcases f with ⟨z, fc⟩ | ⟨z, fc, fq⟩ | ⟨z, -⟩
      · exact same (by rw [gst_col z])
      · exact same (by rw [gst_sem z])
      · exact same (by rw [gst_shut z])
    · have eg : gst b i = ([], (gst b i).2.1, (gst b i).2.2.1, -1) := by
        rw [← r1, ← e]
      rcases f with ⟨z, f1, f2⟩ | ⟨z, f1⟩ | ⟨z, f1, f2⟩
      · have g := gst_pct z
        have g' : gst b (i + 1) = ([], (i : Int), -1, -1) := by rw [g, e, f2, r1]
        rw [g']
        refine ⟨Or.inr ⟨i, rfl, by omega, z, ?_, g'⟩, Or.inl rfl, Or.inl rfl⟩
        rw [eg, f1, f2]
      · have g := gst_bng z
        have g' : gst b (i + 1) = ([], (gst b i).2.1, (i : Int), -1) := by rw [g, e, r1]
        rw [g']
        refine ⟨?_, Or.inr ⟨i, rfl, by omega, ?_, z, ?_, g'⟩, Or.inl rfl⟩
        · exact up1
        · show (gst b i).2.1 < (i : Int)
          rcases m1 with m1 | ⟨P, a1, a2, a3⟩ <;> omega
        · show gst b i = ([], (gst b i).2.1, -1, -1)
          rw [eg, f1]
      · have g := gst_dol z
        have g' : gst b (i + 1) = ([], (gst b i).2.1, (gst b i).2.2.1, (i : Int)) := by rw [g, e]
        rw [g']
        refine ⟨up1, up2, Or.inr ⟨i, rfl, rfl, z, f1, ?_, eg⟩⟩
        show (gst b i).2.2.1 < (i : Int)
        rcases m2 with m2 | ⟨P, a1, a2, a3⟩ <;> omega
/-- the codes of the printed bars -/
def sgc (b : Nat → Int) : Nat → Nat → Int
  | 0 => fun _ => 0
  | i + 1 => if letr (b i) then upF (sgc b i) (rm b i) (b i) else if figr (b i) then upF (sgc b i) (rm b i - 1) (sgc b i (rm b i - 1) + 256 * b i) else sgc b i
theorem sgc_s (b : Nat → Int) (i : Nat) : sgc b (i + 1) = if letr (b i) then upF (sgc b i) (rm b i) (b i) else if figr (b i) then upF (sgc b i) (rm b i - 1) (sgc b i (rm b i - 1) + 256 * b i) else sgc b i := rfl
theorem sgc_ok {b : Nat → Int} : ∀ i, Acc b i → (∀ k, k < rm b i → vcode (sgc b i k)) ∧ (0 < i → letr (b (i - 1)) → 0 < rm b i ∧ sgc b i (rm b i - 1) = b (i - 1)) := by
  intro i
  induction i with
  | zero => intro _; exact ⟨fun k hk => absurd hk (Nat.not_lt_zero k), fun h => absurd h (Nat.lt_irrefl 0)⟩
  | succ i ih =>
    intro h
    obtain ⟨i1, i2⟩ := ih (Acc_le h (by omega))
    obtain ⟨-, r2⟩ := rsn_0 (h i (by omega))
    rw [rm_s, sgc_s, Nat.add_sub_cancel]
    by_cases c : letr (b i)
    · rw [if_pos c, if_pos c]
      refine ⟨fun k hk => ?_, fun _ _ => ⟨by omega, ?_⟩⟩
      · by_cases e : k = rm b i
        · subst e
          rw [upF_s]
          exact ⟨b i, 0, c, Or.inl rfl, by omega⟩
        · rw [upF_n e]; exact i1 k (by omega)
      · rw [Nat.add_sub_cancel, upF_s]
    · rw [if_neg c, if_neg c]
      by_cases f : figr (b i)
      · rw [if_pos f]
        have hp : 0 < i ∧ letr (b (i - 1)) := by
          rcases r2 with r2 | ⟨_, r2⟩ | ⟨r2, -⟩ | ⟨-, ⟨p, x, q, t, e, w⟩ | ⟨e, w⟩⟩
          · exact absurd r2 c
          · exact r2
          · omega
          · rcases w with ⟨w, -⟩ | ⟨w, -⟩ | ⟨w, -⟩ <;> omega
          · rcases w with ⟨w, -⟩ | ⟨w, -⟩ | ⟨w, -⟩ <;> omega
        obtain ⟨j1, j2⟩ := i2 hp.1 hp.2
        refine ⟨fun k hk => ?_, fun _ q => absurd q c⟩
        by_cases e : k = rm b i - 1
        · subst e
          rw [upF_s, j2]
          exact ⟨b (i - 1), b i, hp.2, Or.inr f, rfl⟩
        · rw [upF_n e]; exact i1 k (by omega)
      · rw [if_neg f]
        exact ⟨i1, fun _ q => absurd q c⟩
/-- signs, and how deep -/
def sct (b : Nat → Int) : Nat → Nat
  | 0 => 0
  | i + 1 => sct b i + (if sgz (b i) then 1 else 0)
def dpt (b : Nat → Int) : Nat → Nat
  | 0 => 0
  | i + 1 => Nat.max (dpt b i) (gst b (i + 1)).1.length
theorem sct_s (b : Nat → Int) (i : Nat) : sct b (i + 1) = sct b i + (if sgz (b i) then 1 else 0) := rfl
theorem dpt_s (b : Nat → Int) (i : Nat) : dpt b (i + 1) = Nat.max (dpt b i) (gst b (i + 1)).1.length := rfl
theorem sct_le (b : Nat → Int) (i : Nat) : sct b i ≤ i := by
  induction i with
  | zero => exact Nat.le_refl _
  | succ i ih => rw [sct_s]; split <;> omega
theorem dpt_ge (b : Nat → Int) (i : Nat) : (gst b i).1.length ≤ dpt b i := by
  cases i with
  | zero => exact Nat.le_refl _
  | succ i => rw [dpt_s]; exact Nat.le_max_right _ _
theorem gst_len {b : Nat → Int} : ∀ i, Acc b i → (gst b i).1.length ≤ 3 := by
  intro i
  induction i with
  | zero => intro _; show 0 ≤ 3; omega
  | succ i ih =>
    intro h
    have hi := ih (Acc_le h (by omega))
    obtain ⟨r1, r2⟩ := rsn_0 (h i (by omega))
    rcases r2 with r2 | ⟨r2, -⟩ | ⟨r2, r3⟩ | ⟨-, ⟨p, c, q, t, e, f⟩ | ⟨e, f⟩⟩
    · rw [gst_letter (Or.inl r2)]; exact hi
    · rw [gst_letter (Or.inr r2)]; exact hi
    · rw [gst_open r2]; simp only [List.length_cons]; omega
    · rw [e] at hi
      rcases f with ⟨z, fc⟩ | ⟨z, fc, fq⟩ | ⟨z, -⟩
      · rw [gst_col z, e]; exact hi
      · rw [gst_sem z, e]; exact hi
      · rw [gst_shut z, e]; rw [List.length_cons] at hi; show t.length ≤ 3; omega
    · rcases f with ⟨z, -⟩ | ⟨z, -⟩ | ⟨z, -⟩
      · rw [gst_pct z, e]; simp
      · rw [gst_bng z, e]; simp
      · rw [gst_dol z, e]; simp
theorem dpt_le {b : Nat → Int} : ∀ i, Acc b i → dpt b i ≤ 3 := by
  intro i
  induction i with
  | zero => intro _; show 0 ≤ 3; omega
  | succ i ih =>
    intro h
    rw [dpt_s]
    exact Nat.max_le.mpr ⟨ih (Acc_le h (by omega)), gst_len _ h⟩
theorem rm_mono (b : Nat → Int) {i j : Nat} (h : i ≤ j) : rm b i ≤ rm b j := by
  induction j with
  | zero => have : i = 0 := by omega
            subst this; exact Nat.le_refl _
  | succ j ih =>
    by_cases e : i = j + 1
    · subst e; exact Nat.le_refl _
    · have := ih (by omega)
      rw [rm_s]; omega
