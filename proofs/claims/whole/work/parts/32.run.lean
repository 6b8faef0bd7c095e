/-! the run: bytes into bars -/
abbrev letr (z : Int) : Prop := 97 ≤ z ∧ z ≤ 122
abbrev figr (z : Int) : Prop := 48 ≤ z ∧ z ≤ 57
abbrev okb (b : Nat → Int) (i : Nat) : Prop := letr (b i) ∨ (figr (b i) ∧ 0 < i ∧ letr (b (i - 1)))
/-- the fault's place, -1 if there is none, of the first n bytes -/
def rfp (b : Nat → Int) : Nat → Int
  | 0 => -1
  | i + 1 => if rfp b i = -1 then (if okb b i then -1 else (i : Int)) else rfp b i
/-- how many bars begin in the first n bytes -/
def rm (b : Nat → Int) : Nat → Nat
  | 0 => 0
  | i + 1 => rm b i + (if letr (b i) then 1 else 0)
/-- their codes: the letter, and 256 times the figure's byte -/
def rg (b : Nat → Int) : Nat → Nat → Int
  | 0 => fun _ => 0
  | i + 1 => if letr (b i) then upF (rg b i) (rm b i) (b i) else upF (rg b i) (rm b i - 1) (rg b i (rm b i - 1) + 256 * b i)
/-- the first place below m that has z, or m -/
def fso (g : Nat → Int) (z : Int) : Nat → Nat
  | 0 => 0
  | m + 1 => if fso g z m < m then fso g z m else if g m = z then m else m + 1
/-- how many unlike ones are below i -/
def un (g : Nat → Int) : Nat → Nat
  | 0 => 0
  | i + 1 => un g i + (if fso g (g i) i < i then 0 else 1)
/-- the number of a bar -/
def nu (g : Nat → Int) (i : Nat) : Nat := un g (fso g (g i) i)
theorem rfp_s (b : Nat → Int) (i : Nat) : rfp b (i + 1) = if rfp b i = -1 then (if okb b i then -1 else (i : Int)) else rfp b i := rfl
theorem rm_s (b : Nat → Int) (i : Nat) : rm b (i + 1) = rm b i + (if letr (b i) then 1 else 0) := rfl
theorem rg_s (b : Nat → Int) (i : Nat) : rg b (i + 1) = if letr (b i) then upF (rg b i) (rm b i) (b i) else upF (rg b i) (rm b i - 1) (rg b i (rm b i - 1) + 256 * b i) := rfl
theorem un_s (g : Nat → Int) (i : Nat) : un g (i + 1) = un g i + (if fso g (g i) i < i then 0 else 1) := rfl
theorem fso_s (g : Nat → Int) (z : Int) (m : Nat) : fso g z (m + 1) = if fso g z m < m then fso g z m else if g m = z then m else m + 1 := rfl
theorem rm_le (b : Nat → Int) (n : Nat) : rm b n ≤ n := by
  induction n with
  | zero => exact Nat.le_refl _
  | succ n ih => unfold rm; split <;> omega
theorem un_le (g : Nat → Int) (n : Nat) : un g n ≤ n := by
  induction n with
  | zero => exact Nat.le_refl _
  | succ n ih => unfold un; split <;> omega
theorem fso_le (g : Nat → Int) (z : Int) (m : Nat) : fso g z m ≤ m := by
  induction m with
  | zero => exact Nat.le_refl _
  | succ m ih => unfold fso; split <;> (try split) <;> omega
theorem fso_ne (g : Nat → Int) (z : Int) (m : Nat) : ∀ j, j < fso g z m → g j ≠ z := by
  induction m with
  | zero => intro j hj; exact absurd hj (by unfold fso; omega)
  | succ m ih =>
    intro j hj
    unfold fso at hj
    split at hj
    · exact ih j hj
    · have := fso_le g z m
      split at hj
      · exact ih j (by omega)
      · rename_i h1 h2
        by_cases e : j = m
        · rw [e]; exact h2
        · exact ih j (by omega)
theorem fso_eq (g : Nat → Int) (z : Int) (m : Nat) (h : fso g z m < m) : g (fso g z m) = z := by
  induction m with
  | zero => omega
  | succ m ih =>
    unfold fso at h ⊢
    split
    · rename_i h1; exact ih h1
    · rename_i h1
      rw [if_neg h1] at h
      split
      · rename_i h2; exact h2
      · rename_i h2; rw [if_neg h2] at h; omega
theorem fso_is {g : Nat → Int} {z : Int} {m e : Nat} (he : e < m) (h1 : g e = z) (h2 : ∀ j, j < e → g j ≠ z) : fso g z m = e := by
  rcases Nat.lt_trichotomy (fso g z m) e with q | q | q
  · exact absurd (fso_eq g z m (by omega)) (h2 _ q)
  · exact q
  · exact absurd h1 (fso_ne g z m e q)
theorem fso_no {g : Nat → Int} {z : Int} {m : Nat} (h2 : ∀ j, j < m → g j ≠ z) : fso g z m = m := by
  rcases Nat.lt_or_ge (fso g z m) m with q | q
  · exact absurd (fso_eq g z m q) (h2 _ q)
  · have := fso_le g z m; omega
/-- a first one's number is what was counted ahead of it -/
theorem nu_first {g : Nat → Int} {i : Nat} (h : ¬ fso g (g i) i < i) : nu g i = un g i := by
  have := fso_le g (g i) i
  unfold nu
  rw [show fso g (g i) i = i by omega]
theorem nu_earlier {g : Nat → Int} {i : Nat} (h : fso g (g i) i < i) : nu g i = nu g (fso g (g i) i) := by
  have h1 := fso_eq g (g i) i h
  have h2 := fso_ne g (g i) i
  have h3 : fso g (g (fso g (g i) i)) (fso g (g i) i) = fso g (g i) i := fso_no (fun j hj => by rw [h1]; exact h2 j hj)
  unfold nu
  rw [h3]
theorem un_mono {g : Nat → Int} {i j : Nat} (h : i ≤ j) : un g i ≤ un g j := by
  induction j with
  | zero => have : i = 0 := by omega
            subst this; exact Nat.le_refl _
  | succ j ih =>
    by_cases e : i = j + 1
    · rw [e]; exact Nat.le_refl _
    · have := ih (by omega)
      show un g i ≤ un g j + _
      omega
/-- numbers tell bars apart -/
theorem nu_iff (g : Nat → Int) (i j : Nat) : nu g i = nu g j ↔ g i = g j := by
  have key : ∀ i j, fso g (g i) i < fso g (g j) j → nu g i < nu g j := by
    intro i j h
    have h1 : ¬ fso g (g (fso g (g i) i)) (fso g (g i) i) < fso g (g i) i := by
      have h2 := fso_ne g (g i) i
      by_cases e : fso g (g i) i < i
      · have h3 := fso_eq g (g i) i e
        rw [fso_no (fun k hk => by rw [h3]; exact h2 k hk)]
        omega
      · have := fso_le g (g i) i
        have e2 : fso g (g i) i = i := by omega
        rw [e2]; rw [e2] at h2
        rw [fso_no h2]; omega
    have h4 : un g (fso g (g i) i + 1) = un g (fso g (g i) i) + 1 := by
      show un g (fso g (g i) i) + _ = _
      rw [if_neg h1]
    have := un_mono (g := g) (i := fso g (g i) i + 1) (j := fso g (g j) j) (by omega)
    unfold nu
    omega
  have same : ∀ i, g (fso g (g i) i) = g i := by
    intro i
    by_cases e : fso g (g i) i < i
    · exact fso_eq g (g i) i e
    · have := fso_le g (g i) i
      rw [show fso g (g i) i = i by omega]
  constructor
  · intro h
    rcases Nat.lt_trichotomy (fso g (g i) i) (fso g (g j) j) with q | q | q
    · have := key i j q; omega
    · rw [← same i, ← same j, q]
    · have := key j i q; omega
  · intro h
    have hij : fso g (g i) i = fso g (g j) j := by
      rcases Nat.lt_trichotomy (fso g (g i) i) (fso g (g j) j) with q | q | q
      · exact absurd (by rw [same i]; exact h) (fso_ne g (g j) j _ q)
      · exact q
      · exact absurd (by rw [same j]; exact h.symm) (fso_ne g (g i) i _ q)
    unfold nu
    rw [hij]
theorem rfp_iff (b : Nat → Int) (n : Nat) : rfp b n = -1 ↔ ∀ k, k < n → okb b k := by
  induction n with
  | zero => exact ⟨fun _ k hk => absurd hk (by omega), fun _ => rfl⟩
  | succ n ih =>
    unfold rfp
    by_cases e : rfp b n = -1
    · rw [if_pos e]
      have e' := ih.mp e
      by_cases o : okb b n
      · rw [if_pos o]
        refine ⟨fun _ k hk => ?_, fun _ => rfl⟩
        by_cases ek : k = n
        · rw [ek]; exact o
        · exact e' k (by omega)
      · rw [if_neg o]
        exact ⟨fun q => by omega, fun q => absurd (q n (by omega)) o⟩
    · rw [if_neg e]
      exact ⟨fun q => absurd q e, fun q => absurd (ih.mpr (fun k hk => q k (by omega))) e⟩
theorem rfp_stay {b : Nat → Int} {i j : Nat} (h : rfp b i ≠ -1) (hij : i ≤ j) : rfp b j = rfp b i := by
  induction j with
  | zero => have : i = 0 := by omega
            subst this; rfl
  | succ j ih =>
    by_cases e : i = j + 1
    · rw [e]
    · have := ih (by omega)
      rw [rfp_s, this, if_neg h]
theorem rfp_rng (b : Nat → Int) (n : Nat) : -1 ≤ rfp b n ∧ rfp b n < n ∨ rfp b n = -1 := by
  induction n with
  | zero => exact Or.inr rfl
  | succ n ih =>
    unfold rfp
    split
    · split
      · exact Or.inr rfl
      · exact Or.inl ⟨by omega, by omega⟩
    · rcases ih with ih | ih
      · exact Or.inl ⟨by omega, by omega⟩
      · exact Or.inr ih
/-- what a bar's code may be -/
def vcode (z : Int) : Prop := ∃ l f : Int, letr l ∧ (f = 0 ∨ figr f) ∧ z = l + 256 * f
theorem vcode_rng {z : Int} (h : vcode z) : 97 ≤ z ∧ z ≤ 14714 := by
  obtain ⟨l, f, h1, h2, rfl⟩ := h
  omega
theorem rg_ok {b : Nat → Int} {n : Nat} (h : ∀ k, k < n → okb b k) : ∀ k, k < rm b n → vcode (rg b n k) := by
  induction n with
  | zero => intro k hk; exact absurd hk (by unfold rm; omega)
  | succ n ih =>
    have ih := ih (fun k hk => h k (by omega))
    intro k hk
    unfold rg
    by_cases e : letr (b n)
    · rw [if_pos e]
      by_cases ek : k = rm b n
      · rw [ek, upF_s]
        exact ⟨b n, 0, e, Or.inl rfl, by omega⟩
      · rw [upF_n ek]
        unfold rm at hk
        rw [if_pos e] at hk
        exact ih k (by omega)
    · rw [if_neg e]
      unfold rm at hk
      rw [if_neg e] at hk
      by_cases ek : k = rm b n - 1
      · rw [ek, upF_s]
        rcases h n (by omega) with q | ⟨q1, q2, q3⟩
        · exact absurd q e
        · cases n with
          | zero => omega
          | succ n =>
            rw [Nat.add_sub_cancel] at q3
            have e3 : rg b (n + 1) (rm b (n + 1) - 1) = b n := by
              rw [rg_s, rm_s, if_pos q3, if_pos q3, Nat.add_sub_cancel, upF_s]
            rw [e3]
            exact ⟨b n, b (n + 1), q3, Or.inr q1, rfl⟩
      · rw [upF_n ek]
        exact ih k (by omega)

section runC
variable {d : Nat} {S : zS} {Q : Option Value → zS → Prop}
theorem v_addLetter {o oa cap m : Nat} {v : Int32} (hm : (o, oa, cap) ∈ [(7, 8, 24), (11, 12, 40)]) (hc : m < cap) (hS : S o 1 = J m) (h : Q none (zu (zu S oa m v) o 1 (J (m + 1 : Nat)))) : KC (d + 1) mX0_addLetter [.ref o, .int v] S Q := by
  simp only [List.mem_cons, Prod.mk.injEq, List.not_mem_nil, or_false] at hm
  rcases hm with ⟨rfl, rfl, rfl⟩ | ⟨rfl, rfl, rfl⟩
  all_goals
    refine eX0_addLetter (zRun_wp [] 60 ?_)
    refine ⟨fun c1 => ?_, fun c1 => ?_⟩ <;> rw [hS] at c1 <;> simp (disch := omega) only [J_lit, J_neg, J_add, J_sub, J_mul, J_nI, J_le, J_lt, J_eq, J_in, J_nat] at c1
    · omega
    refine ⟨?_, rfl, fun e => absurd e (by decide), ?_⟩
    · rw [hS]; simp (disch := omega) only [J_lit, J_neg, J_add, J_sub, J_mul, J_nI, J_le, J_lt, J_eq, J_in, J_nat]; omega
    · have e1 : (J m).toNatClampNeg = m := by simp (disch := omega) only [J_lit, J_neg, J_add, J_sub, J_mul, J_nI, J_le, J_lt, J_eq, J_in, J_nat]; omega
      rw [hS, e1, zu_same (by omega), hS, J_lit, J_add]
      exact h
theorem v_addFigure {o oa cap m : Nat} {v : Int32} (hm : (o, oa, cap) ∈ [(7, 8, 24), (11, 12, 40)]) (hc : m ≤ cap) (h0 : 0 < m) (hS : S o 1 = J m) (h : Q none (zu S oa (m - 1) (S oa (m - 1) + 256 * v))) : KC (d + 1) mX0_addFigure [.ref o, .int v] S Q := by
  simp only [List.mem_cons, Prod.mk.injEq, List.not_mem_nil, or_false] at hm
  rcases hm with ⟨rfl, rfl, rfl⟩ | ⟨rfl, rfl, rfl⟩
  all_goals
    refine eX0_addFigure (zRun_wp [] 60 ?_)
    refine ⟨fun c1 => ?_, fun c1 => ?_⟩ <;> rw [hS] at c1 <;> simp (disch := omega) only [J_lit, J_neg, J_add, J_sub, J_mul, J_nI, J_le, J_lt, J_eq, J_in, J_nat] at c1
    · omega
    have e1 : (J m - 1).toNatClampNeg = m - 1 := by simp (disch := omega) only [J_lit, J_neg, J_add, J_sub, J_mul, J_nI, J_le, J_lt, J_eq, J_in, J_nat]; omega
    refine ⟨?_, ?_, ?_⟩
    · rw [hS]; simp (disch := omega) only [J_lit, J_neg, J_add, J_sub, J_mul, J_nI, J_le, J_lt, J_eq, J_in, J_nat]; omega
    · rw [hS]; simp (disch := omega) only [J_lit, J_neg, J_add, J_sub, J_mul, J_nI, J_le, J_lt, J_eq, J_in, J_nat]; omega
    · rw [hS, e1]
      exact h
/-- the class gives numbers -/
theorem v_giveNumbers {N : Nat} {g : Nat → Int} (hN : N ≤ 24) (hS : S 7 1 = J N) (hg : ∀ k, k < N → S 8 k = J (g k) ∧ 0 ≤ g k ∧ g k ≤ 100000)
    (h : ∀ S', (∀ c, c ≠ 6 → c ≠ 9 → S' c = S c) → (∀ k, k ≠ 2 → S' 6 k = S 6 k) → S' 6 2 = J (un g N) → (∀ k, k < N → S' 9 k = J (nu g k)) → Q none S') : KC (d + 1) mX6_giveNumbers [.ref 6] S Q := by
  have outer : ∀ (r i : Nat) (x1 : Int32) (j2 : Option Value) (S' : zS), i + r = N → x1 = J i → (∀ c, c ≠ 6 → c ≠ 9 → S' c = S c) → (∀ k, k ≠ 2 → S' 6 k = S 6 k) → S' 6 2 = J (un g i) → (∀ k, k < i → S' 9 k = J (nu g k)) → zWp shC (KC d) kX6_giveNumbers 0 Q 7 [some (.ref 6), some (.int x1), j2] [] S' := by
    intro r
    induction r with
    | zero =>
      intro i x1 j2 S' hi e1 q1 q2 q3 q4
      subst e1
      have ei : i = N := by omega
      subst ei
      refine zRun_wp [7, 20] 60 ?_
      refine ⟨fun _ => h S' q1 q2 q3 q4, fun c1 => ?_⟩
      rw [q1 7 (by omega) (by omega), hS] at c1
      exact absurd (Int32.le_refl _) c1
    | succ r ih =>
      intro i x1 j2 S' hi e1 q1 q2 q3 q4
      subst e1
      have iin : vp_in (J i) 24 := by simp (disch := omega) only [J_lit, J_neg, J_add, J_sub, J_mul, J_nI, J_le, J_lt, J_eq, J_in, J_nat]; omega
      have iix : (J i).toNatClampNeg = i := by simp (disch := omega) only [J_lit, J_neg, J_add, J_sub, J_mul, J_nI, J_le, J_lt, J_eq, J_in, J_nat]; omega
      have inner : ∀ (s e : Nat) (x2 : Int32), e + s = i → x2 = J e → (∀ j, j < e → g j ≠ g i) → zWp shC (KC d) kX6_giveNumbers 0 Q 20 [some (.ref 6), some (.int (J i)), some (.int x2)] [] S' := by
        intro s
        induction s with
        | zero =>
          intro e x2 he e2 hne
          subst e2
          have ee : e = i := by omega
          subst ee
          have hf := fso_no hne
          refine zRun_wp [7, 20] 60 ?_
          refine ⟨fun _ => ?_, fun c1 => absurd (Int32.le_refl _) c1⟩
          refine ⟨fun _ => ?_, fun c1 => absurd (Int32.le_refl _) c1⟩
          refine ⟨iin, rfl, fun e => absurd e (by decide), ?_⟩
          refine ih (e + 1) _ _ _ (by omega) (by simp only [J_lit, J_neg, J_add, J_sub, J_mul, J_nI]; congr 1) (fun c a1 a2 => ?_) (fun k a1 => ?_) ?_ (fun k hk => ?_)
          · rw [zu_same a1, zu_same a2]; exact q1 c a1 a2
          · simp only [zu_r, if_true]; rw [if_neg a1, if_neg (by omega)]; exact q2 k a1
          · simp only [zu_r, if_true]
            rw [if_neg (by omega), q3, un_s, if_neg (by rw [hf]; omega)]
            simp only [J_lit, J_neg, J_add, J_sub, J_mul, J_nI]; congr 1
          · rw [zu_same (by omega), iix]
            simp only [zu_r, if_true]
            by_cases ek : k = e
            · rw [if_pos ek, q3, ek, nu_first (by rw [hf]; omega)]
            · rw [if_neg ek]; exact q4 k (by omega)
        | succ s ih2 =>
          intro e x2 he e2 hne
          subst e2
          have ein : vp_in (J e) 24 := by simp (disch := omega) only [J_lit, J_neg, J_add, J_sub, J_mul, J_nI, J_le, J_lt, J_eq, J_in, J_nat]; omega
          have eix : (J e).toNatClampNeg = e := by simp (disch := omega) only [J_lit, J_neg, J_add, J_sub, J_mul, J_nI, J_le, J_lt, J_eq, J_in, J_nat]; omega
          obtain ⟨ge, ge1, ge2⟩ := hg e (by omega)
          obtain ⟨gi, gi1, gi2⟩ := hg i (by omega)
          refine zRun_wp [7, 20] 60 ?_
          refine ⟨fun c1 => ?_, fun _ => ?_⟩
          · simp (disch := omega) only [J_lit, J_neg, J_add, J_sub, J_mul, J_nI, J_le, J_lt, J_eq, J_in, J_nat] at c1; omega
          refine ⟨ein, iin, fun c2 => ?_, fun c2 => ?_⟩ <;> rw [eix, iix, q1 8 (by omega) (by omega), ge, gi] at c2 <;> simp (disch := omega) only [J_lit, J_neg, J_add, J_sub, J_mul, J_nI, J_le, J_lt, J_eq, J_in, J_nat] at c2
          · have hf : fso g (g i) i = e := fso_is (by omega) c2 hne
            refine ⟨fun c3 => ?_, fun _ => ?_⟩
            · simp (disch := omega) only [J_lit, J_neg, J_add, J_sub, J_mul, J_nI, J_le, J_lt, J_eq, J_in, J_nat] at c3; omega
            refine ⟨ein, iin, ?_⟩
            refine ih (i + 1) _ _ _ (by omega) (by simp only [J_lit, J_neg, J_add, J_sub, J_mul, J_nI]; congr 1) (fun c a1 a2 => ?_) (fun k a1 => ?_) ?_ (fun k hk => ?_)
            · rw [zu_same a2]; exact q1 c a1 a2
            · rw [zu_same (by omega)]; exact q2 k a1
            · rw [zu_same (by omega), q3, un_s, if_pos (by omega)]; rfl
            · rw [iix, eix]
              simp only [zu_r, if_true]
              by_cases ek : k = i
              · rw [if_pos ek, q4 e (by omega), ek, nu_earlier (i := i) (by omega), hf]
              · rw [if_neg ek]; exact q4 k (by omega)
          · refine ih2 (e + 1) _ (by omega) (by simp only [J_lit, J_neg, J_add, J_sub, J_mul, J_nI]; congr 1) (fun j hj => ?_)
            by_cases ej : j = e
            · rw [ej]; exact c2
            · exact hne j (by omega)
      refine zRun_wp [7, 20] 60 ?_
      refine ⟨fun c1 => ?_, fun _ => ?_⟩
      · rw [q1 7 (by omega) (by omega), hS] at c1
        simp (disch := omega) only [J_lit, J_neg, J_add, J_sub, J_mul, J_nI, J_le, J_lt, J_eq, J_in, J_nat] at c1
        omega
      · exact inner i 0 _ (by omega) rfl (fun j hj => absurd hj (by omega))
  refine eX6_giveNumbers (zRun_wp [7, 20] 60 ?_)
  refine ⟨rfl, fun e => absurd e (by decide), ?_⟩
  refine outer N 0 _ _ _ (by omega) rfl (fun c a1 _ => zu_same a1) (fun k a1 => by simp [zu_r, a1]) (by simp [zu_r, un]; rfl) (fun k hk => absurd hk (by omega))
end runC
