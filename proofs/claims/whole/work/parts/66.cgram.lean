/-! the class's Grammar -/
def eg (c q : Int) : Int := if c = -1 then 0 else if q = -1 then 1 else 2
def stg (m : Int × Int × Int) : Int := if m.2.2 ≠ -1 then 3 else if m.2.1 ≠ -1 then 2 else if m.1 ≠ -1 then 1 else 0
def GrE (S : zS) : List En → Prop
  | [] => True
  | (p, c, q) :: t => S 14 t.length = J p ∧ S 15 t.length = J (eg c q) ∧ GrE S t
def GrC (S : zS) (b : Nat → Int) (i : Nat) : Prop := S 13 2 = J (gst b i).1.length ∧ S 13 3 = J (stg (gst b i).2) ∧ S 13 4 = bb (due b i) ∧ S 13 5 = bb (0 < i ∧ letr (b (i - 1))) ∧ GrE S (gst b i).1
theorem GrE_keep {S S' : zS} : ∀ {l : List En}, GrE S l → (∀ k, k < l.length → S' 14 k = S 14 k ∧ S' 15 k = S 15 k) → GrE S' l := by
  intro l
  induction l with
  | nil => intro _ _; trivial
  | cons e t ih =>
    obtain ⟨p, c, q⟩ := e
    intro h k
    have k0 := k t.length (by simp)
    exact ⟨by rw [k0.1]; exact h.1, by rw [k0.2]; exact h.2.1, ih h.2.2 (fun j hj => k j (by simp; omega))⟩
theorem eg_rng (c q : Int) : 0 ≤ eg c q ∧ eg c q ≤ 2 := by unfold eg; split <;> (try split) <;> omega
theorem stg_rng (m : Int × Int × Int) : 0 ≤ stg m ∧ stg m ≤ 3 := by unfold stg; split <;> (try split) <;> (try split) <;> omega
section cgram
variable {d : Nat} {S : zS} {Q : Option Value → zS → Prop} {b : Nat → Int} {i : Nat}
set_option maxHeartbeats 1000000 in
theorem v_fits (hG : GrC S b i) (hA : Acc b i) (hb : 0 ≤ b i ∧ b i ≤ 255) (hdl : (gst b i).2.2.2 = -1) (hq : Q (some (.int (bb (fits (b i) (gst b i) = true)))) S) : KC (d + 1) mX1_fitsBehindPart [.ref 13, .int (J (b i))] S Q := by
  obtain ⟨g1, g2, -, -, g5⟩ := hG
  have hlen := gst_len i hA
  have bi : (J (b i)).toInt = b i := J_int (by omega) (by omega)
  generalize gst b i = s at *
  obtain ⟨l, m1, m2, m3⟩ := s
  dsimp only at *
  cases l with
  | nil =>
    have g1' : S 13 2 = J 0 := g1
    have sv : stg (m1, m2, m3) = if m2 ≠ -1 then 2 else if m1 ≠ -1 then 1 else 0 := by
      unfold stg; rw [if_neg (by simp only; omega)]
    rw [sv] at g2
    have fe := fits_n (z := b i) (m := (m1, m2, m3))
    unfold fitM at fe
    dsimp only at fe
    have yes : fitM (b i) (m1, m2, m3) → Q (some (.int 1)) S := fun w => by rwa [bb_t (fits_n.mpr w)] at hq
    have no : ¬ fitM (b i) (m1, m2, m3) → Q (some (.int 0)) S := fun w => by rwa [bb_f (fun q => w (fits_n.mp q))] at hq
    refine eX1_fitsBehindPart (zRun_wp [98] 80 ?_)
    have body : ∀ x2 : Option Value, zWp shC (KC d) kX1_fitsBehindPart 2 Q 98 [some (.ref 13), some (.int (J (b i))), x2] [] S := by
      intro x2
      refine zRun_wp [] 80 ?_
      refine ⟨fun w => ?_, fun w => ?_, fun w => ?_, fun w => ?_, fun w => ?_, fun w => ?_, trivial⟩ <;> rw [bi] at w
      · refine ⟨Or.inl rfl, no (fun q => ?_)⟩
        rcases q with ⟨q, -⟩ | ⟨q, -⟩ | ⟨q, -⟩ <;> omega
      · refine ⟨fun z => ?_, fun z => ?_⟩ <;> rw [g2] at z <;> simp (disch := (first | omega | (split <;> (try split) <;> omega))) only [J_lit, J_neg, J_add, J_sub, J_mul, J_nI, J_le, J_lt, J_eq, J_in, J_nat] at z
        · exact ⟨Or.inr rfl, yes (Or.inr (Or.inl ⟨by omega, by simp only; split at z <;> omega⟩))⟩
        · refine ⟨fun z2 => ?_, fun z2 => ?_⟩ <;> rw [g2] at z2 <;> simp (disch := (first | omega | (split <;> (try split) <;> omega))) only [J_lit, J_neg, J_add, J_sub, J_mul, J_nI, J_le, J_lt, J_eq, J_in, J_nat] at z2
          · refine ⟨Or.inl rfl, no (fun q => ?_)⟩
            rcases q with ⟨q, -⟩ | ⟨-, q⟩ | ⟨q, -⟩
            · omega
            · have q' : m2 = -1 := q
              rw [if_neg (by omega)] at z z2
              split at z <;> split at z2 <;> omega
            · omega
          · exact ⟨Or.inr rfl, yes (Or.inr (Or.inl ⟨by omega, by simp only; split at z2 <;> omega⟩))⟩
      · refine ⟨Or.inl rfl, no (fun q => ?_)⟩
        rcases q with ⟨q, -⟩ | ⟨q, -⟩ | ⟨q, -⟩ <;> omega
      · refine ⟨Or.inl rfl, no (fun q => ?_)⟩
        rcases q with ⟨q, -⟩ | ⟨q, -⟩ | ⟨q, -⟩ <;> omega
      · refine ⟨fun z => ?_, fun z => ?_⟩ <;> rw [g2] at z <;> simp (disch := (first | omega | (split <;> (try split) <;> omega))) only [J_lit, J_neg, J_add, J_sub, J_mul, J_nI, J_le, J_lt, J_eq, J_in, J_nat] at z
        · refine ⟨Or.inl rfl, no (fun q => ?_)⟩
          rcases q with ⟨q, -⟩ | ⟨q, -⟩ | ⟨-, q, -⟩
          · omega
          · omega
          · exact z (by rw [if_pos q])
        · refine ⟨Or.inr rfl, yes (Or.inr (Or.inr ⟨by omega, ?_, hdl⟩))⟩
          intro q
          have q' : m2 = -1 := q
          rw [if_neg (by omega)] at z
          split at z <;> omega
      · refine ⟨fun z => ?_, fun z => ?_⟩ <;> rw [g2] at z <;> simp (disch := (first | omega | (split <;> (try split) <;> omega))) only [J_lit, J_neg, J_add, J_sub, J_mul, J_nI, J_le, J_lt, J_eq, J_in, J_nat] at z
        · refine ⟨Or.inl rfl, no (fun q => ?_)⟩
          rcases q with ⟨-, q1, q2⟩ | ⟨q, -⟩ | ⟨q, -⟩
          · have q1' : m1 = -1 := q1
            have q2' : m2 = -1 := q2
            rw [if_neg (by omega), if_neg (by omega)] at z
            exact z rfl
          · omega
          · omega
        · refine ⟨Or.inr rfl, yes (Or.inl ⟨by omega, ?_, ?_⟩)⟩
          · show m1 = -1
            split at z
            · omega
            · split at z <;> omega
          · show m2 = -1
            split at z <;> omega
    refine ⟨fun _ => body _, fun w => ?_⟩
    rw [g1'] at w
    exact absurd w (by decide)
  | cons e t =>
    obtain ⟨p, c, q⟩ := e
    rw [List.length_cons] at g1 hlen
    obtain ⟨-, g6, -⟩ := g5
    have er := eg_rng c q
    have yes : fitE (b i) c q → Q (some (.int 1)) S := fun w => by rwa [bb_t (fits_c.mpr w)] at hq
    have no : ¬ fitE (b i) c q → Q (some (.int 0)) S := fun w => by rwa [bb_f (fun q => w (fits_c.mp q))] at hq
    have e0 : eg c q = 0 ↔ c = -1 := by unfold eg; split <;> (try split) <;> omega
    have e1 : eg c q = 1 ↔ (c ≠ -1 ∧ q = -1) := by unfold eg; split <;> (try split) <;> omega
    have body : ∀ x2 : Int32, x2 = J (eg c q) → zWp shC (KC d) kX1_fitsBehindPart 2 Q 27 [some (.ref 13), some (.int (J (b i))), some (.int x2)] [] S := by
      intro x2 ex
      subst ex
      refine zRun_wp [] 80 ?_
      refine ⟨fun w => ?_, fun w => ⟨fun w2 => ?_, fun w2 => ⟨fun w3 => ?_, fun w3 => ?_⟩⟩⟩
      · rw [bi] at w
        refine ⟨fun z => ?_, fun z => ?_⟩ <;> simp (disch := omega) only [J_lit, J_neg, J_add, J_sub, J_mul, J_nI, J_le, J_lt, J_eq, J_in, J_nat] at z
        · refine ⟨Or.inl rfl, no (fun f => ?_)⟩
          rcases f with ⟨-, f⟩ | ⟨f, -⟩ | ⟨f, -⟩ <;> omega
        · exact ⟨Or.inr rfl, yes (Or.inl ⟨w, e0.mp z⟩)⟩
      · rw [bi] at w w2
        refine ⟨fun z => ?_, fun z => ?_⟩ <;> simp (disch := omega) only [J_lit, J_neg, J_add, J_sub, J_mul, J_nI, J_le, J_lt, J_eq, J_in, J_nat] at z
        · refine ⟨Or.inl rfl, no (fun f => ?_)⟩
          rcases f with ⟨f, -⟩ | ⟨-, f⟩ | ⟨f, -⟩
          · omega
          · exact z (e1.mpr f)
          · omega
        · exact ⟨Or.inr rfl, yes (Or.inr (Or.inl ⟨w2, e1.mp z⟩))⟩
      · rw [bi] at w w2 w3
        refine ⟨fun z => ?_, fun z => ?_⟩ <;> simp (disch := omega) only [J_lit, J_neg, J_add, J_sub, J_mul, J_nI, J_le, J_lt, J_eq, J_in, J_nat] at z
        · refine ⟨Or.inl rfl, no (fun f => ?_)⟩
          have := e1.mp z
          rcases f with ⟨f, -⟩ | ⟨f, -⟩ | ⟨-, f⟩ <;> omega
        · refine ⟨Or.inr rfl, yes (Or.inr (Or.inr ⟨w3, ?_⟩))⟩
          by_cases cc : c = -1
          · exact Or.inl cc
          · exact Or.inr (fun qq => z (e1.mpr ⟨cc, qq⟩))
      · rw [bi] at w w2 w3
        refine ⟨Or.inl rfl, no (fun f => ?_)⟩
        rcases f with ⟨f, -⟩ | ⟨f, -⟩ | ⟨f, -⟩ <;> omega
    have ix : (S 13 2 - 1).toNatClampNeg = t.length := by rw [g1]; simp (disch := omega) only [J_lit, J_neg, J_add, J_sub, J_mul, J_nI, J_le, J_lt, J_eq, J_in, J_nat]; omega
    have inn : vp_in (S 13 2 - 1) 3 := by rw [g1]; simp (disch := omega) only [J_lit, J_neg, J_add, J_sub, J_mul, J_nI, J_le, J_lt, J_eq, J_in, J_nat]; omega
    refine eX1_fitsBehindPart (zRun_wp [27] 80 ?_)
    refine ⟨fun w => ?_, fun _ => ⟨fun w => ?_, fun _ => ?_⟩⟩
    · rw [g1] at w
      simp (disch := omega) only [J_lit, J_neg, J_add, J_sub, J_mul, J_nI, J_le, J_lt, J_eq, J_in, J_nat] at w
      omega
    · rw [g1] at w
      simp (disch := omega) only [J_lit, J_neg, J_add, J_sub, J_mul, J_nI, J_le, J_lt, J_eq, J_in, J_nat] at w
      omega
    · refine ⟨inn, ?_⟩
      refine body _ ?_
      rw [ix]; exact g6
theorem sgn_iff {z : Int} (h : 0 ≤ z ∧ z ≤ 255) : sgn (J z) ↔ sgz z := by
  unfold sgn
  simp (disch := omega) only [J_lit, J_neg, J_add, J_sub, J_mul, J_nI, J_le, J_lt, J_eq, J_in, J_nat]
theorem let_iff {z : Int} (h : 0 ≤ z ∧ z ≤ 255) : (97 ≤ J z ∧ J z ≤ 122) ↔ letr z := by
  simp (disch := omega) only [J_lit, J_neg, J_add, J_sub, J_mul, J_nI, J_le, J_lt, J_eq, J_in, J_nat]
theorem fig_iff {z : Int} (h : 0 ≤ z ∧ z ≤ 255) : (48 ≤ J z ∧ J z ≤ 57) ↔ figr z := by
  simp (disch := omega) only [J_lit, J_neg, J_add, J_sub, J_mul, J_nI, J_le, J_lt, J_eq, J_in, J_nat]
set_option maxHeartbeats 1000000 in
theorem v_reason (hG : GrC S b i) (hA : Acc b i) (hb : 0 ≤ b i ∧ b i ≤ 255) (hq : Q (some (.int (J (rsn b i)))) S) : KC (d + 2) mX1_reasonAgainst [.ref 13, .int (J (b i))] S Q := by
  have hG' := hG
  obtain ⟨g1, g2, g3, g4, -⟩ := hG
  have hlen := gst_len i hA
  have sr := stg_rng (gst b i).2
  have s3 : stg (gst b i).2 = 3 ↔ (gst b i).2.2.2 ≠ -1 := by
    unfold stg
    split
    · rename_i c; exact ⟨fun _ => c, fun _ => rfl⟩
    · rename_i c
      constructor
      · intro e; split at e
        · omega
        · split at e <;> omega
      · intro e; exact absurd e c
  have go : (letr (b i) ∨ figr (b i) ∨ sgz (b i)) → zWp shC (KC (d + 1)) kX1_reasonAgainst 1 Q 23 [some (.ref 13), some (.int (J (b i)))] [] S := by
    intro hk
    unfold rsn at hq
    rw [if_neg (fun q => q hk)] at hq
    refine zRun_wp [] 80 ?_
    refine ⟨fun w => ?_, fun w => ?_⟩ <;> rw [g2] at w <;> simp (disch := omega) only [J_lit, J_neg, J_add, J_sub, J_mul, J_nI, J_le, J_lt, J_eq, J_in, J_nat] at w
    rotate_left
    · rw [if_pos (s3.mp w)] at hq
      exact hq
    have dl : (gst b i).2.2.2 = -1 := Decidable.not_not.mp (fun q => w (s3.mpr q))
    rw [if_neg (fun q => q dl)] at hq
    refine v_isLetter ?_
    refine ⟨fun w => ?_, fun w => ?_⟩ <;> rw [bb_0, let_iff hb] at w
    rotate_left
    · rw [if_pos (Decidable.not_not.mp w)] at hq
      exact hq
    rw [if_neg w] at hq
    refine v_isFigure ?_
    refine ⟨fun w2 => ?_, fun w2 => ?_⟩ <;> rw [bb_0, fig_iff hb] at w2
    rotate_left
    · rw [if_pos (Decidable.not_not.mp w2)] at hq
      refine ⟨fun w3 => ?_, fun w3 => ?_⟩ <;> rw [g4, bb_0] at w3
      · rw [if_neg w3] at hq; exact hq
      · rw [if_pos (Decidable.not_not.mp w3)] at hq; exact hq
    rw [if_neg w2] at hq
    refine ⟨fun w3 => ?_, fun w3 => ?_⟩ <;> simp (disch := omega) only [J_lit, J_neg, J_add, J_sub, J_mul, J_nI, J_le, J_lt, J_eq, J_in, J_nat] at w3
    rotate_left
    · rw [if_pos w3] at hq
      refine ⟨fun w4 => ?_, fun w4 => ?_⟩ <;> rw [g1] at w4 <;> simp (disch := omega) only [J_lit, J_neg, J_add, J_sub, J_mul, J_nI, J_le, J_lt, J_eq, J_in, J_nat] at w4
      · rw [if_neg (by omega)] at hq; exact hq
      · rw [if_pos (by omega)] at hq; exact hq
    rw [if_neg w3] at hq
    refine ⟨fun w4 => ?_, fun w4 => ?_⟩ <;> rw [g3, bb_0] at w4
    rotate_left
    · rw [if_pos (Decidable.not_not.mp w4)] at hq; exact hq
    rw [if_neg w4] at hq
    refine v_fits hG' hA hb dl ?_
    refine ⟨fun w5 => ?_, fun w5 => ?_⟩ <;> rw [bb_0] at w5
    · rw [if_neg w5] at hq; exact hq
    · rw [if_pos (Decidable.not_not.mp w5)] at hq; exact hq
  refine eX1_reasonAgainst (zRun_wp [23] 80 ?_)
  refine v_isLetter ?_
  refine ⟨fun w => ?_, fun w => ?_⟩ <;> rw [bb_0, let_iff hb] at w
  · exact go (Or.inl (Decidable.not_not.mp w))
  refine v_isFigure ?_
  refine ⟨fun w2 => ?_, fun w2 => ?_⟩ <;> rw [bb_0, fig_iff hb] at w2
  · exact go (Or.inr (Or.inl (Decidable.not_not.mp w2)))
  refine w_isSignC (fun r r1 r2 => ?_)
  rw [sgn_iff hb] at r2
  refine ⟨fun w3 => ?_, fun w3 => ?_⟩ <;> rw [r2] at w3
  · exact go (Or.inr (Or.inr (Decidable.not_not.mp w3)))
  · unfold rsn at hq
    rw [if_pos (fun q => by rcases q with q | q | q <;> contradiction)] at hq
    exact hq
end cgram
