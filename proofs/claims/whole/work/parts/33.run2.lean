/-- the run's bars: how many, if there is no fault -/
def rN (b : Nat → Int) (n : Nat) : Nat := if rfp b n = -1 then rm b n else 0
theorem rN_le (b : Nat → Int) (n : Nat) : rN b n ≤ n := by
  unfold rN
  split
  · exact rm_le b n
  · omega
theorem rg_codes {b : Nat → Int} {n : Nat} : ∀ k, k < rN b n → vcode (rg b n k) := by
  intro k hk
  unfold rN at hk
  split at hk
  · rename_i h
    exact rg_ok ((rfp_iff b n).mp h) k hk
  · omega
theorem rm_pos {b : Nat → Int} {i : Nat} (h0 : 0 < i) (h : letr (b (i - 1))) : 0 < rm b i := by
  cases i with
  | zero => omega
  | succ i =>
    rw [Nat.add_sub_cancel] at h
    rw [rm_s, if_pos h]
    omega
section run2
variable {d : Nat} {S : zS} {Q : Option Value → zS → Prop} {b : Nat → Int} {n : Nat}
set_option maxHeartbeats 1000000 in
/-- the class reads the run -/
theorem v_runTake (hn : n ≤ 24) (hb : ∀ k, k < n → 0 ≤ b k ∧ b k ≤ 255) (hS : S 2 1 = J n) (hT : ∀ k, k < n → S 3 k = J (b k))
    (h : ∀ S', (∀ c, c < 6 ∨ 9 < c → S' c = S c) → S' 7 1 = J (rN b n) → (∀ k, k < rN b n → S' 8 k = J (rg b n k)) → (∀ k, k < rN b n → S' 9 k = J (nu (rg b n) k)) → S' 6 2 = J (un (rg b n) (rN b n)) → S' 6 3 = J (rfp b n) → Q none S') : KC (d + 2) mX6_take [.ref 6, .ref 2] S Q := by
  have fin : ∀ (S' : zS), (∀ c, c < 6 ∨ 9 < c → S' c = S c) → S' 6 3 = J (rfp b n) → S' 7 1 = J (rN b n) → (∀ k, k < rN b n → S' 8 k = J (rg b n k)) → KC (d + 1) mX6_giveNumbers [.ref 6] S' (fun _ S2 => Q none S2) := by
    intro S' q1 q2 q3 q4
    have := rN_le b n
    refine v_giveNumbers (g := rg b n) (by omega) q3 (fun k hk => ⟨q4 k hk, ?_⟩) (fun S2 p1 p2 p3 p4 => h S2 (fun c hc => ?_) ?_ (fun k hk => ?_) p4 p3 ?_)
    · have := vcode_rng (rg_codes k hk); omega
    · rw [p1 c (by omega) (by omega)]; exact q1 c hc
    · rw [p1 7 (by omega) (by omega)]; exact q3
    · rw [p1 8 (by omega) (by omega)]; exact q4 k hk
    · rw [p2 3 (by omega)]; exact q2
  have exitF : ∀ (i : Nat) (x2 x3 : Int32) (j4 : Option Value) (S' : zS), i ≤ n → rfp b i ≠ -1 → (∀ c, c < 6 ∨ 9 < c → S' c = S c) → S' 6 3 = J (rfp b i) → x3 = J i → zWp shC (KC (d + 1)) kX6_take 0 Q 17 [some (.ref 6), some (.ref 2), some (.int x2), some (.int x3), j4] [] S' := by
    intro i x2 x3 j4 S' hi hf q1 q2 e3
    subst e3
    have hfn := rfp_stay hf hi
    have hr := rfp_rng b i
    refine zRun_wp [17, 100] 60 ?_
    have out : zWp shC (KC (d + 1)) kX6_take 0 Q 100 [some (.ref 6), some (.ref 2), some (.int x2), some (.int (J i)), j4] [] S' := by
      refine zRun_wp [] 60 ?_
      refine ⟨fun c1 => ?_, fun _ => ?_⟩
      · rw [q2] at c1
        simp (disch := omega) only [J_lit, J_neg, J_add, J_sub, J_mul, J_nI, J_le, J_lt, J_eq, J_in, J_nat] at c1
        omega
      · refine ⟨rfl, fun e => absurd e (by decide), ?_⟩
        refine fin _ (fun c hc => ?_) ?_ ?_ (fun k hk => ?_)
        · rw [zu_same (by omega)]; exact q1 c hc
        · rw [zu_same (by omega), hfn]; exact q2
        · simp only [zu_r, if_true]
          unfold rN
          rw [hfn, if_neg hf]; rfl
        · unfold rN at hk
          rw [hfn, if_neg hf] at hk
          omega
    refine ⟨fun _ => out, fun c1 => ?_⟩
    refine ⟨fun _ => out, fun c2 => ?_⟩
    rw [q2] at c2
    simp (disch := omega) only [J_lit, J_neg, J_add, J_sub, J_mul, J_nI, J_le, J_lt, J_eq, J_in, J_nat] at c2
    omega
  have loop : ∀ (r i : Nat) (x2 x3 : Int32) (j4 : Option Value) (S' : zS), i + r = n → x3 = J i → x2 = bb (0 < i ∧ letr (b (i - 1))) → (∀ c, c < 6 ∨ 9 < c → S' c = S c) → S' 6 3 = -1 → rfp b i = -1 → S' 7 1 = J (rm b i) → (∀ k, k < rm b i → S' 8 k = J (rg b i k)) → zWp shC (KC (d + 1)) kX6_take 0 Q 17 [some (.ref 6), some (.ref 2), some (.int x2), some (.int x3), j4] [] S' := by
    intro r
    induction r with
    | zero =>
      intro i x2 x3 j4 S' hi e3 e2 q1 q2 q3 q4 q5
      subst e3
      have ei : i = n := by omega
      subst ei
      have hN : rN b i = rm b i := by unfold rN; rw [if_pos q3]
      refine zRun_wp [17] 60 ?_
      refine ⟨fun _ => ?_, fun c1 => ?_⟩
      · refine ⟨fun _ => ?_, fun c2 => absurd q2 c2⟩
        exact fin S' q1 (by rw [q2, q3]; rfl) (by rw [hN]; exact q4) (by rw [hN]; exact q5)
      · rw [q1 2 (by omega), hS] at c1
        exact absurd (Int32.le_refl _) c1
    | succ r ih =>
      intro i x2 x3 j4 S' hi e3 e2 q1 q2 q3 q4 q5
      subst e3
      have iin : vp_in (J i) 24 := by simp (disch := omega) only [J_lit, J_neg, J_add, J_sub, J_mul, J_nI, J_le, J_lt, J_eq, J_in, J_nat]; omega
      have iix : (J i).toNatClampNeg = i := by simp (disch := omega) only [J_lit, J_neg, J_add, J_sub, J_mul, J_nI, J_le, J_lt, J_eq, J_in, J_nat]; omega
      have hbi := hb i (by omega)
      have hrm := rm_le b i
      refine zRun_wp [17] 60 ?_
      refine ⟨fun c1 => ?_, fun _ => ?_⟩
      · rw [q1 2 (by omega), hS] at c1
        simp (disch := omega) only [J_lit, J_neg, J_add, J_sub, J_mul, J_nI, J_le, J_lt, J_eq, J_in, J_nat] at c1
        omega
      refine ⟨fun c2 => absurd q2 c2, fun _ => ?_⟩
      refine ⟨iin, ?_⟩
      rw [iix, q1 3 (by omega), hT i (by omega)]
      refine v_isLetter ?_
      refine ⟨fun c3 => ?_, fun c3 => ?_⟩ <;> rw [bb_0] at c3
      · simp (disch := omega) only [J_lit, J_neg, J_add, J_sub, J_mul, J_nI, J_le, J_lt, J_eq, J_in, J_nat] at c3
        refine v_isFigure ?_
        have bad : ¬ okb b i → zWp shC (KC (d + 1)) kX6_take 0 Q 17 [some (.ref 6), some (.ref 2), some (.int x2), some (.int (J i + 1)), some (.int (J (b i)))] [] (zu S' 6 3 (J i)) := by
          intro ho
          have hf : rfp b (i + 1) = i := by rw [rfp_s, if_pos q3, if_neg ho]
          refine exitF (i + 1) _ _ _ _ (by omega) (by rw [hf]; omega) (fun c hc => ?_) ?_ (by simp only [J_lit, J_neg, J_add, J_sub, J_mul, J_nI]; congr 1)
          · rw [zu_same (by omega)]; exact q1 c hc
          · simp only [zu_r, if_true]; rw [hf]
        refine ⟨fun c4 => ?_, fun c4 => ?_⟩ <;> rw [bb_0] at c4
        · simp (disch := omega) only [J_lit, J_neg, J_add, J_sub, J_mul, J_nI, J_le, J_lt, J_eq, J_in, J_nat] at c4
          refine ⟨rfl, fun e => absurd e (by decide), ?_⟩
          exact bad (by rintro (q | q); exact c3 q; exact c4 q.1)
        · rw [Classical.not_not] at c4
          simp (disch := omega) only [J_lit, J_neg, J_add, J_sub, J_mul, J_nI, J_le, J_lt, J_eq, J_in, J_nat] at c4
          refine ⟨fun c5 => ?_, fun c5 => ?_⟩ <;> rw [e2, bb_0] at c5
          · refine ⟨rfl, fun e => absurd e (by decide), ?_⟩
            exact bad (by rintro (q | q); exact c3 q; exact c5 q.2)
          · rw [Classical.not_not] at c5
            have hp := rm_pos c5.1 c5.2
            refine v_addFigure (oa := 8) (cap := 24) (m := rm b i) (by decide) (by omega) hp q4 ?_
            have hok : okb b i := Or.inr ⟨c4, c5⟩
            refine ih (i + 1) _ _ _ _ (by omega) (by simp only [J_lit, J_neg, J_add, J_sub, J_mul, J_nI]; congr 1) ?_ (fun c hc => ?_) ?_ ?_ ?_ (fun k hk => ?_)
            · rw [bb_f (by rw [Nat.add_sub_cancel]; exact fun q => c3 q.2)]
            · rw [zu_same (by omega)]; exact q1 c hc
            · rw [zu_same (by omega)]; exact q2
            · rw [rfp_s, if_pos q3, if_pos hok]
            · rw [zu_same (by omega), rm_s, if_neg c3]; exact q4
            · rw [rm_s, if_neg c3] at hk
              rw [rg_s, if_neg c3]
              simp only [zu_r, if_true]
              by_cases ek : k = rm b i - 1
              · rw [if_pos ek, ek, upF_s, q5 _ (by omega)]
                simp only [J_lit, J_neg, J_add, J_sub, J_mul, J_nI]
              · rw [if_neg ek, upF_n ek]; exact q5 k (by omega)
      · rw [Classical.not_not] at c3
        simp (disch := omega) only [J_lit, J_neg, J_add, J_sub, J_mul, J_nI, J_le, J_lt, J_eq, J_in, J_nat] at c3
        refine v_addLetter (oa := 8) (cap := 24) (m := rm b i) (by decide) (by omega) q4 ?_
        refine ih (i + 1) _ _ _ _ (by omega) (by simp only [J_lit, J_neg, J_add, J_sub, J_mul, J_nI]; congr 1) ?_ (fun c hc => ?_) ?_ ?_ ?_ (fun k hk => ?_)
        · rw [bb_t (by rw [Nat.add_sub_cancel]; exact ⟨by omega, c3⟩)]
        · rw [zu_same (by omega), zu_same (by omega)]; exact q1 c hc
        · rw [zu_same (by omega), zu_same (by omega)]; exact q2
        · rw [rfp_s, if_pos q3, if_pos (Or.inl c3)]
        · simp only [zu_r, if_true]; rw [rm_s, if_pos c3]
        · rw [rm_s, if_pos c3] at hk
          rw [zu_same (by omega), rg_s, if_pos c3]
          simp only [zu_r, if_true]
          by_cases ek : k = rm b i
          · rw [if_pos ek, ek, upF_s]
          · rw [if_neg ek, upF_n ek]; exact q5 k (by omega)
  refine eX6_take (zRun_wp [17] 60 ?_)
  refine ⟨rfl, fun e => absurd e (by decide), rfl, fun e => absurd e (by decide), ?_⟩
  refine loop n 0 _ _ _ _ (by omega) rfl (by rw [bb_f (by omega)]) (fun c hc => ?_) ?_ rfl ?_ (fun k hk => ?_)
  · rw [zu_same (by omega), zu_same (by omega)]
  · simp only [zu_r, if_true]
  · rw [zu_same (by omega)]; simp only [zu_r, if_true]; rfl
  · unfold rm at hk; omega
end run2
