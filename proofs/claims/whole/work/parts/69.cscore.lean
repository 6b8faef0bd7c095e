/-! the class's Score -/
def ScC (S : zS) (b : Nat → Int) (i : Nat) : Prop := GrC S b i ∧ PlC S b i ∧ S 10 3 = J (sct b i) ∧ S 10 4 = J (dpt b i) ∧ S 11 1 = J (rm b i) ∧ ∀ k, k < rm b i → S 12 k = J (sgc b i k)
/-- what the class's Score writes -/
def ScK (S S' : zS) : Prop := ∀ c, c < 10 ∨ 19 < c → S' c = S c
/-- behind take -/
def ScT (S : zS) (b : Nat → Int) (n : Nat) : Prop :=
  S 10 5 = J (if fre b n = 0 then -1 else (acc b n : Int)) ∧ S 10 6 = J (fre b n) ∧ S 13 2 = J (gst b (acc b n)).1.length ∧ GrE S (gst b (acc b n)).1 ∧
  S 10 3 = J (if fre b n = 0 then sct b n else 0 : Nat) ∧ S 10 4 = J (if fre b n = 0 then dpt b n else 0 : Nat) ∧ S 11 1 = J (if fre b n = 0 then rm b n else 0 : Nat) ∧ (fre b n = 0 → ∀ k, k < rm b n → S 12 k = J (sgc b n k)) ∧ OrC S (if fre b n = 0 then od b n else [])
section cscore
variable {d : Nat} {S : zS} {Q : Option Value → zS → Prop} {b : Nat → Int} {i n : Nat}
theorem GrC_keep {S S' : zS} (h : GrC S b i) (k1 : S' 13 = S 13) (k2 : S' 14 = S 14) (k3 : S' 15 = S 15) : GrC S' b i := by
  obtain ⟨g1, g2, g3, g4, g5⟩ := h
  exact ⟨by rw [k1]; exact g1, by rw [k1]; exact g2, by rw [k1]; exact g3, by rw [k1]; exact g4, GrE_keep g5 (fun j _ => by rw [k2, k3]; exact ⟨rfl, rfl⟩)⟩
theorem OrC_keep {S S' : zS} {l : List Nat} (h : OrC S l) (k1 : S' 16 = S 16) (k2 : S' 17 = S 17) : OrC S' l := by
  obtain ⟨g1, g2, g3⟩ := h
  exact ⟨g1, by rw [k1]; exact g2, fun k hk => by rw [k2]; exact g3 k hk⟩
theorem PlC_keep {S S' : zS} (h : PlC S b i) (k1 : S' 16 = S 16) (k2 : S' 17 = S 17) (k3 : S' 18 = S 18) (k4 : S' 19 = S 19) : PlC S' b i := by
  obtain ⟨g1, g2, g3, g4, g5⟩ := h
  exact ⟨OrC_keep g1 k1 k2, by rw [k1]; exact g2, by rw [k1]; exact g3, by rw [k1]; exact g4, PlE_keep g5 (fun j _ => by rw [k3, k4]; exact ⟨rfl, rfl⟩)⟩
/-- a figure changes nothing of what is played -/
theorem PlC_same {S : zS} (h : PlC S b i) (e : gst b (i + 1) = gst b i) (o : od b (i + 1) = od b i) : PlC S b (i + 1) := by
  unfold PlC
  rw [e, o]
  exact h
theorem Jmax {a c : Nat} (ha : a ≤ 100000) (hc : c ≤ 100000) : (if J a < J c then J c else J a) = J (Nat.max a c : Nat) := by
  by_cases q : a < c
  · rw [if_pos (by simp (disch := omega) only [J_lit, J_neg, J_add, J_sub, J_mul, J_nI, J_le, J_lt, J_eq, J_in, J_nat]; omega), show Nat.max a c = c from Nat.max_eq_right (by omega)]
  · rw [if_neg (by simp (disch := omega) only [J_lit, J_neg, J_add, J_sub, J_mul, J_nI, J_le, J_lt, J_eq, J_in, J_nat]; omega), show Nat.max a c = a from Nat.max_eq_left (by omega)]
set_option maxHeartbeats 2000000 in
theorem v_saccept (hS : ScC S b i) (hA : Acc b (i + 1)) (hb : 0 ≤ b i ∧ b i ≤ 255) (hi : i < 40)
    (hq : ∀ S', ScK S S' → (S' 10 5 = S 10 5 ∧ S' 10 6 = S 10 6) → ScC S' b (i + 1) → Q none S') : KC (d + 3) mX7_accept [.ref 10, .int (J (b i)), .int (J i)] S Q := by
  obtain ⟨hG, hP, s1, s2, s3, s4⟩ := hS
  have hA' := Acc_le hA (show i ≤ i + 1 by omega)
  have hr := rm_le b i
  have hd := dpt_le i hA'
  have hd2 := gst_len (i + 1) hA
  have hsc := sct_le b i
  obtain ⟨r1, r2⟩ := rsn_0 (hA i (by omega))
  refine eX7_accept (zRun_wp [] 120 ?_)
  refine v_gaccept (d := d) hG hA hb (by omega) (fun S1 k1 k2 => ?_)
  have mx : (if S1 10 4 < S1 13 2 then S1 13 2 else S1 10 4) = J (dpt b (i + 1)) := by
    rw [k1 10 (by decide) (by decide) (by decide), s2, k2.1, dpt_s]
    exact Jmax (by omega) (by omega)
  refine ⟨rfl, fun e => absurd e (by decide), ?_⟩
  -- the state behind the grammar
  have kk : ∀ c, c ≠ 10 → c ≠ 13 → c ≠ 14 → c ≠ 15 → (zu S1 10 4 (if S1 10 4 < S1 13 2 then S1 13 2 else S1 10 4)) c = S c := fun c c0 c1 c2 c3 => by rw [zu_same c0]; exact k1 c c1 c2 c3
  have f3 : (zu S1 10 4 (if S1 10 4 < S1 13 2 then S1 13 2 else S1 10 4)) 10 3 = J (sct b i) := by
    simp only [zu_r, if_true]; rw [if_neg (by decide), k1 10 (by decide) (by decide) (by decide)]; exact s1
  have f4 : (zu S1 10 4 (if S1 10 4 < S1 13 2 then S1 13 2 else S1 10 4)) 10 4 = J (dpt b (i + 1)) := by
    simp only [zu_r, if_true]; exact mx
  have f5 : (zu S1 10 4 (if S1 10 4 < S1 13 2 then S1 13 2 else S1 10 4)) 10 5 = S 10 5 ∧ (zu S1 10 4 (if S1 10 4 < S1 13 2 then S1 13 2 else S1 10 4)) 10 6 = S 10 6 := by
    simp only [zu_r, if_true]; rw [if_neg (by decide), if_neg (by decide), k1 10 (by decide) (by decide) (by decide)]; exact ⟨rfl, rfl⟩
  have fG : GrC (zu S1 10 4 (if S1 10 4 < S1 13 2 then S1 13 2 else S1 10 4)) b (i + 1) := GrC_keep k2 (zu_same (by decide)) (zu_same (by decide)) (zu_same (by decide))
  have fK : ScK S (zu S1 10 4 (if S1 10 4 < S1 13 2 then S1 13 2 else S1 10 4)) := fun c hc => kk c (by omega) (by omega) (by omega) (by omega)
  generalize zu S1 10 4 (if S1 10 4 < S1 13 2 then S1 13 2 else S1 10 4) = S2 at kk f3 f4 f5 fG fK
  have fP : PlC S2 b i := PlC_keep hP (kk 16 (by decide) (by decide) (by decide) (by decide)) (kk 17 (by decide) (by decide) (by decide) (by decide)) (kk 18 (by decide) (by decide) (by decide) (by decide)) (kk 19 (by decide) (by decide) (by decide) (by decide))
  have f11 : S2 11 1 = J (rm b i) := by rw [kk 11 (by decide) (by decide) (by decide) (by decide)]; exact s3
  have f12 : ∀ k, k < rm b i → S2 12 k = J (sgc b i k) := fun k hk => by rw [kk 12 (by decide) (by decide) (by decide) (by decide)]; exact s4 k hk
  refine v_isLetter ?_
  refine ⟨fun w => ?_, fun w => ?_⟩ <;> rw [bb_0, let_iff hb] at w
  rotate_left
  · have w := Decidable.not_not.mp w
    have od' := od_let w
    have b640 := od_640 (b := b) (n := 40) (Nat.le_refl _) (i + 1) (by omega) hA
    rw [od', List.length_append, List.length_singleton] at b640
    have g := gst_letter (b := b) (i := i) (Or.inl w)
    refine v_playBar (r := rm b i) f11 fP.1 (by omega) (fun S3 a1 a2 a3 => ?_)
    have h11 : S3 11 1 = J (rm b i) := by rw [a1 11 (by decide) (by decide)]; exact f11
    refine v_addLetter (o := 11) (oa := 12) (cap := 40) (m := rm b i) (by decide) (by omega) h11 ?_
    refine hq _ (fun c hc => ?_) ?_ ⟨?_, ?_, ?_, ?_, ?_, ?_⟩
    · rw [zu_same (by omega), zu_same (by omega), a1 c (by omega) (by omega)]; exact fK c hc
    · rw [zu_same (by decide), zu_same (by decide), a1 10 (by decide) (by decide)]; exact f5
    · refine GrC_keep fG ?_ ?_ ?_ <;> rw [zu_same (by decide), zu_same (by decide), a1 _ (by decide) (by decide)]
    · refine PlC_keep (S := S3) ?_ (by rw [zu_same (by decide), zu_same (by decide)]) (by rw [zu_same (by decide), zu_same (by decide)]) (by rw [zu_same (by decide), zu_same (by decide)]) (by rw [zu_same (by decide), zu_same (by decide)])
      obtain ⟨-, p2, p3, p4, p5⟩ := fP
      refine ⟨by rw [od']; exact a3, ?_, ?_, ?_, ?_⟩
      · rw [g, a2 4 (by decide)]; exact p2
      · rw [g, a2 5 (by decide)]; exact p3
      · rw [g, a2 6 (by decide)]; exact p4
      · rw [g]
        exact PlE_keep p5 (fun j _ => by rw [a1 18 (by decide) (by decide), a1 19 (by decide) (by decide)]; exact ⟨rfl, rfl⟩)
    · rw [zu_same (by decide), zu_same (by decide), a1 10 (by decide) (by decide), f3, sct_s, if_neg (by omega)]; rfl
    · rw [zu_same (by decide), zu_same (by decide), a1 10 (by decide) (by decide)]; exact f4
    · rw [rm_y w]
      simp only [zu_r, if_true]
    · intro k hk
      rw [rm_y w] at hk
      rw [zu_same (by decide), sgc_s, if_pos w]
      simp only [zu_r, if_true]
      by_cases e : k = rm b i
      · rw [if_pos e, e, upF_s]
      · rw [if_neg e, upF_n e, a1 12 (by decide) (by decide)]; exact f12 k (by omega)
  refine v_isFigure ?_
  refine ⟨fun w2 => ?_, fun w2 => ?_⟩ <;> rw [bb_0, fig_iff hb] at w2
  rotate_left
  · have w2 := Decidable.not_not.mp w2
    have g := gst_letter (b := b) (i := i) (Or.inr w2)
    have od' : od b (i + 1) = od b i := od_oth w (by omega) (by omega) (by omega)
    have hp : 0 < i ∧ letr (b (i - 1)) := by
      rcases r2 with r2 | ⟨_, r2⟩ | ⟨r2, -⟩ | ⟨-, ⟨p, x, q, t, e, w⟩ | ⟨e, w⟩⟩
      · contradiction
      · exact r2
      · omega
      · rcases w with ⟨w, -⟩ | ⟨w, -⟩ | ⟨w, -⟩ <;> omega
      · rcases w with ⟨w, -⟩ | ⟨w, -⟩ | ⟨w, -⟩ <;> omega
    have h0 := ((sgc_ok i hA').2 hp.1 hp.2).1
    refine v_addFigure (o := 11) (oa := 12) (cap := 40) (m := rm b i) (by decide) (by omega) h0 f11 ?_
    refine hq _ (fun c hc => ?_) ?_ ⟨?_, ?_, ?_, ?_, ?_, ?_⟩
    · rw [zu_same (by omega)]; exact fK c hc
    · rw [zu_same (by decide)]; exact f5
    · refine GrC_keep fG ?_ ?_ ?_ <;> rw [zu_same (by decide)]
    · refine PlC_same (PlC_keep fP ?_ ?_ ?_ ?_) g od' <;> rw [zu_same (by decide)]
    · rw [zu_same (by decide), f3, sct_s, if_neg (by omega)]; rfl
    · rw [zu_same (by decide)]; exact f4
    · rw [rm_n w, zu_same (by decide)]; exact f11
    · intro k hk
      rw [rm_n w] at hk
      rw [sgc_s, if_neg w, if_pos w2]
      simp only [zu_r, if_true]
      by_cases e : k = rm b i - 1
      · rw [if_pos e, e, upF_s, f12 _ (by omega)]
        simp only [J_lit, J_neg, J_add, J_sub, J_mul, J_nI]
      · rw [if_neg e, upF_n e]; exact f12 k hk
  · have hs : sgz (b i) := by
      rcases r2 with r2 | ⟨r2, _⟩ | ⟨r2, -⟩ | ⟨-, ⟨p, x, q, t, e, w⟩ | ⟨e, w⟩⟩
      · contradiction
      · contradiction
      · omega
      · rcases w with ⟨w, -⟩ | ⟨w, -⟩ | ⟨w, -⟩ <;> omega
      · rcases w with ⟨w, -⟩ | ⟨w, -⟩ | ⟨w, -⟩ <;> omega
    refine ⟨rfl, fun e => absurd e (by decide), ?_⟩
    refine v_obey (d := d) (PlC_keep fP (zu_same (by decide)) (zu_same (by decide)) (zu_same (by decide)) (zu_same (by decide))) hA hs hi (fun S3 a1 a2 => ?_)
    refine hq S3 (fun c hc => ?_) ?_ ⟨?_, a2, ?_, ?_, ?_, ?_⟩
    · rw [a1 c (by omega) (by omega) (by omega) (by omega), zu_same (by omega)]; exact fK c hc
    · rw [a1 10 (by decide) (by decide) (by decide) (by decide)]
      simp only [zu_r, if_true]
      exact f5
    · refine GrC_keep fG ?_ ?_ ?_ <;> rw [a1 _ (by decide) (by decide) (by decide) (by decide), zu_same (by decide)]
    · rw [a1 10 (by decide) (by decide) (by decide) (by decide)]
      simp only [zu_r, if_true]
      rw [f3, sct_s, if_pos hs]
      simp only [J_lit, J_neg, J_add, J_sub, J_mul, J_nI]; congr 1
    · rw [a1 10 (by decide) (by decide) (by decide) (by decide)]
      simp only [zu_r, if_true]
      exact f4
    · rw [rm_n w, a1 11 (by decide) (by decide) (by decide) (by decide), zu_same (by decide)]; exact f11
    · intro k hk
      rw [rm_n w] at hk
      rw [sgc_s, if_neg w, if_neg w2, a1 12 (by decide) (by decide) (by decide) (by decide), zu_same (by decide)]
      exact f12 k hk
end cscore
