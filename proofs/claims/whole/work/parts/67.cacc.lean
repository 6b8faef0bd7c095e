/-! the class's Grammar goes on with a byte -/
section cacc
variable {d : Nat} {S : zS} {Q : Option Value → zS → Prop} {b : Nat → Int} {i : Nat}
theorem due_s (b : Nat → Int) (i : Nat) : due b (i + 1) ↔ (b i = 91 ∨ b i = 58 ∨ b i = 59 ∨ b i = 37 ∨ b i = 33) := by
  unfold due
  rw [Nat.add_sub_cancel]
  omega
theorem prev_s (b : Nat → Int) (i : Nat) : (0 < i + 1 ∧ letr (b (i + 1 - 1))) ↔ letr (b i) := by
  rw [Nat.add_sub_cancel]
  exact ⟨fun h => h.2, fun h => ⟨by omega, h⟩⟩
set_option maxHeartbeats 2000000 in
theorem v_gaccept (hG : GrC S b i) (hA : Acc b (i + 1)) (hb : 0 ≤ b i ∧ b i ≤ 255) (hi : i ≤ 40)
    (hq : ∀ S', (∀ c, c ≠ 13 → c ≠ 14 → c ≠ 15 → S' c = S c) → GrC S' b (i + 1) → Q none S') : KC (d + 2) mX1_accept [.ref 13, .int (J (b i)), .int (J i)] S Q := by
  obtain ⟨g1, g2, g3, g4, g5⟩ := hG
  have hlen := gst_len i (Acc_le hA (by omega))
  obtain ⟨r1, r2⟩ := rsn_0 (hA i (by omega))
  -- behind the two flags
  have fin : ∀ S2 : zS, (∀ c, c ≠ 13 → S2 c = S c) → S2 13 2 = S 13 2 → S2 13 3 = S 13 3 → S2 13 4 = bb (due b (i + 1)) → S2 13 5 = bb (0 < i + 1 ∧ letr (b (i + 1 - 1))) → zWp shC (KC (d + 1)) kX1_accept 0 Q 47 [some (.ref 13), some (.int (J (b i))), some (.int (J i))] [] S2 := by
    intro S2 k k2 k3 k4 k5
    rw [g1] at k2
    rw [g2] at k3
    have ke : GrE S2 (gst b i).1 := GrE_keep g5 (fun j _ => by rw [k 14 (by decide), k 15 (by decide)]; exact ⟨rfl, rfl⟩)
    have kc : ∀ c, c ≠ 13 → c ≠ 14 → c ≠ 15 → S2 c = S c := fun c c1 _ _ => k c c1
    refine zRun_wp [] 80 ?_
    rcases r2 with r2 | ⟨r2, -⟩ | ⟨r2, r3⟩ | ⟨-, ⟨p, c, q, t, e, f⟩ | ⟨e, f⟩⟩
    · -- letter
      have g := gst_letter (b := b) (i := i) (Or.inl r2)
      have f : Q none S2 := hq S2 kc ⟨by rw [g]; exact k2, by rw [g]; exact k3, k4, k5, by rw [g]; exact ke⟩
      refine ⟨fun _ => ?_, fun w => by simp (disch := omega) only [J_lit, J_neg, J_add, J_sub, J_mul, J_nI, J_le, J_lt, J_eq, J_in, J_nat] at w; omega⟩
      refine ⟨fun _ => ?_, fun w => by simp (disch := omega) only [J_lit, J_neg, J_add, J_sub, J_mul, J_nI, J_le, J_lt, J_eq, J_in, J_nat] at w; omega⟩
      refine ⟨fun w => by simp (disch := omega) only [J_lit, J_neg, J_add, J_sub, J_mul, J_nI, J_le, J_lt, J_eq, J_in, J_nat] at w; omega, fun _ => ?_⟩
      refine ⟨fun _ => ?_, fun w => by simp (disch := omega) only [J_lit, J_neg, J_add, J_sub, J_mul, J_nI, J_le, J_lt, J_eq, J_in, J_nat] at w; omega⟩
      refine ⟨fun _ => ?_, fun w => by simp (disch := omega) only [J_lit, J_neg, J_add, J_sub, J_mul, J_nI, J_le, J_lt, J_eq, J_in, J_nat] at w; omega⟩
      refine ⟨fun _ => ?_, fun w => by simp (disch := omega) only [J_lit, J_neg, J_add, J_sub, J_mul, J_nI, J_le, J_lt, J_eq, J_in, J_nat] at w; omega⟩
      exact ⟨fun _ => f, fun w => by simp (disch := omega) only [J_lit, J_neg, J_add, J_sub, J_mul, J_nI, J_le, J_lt, J_eq, J_in, J_nat] at w; omega⟩
    · -- figure
      have g := gst_letter (b := b) (i := i) (Or.inr r2)
      have f : Q none S2 := hq S2 kc ⟨by rw [g]; exact k2, by rw [g]; exact k3, k4, k5, by rw [g]; exact ke⟩
      refine ⟨fun _ => ?_, fun w => by simp (disch := omega) only [J_lit, J_neg, J_add, J_sub, J_mul, J_nI, J_le, J_lt, J_eq, J_in, J_nat] at w; omega⟩
      refine ⟨fun _ => ?_, fun w => by simp (disch := omega) only [J_lit, J_neg, J_add, J_sub, J_mul, J_nI, J_le, J_lt, J_eq, J_in, J_nat] at w; omega⟩
      refine ⟨fun w => by simp (disch := omega) only [J_lit, J_neg, J_add, J_sub, J_mul, J_nI, J_le, J_lt, J_eq, J_in, J_nat] at w; omega, fun _ => ?_⟩
      refine ⟨fun _ => ?_, fun w => by simp (disch := omega) only [J_lit, J_neg, J_add, J_sub, J_mul, J_nI, J_le, J_lt, J_eq, J_in, J_nat] at w; omega⟩
      refine ⟨fun _ => ?_, fun w => by simp (disch := omega) only [J_lit, J_neg, J_add, J_sub, J_mul, J_nI, J_le, J_lt, J_eq, J_in, J_nat] at w; omega⟩
      refine ⟨fun _ => ?_, fun w => by simp (disch := omega) only [J_lit, J_neg, J_add, J_sub, J_mul, J_nI, J_le, J_lt, J_eq, J_in, J_nat] at w; omega⟩
      exact ⟨fun _ => f, fun w => by simp (disch := omega) only [J_lit, J_neg, J_add, J_sub, J_mul, J_nI, J_le, J_lt, J_eq, J_in, J_nat] at w; omega⟩
    · -- [
      have g := gst_open r2
      rw [r2]
      have ix : (S2 13 2).toNatClampNeg = (gst b i).1.length := by rw [k2]; simp (disch := omega) only [J_lit, J_neg, J_add, J_sub, J_mul, J_nI, J_le, J_lt, J_eq, J_in, J_nat]; omega
      have inn : vp_in (S2 13 2) 3 := by rw [k2]; simp (disch := omega) only [J_lit, J_neg, J_add, J_sub, J_mul, J_nI, J_le, J_lt, J_eq, J_in, J_nat]; omega
      refine ⟨fun w => absurd rfl w, fun _ => ?_⟩
      refine ⟨fun w => by rw [k2] at w; simp (disch := omega) only [J_lit, J_neg, J_add, J_sub, J_mul, J_nI, J_le, J_lt, J_eq, J_in, J_nat] at w; omega, fun _ => ?_⟩
      refine ⟨inn, inn, rfl, fun e => absurd e (by decide), ?_⟩
      rw [show (zu S2 14 (S2 13 2).toNatClampNeg (J i)) 13 2 = S2 13 2 from rfl, ix]
      refine hq _ (fun c c1 c2 c3 => by rw [zu_same c1, zu_same c3, zu_same c2]; exact kc c c1 c2 c3) ⟨?_, ?_, ?_, ?_, ?_⟩
      · rw [g]
        simp only [zu_r, if_true, List.length_cons]
        rw [if_neg (by decide), if_neg (by decide), k2]
        simp only [J_lit, J_neg, J_add, J_sub, J_mul, J_nI]; congr 1
      · rw [g]
        simp only [zu_r, if_true]
        exact k3
      · simp only [zu_r, if_true]
        exact k4
      · simp only [zu_r, if_true]
        exact k5
      · rw [g]
        refine ⟨?_, ?_, ?_⟩
        · rw [zu_same (by decide), zu_same (by decide)]
          simp only [zu_r, if_true]
        · rw [zu_same (by decide)]
          simp only [zu_r, if_true]
          rfl
        · refine GrE_keep ke (fun j hj => ⟨?_, ?_⟩)
          · rw [zu_same (by decide), zu_same (by decide)]
            simp only [zu_r, if_true]
            rw [if_neg (by omega)]
          · rw [zu_same (by decide)]
            simp only [zu_r, if_true]
            rw [if_neg (by omega)]
            rw [if_neg (by decide)]
    · have hlen' := hlen
      rw [e] at hlen' k2 ke
      rw [List.length_cons] at hlen' k2
      obtain ⟨ke1, ke2, ke3⟩ := ke
      have ix : (S2 13 2 - 1).toNatClampNeg = t.length := by rw [k2]; simp (disch := omega) only [J_lit, J_neg, J_add, J_sub, J_mul, J_nI, J_le, J_lt, J_eq, J_in, J_nat]; omega
      have inn : vp_in (S2 13 2 - 1) 3 := by rw [k2]; simp (disch := omega) only [J_lit, J_neg, J_add, J_sub, J_mul, J_nI, J_le, J_lt, J_eq, J_in, J_nat]; omega
      have hpos : ¬ S2 13 2 ≤ 0 := by rw [k2]; simp (disch := omega) only [J_lit, J_neg, J_add, J_sub, J_mul, J_nI, J_le, J_lt, J_eq, J_in, J_nat]; omega
      rcases f with ⟨z, fc⟩ | ⟨z, fc, fqq⟩ | ⟨z, -⟩
      · -- :
        have g := gst_col z
        rw [e] at g
        have gg1 : (gst b (i + 1)).1 = (p, (i : Int), q) :: t := by rw [g]; rfl
        have gg2 : (gst b (i + 1)).2 = (gst b i).2 := by rw [g]
        rw [z]
        refine ⟨fun _ => ?_, fun w => absurd w (by decide)⟩
        refine ⟨fun _ => ?_, fun w => absurd w (by decide)⟩
        refine ⟨fun _ => ?_, fun w => absurd rfl w⟩
        refine ⟨fun w => absurd w hpos, fun _ => ?_⟩
        refine ⟨fun w => absurd rfl w, fun _ => ?_⟩
        refine ⟨inn, ?_⟩
        rw [ix]
        refine hq _ (fun c c1 c2 c3 => by rw [zu_same c3]; exact kc c c1 c2 c3) ⟨?_, ?_, ?_, ?_, ?_⟩
        · rw [gg1, List.length_cons, zu_same (by decide)]; exact k2
        · rw [gg2, zu_same (by decide)]; exact k3
        · rw [zu_same (by decide)]; exact k4
        · rw [zu_same (by decide)]; exact k5
        · rw [gg1]
          refine ⟨?_, ?_, ?_⟩
          · rw [zu_same (by decide)]; exact ke1
          · simp only [zu_r, if_true]
            have q1 : q = -1 := by
              have := HS_all i (Acc_le hA (by omega))
              rw [e] at this
              rcases this.1.2.2.2.2.2.2 with w | ⟨c', w, -⟩
              · exact w.2
              · omega
            unfold eg
            rw [if_neg (by omega), if_pos q1]
            rfl
          · refine GrE_keep ke3 (fun j hj => ⟨?_, ?_⟩)
            · rw [zu_same (by decide)]
            · simp only [zu_r, if_true]
              rw [if_neg (by omega)]
      · -- ;
        have g := gst_sem z
        rw [e] at g
        have gg1 : (gst b (i + 1)).1 = (p, c, (i : Int)) :: t := by rw [g]; rfl
        have gg2 : (gst b (i + 1)).2 = (gst b i).2 := by rw [g]
        rw [z]
        refine ⟨fun _ => ?_, fun w => absurd w (by decide)⟩
        refine ⟨fun _ => ?_, fun w => absurd w (by decide)⟩
        refine ⟨fun w => absurd w (by decide), fun _ => ?_⟩
        refine ⟨fun w => absurd rfl w, fun _ => ?_⟩
        refine ⟨fun w => absurd w hpos, fun _ => ?_⟩
        refine ⟨fun _ => ?_, fun w => absurd w (by decide)⟩
        refine ⟨inn, ?_⟩
        rw [ix]
        refine hq _ (fun c c1 c2 c3 => by rw [zu_same c3]; exact kc c c1 c2 c3) ⟨?_, ?_, ?_, ?_, ?_⟩
        · rw [gg1, List.length_cons, zu_same (by decide)]; exact k2
        · rw [gg2, zu_same (by decide)]; exact k3
        · rw [zu_same (by decide)]; exact k4
        · rw [zu_same (by decide)]; exact k5
        · rw [gg1]
          refine ⟨?_, ?_, ?_⟩
          · rw [zu_same (by decide)]; exact ke1
          · simp only [zu_r, if_true]
            unfold eg
            rw [if_neg fc, if_neg (by omega)]
            rfl
          · refine GrE_keep ke3 (fun j hj => ⟨?_, ?_⟩)
            · rw [zu_same (by decide)]
            · simp only [zu_r, if_true]
              rw [if_neg (by omega)]
      · -- ]
        have g := gst_shut z
        rw [e] at g
        have gg1 : (gst b (i + 1)).1 = t := by rw [g]; rfl
        have gg2 : (gst b (i + 1)).2 = (gst b i).2 := by rw [g]
        rw [z]
        refine ⟨fun _ => ?_, fun w => absurd w (by decide)⟩
        refine ⟨fun w => absurd rfl w, fun _ => ?_⟩
        refine ⟨fun w => absurd w hpos, fun _ => ?_⟩
        refine ⟨rfl, fun e => absurd e (by decide), ?_⟩
        refine hq _ (fun c c1 c2 c3 => by rw [zu_same c1]; exact kc c c1 c2 c3) ⟨?_, ?_, ?_, ?_, ?_⟩
        · rw [gg1]
          simp only [zu_r, if_true]
          rw [k2]; simp only [J_lit, J_neg, J_add, J_sub, J_mul, J_nI]; congr 1; omega
        · rw [gg2]
          simp only [zu_r, if_true]
          exact k3
        · simp only [zu_r, if_true]
          exact k4
        · simp only [zu_r, if_true]
          exact k5
        · rw [gg1]
          exact GrE_keep ke3 (fun j _ => by rw [zu_same (by decide), zu_same (by decide)]; exact ⟨rfl, rfl⟩)
    · rw [e] at k2 ke
      rcases f with ⟨z, f1, f2⟩ | ⟨z, f1⟩ | ⟨z, f1, f2⟩
      · -- mark 37
        have g := gst_pct z
        have gg1 : (gst b (i + 1)).1 = [] := by rw [g]; exact e
        rw [z]
        refine ⟨fun _ => ?_, fun w => absurd w (by decide)⟩
        refine ⟨fun _ => ?_, fun w => absurd w (by decide)⟩
        refine ⟨fun w => absurd w (by decide), fun _ => ?_⟩
        refine ⟨fun _ => ?_, fun w => absurd w (by decide)⟩
        refine ⟨fun w => absurd rfl w, fun _ => ?_⟩
        refine ⟨rfl, fun e => absurd e (by decide), ?_⟩
        refine hq _ (fun c c1 c2 c3 => by rw [zu_same c1]; exact kc c c1 c2 c3) ⟨?_, ?_, ?_, ?_, ?_⟩
        · rw [gg1]
          simp only [zu_r, if_true]
          exact k2
        · rw [g]
          simp only [zu_r, if_true]
          unfold stg
          rw [if_neg (fun w => w r1), if_neg (fun w => w f2), if_pos (by show ¬ (i : Int) = -1; omega)]; rfl
        · simp only [zu_r, if_true]
          exact k4
        · simp only [zu_r, if_true]
          exact k5
        · rw [gg1]; trivial
      · -- mark 33
        have g := gst_bng z
        have gg1 : (gst b (i + 1)).1 = [] := by rw [g]; exact e
        rw [z]
        refine ⟨fun _ => ?_, fun w => absurd w (by decide)⟩
        refine ⟨fun _ => ?_, fun w => absurd w (by decide)⟩
        refine ⟨fun w => absurd w (by decide), fun _ => ?_⟩
        refine ⟨fun _ => ?_, fun w => absurd w (by decide)⟩
        refine ⟨fun _ => ?_, fun w => absurd w (by decide)⟩
        refine ⟨fun w => absurd rfl w, fun _ => ?_⟩
        refine ⟨rfl, fun e => absurd e (by decide), ?_⟩
        refine hq _ (fun c c1 c2 c3 => by rw [zu_same c1]; exact kc c c1 c2 c3) ⟨?_, ?_, ?_, ?_, ?_⟩
        · rw [gg1]
          simp only [zu_r, if_true]
          exact k2
        · rw [g]
          simp only [zu_r, if_true]
          unfold stg
          rw [if_neg (fun w => w r1), if_pos (by show ¬ (i : Int) = -1; omega)]; rfl
        · simp only [zu_r, if_true]
          exact k4
        · simp only [zu_r, if_true]
          exact k5
        · rw [gg1]; trivial
      · -- mark 36
        have g := gst_dol z
        have gg1 : (gst b (i + 1)).1 = [] := by rw [g]; exact e
        rw [z]
        refine ⟨fun _ => ?_, fun w => absurd w (by decide)⟩
        refine ⟨fun _ => ?_, fun w => absurd w (by decide)⟩
        refine ⟨fun w => absurd w (by decide), fun _ => ?_⟩
        refine ⟨fun _ => ?_, fun w => absurd w (by decide)⟩
        refine ⟨fun _ => ?_, fun w => absurd w (by decide)⟩
        refine ⟨fun _ => ?_, fun w => absurd w (by decide)⟩
        refine ⟨fun w => absurd rfl w, fun _ => ?_⟩
        refine ⟨rfl, fun e => absurd e (by decide), ?_⟩
        refine hq _ (fun c c1 c2 c3 => by rw [zu_same c1]; exact kc c c1 c2 c3) ⟨?_, ?_, ?_, ?_, ?_⟩
        · rw [gg1]
          simp only [zu_r, if_true]
          exact k2
        · rw [g]
          simp only [zu_r, if_true]
          unfold stg
          rw [if_pos (by show ¬ (i : Int) = -1; omega)]; rfl
        · simp only [zu_r, if_true]
          exact k4
        · simp only [zu_r, if_true]
          exact k5
        · rw [gg1]; trivial
  have at44 : ∀ x : Int32, x = bb (due b (i + 1)) → zWp shC (KC (d + 1)) kX1_accept 0 Q 44 [some (.ref 13), some (.int (J (b i))), some (.int (J i))] [.int x, .ref 13] (zu S 13 5 (bb (97 ≤ J (b i) ∧ J (b i) ≤ 122))) := by
    intro x ex
    subst ex
    refine zRun_wp [47] 80 ?_
    refine ⟨rfl, fun _ => bb_01, ?_⟩
    refine fin _ (fun c hc => by rw [zu_same hc, zu_same hc]) ?_ ?_ ?_ ?_
    · simp only [zu_r, if_true]; rfl
    · simp only [zu_r, if_true]; rfl
    · simp only [zu_r, if_true]
    · simp only [zu_r, if_true]
      rw [if_neg (by decide)]
      exact bb_c ((let_iff hb).trans (prev_s b i).symm)
  have yes : (b i = 91 ∨ b i = 58 ∨ b i = 59 ∨ b i = 37 ∨ b i = 33) → (1 : Int32) = bb (due b (i + 1)) := fun w => (bb_t ((due_s b i).mpr w)).symm
  refine eX1_accept (zRun_wp [44] 80 ?_)
  refine v_isLetter ?_
  refine ⟨rfl, fun _ => bb_01, ?_⟩
  refine ⟨fun w => ?_, fun w => ?_⟩ <;> simp (disch := omega) only [J_lit, J_neg, J_add, J_sub, J_mul, J_nI, J_le, J_lt, J_eq, J_in, J_nat] at w
  · exact at44 _ (yes (by omega))
  refine ⟨fun w2 => ?_, fun w2 => ?_⟩ <;> simp (disch := omega) only [J_lit, J_neg, J_add, J_sub, J_mul, J_nI, J_le, J_lt, J_eq, J_in, J_nat] at w2
  · exact at44 _ (yes (by omega))
  refine ⟨fun w3 => ?_, fun w3 => ?_⟩ <;> simp (disch := omega) only [J_lit, J_neg, J_add, J_sub, J_mul, J_nI, J_le, J_lt, J_eq, J_in, J_nat] at w3
  · exact at44 _ (yes (by omega))
  refine ⟨fun w4 => ?_, fun w4 => ?_⟩ <;> simp (disch := omega) only [J_lit, J_neg, J_add, J_sub, J_mul, J_nI, J_le, J_lt, J_eq, J_in, J_nat] at w4
  · exact at44 _ (yes (by omega))
  refine ⟨fun w5 => ?_, fun w5 => ?_⟩ <;> simp (disch := omega) only [J_lit, J_neg, J_add, J_sub, J_mul, J_nI, J_le, J_lt, J_eq, J_in, J_nat] at w5
  · exact at44 _ (bb_f (fun w => by have := (due_s b i).mp w; omega)).symm
  · exact at44 _ (yes (by omega))
end cacc
