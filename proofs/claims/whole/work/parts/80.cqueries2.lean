theorem fsl_le (b : Nat → Nat → Int) (n : Nat → Nat) (k : Nat) : fsl b n k ≤ k := by
  induction k with
  | zero => exact Nat.le_refl _
  | succ k ih => unfold fsl; split <;> (try split) <;> omega
theorem fsl_s (b : Nat → Nat → Int) (n : Nat → Nat) (k : Nat) : fsl b n (k + 1) = if fsl b n k < k then fsl b n k else if gB b n k = sgc (b 1) (n 1) ((odB b n).getD k 0) then k + 1 else k := rfl
theorem fsl_stay {b : Nat → Nat → Int} {n : Nat → Nat} {k m : Nat} (h : fsl b n k < k) (hk : k ≤ m) : fsl b n m = fsl b n k := by
  induction m with
  | zero => have : k = 0 := by omega
            subst this; rfl
  | succ m ih =>
    by_cases e : k = m + 1
    · subst e; rfl
    · have i := ih (by omega)
      rw [fsl_s, if_pos (by omega), i]
theorem fsl_hit {b : Nat → Nat → Int} {n : Nat → Nat} {k m : Nat} (h : fsl b n k = k) (hm : k < m) (ne : ¬ gB b n k = sgc (b 1) (n 1) ((odB b n).getD k 0)) : fsl b n m = k := by
  have e : fsl b n (k + 1) = k := by rw [fsl_s, if_neg (by omega), if_neg ne]
  rw [fsl_stay (k := k + 1) (by omega) (by omega), e]
theorem fre0_acc {c : Nat → Int} {m : Nat} (f : fre c m = 0) : acc c m = m ∧ Acc c m := by
  have := acc_spec c m
  have e : acc c m = m := by
    unfold fre at f
    split at f
    · rename_i w; exact absurd f (this.2.2 w)
    · omega
  rw [e] at this
  exact ⟨e, this.2.1⟩
theorem sgcB {b : Nat → Nat → Int} {n : Nat → Nat} : ∀ k, k < (odB b n).length → vcode (sgc (b 1) (n 1) ((odB b n).getD k 0)) := by
  intro k hk
  have gl := odB_lt (b := b) (n := n) k hk
  by_cases f : fre (b 1) (n 1) = 0
  · refine (sgc_ok (n 1) (fre0_acc f).2).1 _ ?_
    have : rmB b n = rm (b 1) (n 1) := by unfold rmB; rw [if_pos f]
    rw [← this]; exact gl
  · have : odB b n = [] := by unfold odB; rw [if_neg f]
    rw [this] at hk
    exact absurd hk (Nat.not_lt_zero k)
section cq
variable {d : Nat} {S : zS} {Q : Option Value → zS → Prop} {b : Nat → Nat → Int} {n : Nat → Nat} {dd : Nat}
theorem v_playedCode (hs : ScT S (b 1) (n 1)) {k : Nat} (hn : n 1 ≤ 40) (hk : k < (odB b n).length) (hq : Q (some (.int (J (sgc (b 1) (n 1) ((odB b n).getD k 0))))) S) : KC (d + 1) mX7_playedCode [.ref 10, .int (J k)] S Q := by
  obtain ⟨-, -, -, -, -, -, s7, s8, o0, o1, o2⟩ := hs
  have s7 : S 11 1 = J (rmB b n) := s7
  have o0 : (odB b n).length ≤ 640 := o0
  have o1 : S 16 1 = J (odB b n).length := o1
  have o2 : ∀ k, k < (odB b n).length → S 17 k = J ((odB b n).getD k 0) := o2
  have gl := odB_lt (b := b) (n := n) k hk
  have rl := rmB_le (b := b) (n := n) hn
  have f : fre (b 1) (n 1) = 0 := by
    by_cases f : fre (b 1) (n 1) = 0
    · exact f
    · have : odB b n = [] := by unfold odB; rw [if_neg f]
      rw [this] at hk
      exact absurd hk (Nat.not_lt_zero k)
  have er : rmB b n = rm (b 1) (n 1) := by unfold rmB; rw [if_pos f]
  have ix : (J k).toNatClampNeg = k := by simp (disch := omega) only [J_lit, J_neg, J_add, J_sub, J_mul, J_nI, J_le, J_lt, J_eq, J_in, J_nat]; omega
  have fin : ∀ x2 : Int32, x2 = J ((odB b n).getD k 0) → zWp shC (KC d) kX7_playedCode 1 Q 27 [some (.ref 10), some (.int (J k)), some (.int x2)] [] S := by
    intro x2 e2
    subst e2
    refine zRun_wp [] 60 ?_
    refine ⟨fun w => ?_, fun _ => ?_⟩
    · simp (disch := omega) only [J_lit, J_neg, J_add, J_sub, J_mul, J_nI, J_le, J_lt, J_eq, J_in, J_nat] at w
      omega
    refine ⟨fun w => ?_, fun _ => ?_⟩
    · rw [s7] at w
      simp (disch := omega) only [J_lit, J_neg, J_add, J_sub, J_mul, J_nI, J_le, J_lt, J_eq, J_in, J_nat] at w
      omega
    have jx : (J ((odB b n).getD k 0)).toNatClampNeg = (odB b n).getD k 0 := by simp (disch := omega) only [J_lit, J_neg, J_add, J_sub, J_mul, J_nI, J_le, J_lt, J_eq, J_in, J_nat]; omega
    refine ⟨by simp (disch := omega) only [J_lit, J_neg, J_add, J_sub, J_mul, J_nI, J_le, J_lt, J_eq, J_in, J_nat]; omega, ?_⟩
    rw [jx, s8 f _ (by omega)]
    exact hq
  refine eX7_playedCode (zRun_wp [27] 60 ?_)
  refine ⟨fun w => ?_, fun _ => ?_⟩
  · simp (disch := omega) only [J_lit, J_neg, J_add, J_sub, J_mul, J_nI, J_le, J_lt, J_eq, J_in, J_nat] at w
    omega
  refine ⟨fun _ => ?_, fun w => ?_⟩
  · refine ⟨by simp (disch := omega) only [J_lit, J_neg, J_add, J_sub, J_mul, J_nI, J_le, J_lt, J_eq, J_in, J_nat]; omega, ?_⟩
    refine fin _ ?_
    rw [ix]; exact o2 k hk
  · rw [o1] at w
    simp (disch := omega) only [J_lit, J_neg, J_add, J_sub, J_mul, J_nI, J_le, J_lt, J_eq, J_in, J_nat] at w
    omega
theorem v_first (h : CI S b n dd) (hq : ∀ S', CK S S' → CI S' b n dd → Q (some (.int (J (vFirst b n)))) S') : KC (d + 6) mX11_first [.ref 0] S Q := by
  have hN := nB_le (b := b) h.1.1.1
  have ol := odB_len h
  refine eX11_first (zRun_wp [28] 60 ?_)
  refine v_freshRun (d := d + 2) h (fun S0 c0 i0 f0 _ _ => ?_)
  refine v_freshScore (d := d) i0 (fun S1 c1 i1 f1 _ _ => ?_)
  have f0' := c1.2.2 10 f0 (by decide)
  obtain ⟨r1, r2, r3, r4, r5⟩ := i1.2.2.1 f0'
  have hsc := i1.2.2.2.1 f1
  obtain ⟨-, -, -, -, -, -, s7, s8, o0, o1, o2⟩ := id hsc
  have o1 : S1 16 1 = J (odB b n).length := o1
  have hq1 := hq S1 (CK_tr c0 c1) i1
  generalize hm : Nat.min (nB b n) (odB b n).length = m
  have m1 : m ≤ nB b n := by rw [← hm]; exact Nat.min_le_left _ _
  have m2 : m ≤ (odB b n).length := by rw [← hm]; exact Nat.min_le_right _ _
  unfold vFirst at hq1
  rw [hm] at hq1
  have loop : ∀ (r k : Nat) (x4 : Int32), k + r = m → x4 = J k → fsl b n k = k → zWp shC (KC (d + 5)) kX11_first 1 Q 31 [some (.ref 0), some (.ref 7), some (.ref 10), some (.int (J m)), some (.int x4)] [] S1 := by
    intro r
    induction r with
    | zero =>
      intro k x4 hr e4 hf
      subst e4
      have ek : k = m := by omega
      subst ek
      rw [if_neg (by omega)] at hq1
      refine zRun_wp [31] 60 ?_
      refine ⟨fun _ => ?_, fun w => ?_⟩
      rotate_left
      · exact absurd (Int32.le_refl _) w
      refine ⟨fun w => ?_, fun w => ?_⟩ <;> rw [r1, o1] at w <;> simp (disch := omega) only [J_lit, J_neg, J_add, J_sub, J_mul, J_nI, J_le, J_lt, J_eq, J_in, J_nat] at w
      · rw [if_neg (by omega)] at hq1; exact hq1
      · rw [if_pos (by omega)] at hq1; exact hq1
    | succ r ih =>
      intro k x4 hr e4 hf
      subst e4
      have ix : (J k).toNatClampNeg = k := by simp (disch := omega) only [J_lit, J_neg, J_add, J_sub, J_mul, J_nI, J_le, J_lt, J_eq, J_in, J_nat]; omega
      have v1 : 97 ≤ gB b n k ∧ gB b n k ≤ 14714 := vcode_rng (rg_codes (b := b 0) (n := n 0) k (by show k < nB b n; omega))
      have v2 := vcode_rng (sgcB (b := b) (n := n) k (by omega))
      refine zRun_wp [31] 60 ?_
      refine ⟨fun w => ?_, fun _ => ?_⟩
      · simp (disch := omega) only [J_lit, J_neg, J_add, J_sub, J_mul, J_nI, J_le, J_lt, J_eq, J_in, J_nat] at w
        omega
      refine ⟨by simp (disch := omega) only [J_lit, J_neg, J_add, J_sub, J_mul, J_nI, J_le, J_lt, J_eq, J_in, J_nat]; omega, ?_⟩
      rw [ix, r2 k (by omega)]
      refine v_playedCode (d := d + 4) hsc h.1.1.2.1 (by omega) ?_
      refine ⟨fun w => ?_, fun w => ?_⟩ <;> simp (disch := omega) only [J_lit, J_neg, J_add, J_sub, J_mul, J_nI, J_le, J_lt, J_eq, J_in, J_nat] at w
      · refine ih (k + 1) _ (by omega) (by simp only [J_lit, J_neg, J_add, J_sub, J_mul, J_nI]; congr 1) ?_
        rw [fsl_s, if_neg (by omega), if_pos w]
      · have e := fsl_hit hf (show k < m by omega) w
        rw [e, if_pos (by omega)] at hq1
        exact hq1
  have start : ∀ x3 : Int32, x3 = J m → zWp shC (KC (d + 5)) kX11_first 1 Q 28 [some (.ref 0), some (.ref 7), some (.ref 10), some (.int x3), none] [] S1 := by
    intro x3 e3
    subst e3
    refine zRun_wp [31] 60 ?_
    exact loop m 0 _ (by omega) rfl rfl
  refine start _ ?_
  rw [r1, o1, Jmin (by omega) (by omega), hm]
theorem v_same (h : CI S b n dd) (hq : ∀ S', CK S S' → CI S' b n dd → Q (some (.int (J (vSame b n)))) S') : KC (d + 7) mX11_same [.ref 0] S Q := by
  have hN := nB_le (b := b) h.1.1.1
  have fl := fsl_le b n (Nat.min (nB b n) (odB b n).length)
  have m1 : Nat.min (nB b n) (odB b n).length ≤ nB b n := Nat.min_le_left _ _
  have vr : -1 ≤ vFirst b n ∧ vFirst b n ≤ 100 := by unfold vFirst; split <;> (try split) <;> omega
  refine eX11_same (zRun_wp [] 60 ?_)
  refine v_first (d := d) h (fun S1 c1 i1 => ?_)
  have hq1 := hq S1 c1 i1
  unfold vSame at hq1
  refine ⟨fun w => ?_, fun w => ?_⟩ <;> rw [show (-1 : Int32) = J (-1) from rfl] at w <;> simp (disch := omega) only [J_lit, J_neg, J_add, J_sub, J_mul, J_nI, J_le, J_lt, J_eq, J_in, J_nat] at w
  · rw [if_neg w] at hq1; exact hq1
  · rw [if_pos w] at hq1; exact hq1
theorem v_span (h : CI S b n dd) {e i j w : Int} (e1 : -2147483648 ≤ e) (e2 : e ≤ 2147483647) (i1 : -2147483648 ≤ i) (i2 : i ≤ 2147483647) (j1 : -2147483648 ≤ j) (j2 : j ≤ 2147483647) (w1 : -2147483648 ≤ w) (w2 : w ≤ 2147483647) (hq : ∀ S', CK S S' → CI S' b n dd → Q (some (.int (J (vSpan b n e i j w)))) S') : KC (d + 6) mX11_span [.ref 0, .int (J e), .int (J i), .int (J j), .int (J w)] S Q := by
  have hN := nB_le (b := b) h.1.1.1
  refine eX11_span (zRun_wp [] 80 ?_)
  refine v_freshSpans (d := d) h (fun S1 c1 k1 f1 => ?_)
  obtain ⟨so, sc⟩ := k1.2.2.2.2.1 f1
  have hq1 := hq S1 c1 k1
  unfold vSpan at hq1
  refine v_isDepth ?_
  refine ⟨fun q => ?_, fun q => ?_⟩ <;> rw [bb_0] at q <;> simp (disch := omega) only [J_lit, J_neg, J_add, J_sub, J_mul, J_nI, J_le, J_lt, J_eq, J_in, J_nat] at q
  · rw [if_pos (fun z => q z.1)] at hq1; exact hq1
  refine v_has (d := d + 4) sps20 so i1 i2 ?_
  refine ⟨fun q2 => ?_, fun q2 => ?_⟩ <;> rw [bb_0] at q2
  · rw [if_pos (fun z => q2 z.2.1)] at hq1; exact hq1
  refine v_has (d := d + 4) sps20 so j1 j2 ?_
  refine ⟨fun q3 => ?_, fun q3 => ?_⟩ <;> rw [bb_0] at q3
  · rw [if_pos (fun z => q3 z.2.2.1)] at hq1; exact hq1
  refine ⟨fun q4 => ?_, fun q4 => ?_⟩ <;> simp (disch := omega) only [J_lit, J_neg, J_add, J_sub, J_mul, J_nI, J_le, J_lt, J_eq, J_in, J_nat] at q4
  · rw [if_pos (by omega)] at hq1; exact hq1
  refine ⟨fun q5 => ?_, fun q5 => ?_⟩ <;> simp (disch := omega) only [J_lit, J_neg, J_add, J_sub, J_mul, J_nI, J_le, J_lt, J_eq, J_in, J_nat] at q5
  rotate_left
  · rw [if_pos (by omega)] at hq1; exact hq1
  rw [if_neg (by omega)] at hq1
  refine ⟨fun q6 => ?_, fun q6 => ?_⟩ <;> simp (disch := omega) only [J_lit, J_neg, J_add, J_sub, J_mul, J_nI, J_le, J_lt, J_eq, J_in, J_nat] at q6
  rotate_left
  · rw [if_pos (by omega)] at hq1; exact hq1
  rw [if_neg (by omega)] at hq1
  refine v_costX (d := d + 3) (dd := e.toNat) (i := i.toNat) (j := j.toNat) sps20 so (sc e.toNat (by omega)) (by omega) (by omega) (by omega) (by congr 1; omega) (by congr 1; omega) (by congr 1; omega) ?_
  have few := co_few (gB b n) e.toNat i.toNat (j.toNat - i.toNat) (by omega)
  have sm := cv_small (co_le (gB b n) e.toNat i.toNat (j.toNat - i.toNat)) (by omega)
  obtain ⟨b1, b2⟩ := cv_bars (a := co (gB b n) e.toNat i.toNat (j.toNat - i.toNat)) (by omega)
  refine ⟨fun q7 => ?_, fun q7 => ?_⟩ <;> simp (disch := omega) only [J_lit, J_neg, J_add, J_sub, J_mul, J_nI, J_le, J_lt, J_eq, J_in, J_nat] at q7
  · rw [if_neg q7] at hq1
    refine v_signsOf (by omega) (by omega) ?_
    have e : ((cv (co (gB b n) e.toNat i.toNat (j.toNat - i.toNat)) : Nat) : Int) % 256 = (co (gB b n) e.toNat i.toNat (j.toNat - i.toNat) % 1000 : Nat) := by omega
    rw [e]; exact hq1
  · rw [if_pos q7] at hq1
    refine v_barsOf (by omega) (by omega) ?_
    have e : ((cv (co (gB b n) e.toNat i.toNat (j.toNat - i.toNat)) : Nat) : Int) / 256 = (co (gB b n) e.toNat i.toNat (j.toNat - i.toNat) / 1000 : Nat) := by omega
    rw [e]; exact hq1
end cq
