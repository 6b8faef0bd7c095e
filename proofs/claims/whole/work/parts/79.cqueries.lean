section cq
variable {d : Nat} {S : zS} {Q : Option Value → zS → Prop} {b : Nat → Nat → Int} {n : Nat → Nat} {dd : Nat}
theorem v_bar (h : CI S b n dd) {i : Int} (i1 : -2147483648 ≤ i) (i2 : i ≤ 2147483647) (hq : ∀ S', CK S S' → CI S' b n dd → Q (some (.int (J (vBar b n i)))) S') : KC (d + 4) mX11_bar [.ref 0, .int (J i)] S Q := by
  have hN := nB_le (b := b) h.1.1.1
  refine eX11_bar (zRun_wp [] 60 ?_)
  refine v_freshRun (d := d) h (fun S1 c1 j1 f1 _ _ => ?_)
  obtain ⟨r1, r2, r3, r4, r5⟩ := j1.2.2.1 f1
  have hq1 := hq S1 c1 j1
  unfold vBar at hq1
  refine ⟨fun q => ?_, fun q => ?_⟩ <;> simp (disch := omega) only [J_lit, J_neg, J_add, J_sub, J_mul, J_nI, J_le, J_lt, J_eq, J_in, J_nat] at q
  · rw [if_neg (by omega)] at hq1; exact hq1
  refine ⟨fun q2 => ?_, fun q2 => ?_⟩ <;> rw [r1] at q2 <;> simp (disch := omega) only [J_lit, J_neg, J_add, J_sub, J_mul, J_nI, J_le, J_lt, J_eq, J_in, J_nat] at q2
  · rw [if_pos (by omega)] at hq1
    have ix : (J i).toNatClampNeg = i.toNat := by simp (disch := omega) only [J_lit, J_neg, J_add, J_sub, J_mul, J_nI, J_le, J_lt, J_eq, J_in, J_nat]
    refine ⟨by simp (disch := omega) only [J_lit, J_neg, J_add, J_sub, J_mul, J_nI, J_le, J_lt, J_eq, J_in, J_nat]; omega, ?_⟩
    rw [ix, r3 i.toNat (by omega)]
    exact hq1
  · rw [if_neg (by omega)] at hq1; exact hq1
theorem v_alike (h : CI S b n dd) {i j : Int} (i1 : -2147483648 ≤ i) (i2 : i ≤ 2147483647) (j1 : -2147483648 ≤ j) (j2 : j ≤ 2147483647) (hq : ∀ S', CK S S' → CI S' b n dd → Q (some (.int (J (vAlike b n i j)))) S') : KC (d + 6) mX11_alike [.ref 0, .int (J i), .int (J j)] S Q := by
  have bad : ¬ (0 ≤ i ∧ i ≤ 24 ∧ 0 ≤ j ∧ j ≤ 24) → Q (some (.int (-2))) S := fun q => by
    have := hq S CK_rfl h
    unfold vAlike at this
    rw [if_neg q] at this
    exact this
  refine eX11_alike (zRun_wp [] 60 ?_)
  refine ⟨fun q => ?_, fun q => ?_⟩ <;> simp (disch := omega) only [J_lit, J_neg, J_add, J_sub, J_mul, J_nI, J_le, J_lt, J_eq, J_in, J_nat] at q
  · exact bad (by omega)
  refine ⟨fun q2 => ?_, fun q2 => ?_⟩ <;> simp (disch := omega) only [J_lit, J_neg, J_add, J_sub, J_mul, J_nI, J_le, J_lt, J_eq, J_in, J_nat] at q2
  · exact bad (by omega)
  refine ⟨fun q3 => ?_, fun q3 => ?_⟩ <;> simp (disch := omega) only [J_lit, J_neg, J_add, J_sub, J_mul, J_nI, J_le, J_lt, J_eq, J_in, J_nat] at q3
  · exact bad (by omega)
  refine ⟨fun q4 => ?_, fun q4 => ?_⟩ <;> simp (disch := omega) only [J_lit, J_neg, J_add, J_sub, J_mul, J_nI, J_le, J_lt, J_eq, J_in, J_nat] at q4
  rotate_left
  · exact bad (by omega)
  refine v_freshSpans (d := d) h (fun S1 c1 k1 f1 => ?_)
  have hq1 := hq S1 c1 k1
  unfold vAlike at hq1
  rw [if_pos (by omega)] at hq1
  refine v_alikeE (d := d + 3) (i := i.toNat) (j := j.toNat) sps20 (k1.2.2.2.2.1 f1).1 (by omega) (by omega) (by congr 1; omega) (by congr 1; omega) ?_
  exact hq1
theorem v_again (h : CI S b n dd) {i j : Int} (i1 : -2147483648 ≤ i) (i2 : i ≤ 2147483647) (j1 : -2147483648 ≤ j) (j2 : j ≤ 2147483647) (hq : ∀ S', CK S S' → CI S' b n dd → Q (some (.int (J (vAgain b n i j)))) S') : KC (d + 6) mX11_again [.ref 0, .int (J i), .int (J j)] S Q := by
  have hN := nB_le (b := b) h.1.1.1
  refine eX11_again (zRun_wp [] 60 ?_)
  refine v_freshSpans (d := d) h (fun S1 c1 k1 f1 => ?_)
  have so := (k1.2.2.2.2.1 f1).1
  have hq1 := hq S1 c1 k1
  unfold vAgain at hq1
  refine v_has (d := d + 4) sps20 so i1 i2 ?_
  refine ⟨fun q => ?_, fun q => ?_⟩ <;> rw [bb_0] at q
  · rw [if_pos (fun w => q w.1)] at hq1; exact hq1
  refine v_has (d := d + 4) sps20 so j1 j2 ?_
  refine ⟨fun q2 => ?_, fun q2 => ?_⟩ <;> rw [bb_0] at q2
  rotate_left
  · rw [if_pos (fun w => q2 w.2)] at hq1; exact hq1
  rw [if_neg (by omega)] at hq1
  refine ⟨fun q3 => ?_, fun q3 => ?_⟩ <;> simp (disch := omega) only [J_lit, J_neg, J_add, J_sub, J_mul, J_nI, J_le, J_lt, J_eq, J_in, J_nat] at q3
  rotate_left
  · rw [if_pos (by omega)] at hq1; exact hq1
  rw [if_neg (by omega)] at hq1
  refine v_alikeE (d := d + 3) (i := i.toNat) (j := j.toNat) sps20 so (by omega) (by omega) (by congr 1; omega) (by congr 1; omega) ?_
  have all := al_lei (gB b n) (nB b n) i.toNat j.toNat
  have e1 : J j - J i = J (j.toNat - i.toNat : Nat) := by simp only [J_lit, J_neg, J_add, J_sub, J_mul, J_nI]; congr 1; omega
  have ne : ¬ J j - J i = 0 := by rw [e1]; exact J_n0 (by omega) (by omega)
  refine ⟨ne, ?_⟩
  have e2 : 1 + J (al (gB b n) (nB b n) i.toNat j.toNat) / (J j - J i) = J (1 + (al (gB b n) (nB b n) i.toNat j.toNat / (j.toNat - i.toNat) : Nat)) := by
    rw [e1, J_div (by omega) (by omega) (by omega) (by omega)]
    simp only [J_lit, J_neg, J_add, J_sub, J_mul, J_nI]; congr 1
  rw [← e2] at hq1
  exact hq1
theorem odB_len (h : CI S b n dd) : (odB b n).length ≤ 640 := by
  unfold odB
  split
  · rename_i f
    refine od_640 h.1.1.2.1 (n 1) (Nat.le_refl _) ?_
    have := acc_spec (b 1) (n 1)
    have e : acc (b 1) (n 1) = n 1 := by
      unfold fre at f
      split at f
      · rename_i w; exact absurd f (this.2.2 w)
      · omega
    rw [e] at this
    exact this.2.1
  · simp
theorem v_plays (h : CI S b n dd) {i : Int} (i1 : -2147483648 ≤ i) (i2 : i ≤ 2147483647) (hq : ∀ S', CK S S' → CI S' b n dd → Q (some (.int (J (vPlays b n i)))) S') : KC (d + 6) mX11_plays [.ref 0, .int (J i)] S Q := by
  have bad : ¬ (-1 ≤ i ∧ i ≤ 639) → Q (some (.int (-2))) S := fun q => by
    have := hq S CK_rfl h
    unfold vPlays at this
    rw [if_pos q] at this
    exact this
  refine eX11_plays (zRun_wp [] 60 ?_)
  refine ⟨fun q => ?_, fun q => ?_⟩ <;> rw [show (-1 : Int32) = J (-1) from rfl] at q <;> simp (disch := omega) only [J_lit, J_neg, J_add, J_sub, J_mul, J_nI, J_le, J_lt, J_eq, J_in, J_nat] at q
  · exact bad (by omega)
  refine ⟨fun q2 => ?_, fun q2 => ?_⟩ <;> simp (disch := omega) only [J_lit, J_neg, J_add, J_sub, J_mul, J_nI, J_le, J_lt, J_eq, J_in, J_nat] at q2
  rotate_left
  · exact bad (by omega)
  refine v_freshScore (d := d) h (fun S1 c1 k1 f1 _ _ => ?_)
  obtain ⟨-, -, -, -, -, -, -, -, o0, o1, o2⟩ := k1.2.2.2.1 f1
  have o0 : (odB b n).length ≤ 640 := o0
  have o1 : S1 16 1 = J (odB b n).length := o1
  have o2 : ∀ k, k < (odB b n).length → S1 17 k = J ((odB b n).getD k 0) := o2
  have hq1 := hq S1 c1 k1
  unfold vPlays at hq1
  rw [if_neg (by omega)] at hq1
  refine ⟨fun q3 => ?_, fun q3 => ?_⟩ <;> rw [show (-1 : Int32) = J (-1) from rfl] at q3 <;> simp (disch := omega) only [J_lit, J_neg, J_add, J_sub, J_mul, J_nI, J_le, J_lt, J_eq, J_in, J_nat] at q3
  rotate_left
  · rw [if_pos q3] at hq1
    rw [← o1] at hq1
    exact hq1
  rw [if_neg q3] at hq1
  refine ⟨fun q4 => ?_, fun q4 => ?_⟩ <;> rw [o1] at q4 <;> simp (disch := omega) only [J_lit, J_neg, J_add, J_sub, J_mul, J_nI, J_le, J_lt, J_eq, J_in, J_nat] at q4
  · rw [if_neg (by omega)] at hq1
    exact hq1
  · rw [if_pos (by omega)] at hq1
    have ix : (J i).toNatClampNeg = i.toNat := by simp (disch := omega) only [J_lit, J_neg, J_add, J_sub, J_mul, J_nI, J_le, J_lt, J_eq, J_in, J_nat]
    refine ⟨by simp (disch := omega) only [J_lit, J_neg, J_add, J_sub, J_mul, J_nI, J_le, J_lt, J_eq, J_in, J_nat]; omega, ?_⟩
    rw [ix, o2 i.toNat (by omega)]
    exact hq1
theorem cntL_le (p : Nat) (l : List Nat) (k : Nat) : cntL p l k ≤ k := by
  induction k with
  | zero => exact Nat.le_refl _
  | succ k ih => unfold cntL; split <;> omega
theorem odB_lt : ∀ k, k < (odB b n).length → (odB b n).getD k 0 < rmB b n := by
  intro k hk
  unfold odB rmB at *
  split at hk
  · rename_i f
    rw [if_pos f, if_pos f]
    rw [List.getD_eq_getElem?_getD, List.getElem?_eq_getElem hk, Option.getD_some]
    exact od_lt _ _ (List.getElem_mem hk)
  · exact absurd hk (Nat.not_lt_zero k)
theorem rmB_le (h : n 1 ≤ 40) : rmB b n ≤ 40 := by
  have := rm_le (b 1) (n 1)
  unfold rmB; split <;> omega
theorem v_often (h : CI S b n dd) {p : Int} (p1 : -2147483648 ≤ p) (p2 : p ≤ 2147483647) (hq : ∀ S', CK S S' → CI S' b n dd → Q (some (.int (J (vOften b n p)))) S') : KC (d + 6) mX11_often [.ref 0, .int (J p)] S Q := by
  have rl := rmB_le (b := b) (n := n) h.1.1.2.1
  have ol := odB_len h
  refine eX11_often (zRun_wp [23, 28] 60 ?_)
  refine v_freshScore (d := d) h (fun S1 c1 k1 f1 _ _ => ?_)
  obtain ⟨-, -, -, -, -, -, s7, -, o0, o1, o2⟩ := k1.2.2.2.1 f1
  have s7 : S1 11 1 = J (rmB b n) := s7
  have o0 : (odB b n).length ≤ 640 := o0
  have o1 : S1 16 1 = J (odB b n).length := o1
  have o2 : ∀ k, k < (odB b n).length → S1 17 k = J ((odB b n).getD k 0) := o2
  have hq1 := hq S1 c1 k1
  unfold vOften at hq1
  refine ⟨fun q => ?_, fun q => ?_⟩ <;> simp (disch := omega) only [J_lit, J_neg, J_add, J_sub, J_mul, J_nI, J_le, J_lt, J_eq, J_in, J_nat] at q
  · rw [if_neg (by omega)] at hq1; exact hq1
  refine ⟨fun q2 => ?_, fun q2 => ?_⟩ <;> rw [s7] at q2 <;> simp (disch := omega) only [J_lit, J_neg, J_add, J_sub, J_mul, J_nI, J_le, J_lt, J_eq, J_in, J_nat] at q2
  rotate_left
  · rw [if_neg (by omega)] at hq1; exact hq1
  rw [if_pos (by omega)] at hq1
  have loop : ∀ (r k : Nat) (x3 x4 : Int32), k + r = (odB b n).length → x3 = J (cntL p.toNat (odB b n) k) → x4 = J k → zWp shC (KC (d + 5)) kX11_often 1 Q 28 [some (.ref 0), some (.int (J p)), some (.ref 10), some (.int x3), some (.int x4)] [] S1 := by
    intro r
    induction r with
    | zero =>
      intro k x3 x4 hr e3 e4
      subst e3 e4
      have ek : k = (odB b n).length := by omega
      refine zRun_wp [28] 60 ?_
      refine ⟨fun _ => ?_, fun w => ?_⟩
      · rw [ek]; exact hq1
      · rw [o1] at w
        simp (disch := omega) only [J_lit, J_neg, J_add, J_sub, J_mul, J_nI, J_le, J_lt, J_eq, J_in, J_nat] at w
        omega
    | succ r ih =>
      intro k x3 x4 hr e3 e4
      subst e3 e4
      have cl := cntL_le p.toNat (odB b n) k
      have gl := odB_lt (b := b) (n := n) k (by omega)
      have ix : (J k).toNatClampNeg = k := by simp (disch := omega) only [J_lit, J_neg, J_add, J_sub, J_mul, J_nI, J_le, J_lt, J_eq, J_in, J_nat]; omega
      refine zRun_wp [28] 60 ?_
      refine ⟨fun w => ?_, fun _ => ?_⟩
      · rw [o1] at w
        simp (disch := omega) only [J_lit, J_neg, J_add, J_sub, J_mul, J_nI, J_le, J_lt, J_eq, J_in, J_nat] at w
        omega
      refine ⟨by simp (disch := omega) only [J_lit, J_neg, J_add, J_sub, J_mul, J_nI, J_le, J_lt, J_eq, J_in, J_nat]; omega, ?_⟩
      rw [ix, o2 k (by omega)]
      refine ⟨fun w => ?_, fun w => ?_⟩ <;> simp (disch := omega) only [J_lit, J_neg, J_add, J_sub, J_mul, J_nI, J_le, J_lt, J_eq, J_in, J_nat] at w
      · refine ih (k + 1) _ _ (by omega) ?_ (by simp only [J_lit, J_neg, J_add, J_sub, J_mul, J_nI]; congr 1)
        show _ = J (cntL p.toNat (odB b n) k + (if (odB b n).getD k 0 = p.toNat then 1 else 0) : Nat)
        rw [if_neg (by omega)]; rfl
      · refine ih (k + 1) _ _ (by omega) ?_ (by simp only [J_lit, J_neg, J_add, J_sub, J_mul, J_nI]; congr 1)
        show _ = J (cntL p.toNat (odB b n) k + (if (odB b n).getD k 0 = p.toNat then 1 else 0) : Nat)
        rw [if_pos (by omega)]
        simp only [J_lit, J_neg, J_add, J_sub, J_mul, J_nI]; congr 1
  show zWp shC (KC (d + 5)) kX11_often 1 Q 23 [some (.ref 0), some (.int (J p)), some (.ref 10), none, none] [] S1
  refine zRun_wp [28] 60 ?_
  exact loop (odB b n).length 0 _ _ (by omega) rfl rfl
theorem v_score (h : CI S b n dd) {w : Int} (w1 : -2147483648 ≤ w) (w2 : w ≤ 2147483647) (hq : ∀ S', CK S S' → CI S' b n dd → Q (some (.int (J (vScore b n w)))) S') : KC (d + 6) mX11_score [.ref 0, .int (J w)] S Q := by
  have bad : ¬ (0 ≤ w ∧ w ≤ 2) → Q (some (.int (-2))) S := fun q => by
    have := hq S CK_rfl h
    unfold vScore at this
    rw [if_pos q] at this
    exact this
  refine eX11_score (zRun_wp [] 60 ?_)
  refine ⟨fun q => ?_, fun q => ?_⟩ <;> simp (disch := omega) only [J_lit, J_neg, J_add, J_sub, J_mul, J_nI, J_le, J_lt, J_eq, J_in, J_nat] at q
  · exact bad (by omega)
  refine ⟨fun q2 => ?_, fun q2 => ?_⟩ <;> simp (disch := omega) only [J_lit, J_neg, J_add, J_sub, J_mul, J_nI, J_le, J_lt, J_eq, J_in, J_nat] at q2
  rotate_left
  · exact bad (by omega)
  refine v_freshScore (d := d) h (fun S1 c1 k1 f1 _ _ => ?_)
  obtain ⟨-, -, -, -, s5, s6, s7, -⟩ := k1.2.2.2.1 f1
  have hq1 := hq S1 c1 k1
  unfold vScore at hq1
  rw [if_neg (by omega)] at hq1
  refine ⟨fun q3 => ?_, fun q3 => ?_⟩ <;> simp (disch := omega) only [J_lit, J_neg, J_add, J_sub, J_mul, J_nI, J_le, J_lt, J_eq, J_in, J_nat] at q3
  rotate_left
  · rw [if_pos q3] at hq1
    rw [← s7] at hq1
    exact hq1
  rw [if_neg q3] at hq1
  refine ⟨fun q4 => ?_, fun q4 => ?_⟩ <;> simp (disch := omega) only [J_lit, J_neg, J_add, J_sub, J_mul, J_nI, J_le, J_lt, J_eq, J_in, J_nat] at q4
  · rw [if_neg q4] at hq1
    rw [← s6] at hq1
    exact hq1
  · rw [if_pos q4] at hq1
    rw [← s5] at hq1
    exact hq1
end cq
