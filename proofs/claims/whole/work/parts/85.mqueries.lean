section mq
variable {d : Nat} {S : zS} {Q : Option Value → zS → Prop} {b : Nat → Nat → Int} {n : Nat → Nat} {dd : Nat}
theorem in_b {lo hi z : Int} (l1 : -2147483648 ≤ lo) (l2 : lo ≤ 2147483647) (h1 : -2147483648 ≤ hi) (h2 : hi ≤ 2147483647) (z1 : -2147483648 ≤ z) (z2 : z ≤ 2147483647) : bb (J lo ≤ J z ∧ J z ≤ J hi) = bb (lo ≤ z ∧ z ≤ hi) := by
  refine bb_c ?_
  rw [J_le l1 l2 z1 z2, J_le z1 z2 h1 h2]
theorem w_inJ {x y v : Int32} {lo hi z : Int} (e0 : v = J z) (e1 : x = J lo) (e2 : y = J hi) (l1 : -2147483648 ≤ lo) (l2 : lo ≤ 2147483647) (h1 : -2147483648 ≤ hi) (h2 : hi ≤ 2147483647) (z1 : -2147483648 ≤ z) (z2 : z ≤ 2147483647) (h : Q (some (.int (bb (lo ≤ z ∧ z ≤ hi)))) S) : KM (d + 1) mX12_in [.long v.toInt64, .long x.toInt64, .long y.toInt64] S Q := by
  subst e0 e1 e2
  refine w_inI ?_
  rw [in_b l1 l2 h1 h2 z1 z2]
  exact h
theorem w_fault (h : MI S b n dd) {t w : Int} (t1 : -2147483648 ≤ t) (t2 : t ≤ 2147483647) (w1 : -2147483648 ≤ w) (w2 : w ≤ 2147483647) (hq : ∀ S', MKK S S' → Q (some (.int (J (vFault b n t w)))) S') : KM (d + 7) mX12_fault [.ref 0, .int (J t), .int (J w)] S Q := by
  have bad : ¬ ((0 ≤ t ∧ t ≤ 1) ∧ 0 ≤ w ∧ w ≤ 2) → Q (some (.int (-2))) S := fun q => by
    have := hq S MKK_rfl
    unfold vFault at this
    rw [if_pos q] at this
    exact this
  refine eX12_fault (zRun_wp [] 60 ?_)
  refine w_isTwo (d := d + 4) ?_
  refine ⟨fun q => ?_, fun q => ?_⟩ <;> rw [bb_0] at q <;> simp (disch := omega) only [J_lit, J_neg, J_add, J_sub, J_mul, J_nI, J_le, J_lt, J_eq, J_in, J_nat] at q
  · exact bad (fun z => q z.1)
  refine w_inJ (d := d + 5) (z := w) (lo := 0) (hi := 2) rfl rfl rfl (by omega) (by omega) (by omega) (by omega) w1 w2 ?_
  refine ⟨fun q2 => ?_, fun q2 => ?_⟩ <;> rw [bb_0] at q2
  · exact bad (fun z => q2 z.2)
  by_cases t0 : t = 0
  · subst t0
    exact w_faultBy0 (d := d + 2) h (by omega) (by omega) hq
  · have t1 : t = 1 := by omega
    subst t1
    exact w_faultBy1 (d := d) h (by omega) (by omega) (fun S' k _ => hq S' k)
theorem w_within (h : MI S b n dd) {j : Int} (j1 : -2147483648 ≤ j) (j2 : j ≤ 2147483647) (hq : ∀ S', MKK S S' → Q (some (.int (J (vWithin b n j)))) S') : KM (d + 6) mX12_within [.ref 0, .int (J j)] S Q := by
  obtain ⟨⟨⟨n0, n1, b0, b1⟩, t1, t2, t3, t4⟩, hd, hdd⟩ := h
  refine eX12_within (zRun_wp [] 60 ?_)
  refine w_readsScore (d := d) n1 b1 t3 t4 (fun S1 k1 f1 => ?_)
  have hq1 := hq S1 ⟨fun c c0 c8 => k1.1 c c0 (by omega), k1.2 4 (by decide), k1.2 8 (by decide)⟩
  refine w_inJ (d := d + 4) (z := j) (lo := 0) (hi := 2) rfl rfl rfl (by omega) (by omega) (by omega) (by omega) j1 j2 ?_
  refine ⟨fun q => ?_, fun q => ?_⟩ <;> rw [bb_0] at q
  · unfold vWithin at hq1
    rw [if_pos q] at hq1; exact hq1
  · exact w_withinBy (d := d + 4) f1 (by omega) (by omega) hq1
theorem w_bar (h : MI S b n dd) {i : Int} (i1 : -2147483648 ≤ i) (i2 : i ≤ 2147483647) (hq : ∀ S', MKK S S' → Q (some (.int (J (vBar b n i)))) S') : KM (d + 8) mX12_bar [.ref 0, .int (J i)] S Q := by
  have hN := nB_le (b := b) h.1.1.1
  refine eX12_bar (zRun_wp [] 60 ?_)
  refine w_find (d := d) h (fun S1 k1 f1 => ?_)
  have hq1 := hq S1 k1
  unfold vBar at hq1
  obtain ⟨r1, r2, r3, r4⟩ := f1.1
  refine eX12_isBar (zRun_wp [] 60 ?_)
  refine w_inJ (d := d + 5) (z := i) (lo := 0) (hi := (nB b n : Int) - 1) rfl rfl (by rw [r1]; simp only [J_lit, J_neg, J_add, J_sub, J_mul, J_nI]) (by omega) (by omega) (by omega) (by omega) i1 i2 ?_
  refine ⟨bb_01, ?_⟩
  refine ⟨fun q => ?_, fun q => ?_⟩ <;> rw [bb_0] at q
  · rw [if_neg (by omega)] at hq1; exact hq1
  · rw [if_pos (by omega)] at hq1
    have ix : (J i).toNatClampNeg = i.toNat := by simp (disch := omega) only [J_lit, J_neg, J_add, J_sub, J_mul, J_nI, J_le, J_lt, J_eq, J_in, J_nat]
    refine ⟨by simp (disch := omega) only [J_lit, J_neg, J_add, J_sub, J_mul, J_nI, J_le, J_lt, J_eq, J_in, J_nat]; omega, ?_⟩
    rw [ix, r4 i.toNat (by omega)]
    exact hq1
theorem w_alike (h : MI S b n dd) {i j : Int} (i1 : -2147483648 ≤ i) (i2 : i ≤ 2147483647) (j1 : -2147483648 ≤ j) (j2 : j ≤ 2147483647) (hq : ∀ S', MKK S S' → Q (some (.int (J (vAlike b n i j)))) S') : KM (d + 8) mX12_alike [.ref 0, .int (J i), .int (J j)] S Q := by
  refine eX12_alike (zRun_wp [] 60 ?_)
  refine w_find (d := d) h (fun S1 k1 f1 => ?_)
  have hq1 := hq S1 k1
  unfold vAlike at hq1
  refine w_inJ (d := d + 6) (z := i) (lo := 0) (hi := 24) rfl rfl rfl (by omega) (by omega) (by omega) (by omega) i1 i2 ?_
  refine ⟨fun q => ?_, fun q => ?_⟩ <;> rw [bb_0] at q
  · rw [if_neg (by omega)] at hq1; exact hq1
  refine w_inJ (d := d + 6) (z := j) (lo := 0) (hi := 24) rfl rfl rfl (by omega) (by omega) (by omega) (by omega) j1 j2 ?_
  refine ⟨fun q2 => ?_, fun q2 => ?_⟩ <;> rw [bb_0] at q2
  · rw [if_neg (by omega)] at hq1; exact hq1
  rw [if_pos (by omega)] at hq1
  have ix : (25 * J i + J j).toNatClampNeg = 25 * i.toNat + j.toNat := by simp (disch := omega) only [J_lit, J_neg, J_add, J_sub, J_mul, J_nI, J_le, J_lt, J_eq, J_in, J_nat]; omega
  refine ⟨by simp (disch := omega) only [J_lit, J_neg, J_add, J_sub, J_mul, J_nI, J_le, J_lt, J_eq, J_in, J_nat]; omega, ?_⟩
  rw [ix, show S1 18 (25 * i.toNat + j.toNat) = _ from f1.2.2.2 i.toNat j.toNat (by omega) (by omega)]
  exact hq1
theorem w_isPlace (hF : MFi S b n) (hN : nB b n ≤ 24) {i : Int} (i1 : -2147483648 ≤ i) (i2 : i ≤ 2147483647) (hq : Q (some (.int (bb (0 ≤ i ∧ i ≤ nB b n)))) S) : KM (d + 2) mX12_isPlace [.ref 0, .int (J i)] S Q := by
  refine eX12_isPlace (zRun_wp [] 60 ?_)
  refine w_inJ (d := d) (z := i) (lo := 0) (hi := (nB b n : Int)) rfl rfl hF.1.1 (by omega) (by omega) (by omega) (by omega) i1 i2 ?_
  exact ⟨bb_01, hq⟩
theorem w_again (h : MI S b n dd) {i j : Int} (i1 : -2147483648 ≤ i) (i2 : i ≤ 2147483647) (j1 : -2147483648 ≤ j) (j2 : j ≤ 2147483647) (hq : ∀ S', MKK S S' → Q (some (.int (J (vAgain b n i j)))) S') : KM (d + 8) mX12_again [.ref 0, .int (J i), .int (J j)] S Q := by
  have hN := nB_le (b := b) h.1.1.1
  refine eX12_again (zRun_wp [] 60 ?_)
  refine w_find (d := d) h (fun S1 k1 f1 => ?_)
  have hq1 := hq S1 k1
  have bad : ¬ ((0 ≤ i ∧ i ≤ nB b n) ∧ 0 ≤ j ∧ j ≤ nB b n) → Q (some (.int (-2))) S1 := fun q => by
    unfold vAgain at hq1
    rw [if_pos q] at hq1
    exact hq1
  refine w_isPlace (d := d + 5) f1 hN i1 i2 ?_
  refine ⟨fun q => ?_, fun q => ?_⟩ <;> rw [bb_0] at q
  · exact bad (fun z => q z.1)
  refine w_isPlace (d := d + 5) f1 hN j1 j2 ?_
  refine ⟨fun q2 => ?_, fun q2 => ?_⟩ <;> rw [bb_0] at q2
  · exact bad (fun z => q2 z.2)
  exact w_againBy (d := d + 6) f1 hN (by omega) (by omega) (by omega) (by omega) hq1
theorem w_plays (h : MI S b n dd) {i : Int} (i1 : -2147483648 ≤ i) (i2 : i ≤ 2147483647) (hq : ∀ S', MKK S S' → Q (some (.int (J (vPlays b n i)))) S') : KM (d + 8) mX12_plays [.ref 0, .int (J i)] S Q := by
  refine eX12_plays (zRun_wp [] 60 ?_)
  refine w_find (d := d) h (fun S1 k1 f1 => ?_)
  refine w_plAll (d := d + 3) (MI_k h k1) f1 (fun S2 k2 p2 => ?_)
  have hq1 := hq S2 (MKK_tr k1 (PK_M k2))
  refine w_inJ (d := d + 6) (z := i) (lo := -1) (hi := 639) rfl rfl rfl (by omega) (by omega) (by omega) (by omega) i1 i2 ?_
  refine ⟨fun q => ?_, fun q => ?_⟩ <;> rw [bb_0] at q
  · unfold vPlays at hq1
    rw [if_pos q] at hq1; exact hq1
  · exact w_playsBy (d := d + 6) p2 (by omega) (by omega) hq1
theorem w_often (h : MI S b n dd) {p : Int} (p1 : -2147483648 ≤ p) (p2 : p ≤ 2147483647) (hq : ∀ S', MKK S S' → Q (some (.int (J (vOften b n p)))) S') : KM (d + 8) mX12_often [.ref 0, .int (J p)] S Q := by
  have rl := rmB_le (b := b) (n := n) h.1.1.2.1
  refine eX12_often (zRun_wp [] 60 ?_)
  refine w_find (d := d) h (fun S1 k1 f1 => ?_)
  refine w_plAll (d := d + 3) (MI_k h k1) f1 (fun S2 k2 o2 => ?_)
  have hq1 := hq S2 (MKK_tr k1 (PK_M k2))
  have g5 : S2 0 24 = J (rmB b n) := (PK_Fi k2 f1).2.1.2.2.2.2.1
  refine w_inJ (d := d + 6) (z := p) (lo := 0) (hi := (rmB b n : Int) - 1) rfl rfl (by rw [g5]; simp only [J_lit, J_neg, J_add, J_sub, J_mul, J_nI]) (by omega) (by omega) (by omega) (by omega) p1 p2 ?_
  refine ⟨fun q => ?_, fun q => ?_⟩ <;> rw [bb_0] at q
  · unfold vOften at hq1
    rw [if_neg (by omega)] at hq1; exact hq1
  · exact w_oftenBy (d := d + 6) o2 h.1.1.2.1 (by omega) (by omega) hq1
theorem w_score (h : MI S b n dd) {w : Int} (w1 : -2147483648 ≤ w) (w2 : w ≤ 2147483647) (hq : ∀ S', MKK S S' → Q (some (.int (J (vScore b n w)))) S') : KM (d + 8) mX12_score [.ref 0, .int (J w)] S Q := by
  refine eX12_score (zRun_wp [] 60 ?_)
  refine w_find (d := d) h (fun S1 k1 f1 => ?_)
  have hq1 := hq S1 k1
  refine w_inJ (d := d + 6) (z := w) (lo := 0) (hi := 2) rfl rfl rfl (by omega) (by omega) (by omega) (by omega) w1 w2 ?_
  refine ⟨fun q => ?_, fun q => ?_⟩ <;> rw [bb_0] at q
  · unfold vScore at hq1
    rw [if_pos q] at hq1; exact hq1
  · exact w_scoreBy (d := d + 6) f1.2.1 (by omega) (by omega) hq1
theorem w_first (h : MI S b n dd) (hq : ∀ S', MKK S S' → Q (some (.int (J (vFirst b n)))) S') : KM (d + 8) mX12_first [.ref 0] S Q := by
  have hN := nB_le (b := b) h.1.1.1
  refine eX12_first (zRun_wp [] 60 ?_)
  refine w_find (d := d) h (fun S1 k1 f1 => ?_)
  refine w_plAll (d := d + 3) (MI_k h k1) f1 (fun S2 k2 p2 => ?_)
  exact w_firstNow (d := d + 6) (PK_Fi k2 f1) p2 hN h.1.1.2.1 (hq S2 (MKK_tr k1 (PK_M k2)))
theorem vFirst_rng (hN : nB b n ≤ 24) : -1 ≤ vFirst b n ∧ vFirst b n ≤ 100 := by
  have fl := fsl_le b n (Nat.min (nB b n) (odB b n).length)
  have m1 : Nat.min (nB b n) (odB b n).length ≤ nB b n := Nat.min_le_left _ _
  unfold vFirst; split <;> (try split) <;> omega
theorem w_same (h : MI S b n dd) (hq : ∀ S', MKK S S' → Q (some (.int (J (vSame b n)))) S') : KM (d + 8) mX12_same [.ref 0] S Q := by
  have hN := nB_le (b := b) h.1.1.1
  have vr := vFirst_rng (b := b) (n := n) hN
  refine eX12_same (zRun_wp [] 60 ?_)
  refine w_find (d := d) h (fun S1 k1 f1 => ?_)
  refine w_plAll (d := d + 3) (MI_k h k1) f1 (fun S2 k2 p2 => ?_)
  refine w_firstNow (d := d + 6) (PK_Fi k2 f1) p2 hN h.1.1.2.1 ?_
  have hq1 := hq S2 (MKK_tr k1 (PK_M k2))
  unfold vSame at hq1
  refine ⟨fun w => ?_, fun w => ?_⟩ <;> rw [show (-1 : Int32) = J (-1) from rfl] at w <;> simp (disch := omega) only [J_lit, J_neg, J_add, J_sub, J_mul, J_nI, J_le, J_lt, J_eq, J_in, J_nat] at w
  · rw [if_neg w] at hq1; exact hq1
  · rw [if_pos w] at hq1; exact hq1
theorem w_span (h : MI S b n dd) {e i j w : Int} (e1 : -2147483648 ≤ e) (e2 : e ≤ 2147483647) (i1 : -2147483648 ≤ i) (i2 : i ≤ 2147483647) (j1 : -2147483648 ≤ j) (j2 : j ≤ 2147483647) (w1 : -2147483648 ≤ w) (w2 : w ≤ 2147483647) (hq : ∀ S', MKK S S' → Q (some (.int (J (vSpan b n e i j w)))) S') : KM (d + 8) mX12_span [.ref 0, .int (J e), .int (J i), .int (J j), .int (J w)] S Q := by
  have hN := nB_le (b := b) h.1.1.1
  refine eX12_span (zRun_wp [] 80 ?_)
  refine w_find (d := d) h (fun S1 k1 f1 => ?_)
  refine w_tables (d := d + 4) hN f1.2.2.1 f1.2.2.2 (fun S2 t1 t2 => ?_)
  have t1 : ∀ c, c ≠ 22 → c ≠ 23 → S2 c = S1 c := t1
  have f2 : MFi S2 b n := MFi_k f1 (fun c c1 c2 => t1 c (by omega) (by omega)) (fun j hj => by rw [t1 0 (by decide) (by decide)])
  have hq1 := hq S2 (MKK_tr k1 ⟨fun c c0 c8 => t1 c (by omega) (by omega), by rw [t1 0 (by decide) (by decide)], by rw [t1 0 (by decide) (by decide)]⟩)
  have bad : ¬ ((0 ≤ e ∧ e ≤ 3) ∧ (0 ≤ i ∧ i ≤ nB b n) ∧ (0 ≤ j ∧ j ≤ nB b n) ∧ 0 ≤ w ∧ w ≤ 1) → Q (some (.int (-2))) S2 := fun q => by
    unfold vSpan at hq1
    rw [if_pos q] at hq1
    exact hq1
  refine w_inJ (d := d + 6) (z := e) (lo := 0) (hi := 3) rfl rfl rfl (by omega) (by omega) (by omega) (by omega) e1 e2 ?_
  refine ⟨fun q => ?_, fun q => ?_⟩ <;> rw [bb_0] at q
  · exact bad (fun z => q z.1)
  refine w_isPlace (d := d + 5) f2 hN i1 i2 ?_
  refine ⟨fun q2 => ?_, fun q2 => ?_⟩ <;> rw [bb_0] at q2
  · exact bad (fun z => q2 z.2.1)
  refine w_isPlace (d := d + 5) f2 hN j1 j2 ?_
  refine ⟨fun q3 => ?_, fun q3 => ?_⟩ <;> rw [bb_0] at q3
  · exact bad (fun z => q3 z.2.2.1)
  refine w_isTwo (d := d + 5) ?_
  refine ⟨fun q4 => ?_, fun q4 => ?_⟩ <;> rw [bb_0] at q4 <;> simp (disch := omega) only [J_lit, J_neg, J_add, J_sub, J_mul, J_nI, J_le, J_lt, J_eq, J_in, J_nat] at q4
  · exact bad (fun z => q4 z.2.2.2)
  exact w_spanBy (d := d + 6) t2 hN (by omega) (by omega) (by omega) (by omega) (by omega) (by omega) (by omega) (by omega) hq1
theorem w_found (h : MI S b n dd) {w : Int} (w1 : -2147483648 ≤ w) (w2 : w ≤ 2147483647) (hq : ∀ S', MKK S S' → Q (some (.int (J (vFound b n dd w)))) S') : KM (d + 9) mX12_found [.ref 0, .int (J w)] S Q := by
  have hN := nB_le (b := b) h.1.1.1
  refine eX12_found (zRun_wp [] 60 ?_)
  refine w_findAll (d := d) h (fun S1 k1 f1 => ?_)
  have hq1 := hq S1 k1
  refine w_inJ (d := d + 7) (z := w) (lo := 0) (hi := 3) rfl rfl rfl (by omega) (by omega) (by omega) (by omega) w1 w2 ?_
  refine ⟨fun q => ?_, fun q => ?_⟩ <;> rw [bb_0] at q
  · unfold vFound at hq1
    rw [if_pos q] at hq1; exact hq1
  · exact w_foundBy (d := d + 7) f1 hN (by omega) (by omega) hq1
theorem w_shown (h : MI S b n dd) {i : Int} (i1 : -2147483648 ≤ i) (i2 : i ≤ 2147483647) (hq : ∀ S', MKK S S' → Q (some (.int (J (vShown b n dd i)))) S') : KM (d + 9) mX12_shown [.ref 0, .int (J i)] S Q := by
  refine eX12_shown (zRun_wp [] 60 ?_)
  refine w_findAll (d := d) h (fun S1 k1 f1 => ?_)
  have hq1 := hq S1 k1
  refine w_inJ (d := d + 7) (z := i) (lo := 0) (hi := 59) rfl rfl rfl (by omega) (by omega) (by omega) (by omega) i1 i2 ?_
  refine ⟨fun q => ?_, fun q => ?_⟩ <;> rw [bb_0] at q
  · unfold vShown at hq1
    rw [if_pos q] at hq1; exact hq1
  · exact w_shownBy (d := d + 7) f1.2.2.2 (by omega) (by omega) hq1
theorem w_mds (h : MI S b n dd) (f : MFi S b n) (hq : ∀ S', MKK S S' → MdM S' (md (gB b n) (nB b n) dd (nB b n)) → Q none S') : KM (d + 5) mX12_mends [.ref 0] S Q := by
  have hN := nB_le (b := b) h.1.1.1
  refine w_mends (d := d) hN f.1.1 f.1.2.2.2 h.2.1 h.2.2 (fun S1 k1 _ _ m1 => ?_)
  have k1 : (∀ c, c ≠ 0 → c ≠ 17 → c ≠ 18 → c ≠ 22 → c ≠ 23 → S1 c = S c) ∧ ∀ i, i ≠ 30 → (i < 38 ∨ 41 < i) → i ≠ 46 → i ≠ 47 → S1 0 i = S 0 i := k1
  exact hq S1 ⟨fun c c0 c8 => k1.1 c c0 (by omega) (by omega) (by omega) (by omega), k1.2 4 (by decide) (by decide) (by decide) (by decide), k1.2 8 (by decide) (by decide) (by decide) (by decide)⟩ m1
theorem w_mend (h : MI S b n dd) {w : Int} (w1 : -2147483648 ≤ w) (w2 : w ≤ 2147483647) (hq : ∀ S', MKK S S' → Q (some (.int (J (vMend b n dd w)))) S') : KM (d + 8) mX12_mend [.ref 0, .int (J w)] S Q := by
  have hN := nB_le (b := b) h.1.1.1
  refine eX12_mend (zRun_wp [] 60 ?_)
  refine w_find (d := d) h (fun S1 k1 f1 => ?_)
  refine w_mds (d := d + 2) (MI_k h k1) f1 (fun S2 k2 m2 => ?_)
  have hq1 := hq S2 (MKK_tr k1 k2)
  refine w_inJ (d := d + 6) (z := w) (lo := 0) (hi := 2) rfl rfl rfl (by omega) (by omega) (by omega) (by omega) w1 w2 ?_
  refine ⟨fun q => ?_, fun q => ?_⟩ <;> rw [bb_0] at q
  · unfold vMend at hq1
    rw [if_pos q] at hq1; exact hq1
  · exact w_mendBy (d := d + 6) m2 hN (by omega) (by omega) hq1
theorem w_foundByE {x : Int32} {w : Int} (ex : x = J w) (hF : MFa S b n dd) (hN : nB b n ≤ 24) (w1 : 0 ≤ w) (w2 : w ≤ 3) (hq : Q (some (.int (J (vFound b n dd w)))) S) : KM (d + 1) mX12_foundBy [.ref 0, .int x] S Q := by
  subst ex; exact w_foundBy hF hN w1 w2 hq
theorem w_count (h : MI S b n dd) {w : Int} (w1 : -2147483648 ≤ w) (w2 : w ≤ 2147483647) (hq : ∀ S', MKK S S' → Q (some (.int (vCount b n dd (S 0 4) w))) S') : KM (d + 9) mX12_count [.ref 0, .int (J w)] S Q := by
  have hN := nB_le (b := b) h.1.1.1
  have wi : (J w).toInt = w := J_int w1 w2
  refine eX12_count (zRun_wp [] 60 ?_)
  refine w_findAll (d := d) h (fun S1 k1 f1 => ?_)
  refine w_plAll (d := d + 4) (MI_k h k1) f1.1 (fun S2 k2 p2 => ?_)
  have k12 := MKK_tr k1 (PK_M k2)
  have f2 := PK_Fi k2 f1.1
  have h2 := MI_k h k12
  have hq1 := hq S2 k12
  have fa : MFa S2 b n dd := by
    refine ⟨f2, fun d' i' j' a b c => ?_, ?_, ?_⟩
    · have := f1.2.1 d' i' j' a b c
      unfold MOk at this ⊢
      rw [k2.1 A_cost (by decide) (by decide) (by decide) (by decide), k2.1 A_how (by decide) (by decide) (by decide) (by decide)]
      exact this
    · have := f1.2.2.1
      unfold MJ at this ⊢
      rw [k2.2 38 (by decide), k2.2 39 (by decide), k2.2 40 (by decide), k2.2 41 (by decide)]
      exact this
    · have := f1.2.2.2
      unfold OutOk at this ⊢
      rw [k2.2 43 (by decide), k2.1 24 (by decide) (by decide) (by decide) (by decide)]
      exact this
  unfold vCount at hq1
  have in0 : vp_in (0 : Int32) 2 := in2 0 (by decide)
  have in1 : vp_in (1 : Int32) 2 := in2 1 (by decide)
  refine ⟨fun z => ?_, fun z => ?_, fun z => ?_, fun z => ?_, fun z => ?_, fun z => ?_, fun z => ?_, fun z => ?_, fun z => ?_, fun z => ?_, trivial⟩ <;> rw [wi] at z
  · rw [if_neg (by omega), if_neg (by omega), if_neg (by omega), if_neg (by omega), if_neg (by omega), if_neg (by omega), if_neg (by omega), if_neg (by omega), if_neg (by omega)] at hq1
    exact hq1
  · rw [if_pos (by omega)] at hq1
    refine ⟨in0, in1, ?_⟩
    have e : S2 7 (0 : Int32).toNatClampNeg + S2 7 (1 : Int32).toNatClampNeg = J (n 0 + n 1 : Nat) := by
      show S2 7 0 + S2 7 1 = _
      rw [h2.1.2.1, h2.1.2.2.2.1]; simp only [J_lit, J_neg, J_add, J_sub, J_mul, J_nI]; congr 1
    rw [← e] at hq1
    exact hq1
  · rw [if_neg (by omega), if_pos (by omega)] at hq1
    rw [← f2.1.1] at hq1
    exact hq1
  · rw [if_neg (by omega), if_neg (by omega), if_pos (by omega)] at hq1
    rw [← f2.1.2.2.1] at hq1
    exact hq1
  · rw [if_neg (by omega), if_neg (by omega), if_neg (by omega), if_pos (by omega)] at hq1
    rw [← h2.2.1] at hq1
    exact hq1
  · rw [if_neg (by omega), if_neg (by omega), if_neg (by omega), if_neg (by omega), if_pos (by omega)] at hq1
    rw [← p2.2.1] at hq1
    exact hq1
  · rw [if_neg (by omega), if_neg (by omega), if_neg (by omega), if_neg (by omega), if_neg (by omega), if_pos (by omega)] at hq1
    have g5 : S2 0 24 = J (rmB b n) := f2.2.1.2.2.2.2.1
    rw [← g5] at hq1
    exact hq1
  · rw [if_neg (by omega), if_neg (by omega), if_neg (by omega), if_neg (by omega), if_neg (by omega), if_neg (by omega), if_pos (by omega)] at hq1
    have e : J w - 6 = J 0 := by simp only [J_lit, J_neg, J_add, J_sub, J_mul, J_nI]; congr 1; omega
    refine w_foundByE (d := d + 7) e fa hN (by omega) (by omega) ?_
    unfold vFound
    rw [if_neg (by omega), if_pos rfl]
    exact hq1
  · rw [if_neg (by omega), if_neg (by omega), if_neg (by omega), if_neg (by omega), if_neg (by omega), if_neg (by omega), if_neg (by omega), if_pos (by omega)] at hq1
    have e : J w - 6 = J 1 := by simp only [J_lit, J_neg, J_add, J_sub, J_mul, J_nI]; congr 1; omega
    refine w_foundByE (d := d + 7) e fa hN (by omega) (by omega) ?_
    unfold vFound
    rw [if_neg (by omega), if_neg (by decide), if_pos rfl]
    exact hq1
  · rw [if_neg (by omega), if_neg (by omega), if_neg (by omega), if_neg (by omega), if_neg (by omega), if_neg (by omega), if_neg (by omega), if_neg (by omega), if_pos (by omega)] at hq1
    rw [← k12.2.1] at hq1
    exact hq1
end mq
