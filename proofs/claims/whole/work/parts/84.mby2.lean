section mby
variable {d : Nat} {S : zS} {Q : Option Value → zS → Prop} {b : Nat → Nat → Int} {n : Nat → Nat} {dd : Nat}
theorem w_playsBy (hP : PlO S (odB b n)) {i : Int} (i1 : -1 ≤ i) (i2 : i ≤ 639) (hq : Q (some (.int (J (vPlays b n i)))) S) : KM (d + 1) mX12_playsBy [.ref 0, .int (J i)] S Q := by
  obtain ⟨o0, o1, o2⟩ := hP
  unfold vPlays at hq
  rw [if_neg (by omega)] at hq
  generalize odB b n = L at o0 o1 o2 hq
  refine eX12_playsBy (zRun_wp [] 60 ?_)
  refine ⟨fun q => ?_, fun q => ?_⟩ <;> rw [show (-1 : Int32) = J (-1) from rfl] at q <;> simp (disch := omega) only [J_lit, J_neg, J_add, J_sub, J_mul, J_nI, J_le, J_lt, J_eq, J_in, J_nat] at q
  rotate_left
  · rw [if_pos q] at hq
    rw [← o1] at hq; exact hq
  rw [if_neg q] at hq
  refine ⟨fun q2 => ?_, fun q2 => ?_⟩ <;> rw [o1] at q2 <;> simp (disch := omega) only [J_lit, J_neg, J_add, J_sub, J_mul, J_nI, J_le, J_lt, J_eq, J_in, J_nat] at q2
  · rw [if_neg (by omega)] at hq; exact hq
  · rw [if_pos (by omega)] at hq
    have ix : (J i).toNatClampNeg = i.toNat := by simp (disch := omega) only [J_lit, J_neg, J_add, J_sub, J_mul, J_nI, J_le, J_lt, J_eq, J_in, J_nat]
    refine ⟨by simp (disch := omega) only [J_lit, J_neg, J_add, J_sub, J_mul, J_nI, J_le, J_lt, J_eq, J_in, J_nat]; omega, ?_⟩
    rw [ix, o2 i.toNat (by omega)]
    exact hq
theorem w_oftenBy (hP : PlO S (odB b n)) (hn : n 1 ≤ 40) {p : Int} (p1 : 0 ≤ p) (p2 : p < rmB b n) (hq : Q (some (.int (J (vOften b n p)))) S) : KM (d + 1) mX12_oftenBy [.ref 0, .int (J p)] S Q := by
  obtain ⟨o0, o1, o2⟩ := hP
  have rl := rmB_le (b := b) (n := n) hn
  unfold vOften at hq
  rw [if_pos (by omega)] at hq
  have loop : ∀ (r k : Nat) (x2 x3 : Int32), k + r = (odB b n).length → x2 = J (cntL p.toNat (odB b n) k) → x3 = J k → zWp shM (KM d) kX12_oftenBy 1 Q 4 [some (.ref 0), some (.int (J p)), some (.int x2), some (.int x3)] [] S := by
    intro r
    induction r with
    | zero =>
      intro k x2 x3 hr e2 e3
      subst e2 e3
      have ek : k = (odB b n).length := by omega
      refine zRun_wp [4] 60 ?_
      refine ⟨fun _ => ?_, fun w => ?_⟩
      · rw [ek]; exact hq
      · rw [o1] at w
        simp (disch := omega) only [J_lit, J_neg, J_add, J_sub, J_mul, J_nI, J_le, J_lt, J_eq, J_in, J_nat] at w
        omega
    | succ r ih =>
      intro k x2 x3 hr e2 e3
      subst e2 e3
      have gl := odB_lt (b := b) (n := n) k (by omega)
      have ix : (J k).toNatClampNeg = k := by simp (disch := omega) only [J_lit, J_neg, J_add, J_sub, J_mul, J_nI, J_le, J_lt, J_eq, J_in, J_nat]; omega
      refine zRun_wp [4] 60 ?_
      refine ⟨fun w => ?_, fun _ => ?_⟩
      · rw [o1] at w
        simp (disch := omega) only [J_lit, J_neg, J_add, J_sub, J_mul, J_nI, J_le, J_lt, J_eq, J_in, J_nat] at w
        omega
      refine ⟨by simp (disch := omega) only [J_lit, J_neg, J_add, J_sub, J_mul, J_nI, J_le, J_lt, J_eq, J_in, J_nat]; omega, ?_⟩
      rw [ix, o2 k (by omega)]
      refine ⟨fun w => ?_, fun w => ?_⟩ <;> simp (disch := omega) only [J_lit, J_neg, J_add, J_sub, J_mul, J_nI, J_le, J_lt, J_eq, J_in, J_nat] at w
      · refine ih (k + 1) _ _ (by omega) ?_ (by simp only [J_lit, J_neg, J_add, J_sub, J_mul, J_nI]; congr 1)
        show _ = J (cntL p.toNat (odB b n) k + (if (odB b n).getD k 0 = p.toNat then 1 else 0) : Nat)
        rw [if_neg (by omega)]
        simp only [J_lit, J_neg, J_add, J_sub, J_mul, J_nI]; congr 1
      · refine ih (k + 1) _ _ (by omega) ?_ (by simp only [J_lit, J_neg, J_add, J_sub, J_mul, J_nI]; congr 1)
        show _ = J (cntL p.toNat (odB b n) k + (if (odB b n).getD k 0 = p.toNat then 1 else 0) : Nat)
        rw [if_pos (by omega)]
        simp only [J_lit, J_neg, J_add, J_sub, J_mul, J_nI]; congr 1
  refine eX12_oftenBy (zRun_wp [4] 60 ?_)
  exact loop (odB b n).length 0 _ _ (by omega) rfl rfl
theorem w_scoreBy (hF : MoF S (b 1) (n 1)) {w : Int} (w1 : 0 ≤ w) (w2 : w ≤ 2) (hq : Q (some (.int (J (vScore b n w)))) S) : KM (d + 1) mX12_scoreBy [.ref 0, .int (J w)] S Q := by
  obtain ⟨-, -, -, -, g5, g6, g7, -⟩ := hF
  have g5 : S 0 24 = J (rmB b n) := g5
  have g6 : S 0 25 = J (scB b n) := g6
  have g7 : S 0 26 = J (dpB b n) := g7
  unfold vScore at hq
  rw [if_neg (by omega)] at hq
  refine eX12_scoreBy (zRun_wp [] 60 ?_)
  refine ⟨fun q => ?_, fun q => ?_⟩ <;> simp (disch := omega) only [J_lit, J_neg, J_add, J_sub, J_mul, J_nI, J_le, J_lt, J_eq, J_in, J_nat] at q
  rotate_left
  · rw [if_pos q] at hq
    rw [← g5] at hq; exact hq
  rw [if_neg q] at hq
  refine ⟨fun q2 => ?_, fun q2 => ?_⟩ <;> simp (disch := omega) only [J_lit, J_neg, J_add, J_sub, J_mul, J_nI, J_le, J_lt, J_eq, J_in, J_nat] at q2
  · rw [if_neg q2] at hq
    rw [← g7] at hq; exact hq
  · rw [if_pos q2] at hq
    rw [← g6] at hq; exact hq
theorem w_firstNow (hF : MFi S b n) (hP : PlO S (odB b n)) (hN : nB b n ≤ 24) (hn : n 1 ≤ 40) (hq : Q (some (.int (J (vFirst b n)))) S) : KM (d + 1) mX12_firstNow [.ref 0] S Q := by
  obtain ⟨o0, o1, o2⟩ := hP
  obtain ⟨⟨r1, r2, -⟩, ⟨-, -, -, -, g5, -, -, g8⟩, -⟩ := hF
  have rl := rmB_le (b := b) (n := n) hn
  unfold vFirst at hq
  generalize hm : Nat.min (nB b n) (odB b n).length = m at hq
  have m1 : m ≤ nB b n := by rw [← hm]; exact Nat.min_le_left _ _
  have m2 : m ≤ (odB b n).length := by rw [← hm]; exact Nat.min_le_right _ _
  have m3 : m = nB b n ∨ m = (odB b n).length := by
    rcases Nat.le_total (nB b n) (odB b n).length with q | q
    · exact Or.inl (by rw [← hm]; exact Nat.min_eq_left q)
    · exact Or.inr (by rw [← hm]; exact Nat.min_eq_right q)
  have at44 : ∀ k : Nat, k ≤ m → fsl b n m = k → (k = m → True) → zWp shM (KM d) kX12_firstNow 1 Q 44 [some (.ref 0), some (.int (J k))] [] S := by
    intro k km hk _
    refine zRun_wp [] 60 ?_
    rw [hk] at hq
    by_cases e : k < m
    · rw [if_pos e] at hq
      refine ⟨fun _ => hq, fun q => ?_⟩
      rw [o1] at q
      simp (disch := omega) only [J_lit, J_neg, J_add, J_sub, J_mul, J_nI, J_le, J_lt, J_eq, J_in, J_nat] at q
      omega
    · have ek : k = m := by omega
      rw [if_neg e] at hq
      refine ⟨fun q => ?_, fun q => ?_⟩ <;> rw [o1] at q <;> simp (disch := omega) only [J_lit, J_neg, J_add, J_sub, J_mul, J_nI, J_le, J_lt, J_eq, J_in, J_nat] at q
      · rw [if_neg (by omega)] at hq
        rw [ek]; exact hq
      refine ⟨fun q2 => ?_, fun q2 => ?_⟩ <;> rw [r1] at q2 <;> simp (disch := omega) only [J_lit, J_neg, J_add, J_sub, J_mul, J_nI, J_le, J_lt, J_eq, J_in, J_nat] at q2
      · rw [if_neg (by omega)] at hq
        rw [ek]; exact hq
      · rw [if_pos (by omega)] at hq; exact hq
  have loop : ∀ (r k : Nat) (x1 : Int32), k + r = m → x1 = J k → fsl b n k = k → zWp shM (KM d) kX12_firstNow 1 Q 2 [some (.ref 0), some (.int x1)] [] S := by
    intro r
    induction r with
    | zero =>
      intro k x1 hr e1 hf
      subst e1
      have ek : k = m := by omega
      subst ek
      refine zRun_wp [2, 44] 60 ?_
      refine ⟨fun _ => at44 k (Nat.le_refl _) hf (fun _ => trivial), fun q => ⟨fun _ => at44 k (Nat.le_refl _) hf (fun _ => trivial), fun q2 => ?_⟩⟩
      rw [o1] at q
      rw [r1] at q2
      simp (disch := omega) only [J_lit, J_neg, J_add, J_sub, J_mul, J_nI, J_le, J_lt, J_eq, J_in, J_nat] at q q2
      omega
    | succ r ih =>
      intro k x1 hr e1 hf
      subst e1
      have gl := odB_lt (b := b) (n := n) k (by omega)
      have ix : (J k).toNatClampNeg = k := by simp (disch := omega) only [J_lit, J_neg, J_add, J_sub, J_mul, J_nI, J_le, J_lt, J_eq, J_in, J_nat]; omega
      have jx : (J ((odB b n).getD k 0)).toNatClampNeg = (odB b n).getD k 0 := by simp (disch := omega) only [J_lit, J_neg, J_add, J_sub, J_mul, J_nI, J_le, J_lt, J_eq, J_in, J_nat]; omega
      have f : fre (b 1) (n 1) = 0 := by
        by_cases f : fre (b 1) (n 1) = 0
        · exact f
        · have : rmB b n = 0 := by unfold rmB; rw [if_neg f]
          omega
      have er : rmB b n = rm (b 1) (n 1) := by unfold rmB; rw [if_pos f]
      obtain ⟨-, -, -, -, -, -, -, -, -, m10⟩ := g8 f
      have vg := (r2 k (by omega)).2
      have vs := sgcB (b := b) (n := n) k (by omega)
      have p1 := phi_rng vg
      have p2 := phi_rng vs
      have pi := phi_inj vs vg
      refine zRun_wp [2, 44] 60 ?_
      refine ⟨fun w => ?_, fun _ => ?_⟩
      · rw [o1] at w
        simp (disch := omega) only [J_lit, J_neg, J_add, J_sub, J_mul, J_nI, J_le, J_lt, J_eq, J_in, J_nat] at w
        omega
      refine ⟨fun w => ?_, fun _ => ?_⟩
      · rw [r1] at w
        simp (disch := omega) only [J_lit, J_neg, J_add, J_sub, J_mul, J_nI, J_le, J_lt, J_eq, J_in, J_nat] at w
        omega
      have i1 : vp_in (J k) 640 := by simp (disch := omega) only [J_lit, J_neg, J_add, J_sub, J_mul, J_nI, J_le, J_lt, J_eq, J_in, J_nat]; omega
      have i2 : vp_in (J k) 24 := by simp (disch := omega) only [J_lit, J_neg, J_add, J_sub, J_mul, J_nI, J_le, J_lt, J_eq, J_in, J_nat]; omega
      have e1 : S 19 (J k).toNatClampNeg = J ((odB b n).getD k 0) := by rw [ix]; exact o2 k (by omega)
      have i3 : vp_in (S 19 (J k).toNatClampNeg) 40 := by rw [e1]; simp (disch := omega) only [J_lit, J_neg, J_add, J_sub, J_mul, J_nI, J_le, J_lt, J_eq, J_in, J_nat]; omega
      refine ⟨i1, i3, i2, ?_⟩
      refine ⟨fun w => ?_, fun w => ?_⟩ <;> rw [e1, jx, ix, m10 _ (by omega), (r2 k (by omega)).1] at w <;> simp (disch := omega) only [J_lit, J_neg, J_add, J_sub, J_mul, J_nI, J_le, J_lt, J_eq, J_in, J_nat] at w
      · exact at44 k (by omega) (fsl_hit hf (show k < m by omega) (fun e => w (pi.mpr e.symm))) (fun _ => trivial)
      · refine ih (k + 1) _ (by omega) (by simp only [J_lit, J_neg, J_add, J_sub, J_mul, J_nI]; congr 1) ?_
        rw [fsl_s, if_neg (by omega), if_pos (pi.mp w).symm]
  refine eX12_firstNow (zRun_wp [2] 60 ?_)
  exact loop m 0 _ (by omega) rfl rfl
theorem w_spanBy (hM : ∀ d' i' j', d' ≤ 3 → i' < j' → j' ≤ nB b n → MOk S (gB b n) d' i' j') (hN : nB b n ≤ 24) {e i j w : Int} (e1 : 0 ≤ e) (e2 : e ≤ 3) (i1 : 0 ≤ i) (i2 : i ≤ nB b n) (j1 : 0 ≤ j) (j2 : j ≤ nB b n) (w1 : 0 ≤ w) (w2 : w ≤ 1) (hq : Q (some (.int (J (vSpan b n e i j w)))) S) : KM (d + 1) mX12_spanBy [.ref 0, .int (J e), .int (J i), .int (J j), .int (J w)] S Q := by
  unfold vSpan at hq
  rw [if_neg (by omega)] at hq
  refine eX12_spanBy (zRun_wp [27] 60 ?_)
  refine ⟨fun q => ?_, fun q => ?_⟩ <;> simp (disch := omega) only [J_lit, J_neg, J_add, J_sub, J_mul, J_nI, J_le, J_lt, J_eq, J_in, J_nat] at q
  rotate_left
  · rw [if_pos (by omega)] at hq; exact hq
  rw [if_neg (by omega)] at hq
  have mk := (hM e.toNat i.toNat j.toNat (by omega) (by omega) (by omega)).1
  have cl := co_le (gB b n) e.toNat i.toNat (j.toNat - i.toNat)
  generalize co (gB b n) e.toNat i.toNat (j.toNat - i.toNat) = c at mk cl hq
  have ix : (625 * J e + 25 * J i + J j).toNatClampNeg = 625 * e.toNat + 25 * i.toNat + j.toNat := by simp (disch := omega) only [J_lit, J_neg, J_add, J_sub, J_mul, J_nI, J_le, J_lt, J_eq, J_in, J_nat]; omega
  have inn : vp_in (625 * J e + 25 * J i + J j) 2500 := by simp (disch := omega) only [J_lit, J_neg, J_add, J_sub, J_mul, J_nI, J_le, J_lt, J_eq, J_in, J_nat]; omega
  have fin : ∀ x5 : Int32, x5 = J c → zWp shM (KM d) kX12_spanBy 1 Q 27 [some (.ref 0), some (.int (J e)), some (.int (J i)), some (.int (J j)), some (.int (J w)), some (.int x5)] [] S := by
    intro x5 e5
    subst e5
    refine zRun_wp [] 60 ?_
    refine ⟨fun q2 => ?_, fun q2 => ?_⟩ <;> simp (disch := omega) only [J_lit, J_neg, J_add, J_sub, J_mul, J_nI, J_le, J_lt, J_eq, J_in, J_nat] at q2
    · rw [if_neg q2] at hq
      refine ⟨by decide, ?_⟩
      have e : J c - J c / 1000 * 1000 = J (c % 1000 : Nat) := by
        rw [show (1000 : Int32) = J 1000 from rfl, J_rem (by omega) (by omega) (by omega) (by omega)]; congr 1
      rw [← e] at hq; exact hq
    · rw [if_pos q2] at hq
      refine ⟨by decide, ?_⟩
      have e : J c / 1000 = J (c / 1000 : Nat) := by
        rw [show (1000 : Int32) = J 1000 from rfl, J_div (by omega) (by omega) (by omega) (by omega)]; congr 1
      rw [← e] at hq; exact hq
  refine ⟨inn, ?_⟩
  refine fin _ ?_
  rw [ix]; exact mk
theorem w_foundBy (hF : MFa S b n dd) (hN : nB b n ≤ 24) {w : Int} (w1 : 0 ≤ w) (w2 : w ≤ 3) (hq : Q (some (.int (J (vFound b n dd w)))) S) : KM (d + 1) mX12_foundBy [.ref 0, .int (J w)] S Q := by
  obtain ⟨-, -, ⟨j1, j2, -⟩, o0, o1, o2⟩ := hF
  have o1 : S 0 43 = J (prB b n dd).length := o1
  obtain ⟨fo1, fo2, -⟩ := fa2_ok (h := gB b n) (d := dd) hN (nB b n)
  unfold vFound at hq
  rw [if_neg (by omega)] at hq
  have fo1' : (fnd (gB b n) (nB b n) dd).1 ≤ 1000 * nB b n := fo1
  refine eX12_foundBy (zRun_wp [] 60 ?_)
  refine ⟨fun q => ?_, fun q => ?_⟩ <;> simp (disch := omega) only [J_lit, J_neg, J_add, J_sub, J_mul, J_nI, J_le, J_lt, J_eq, J_in, J_nat] at q
  rotate_left
  · rw [if_pos q] at hq
    refine ⟨by decide, ?_⟩
    have e : S 0 38 / 1000 = J ((fnd (gB b n) (nB b n) dd).1 / 1000 : Nat) := by
      rw [show S 0 38 = _ from j1, show (1000 : Int32) = J 1000 from rfl, J_div (by omega) (by omega) (by omega) (by omega)]; congr 1
    rw [← e] at hq; exact hq
  rw [if_neg q] at hq
  refine ⟨fun q2 => ?_, fun q2 => ?_⟩ <;> simp (disch := omega) only [J_lit, J_neg, J_add, J_sub, J_mul, J_nI, J_le, J_lt, J_eq, J_in, J_nat] at q2
  rotate_left
  · rw [if_pos q2] at hq
    refine ⟨by decide, ?_⟩
    have e : S 0 38 - S 0 38 / 1000 * 1000 = J ((fnd (gB b n) (nB b n) dd).1 % 1000 : Nat) := by
      rw [show S 0 38 = _ from j1, show (1000 : Int32) = J 1000 from rfl, J_rem (by omega) (by omega) (by omega) (by omega)]; congr 1
    rw [← e] at hq; exact hq
  rw [if_neg q2] at hq
  refine ⟨fun q3 => ?_, fun q3 => ?_⟩ <;> simp (disch := omega) only [J_lit, J_neg, J_add, J_sub, J_mul, J_nI, J_le, J_lt, J_eq, J_in, J_nat] at q3
  · rw [if_neg q3] at hq
    rw [← o1] at hq; exact hq
  · rw [if_pos q3] at hq
    rw [← j2] at hq; exact hq
theorem w_shownBy (hO : OutOk S (prB b n dd)) {i : Int} (i1 : 0 ≤ i) (i2 : i ≤ 59) (hq : Q (some (.int (J (vShown b n dd i)))) S) : KM (d + 1) mX12_shownBy [.ref 0, .int (J i)] S Q := by
  obtain ⟨p0, p1, p2⟩ := hO
  unfold vShown at hq
  rw [if_neg (by omega)] at hq
  generalize prB b n dd = L at p0 p1 p2 hq
  refine eX12_shownBy (zRun_wp [] 60 ?_)
  refine ⟨fun q3 => ?_, fun q3 => ?_⟩ <;> rw [show S 0 43 = _ from p1] at q3 <;> simp (disch := omega) only [J_lit, J_neg, J_add, J_sub, J_mul, J_nI, J_le, J_lt, J_eq, J_in, J_nat] at q3
  · rw [if_neg (by omega)] at hq; exact hq
  · rw [if_pos (by omega)] at hq
    have ix : (J i).toNatClampNeg = i.toNat := by simp (disch := omega) only [J_lit, J_neg, J_add, J_sub, J_mul, J_nI, J_le, J_lt, J_eq, J_in, J_nat]
    refine ⟨by simp (disch := omega) only [J_lit, J_neg, J_add, J_sub, J_mul, J_nI, J_le, J_lt, J_eq, J_in, J_nat]; omega, ?_⟩
    rw [ix, show S 24 i.toNat = _ from p2 i.toNat (by omega)]
    exact hq
theorem w_mendBy (hM : MdM S (md (gB b n) (nB b n) dd (nB b n))) (hN : nB b n ≤ 24) {w : Int} (w1 : 0 ≤ w) (w2 : w ≤ 2) (hq : Q (some (.int (J (vMend b n dd w)))) S) : KM (d + 1) mX12_mendBy [.ref 0, .int (J w)] S Q := by
  obtain ⟨m1, m2⟩ := hM
  unfold vMend at hq
  rw [if_neg (by omega)] at hq
  have inv := md_inv (g := gB b n) (dd := dd) hN (nB b n)
  generalize md (gB b n) (nB b n) dd (nB b n) = s at m1 m2 hq inv
  have mr : -1 ≤ s.1 ∧ s.1 ≤ 24 := by
    rcases inv with ⟨_, _, i3, i4, _⟩ | ⟨_, i⟩
    · omega
    · rw [i]; exact ⟨by decide, by decide⟩
  have m1 : S 0 46 = J s.1 := m1
  have m2 : S 0 47 = J s.2 := m2
  refine eX12_mendBy (zRun_wp [] 60 ?_)
  refine ⟨fun q3 => ?_, fun q3 => ?_⟩ <;> rw [m1, show (-1 : Int32) = J (-1) from rfl] at q3 <;> simp (disch := omega) only [J_lit, J_neg, J_add, J_sub, J_mul, J_nI, J_le, J_lt, J_eq, J_in, J_nat] at q3
  · rw [if_pos (Or.inl q3)] at hq
    rw [← m1] at hq
    exact hq
  refine ⟨fun q4 => ?_, fun q4 => ?_⟩ <;> simp (disch := omega) only [J_lit, J_neg, J_add, J_sub, J_mul, J_nI, J_le, J_lt, J_eq, J_in, J_nat] at q4
  rotate_left
  · rw [if_pos (Or.inr q4)] at hq
    rw [← m1] at hq
    exact hq
  rw [if_neg (by omega)] at hq
  obtain ⟨i1, i2⟩ : s.2 % 1000 < 200 ∧ s.2 ≤ 24000 := by
    rcases inv with ⟨i1, i2, _⟩ | ⟨_, i⟩
    · exact ⟨i1, i2⟩
    · rw [i] at q3; exact absurd rfl q3
  refine ⟨fun q5 => ?_, fun q5 => ?_⟩ <;> simp (disch := omega) only [J_lit, J_neg, J_add, J_sub, J_mul, J_nI, J_le, J_lt, J_eq, J_in, J_nat] at q5
  · rw [if_neg q5] at hq
    refine ⟨by decide, ?_⟩
    have e : S 0 47 - S 0 47 / 1000 * 1000 = J (s.2 % 1000 : Nat) := by
      rw [m2, show (1000 : Int32) = J 1000 from rfl, J_rem (by omega) (by omega) (by omega) (by omega)]; congr 1
    rw [← e] at hq; exact hq
  · rw [if_pos q5] at hq
    refine ⟨by decide, ?_⟩
    have e : S 0 47 / 1000 = J (s.2 / 1000 : Nat) := by
      rw [m2, show (1000 : Int32) = J 1000 from rfl, J_div (by omega) (by omega) (by omega) (by omega)]; congr 1
    rw [← e] at hq; exact hq
end mby
