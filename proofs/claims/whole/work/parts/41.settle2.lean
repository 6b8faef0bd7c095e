/-- which costs stand: all of shorter spans, of this length those further ahead, of this span those less deep -/
def Dn (S : zS) (c3 : Nat) (h : Nat → Int) (m L len i dd : Nat) : Prop := ∀ d' i' j', d' ≤ L → i' < j' → j' ≤ m → (j' - i' < len ∨ (j' - i' = len ∧ (i' < i ∨ (i' = i ∧ d' < dd)))) → CoOk S c3 h d' i' j'
section settle2
variable {d : Nat} {S : zS} {Q : Option Value → zS → Prop} {m : Nat} {h : Nat → Int}
theorem SpOk_keep {S S' : zS} {c c1 c2 : Nat} (hs : SpOk S c c1 c2 h m) (k0 : S' c = S c) (k1 : S' c1 = S c1) (k2 : S' c2 = S c2) : SpOk S' c c1 c2 h m := by
  unfold SpOk at hs ⊢
  rw [k0, k1, k2]
  exact hs
theorem Dn_put {S : zS} {c3 L len i dd : Nat} {v : Int32} (hD : Dn S c3 h m L len i dd) (hm : m ≤ 24) (hL : L ≤ 3) (hl : 1 ≤ len) (hi : i + len ≤ m) (hd : dd ≤ L) (hv : v = J (cv (co h dd i len))) : Dn (zu S c3 (625 * dd + 25 * i + (i + len)) v) c3 h m L len i (dd + 1) := by
  intro d' i' j' a1 a2 a3 a4
  unfold CoOk
  simp only [zu_r, if_true]
  by_cases e : 625 * d' + 25 * i' + j' = 625 * dd + 25 * i + (i + len)
  · rw [if_pos e]
    have e1 : d' = dd := by omega
    have e2 : i' = i := by omega
    have e3 : j' - i' = len := by omega
    rw [e1, e2, show j' - i = len by omega]
    exact hv
  · rw [if_neg e]
    exact hD d' i' j' a1 a2 a3 (by omega)
set_option maxHeartbeats 2000000 in
/-- the whole's own costs -/
theorem v_settle0 (hS : SpOk S 20 21 22 h m) {L : Nat} (hL : L ≤ 3) (hq : ∀ S', (∀ c, c ≠ 23 → S' c = S c) → (∀ d' i' j', d' ≤ L → i' < j' → j' ≤ m → CoOk S' 23 h d' i' j') → Q none S') : KC (d + 4) mX9_settle [.ref 20, .int (J L), .null, .int (J (-1))] S Q := by
  obtain ⟨hm, s1, -, -⟩ := id hS
  have lay : (if (3 : Int32) < J L then 3 else J L) = J L := by rw [if_neg (by simp (disch := omega) only [J_lit, J_neg, J_add, J_sub, J_mul, J_nI, J_le, J_lt, J_eq, J_in, J_nat]; omega)]
  -- the loops, the innermost within the others
  have lens : ∀ (r len : Nat) (x5 : Int32) (S' : zS) (j6 j7 j8 j9 j10 : Option Value), len + r = m + 1 → 1 ≤ len → x5 = J len → (∀ c, c ≠ 23 → S' c = S c) → Dn S' 23 h m L len 0 0 → zWp shC (KC (d + 3)) kX9_settle 0 Q 10 [some (.ref 20), some (.int (J L)), some .null, some (.int (J (-1))), some (.int (J L)), some (.int x5), j6, j7, j8, j9, j10] [] S' := by
    intro r
    induction r with
    | zero =>
      intro len x5 S' j6 j7 j8 j9 j10 hr hl e5 k1 hD
      subst e5
      refine zRun_wp [10, 22, 80] 80 ?_
      refine ⟨fun _ => hq S' k1 (fun d' i' j' a1 a2 a3 => hD d' i' j' a1 a2 a3 (Or.inl (by omega))), fun c1 => ?_⟩
      rw [k1 20 (by omega), s1] at c1
      simp (disch := omega) only [J_lit, J_neg, J_add, J_sub, J_mul, J_nI, J_le, J_lt, J_eq, J_in, J_nat] at c1
      omega
    | succ r ihL =>
      intro len x5 S' j6 j7 j8 j9 j10 hr hl e5 k1 hD
      subst e5
      have is : ∀ (r i : Nat) (x6 : Int32) (S' : zS) (j7 j8 j9 j10 : Option Value), i + r = m + 1 - len → x6 = J i → (∀ c, c ≠ 23 → S' c = S c) → Dn S' 23 h m L len i 0 → zWp shC (KC (d + 3)) kX9_settle 0 Q 22 [some (.ref 20), some (.int (J L)), some .null, some (.int (J (-1))), some (.int (J L)), some (.int (J len)), some (.int x6), j7, j8, j9, j10] [] S' := by
        intro r
        induction r with
        | zero =>
          intro i x6 S' j7 j8 j9 j10 hr2 e6 k1 hD
          subst e6
          refine zRun_wp [10, 22, 80] 80 ?_
          refine ⟨fun _ => ?_, fun c1 => ?_⟩
          · refine ihL (len + 1) _ S' _ _ _ _ _ (by omega) (by omega) (by simp only [J_lit, J_neg, J_add, J_sub, J_mul, J_nI]; congr 1) k1 (fun d' i' j' a1 a2 a3 a4 => hD d' i' j' a1 a2 a3 (by omega))
          · rw [k1 20 (by omega), s1] at c1
            simp (disch := omega) only [J_lit, J_neg, J_add, J_sub, J_mul, J_nI, J_le, J_lt, J_eq, J_in, J_nat] at c1
            omega
        | succ r ihI =>
          intro i x6 S' j7 j8 j9 j10 hr2 e6 k1 hD
          subst e6
          have ds : ∀ (r dd : Nat) (x7 x10 : Int32) (S' : zS) (j8 : Option Value), dd + r = L + 1 → x7 = J (i + len : Nat) → x10 = J dd → (∀ c, c ≠ 23 → S' c = S c) → Dn S' 23 h m L len i dd → zWp shC (KC (d + 3)) kX9_settle 0 Q 80 [some (.ref 20), some (.int (J L)), some .null, some (.int (J (-1))), some (.int (J L)), some (.int (J len)), some (.int (J i)), some (.int x7), j8, some (.int 0), some (.int x10)] [] S' := by
            intro r
            induction r with
            | zero =>
              intro dd x7 x10 S' j8 hr3 e7 e10 k1 hD
              subst e7 e10
              refine zRun_wp [10, 22, 80] 80 ?_
              refine ⟨fun _ => ?_, fun c1 => ?_⟩
              · refine ihI (i + 1) _ S' _ _ _ _ (by omega) (by simp only [J_lit, J_neg, J_add, J_sub, J_mul, J_nI]; congr 1) k1 (fun d' i' j' a1 a2 a3 a4 => hD d' i' j' a1 a2 a3 (by omega))
              · simp (disch := omega) only [J_lit, J_neg, J_add, J_sub, J_mul, J_nI, J_le, J_lt, J_eq, J_in, J_nat] at c1
                omega
            | succ r ihD =>
              intro dd x7 x10 S' j8 hr3 e7 e10 k1 hD
              subst e7 e10
              have ix : (J dd * 625 + J i * 25 + J (i + len : Nat)).toNatClampNeg = 625 * dd + 25 * i + (i + len) := by simp (disch := omega) only [J_lit, J_neg, J_add, J_sub, J_mul, J_nI, J_le, J_lt, J_eq, J_in, J_nat]; omega
              refine zRun_wp [10, 22, 80] 80 ?_
              refine ⟨fun c1 => ?_, fun _ => ?_⟩
              · simp (disch := omega) only [J_lit, J_neg, J_add, J_sub, J_mul, J_nI, J_le, J_lt, J_eq, J_in, J_nat] at c1; omega
              refine ⟨fun _ => ?_, fun q => absurd rfl q⟩
              refine v_cheapest (c1 := 21) (c2 := 22) (c3 := 23) (by decide) (SpOk_keep hS (k1 20 (by omega)) (k1 21 (by omega)) (k1 22 (by omega))) (dd := dd) (i := i) (j := i + len) (by omega) (by omega) (by omega) (fun d' i' j' b1 b2 b3 b4 b5 => hD d' i' j' (by omega) b2 (by omega) (Or.inl (by omega))) ?_
              rw [show i + len - i = len by omega]
              refine ⟨by simp (disch := omega) only [J_lit, J_neg, J_add, J_sub, J_mul, J_nI, J_le, J_lt, J_eq, J_in, J_nat]; omega, ?_⟩
              rw [ix]
              refine ihD (dd + 1) _ _ _ _ (by omega) rfl (by simp only [J_lit, J_neg, J_add, J_sub, J_mul, J_nI]; congr 1) (fun c hc => ?_) (Dn_put hD hm hL hl (by omega) (by omega) rfl)
              rw [zu_same hc]; exact k1 c hc
          refine zRun_wp [10, 22, 80] 80 ?_
          refine ⟨fun c1 => ?_, fun _ => ?_⟩
          · rw [k1 20 (by omega), s1] at c1
            simp (disch := omega) only [J_lit, J_neg, J_add, J_sub, J_mul, J_nI, J_le, J_lt, J_eq, J_in, J_nat] at c1
            omega
          have e7 : J i + J len = J (i + len : Nat) := by simp only [J_lit, J_neg, J_add, J_sub, J_mul, J_nI]; congr 1
          refine ⟨fun c1 => ?_, fun _ => ?_⟩
          · simp (disch := omega) only [J_lit, J_neg, J_add, J_sub, J_mul, J_nI, J_le, J_lt, J_eq, J_in, J_nat] at c1; omega
          · exact ds (L + 1) 0 _ _ S' _ (by omega) e7 rfl k1 hD
      refine zRun_wp [10, 22, 80] 80 ?_
      refine ⟨fun c1 => ?_, fun _ => ?_⟩
      · rw [k1 20 (by omega), s1] at c1
        simp (disch := omega) only [J_lit, J_neg, J_add, J_sub, J_mul, J_nI, J_le, J_lt, J_eq, J_in, J_nat] at c1
        omega
      · exact is (m + 1 - len) 0 _ S' _ _ _ _ (by omega) rfl k1 hD
  refine eX9_settle_null (zRun_wp [10, 22, 80] 80 ?_)
  have start : ∀ x4 : Int32, x4 = J L → zWp shC (KC (d + 3)) kX9_settle 0 Q 10 [some (.ref 20), some (.int (J L)), some .null, some (.int (J (-1))), some (.int x4), some (.int 1), none, none, none, none, none] [] S := by
    intro x4 e4
    subst e4
    exact lens m 1 1 S none none none none none (by omega) (by omega) rfl (fun _ _ => rfl) (fun d' i' j' a1 a2 a3 a4 => by omega)
  exact start _ lay
set_option maxHeartbeats 2000000 in
/-- the costs of what is left without a bar, by the whole's -/
theorem v_settleW {hw : Nat → Int} {mw w : Nat} (hW : SpOk S 20 21 22 hw mw) (hw1 : w < mw) (hmw : m = mw - 1) (hh : ∀ k, h k = hw (skI w k)) (hWC : ∀ d' i' j', d' ≤ 3 → i' < j' → j' ≤ mw → CoOk S 23 hw d' i' j') (hS : SpOk S 28 29 30 h m) {L : Nat} (hL : L ≤ 3) (hq : ∀ S', (∀ c, c ≠ 31 → S' c = S c) → (∀ d' i' j', d' ≤ L → i' < j' → j' ≤ m → CoOk S' 31 h d' i' j') → Q none S') : KC (d + 4) mX9_settle [.ref 28, .int (J L), .ref 20, .int (J w)] S Q := by
  obtain ⟨hm, s1, -, -⟩ := id hS
  have lay : (if (3 : Int32) < J L then 3 else J L) = J L := by rw [if_neg (by simp (disch := omega) only [J_lit, J_neg, J_add, J_sub, J_mul, J_nI, J_le, J_lt, J_eq, J_in, J_nat]; omega)]
  -- the loops, the innermost within the others
  have lens : ∀ (r len : Nat) (x5 : Int32) (S' : zS) (j6 j7 j8 j9 j10 : Option Value), len + r = m + 1 → 1 ≤ len → x5 = J len → (∀ c, c ≠ 31 → S' c = S c) → Dn S' 31 h m L len 0 0 → zWp shC (KC (d + 3)) kX9_settle 0 Q 10 [some (.ref 28), some (.int (J L)), some (.ref 20), some (.int (J w)), some (.int (J L)), some (.int x5), j6, j7, j8, j9, j10] [] S' := by
    intro r
    induction r with
    | zero =>
      intro len x5 S' j6 j7 j8 j9 j10 hr hl e5 k1 hD
      subst e5
      refine zRun_wp [10, 22, 80] 80 ?_
      refine ⟨fun _ => hq S' k1 (fun d' i' j' a1 a2 a3 => hD d' i' j' a1 a2 a3 (Or.inl (by omega))), fun c1 => ?_⟩
      rw [k1 28 (by omega), s1] at c1
      simp (disch := omega) only [J_lit, J_neg, J_add, J_sub, J_mul, J_nI, J_le, J_lt, J_eq, J_in, J_nat] at c1
      omega
    | succ r ihL =>
      intro len x5 S' j6 j7 j8 j9 j10 hr hl e5 k1 hD
      subst e5
      have is : ∀ (r i : Nat) (x6 : Int32) (S' : zS) (j7 j8 j9 j10 : Option Value), i + r = m + 1 - len → x6 = J i → (∀ c, c ≠ 31 → S' c = S c) → Dn S' 31 h m L len i 0 → zWp shC (KC (d + 3)) kX9_settle 0 Q 22 [some (.ref 28), some (.int (J L)), some (.ref 20), some (.int (J w)), some (.int (J L)), some (.int (J len)), some (.int x6), j7, j8, j9, j10] [] S' := by
        intro r
        induction r with
        | zero =>
          intro i x6 S' j7 j8 j9 j10 hr2 e6 k1 hD
          subst e6
          refine zRun_wp [10, 22, 80] 80 ?_
          refine ⟨fun _ => ?_, fun c1 => ?_⟩
          · refine ihL (len + 1) _ S' _ _ _ _ _ (by omega) (by omega) (by simp only [J_lit, J_neg, J_add, J_sub, J_mul, J_nI]; congr 1) k1 (fun d' i' j' a1 a2 a3 a4 => hD d' i' j' a1 a2 a3 (by omega))
          · rw [k1 28 (by omega), s1] at c1
            simp (disch := omega) only [J_lit, J_neg, J_add, J_sub, J_mul, J_nI, J_le, J_lt, J_eq, J_in, J_nat] at c1
            omega
        | succ r ihI =>
          intro i x6 S' j7 j8 j9 j10 hr2 e6 k1 hD
          subst e6
          have ds : ∀ (r dd : Nat) (x7 x8 x9 x10 : Int32) (S' : zS), dd + r = L + 1 → x7 = J (i + len : Nat) → x8 = J (if w ≤ i then 1 else 0 : Nat) → x9 = bb (w ≤ i ∨ i + len ≤ w) → x10 = J dd → (∀ c, c ≠ 31 → S' c = S c) → Dn S' 31 h m L len i dd → zWp shC (KC (d + 3)) kX9_settle 0 Q 80 [some (.ref 28), some (.int (J L)), some (.ref 20), some (.int (J w)), some (.int (J L)), some (.int (J len)), some (.int (J i)), some (.int x7), some (.int x8), some (.int x9), some (.int x10)] [] S' := by
            intro r
            induction r with
            | zero =>
              intro dd x7 x8 x9 x10 S' hr3 e7 e8 e9 e10 k1 hD
              subst e7 e8 e9 e10
              refine zRun_wp [10, 22, 80] 80 ?_
              refine ⟨fun _ => ?_, fun c1 => ?_⟩
              · refine ihI (i + 1) _ S' _ _ _ _ (by omega) (by simp only [J_lit, J_neg, J_add, J_sub, J_mul, J_nI]; congr 1) k1 (fun d' i' j' a1 a2 a3 a4 => hD d' i' j' a1 a2 a3 (by omega))
              · simp (disch := omega) only [J_lit, J_neg, J_add, J_sub, J_mul, J_nI, J_le, J_lt, J_eq, J_in, J_nat] at c1
                omega
            | succ r ihD =>
              intro dd x7 x8 x9 x10 S' hr3 e7 e8 e9 e10 k1 hD
              subst e7 e8 e9 e10
              have ix : (J dd * 625 + J i * 25 + J (i + len : Nat)).toNatClampNeg = 625 * dd + 25 * i + (i + len) := by simp (disch := omega) only [J_lit, J_neg, J_add, J_sub, J_mul, J_nI, J_le, J_lt, J_eq, J_in, J_nat]; omega
              refine zRun_wp [10, 22, 80] 80 ?_
              refine ⟨fun c1 => ?_, fun _ => ?_⟩
              · simp (disch := omega) only [J_lit, J_neg, J_add, J_sub, J_mul, J_nI, J_le, J_lt, J_eq, J_in, J_nat] at c1; omega
              have put : ∀ v : Int32, v = J (cv (co h dd i len)) → zWp shC (KC (d + 3)) kX9_settle 0 Q 80 [some (.ref 28), some (.int (J L)), some (.ref 20), some (.int (J w)), some (.int (J L)), some (.int (J len)), some (.int (J i)), some (.int (J (i + len : Nat))), some (.int (J (if w ≤ i then 1 else 0 : Nat))), some (.int (bb (w ≤ i ∨ i + len ≤ w))), some (.int (J dd + 1))] [] (zu S' 31 (625 * dd + 25 * i + (i + len)) v) := by
                intro v hv
                refine ihD (dd + 1) _ _ _ _ _ (by omega) rfl rfl rfl (by simp only [J_lit, J_neg, J_add, J_sub, J_mul, J_nI]; congr 1) (fun c hc => ?_) (Dn_put hD hm hL hl (by omega) (by omega) hv)
                rw [zu_same hc]; exact k1 c hc
              refine ⟨fun c2 => ?_, fun c2 => ?_⟩ <;> rw [bb_0] at c2
              · refine v_cheapest (c1 := 29) (c2 := 30) (c3 := 31) (by decide) (SpOk_keep hS (k1 28 (by omega)) (k1 29 (by omega)) (k1 30 (by omega))) (dd := dd) (i := i) (j := i + len) (by omega) (by omega) (by omega) (fun d' i' j' b1 b2 b3 b4 b5 => hD d' i' j' (by omega) b2 (by omega) (Or.inl (by omega))) ?_
                rw [show i + len - i = len by omega]
                refine ⟨by simp (disch := omega) only [J_lit, J_neg, J_add, J_sub, J_mul, J_nI, J_le, J_lt, J_eq, J_in, J_nat]; omega, ?_⟩
                rw [ix]
                exact put _ rfl
              · rw [Classical.not_not] at c2
                have hm24 := hW.1
                obtain ⟨mv, hmv⟩ : ∃ mv : Nat, mv = (if w ≤ i then 1 else 0) := ⟨_, rfl⟩
                have mv1 : mv ≤ 1 := by rw [hmv]; split <;> omega
                rw [← hmv] at put ⊢
                have a1 : J i + J (mv : Nat) = J (i + mv : Nat) := by simp only [J_lit, J_neg, J_add, J_sub, J_mul, J_nI]; congr 1
                have a2 : J (i + len : Nat) + J (mv : Nat) = J (i + len + mv : Nat) := by simp only [J_lit, J_neg, J_add, J_sub, J_mul, J_nI]; congr 1
                have W' : SpOk S' 20 21 22 hw mw := SpOk_keep hW (k1 20 (by omega)) (k1 21 (by omega)) (k1 22 (by omega))
                have ecost : co hw dd (i + mv) (i + len + mv - (i + mv)) = co h dd i len := by
                  rw [show i + len + mv - (i + mv) = len by omega]
                  refine (co_congr len (fun t ht => ?_)).symm
                  rw [hh (i + t)]
                  congr 1
                  unfold skI
                  by_cases q : w ≤ i
                  · rw [if_pos q] at hmv
                    rw [if_pos (by omega)]; omega
                  · rw [if_neg q] at hmv
                    rw [if_neg (by omega)]; omega
                have costk : ∀ {Q' : Option Value → zS → Prop} (x y : Int32), x = J (i + mv : Nat) → y = J (i + len + mv : Nat) → Q' (some (.int (J (cv (co h dd i len))))) S' → KC (d + 3) mX9_cost [.ref 20, .int (J dd), .int x, .int y] S' Q' := by
                  intro Q' x y ex ey hk
                  subst ex ey
                  refine v_cost (c1 := 21) (c2 := 22) (c3 := 23) (by decide) W' (dd := dd) (i := i + mv) (j := i + len + mv) (by omega) (by omega) (by omega) (fun hlt => ?_) ?_
                  · have := hWC dd (i + mv) (i + len + mv) (by omega) hlt (by omega)
                    unfold CoOk at this ⊢
                    rw [k1 23 (by omega)]
                    exact this
                  · rw [ecost]; exact hk
                refine costk _ _ a1 a2 ?_
                refine ⟨by simp (disch := omega) only [J_lit, J_neg, J_add, J_sub, J_mul, J_nI, J_le, J_lt, J_eq, J_in, J_nat]; omega, ?_⟩
                rw [ix]
                exact put _ rfl
          refine zRun_wp [10, 22, 80] 80 ?_
          refine ⟨fun c1 => ?_, fun _ => ?_⟩
          · rw [k1 28 (by omega), s1] at c1
            simp (disch := omega) only [J_lit, J_neg, J_add, J_sub, J_mul, J_nI, J_le, J_lt, J_eq, J_in, J_nat] at c1
            omega
          have e7 : J i + J len = J (i + len : Nat) := by simp only [J_lit, J_neg, J_add, J_sub, J_mul, J_nI]; congr 1
          have enter : ∀ (x8 x9 : Int32), x8 = J (if w ≤ i then 1 else 0 : Nat) → x9 = bb (w ≤ i ∨ i + len ≤ w) → zWp shC (KC (d + 3)) kX9_settle 0 Q 80 [some (.ref 28), some (.int (J L)), some (.ref 20), some (.int (J w)), some (.int (J L)), some (.int (J len)), some (.int (J i)), some (.int (J i + J len)), some (.int x8), some (.int x9), some (.int 0)] [] S' := fun x8 x9 e8 e9 => ds (L + 1) 0 _ _ _ _ S' (by omega) e7 e8 e9 rfl k1 hD
          have w24 := hW.1
          refine ⟨fun c1 => ?_, fun c1 => ?_⟩ <;> simp (disch := omega) only [J_lit, J_neg, J_add, J_sub, J_mul, J_nI, J_le, J_lt, J_eq, J_in, J_nat] at c1
          · refine ⟨fun c2 => ?_, fun c2 => ?_⟩
            · simp (disch := omega) only [J_lit, J_neg, J_add, J_sub, J_mul, J_nI, J_le, J_lt, J_eq, J_in, J_nat] at c2; omega
            refine ⟨fun c3 => ?_, fun c3 => ?_⟩ <;> simp (disch := omega) only [J_lit, J_neg, J_add, J_sub, J_mul, J_nI, J_le, J_lt, J_eq, J_in, J_nat] at c3
            · exact enter _ _ (by rw [if_neg (by omega)]; rfl) (by rw [bb_f (by omega)])
            · exact enter _ _ (by rw [if_neg (by omega)]; rfl) (by rw [bb_t (by omega)])
          · refine ⟨fun c2 => ?_, fun c2 => ?_⟩
            · exact enter _ _ (by rw [if_pos (by omega)]; rfl) (by rw [bb_t (by omega)])
            · simp (disch := omega) only [J_lit, J_neg, J_add, J_sub, J_mul, J_nI, J_le, J_lt, J_eq, J_in, J_nat] at c2; omega
      refine zRun_wp [10, 22, 80] 80 ?_
      refine ⟨fun c1 => ?_, fun _ => ?_⟩
      · rw [k1 28 (by omega), s1] at c1
        simp (disch := omega) only [J_lit, J_neg, J_add, J_sub, J_mul, J_nI, J_le, J_lt, J_eq, J_in, J_nat] at c1
        omega
      · exact is (m + 1 - len) 0 _ S' _ _ _ _ (by omega) rfl k1 hD
  refine eX9_settle (zRun_wp [10, 22, 80] 80 ?_)
  have start : ∀ x4 : Int32, x4 = J L → zWp shC (KC (d + 3)) kX9_settle 0 Q 10 [some (.ref 28), some (.int (J L)), some (.ref 20), some (.int (J w)), some (.int x4), some (.int 1), none, none, none, none, none] [] S := by
    intro x4 e4
    subst e4
    exact lens m 1 1 S none none none none none (by omega) (by omega) rfl (fun _ _ => rfl) (fun d' i' j' a1 a2 a3 a4 => by omega)
  exact start _ lay
end settle2
