section mfind
variable {d : Nat} {S : zS} {Q : Option Value → zS → Prop} {m : Nat} {h : Nat → Int}
set_option maxHeartbeats 2000000 in
theorem w_find34 {dd : Nat} {T : zS} (hm : m ≤ 24) (hd : T 0 M_depth = J dd) (hdd : dd ≤ 3) (hL : ∀ a b, a ≤ 24 → b ≤ 24 → T A_like (25 * a + b) = J (al h m a b)) (hC : ∀ i j, i < j → j ≤ m → T A_cost (625 * dd + 25 * i + j) = J (co h dd i (j - i)))
    (hq : ∀ S', FK T S' → MJ S' (fnd h m dd) → Q none S') {S0 : zS} {j3 : Option Value} {x1 : Int32} (ex1 : x1 = J m) (k0 : FK T S0) (hJ0 : MJ S0 (co h dd 0 m, 0, 0, 0)) : zWp shM (KM (d + 3)) kX12_finding 0 Q 34 [some (.ref 0), some (.int x1), some (.int 1), j3] [] S0 := by
  subst ex1
  have lk : ∀ {S' : zS}, FK T S' → ∀ p q, p ≤ 24 → q ≤ 24 → S' 18 (25 * p + q) = J (al h m p q) := fun k p q a b => by rw [k.1 18 (by decide)]; exact hL p q a b
  have cst : ∀ {S' : zS} (k1 : FK T S') {i j : Nat} {x y : Int32} {Q' : Option Value → zS → Prop} (hij : i < j) (hj2 : j ≤ m) (ex : x = J i) (ey : y = J j) (k : Q' (some (.int (J (co h dd i (j - i))))) S'), KM (d + 3) mX12_costOf [.ref 0, .int x, .int y] S' Q' := by
    intro S' k1 i j x y Q' hij hj2 ex ey k
    exact w_costOf (d := d + 2) ex ey (by omega) (by omega) (by rw [k1.2 8 (by decide)]; exact hd) hdd (by rw [k1.1 A_cost (by decide)]; exact hC i j hij hj2) k
  have loop2 : ∀ (r a : Nat) (x2 : Int32) (j3 : Option Value) (S' : zS), a + r = m + 1 → 1 ≤ a → x2 = J a → FK T S' → MJ S' (fa2 h m dd (a - 1)) → zWp shM (KM (d + 3)) kX12_finding 0 Q 87 [some (.ref 0), some (.int (J m)), some (.int x2), j3] [] S' := by
    intro r
    induction r with
    | zero =>
      intro a x2 j3 S' hr a1 e2 k1 hJ
      subst e2
      refine zRun_wp [34, 87, 96] 80 ?_
      refine ⟨fun _ => hq S' k1 (by unfold fnd; rw [fa2_stop (A := a - 1) m (by omega) (by omega)]; exact hJ), fun g1 => ?_⟩
      simp (disch := omega) only [J_lit, J_neg, J_add, J_sub, J_mul, J_nI, J_le, J_lt, J_eq, J_in, J_nat] at g1
      omega
    | succ r ihA =>
      intro a x2 j3 S' hr a1 e2 k1 hJ
      subst e2
      have loopB : ∀ (r b : Nat) (x3 : Int32) (S' : zS), a + 3 ≤ m → b + r = m + 1 → 1 ≤ b → x3 = J b → FK T S' → MJ S' (fb2 h m dd a (fa2 h m dd (a - 1)) (b - 1)) → zWp shM (KM (d + 3)) kX12_finding 0 Q 96 [some (.ref 0), some (.int (J m)), some (.int (J a)), some (.int x3)] [] S' := by
        intro r
        induction r with
        | zero =>
          intro b x3 S' ham hr2 b1 e3 k1 hJ
          subst e3
          refine zRun_wp [34, 87, 96] 80 ?_
          refine ⟨fun _ => ?_, fun g1 => ?_⟩
          · refine ihA (a + 1) _ _ S' (by omega) (by omega) (by simp only [J_lit, J_neg, J_add, J_sub, J_mul, J_nI]; congr 1) k1 ?_
            rw [Nat.add_sub_cancel]
            obtain ⟨a', rfl⟩ : ∃ a', a = a' + 1 := ⟨a - 1, by omega⟩
            show MJ S' (if a' + 1 + 3 ≤ m then _ else _)
            rw [if_pos ham, fb2_stop (A := b - 1) m (by omega) (by omega)]; exact hJ
          simp (disch := omega) only [J_lit, J_neg, J_add, J_sub, J_mul, J_nI, J_le, J_lt, J_eq, J_in, J_nat] at g1
          omega
        | succ r ihB =>
          intro b x3 S' ham hr2 b1 e3 k1 hJ
          subst e3
          have ef : fb2 h m dd a (fa2 h m dd (a - 1)) b = if a + 2 * b + 1 ≤ m ∧ er h a (m - b) b then ofr (fb2 h m dd a (fa2 h m dd (a - 1)) (b - 1)) (c2f h m dd a b) 2 a b else fb2 h m dd a (fa2 h m dd (a - 1)) (b - 1) := by
            obtain ⟨b', rfl⟩ : ∃ b', b = b' + 1 := ⟨b - 1, by omega⟩
            rfl
          have hal := al_lei h m a (m - b)
          have hae : a + 2 * b + 1 ≤ m → (b ≤ al h m a (m - b) ↔ er h a (m - b) b) := fun q => al_er (by omega) (by omega)
          have hfb := (fb2_ok (h := h) (d := dd) hm a1 (fa2_ok (h := h) (d := dd) hm (a - 1)) (b - 1)).1
          have big : a + 2 * b + 1 ≤ m → c2f h m dd a b ≤ 80000 := fun _ => by
            have w1 := co_le h dd 0 a
            have w2 := co_le h dd a b
            have w3 := co_le h dd (a + b) (m - b - (a + b))
            unfold c2f
            omega
          have ixn : a + 2 * b + 1 ≤ m → vp_in (25 * J a + J m - J b) 625 := fun _ => by simp (disch := omega) only [J_lit, J_neg, J_add, J_sub, J_mul, J_nI, J_le, J_lt, J_eq, J_in, J_nat]; omega
          have ix : a + 2 * b + 1 ≤ m → (25 * J a + J m - J b).toNatClampNeg = 25 * a + (m - b) := fun _ => by simp (disch := omega) only [J_lit, J_neg, J_add, J_sub, J_mul, J_nI, J_le, J_lt, J_eq, J_in, J_nat]; omega
          have em : J m - J b = J (m - b : Nat) := by simp only [J_lit, J_neg, J_add, J_sub, J_mul, J_nI]; congr 1; omega
          have eab : J a + J b = J (a + b : Nat) := by simp only [J_lit, J_neg, J_add, J_sub, J_mul, J_nI]; congr 1
          refine zRun_wp [34, 87, 96] 80 ?_
          refine ⟨fun g1 => ?_, fun g1 => ?_⟩ <;> simp (disch := omega) only [J_lit, J_neg, J_add, J_sub, J_mul, J_nI, J_le, J_lt, J_eq, J_in, J_nat] at g1
          · refine ihA (a + 1) _ _ S' (by omega) (by omega) (by simp only [J_lit, J_neg, J_add, J_sub, J_mul, J_nI]; congr 1) k1 ?_
            rw [Nat.add_sub_cancel]
            obtain ⟨a', rfl⟩ : ∃ a', a = a' + 1 := ⟨a - 1, by omega⟩
            show MJ S' (if a' + 1 + 3 ≤ m then _ else _)
            rw [if_pos ham, fb2_stop (A := b - 1) m (by omega) (by omega)]; exact hJ
          refine ⟨ixn (by omega), fun g2 => ?_, fun g2 => ?_⟩ <;> rw [ix (by omega), lk k1 a (m - b) (by omega) (by omega)] at g2 <;> simp (disch := omega) only [J_lit, J_neg, J_add, J_sub, J_mul, J_nI, J_le, J_lt, J_eq, J_in, J_nat] at g2
          · refine ihB (b + 1) _ S' ham (by omega) (by omega) (by simp only [J_lit, J_neg, J_add, J_sub, J_mul, J_nI]; congr 1) k1 ?_
            rw [Nat.add_sub_cancel, ef, if_neg (fun q => by have := (hae q.1).mpr q.2; omega)]
            exact hJ
          refine cst k1 (i := 0) (j := a) (by omega) (by omega) rfl rfl ?_
          refine cst k1 (i := a) (j := a + b) (by omega) (by omega) rfl eab ?_
          refine cst k1 (i := a + b) (j := m - b) (by omega) (by omega) eab em ?_
          refine w_offersFound (d := d + 2) (x := c2f h m dd a b) (k := 2) (a := a) (b := b) ?_ rfl rfl rfl (by have := big (by omega); omega) (by omega) hJ (fun S2 w1 w2 => ?_)
          · unfold c2f
            rw [show a - 0 = a by omega, show a + b - a = b by omega]
            simp only [J_lit, J_neg, J_add, J_sub, J_mul, J_nI]; congr 1
          · refine ihB (b + 1) _ S2 ham (by omega) (by omega) (by simp only [J_lit, J_neg, J_add, J_sub, J_mul, J_nI]; congr 1) (FK_trans k1 w1) ?_
            rw [Nat.add_sub_cancel, ef, if_pos ⟨by omega, (hae (by omega)).mp (by omega)⟩]
            exact w2
      refine zRun_wp [34, 87, 96] 80 ?_
      refine ⟨fun g1 => ?_, fun g1 => ?_⟩ <;> simp (disch := omega) only [J_lit, J_neg, J_add, J_sub, J_mul, J_nI, J_le, J_lt, J_eq, J_in, J_nat] at g1
      · exact hq S' k1 (by unfold fnd; rw [fa2_stop (A := a - 1) m (by omega) (by omega)]; exact hJ)
      · exact loopB m 1 _ S' (by omega) (by omega) (by omega) rfl k1 hJ
  have loop1 : ∀ (r a : Nat) (x2 : Int32) (j3 : Option Value) (S' : zS), a + r = m + 1 → 1 ≤ a → x2 = J a → FK T S' → MJ S' (fa1 h m dd (a - 1)) → zWp shM (KM (d + 3)) kX12_finding 0 Q 34 [some (.ref 0), some (.int (J m)), some (.int x2), j3] [] S' := by
    intro r
    induction r with
    | zero =>
      intro a x2 j3 S' hr a1 e2 k1 hJ
      subst e2
      refine zRun_wp [34, 87, 96] 80 ?_
      refine ⟨fun _ => loop2 m 1 _ j3 S' (by omega) (by omega) rfl k1 (by show MJ S' (fa1 h m dd m); rw [fa1_stop (A := a - 1) m (by omega) (by omega)]; exact hJ), fun g1 => ?_⟩
      simp (disch := omega) only [J_lit, J_neg, J_add, J_sub, J_mul, J_nI, J_le, J_lt, J_eq, J_in, J_nat] at g1
      omega
    | succ r ih =>
      intro a x2 j3 S' hr a1 e2 k1 hJ
      subst e2
      have ef : fa1 h m dd a = if 2 * a + 1 ≤ m ∧ er h 0 (m - a) a then ofr (fa1 h m dd (a - 1)) (c1f h m dd a) 1 a 0 else fa1 h m dd (a - 1) := by
        obtain ⟨a', rfl⟩ : ∃ a', a = a' + 1 := ⟨a - 1, by omega⟩
        rfl
      have hal := al_lei h m 0 (m - a)
      have hae : 2 * a + 1 ≤ m → (a ≤ al h m 0 (m - a) ↔ er h 0 (m - a) a) := fun q => al_er (by omega) (by omega)
      have hfa := (fa1_ok (h := h) (d := dd) hm (a - 1)).1
      have big : 2 * a + 1 ≤ m → c1f h m dd a ≤ 80000 := fun _ => by
        have w1 := co_le h dd 0 a
        have w2 := co_le h dd a (m - a - a)
        unfold c1f
        omega
      have ixn : 2 * a + 1 ≤ m → vp_in (J m - J a) 625 := fun _ => by simp (disch := omega) only [J_lit, J_neg, J_add, J_sub, J_mul, J_nI, J_le, J_lt, J_eq, J_in, J_nat]; omega
      have ix : 2 * a + 1 ≤ m → (J m - J a).toNatClampNeg = 25 * 0 + (m - a) := fun _ => by simp (disch := omega) only [J_lit, J_neg, J_add, J_sub, J_mul, J_nI, J_le, J_lt, J_eq, J_in, J_nat]; omega
      have em : J m - J a = J (m - a : Nat) := by simp only [J_lit, J_neg, J_add, J_sub, J_mul, J_nI]; congr 1; omega
      refine zRun_wp [34, 87, 96] 80 ?_
      refine ⟨fun g1 => ?_, fun g1 => ?_⟩ <;> simp (disch := omega) only [J_lit, J_neg, J_add, J_sub, J_mul, J_nI, J_le, J_lt, J_eq, J_in, J_nat] at g1
      · exact loop2 m 1 _ j3 S' (by omega) (by omega) rfl k1 (by show MJ S' (fa1 h m dd m); rw [fa1_stop (A := a - 1) m (by omega) (by omega)]; exact hJ)
      refine ⟨ixn (by omega), fun g2 => ?_, fun g2 => ?_⟩ <;> rw [ix (by omega), lk k1 0 (m - a) (by omega) (by omega)] at g2 <;> simp (disch := omega) only [J_lit, J_neg, J_add, J_sub, J_mul, J_nI, J_le, J_lt, J_eq, J_in, J_nat] at g2
      · refine ih (a + 1) _ _ S' (by omega) (by omega) (by simp only [J_lit, J_neg, J_add, J_sub, J_mul, J_nI]; congr 1) k1 ?_
        rw [Nat.add_sub_cancel, ef, if_neg (fun q => by have := (hae q.1).mpr q.2; omega)]
        exact hJ
      refine cst k1 (i := 0) (j := a) (by omega) (by omega) rfl rfl ?_
      refine cst k1 (i := a) (j := m - a) (by omega) (by omega) rfl em ?_
      refine w_offersFound (d := d + 2) (x := c1f h m dd a) (k := 1) (a := a) (b := 0) ?_ rfl rfl rfl (by have := big (by omega); omega) (by omega) hJ (fun S2 w1 w2 => ?_)
      · unfold c1f
        rw [show a - 0 = a by omega]
        simp only [J_lit, J_neg, J_add, J_sub, J_mul, J_nI]; congr 1
      · refine ih (a + 1) _ _ S2 (by omega) (by omega) (by simp only [J_lit, J_neg, J_add, J_sub, J_mul, J_nI]; congr 1) (FK_trans k1 w1) ?_
        rw [Nat.add_sub_cancel, ef, if_pos ⟨by omega, (hae (by omega)).mp (by omega)⟩]
        exact w2
  exact loop1 m 1 _ _ S0 (by omega) (by omega) rfl k0 hJ0
end mfind
