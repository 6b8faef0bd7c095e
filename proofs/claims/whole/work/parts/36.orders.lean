section orders
variable {d : Nat} {S : zS} {Q : Option Value → zS → Prop}
set_option maxHeartbeats 2000000 in
/-- the model's order and likeness, but for one bar -/
theorem w_orders {N : Nat} {g : Nat → Int} {w : Int} (hN : N ≤ 24) (hw : -1 ≤ w ∧ w ≤ 24) (hS : S 0 M_bars = J N) (hg : ∀ k, k < N → S A_number k = J (nu g k))
    (h : ∀ S', (∀ c', c' ≠ 0 → c' ≠ A_order → c' ≠ A_like → S' c' = S c') → (∀ k, k ≠ M_many → S' 0 k = S 0 k) → S' 0 M_many = J (cs w N) → (∀ i j, i ≤ 24 → j ≤ 24 → S' A_like (25 * i + j) = J (al (fun k => g (skI w k)) (cs w N) i j)) → Q none S') : KM (d + 1) mX12_orders [.ref 0, .int (J w)] S Q := by
  have hm := cs_le w N
  have nul : ∀ k, nu g k ≤ k := by
    intro k
    have a := un_le g (fso g (g k) k)
    have b := fso_le g (g k) k
    unfold nu
    omega
  have rows : ∀ (r : Nat) (x2 : Int32) (j3 j4 : Option Value) (S' : zS), r ≤ 25 → x2 = J ((r : Int) - 1) → (∀ c', c' ≠ 0 → c' ≠ A_order → c' ≠ A_like → S' c' = S c') → (∀ k, k ≠ M_many → S' 0 k = S 0 k) → S' 0 M_many = J (cs w N) → (∀ k, k < cs w N → S' A_order k = J (nu g (skI w k))) → (∀ i j, r ≤ i → i ≤ 24 → j ≤ 24 → S' A_like (25 * i + j) = J (al (fun k => g (skI w k)) (cs w N) i j)) → zWp shM (KM d) kX12_orders 0 Q 54 [some (.ref 0), some (.int (J w)), some (.int x2), j3, j4] [] S' := by
    intro r
    induction r with
    | zero =>
      intro x2 j3 j4 S' hr e2 q1 q2 q3 q4 q5
      subst e2
      refine zRun_wp [54, 61] 80 ?_
      refine ⟨fun _ => h S' q1 q2 q3 (fun i j a1 a2 => q5 i j (by omega) a1 a2), fun c1 => ?_⟩
      simp (disch := omega) only [J_lit, J_neg, J_add, J_sub, J_mul, J_nI, J_le, J_lt, J_eq, J_in, J_nat] at c1
      omega
    | succ i ih =>
      intro x2 j3 j4 S' hr e2 q1 q2 q3 q4 q5
      have e2 : x2 = J i := by rw [e2]; congr 1; omega
      subst e2
      have cols : ∀ (r : Nat) (x3 : Int32) (j4 : Option Value) (S2 : zS), r ≤ 25 → x3 = J ((r : Int) - 1) → (∀ c', c' ≠ 0 → c' ≠ A_order → c' ≠ A_like → S2 c' = S c') → (∀ k, k ≠ M_many → S2 0 k = S 0 k) → S2 0 M_many = J (cs w N) → (∀ k, k < cs w N → S2 A_order k = J (nu g (skI w k))) → (∀ i' j, i + 1 ≤ i' → i' ≤ 24 → j ≤ 24 → S2 A_like (25 * i' + j) = J (al (fun k => g (skI w k)) (cs w N) i' j)) → (∀ j, r ≤ j → j ≤ 24 → S2 A_like (25 * i + j) = J (al (fun k => g (skI w k)) (cs w N) i j)) → zWp shM (KM d) kX12_orders 0 Q 61 [some (.ref 0), some (.int (J w)), some (.int (J i)), some (.int x3), j4] [] S2 := by
        intro r
        induction r with
        | zero =>
          intro x3 j4 S2 hr3 e3 p1 p2 p3 p4 p5 p6
          subst e3
          refine zRun_wp [54, 61] 80 ?_
          refine ⟨fun _ => ?_, fun c1 => ?_⟩
          · refine ih _ _ _ S2 (by omega) (by simp only [J_lit, J_neg, J_add, J_sub, J_mul, J_nI]; congr 1) p1 p2 p3 p4 (fun i' j a1 a2 a3 => ?_)
            by_cases ei : i' = i
            · rw [ei]; exact p6 j (by omega) a3
            · exact p5 i' j (by omega) a2 a3
          · simp (disch := omega) only [J_lit, J_neg, J_add, J_sub, J_mul, J_nI, J_le, J_lt, J_eq, J_in, J_nat] at c1
            omega
        | succ j ihj =>
          intro x3 j4 S2 hr3 e3 p1 p2 p3 p4 p5 p6
          have e3 : x3 = J j := by rw [e3]; congr 1; omega
          subst e3
          have ix : (25 * J i + J j).toNatClampNeg = 25 * i + j := by simp (disch := omega) only [J_lit, J_neg, J_add, J_sub, J_mul, J_nI, J_le, J_lt, J_eq, J_in, J_nat]; omega
          have iin : vp_in (25 * J i + J j) 625 := by simp (disch := omega) only [J_lit, J_neg, J_add, J_sub, J_mul, J_nI, J_le, J_lt, J_eq, J_in, J_nat]; omega
          have next : ∀ (v : Int32) (j4 : Option Value), v = J (al (fun k => g (skI w k)) (cs w N) i j) → zWp shM (KM d) kX12_orders 0 Q 61 [some (.ref 0), some (.int (J w)), some (.int (J i)), some (.int (J j + -1)), j4] [] (zu S2 A_like (25 * i + j) v) := by
            intro v j4 hv
            refine ihj _ _ _ (by omega) (by simp only [J_lit, J_neg, J_add, J_sub, J_mul, J_nI]; congr 1) (fun c' a1 a2 a3 => ?_) (fun k a1 => ?_) ?_ (fun k hk => ?_) (fun i' j' a1 a2 a3 => ?_) (fun j' a1 a2 => ?_)
            · rw [zu_same a3]; exact p1 c' a1 a2 a3
            · rw [zu_same (by decide)]; exact p2 k a1
            · rw [zu_same (by decide)]; exact p3
            · rw [zu_same (by decide)]; exact p4 k hk
            · simp only [zu_r, if_true]; rw [if_neg (by omega)]; exact p5 i' j' a1 a2 a3
            · simp only [zu_r, if_true]
              by_cases ej : j' = j
              · rw [if_pos (by omega), ej]; exact hv
              · rw [if_neg (by omega)]; exact p6 j' (by omega) a2
          have zero : ¬ (i < cs w N ∧ j < cs w N ∧ g (skI w i) = g (skI w j)) → (0 : Int32) = J (al (fun k => g (skI w k)) (cs w N) i j) := by
            intro q
            rw [al_s, if_neg q]; rfl
          have e30 : S2 0 30 = J (cs w N) := p3
          have ei : (J i).toNatClampNeg = i := by simp (disch := omega) only [J_lit, J_neg, J_add, J_sub, J_mul, J_nI, J_le, J_lt, J_eq, J_in, J_nat]; omega
          have ej : (J j).toNatClampNeg = j := by simp (disch := omega) only [J_lit, J_neg, J_add, J_sub, J_mul, J_nI, J_le, J_lt, J_eq, J_in, J_nat]; omega
          have vi : vp_in (J i) 25 := by simp (disch := omega) only [J_lit, J_neg, J_add, J_sub, J_mul, J_nI, J_le, J_lt, J_eq, J_in, J_nat]; omega
          have vj : vp_in (J j) 25 := by simp (disch := omega) only [J_lit, J_neg, J_add, J_sub, J_mul, J_nI, J_le, J_lt, J_eq, J_in, J_nat]; omega
          refine zRun_wp [54, 61] 80 ?_
          refine ⟨fun c1 => ?_, fun _ => ?_⟩
          · simp (disch := omega) only [J_lit, J_neg, J_add, J_sub, J_mul, J_nI, J_le, J_lt, J_eq, J_in, J_nat] at c1; omega
          refine ⟨fun c1 => ?_, fun c1 => ?_⟩ <;> rw [e30] at c1 <;> simp (disch := omega) only [J_lit, J_neg, J_add, J_sub, J_mul, J_nI, J_le, J_lt, J_eq, J_in, J_nat] at c1
          · refine ⟨fun q => absurd rfl q, fun _ => ?_⟩
            refine ⟨iin, ?_⟩
            rw [ix]
            exact next _ _ (zero (by omega))
          refine ⟨fun c2 => ?_, fun c2 => ?_⟩ <;> rw [e30] at c2 <;> simp (disch := omega) only [J_lit, J_neg, J_add, J_sub, J_mul, J_nI, J_le, J_lt, J_eq, J_in, J_nat] at c2
          · refine ⟨fun q => absurd rfl q, fun _ => ?_⟩
            refine ⟨iin, ?_⟩
            rw [ix]
            exact next _ _ (zero (by omega))
          have a1 := skI_lt (w := w) (k := i) (N := N) (by omega)
          have a2 := skI_lt (w := w) (k := j) (N := N) (by omega)
          have n1 := nul (skI w i)
          have n2 := nul (skI w j)
          have cm : S2 17 (J i).toNatClampNeg = S2 17 (J j).toNatClampNeg ↔ g (skI w i) = g (skI w j) := by
            rw [ei, ej, show S2 17 i = J (nu g (skI w i)) from p4 i (by omega), show S2 17 j = J (nu g (skI w j)) from p4 j (by omega)]
            simp (disch := omega) only [J_lit, J_neg, J_add, J_sub, J_mul, J_nI, J_le, J_lt, J_eq, J_in, J_nat]
            rw [← nu_iff g]
            omega
          refine ⟨vi, vj, fun c3 => ?_, fun c3 => ?_⟩ <;> rw [cm] at c3
          · refine ⟨fun q => absurd rfl q, fun _ => ?_⟩
            refine ⟨iin, ?_⟩
            rw [ix]
            exact next _ _ (zero (fun q => c3 q.2.2))
          · refine ⟨fun _ => ?_, fun q => absurd q (by decide)⟩
            refine ⟨fun c4 => ?_, fun c4 => ?_⟩ <;> simp (disch := omega) only [J_lit, J_neg, J_add, J_sub, J_mul, J_nI, J_le, J_lt, J_eq, J_in, J_nat] at c4
            · omega
            refine ⟨fun _ => ?_, fun c5 => ?_⟩
            · have ix2 : (25 * (J i + 1) + J j + 1).toNatClampNeg = 25 * (i + 1) + (j + 1) := by simp (disch := omega) only [J_lit, J_neg, J_add, J_sub, J_mul, J_nI, J_le, J_lt, J_eq, J_in, J_nat]; omega
              refine ⟨by simp (disch := omega) only [J_lit, J_neg, J_add, J_sub, J_mul, J_nI, J_le, J_lt, J_eq, J_in, J_nat]; omega, iin, ?_⟩
              rw [ix, ix2, show S2 18 (25 * (i + 1) + (j + 1)) = _ from p5 (i + 1) (j + 1) (by omega) (by omega) (by omega)]
              refine next _ _ ?_
              rw [al_s _ _ i j, if_pos ⟨by omega, by omega, c3⟩]
              simp only [J_lit, J_neg, J_add, J_sub, J_mul, J_nI]; congr 1
            · simp (disch := omega) only [J_lit, J_neg, J_add, J_sub, J_mul, J_nI, J_le, J_lt, J_eq, J_in, J_nat] at c5
              omega
      refine zRun_wp [54, 61] 80 ?_
      refine ⟨fun c1 => ?_, fun _ => ?_⟩
      · simp (disch := omega) only [J_lit, J_neg, J_add, J_sub, J_mul, J_nI, J_le, J_lt, J_eq, J_in, J_nat] at c1; omega
      · exact cols 25 _ _ S' (by omega) rfl q1 q2 q3 q4 (fun i' j a1 a2 a3 => q5 i' j a1 a2 a3) (fun j a1 a2 => by omega)
  have bars : ∀ (r i : Nat) (x2 : Int32) (S' : zS), i + r = N → x2 = J i → (∀ c', c' ≠ 0 → c' ≠ A_order → c' ≠ A_like → S' c' = S c') → (∀ k, k ≠ M_many → S' 0 k = S 0 k) → S' 0 M_many = J (cs w i) → (∀ k, k < cs w i → S' A_order k = J (nu g (skI w k))) → zWp shM (KM d) kX12_orders 0 Q 7 [some (.ref 0), some (.int (J w)), some (.int x2), none, none] [] S' := by
    intro r
    induction r with
    | zero =>
      intro i x2 S' hi e2 q1 q2 q3 q4
      subst e2
      have ei : i = N := by omega
      subst ei
      refine zRun_wp [7, 54] 80 ?_
      refine ⟨fun _ => ?_, fun c1 => ?_⟩
      · exact rows 25 _ _ _ S' (by omega) rfl q1 q2 q3 q4 (fun i' j a1 a2 _ => by omega)
      · rw [show S' 0 9 = J i by rw [q2 9 (by decide)]; exact hS] at c1
        exact absurd (Int32.le_refl _) c1
    | succ r ih =>
      intro i x2 S' hi e2 q1 q2 q3 q4
      subst e2
      have hcsi := cs_le w i
      have e9 : S' 9 i = J (nu g i) := by rw [q1 9 (by decide) (by decide) (by decide)]; exact hg i (by omega)
      have iin : vp_in (J i) 24 := by simp (disch := omega) only [J_lit, J_neg, J_add, J_sub, J_mul, J_nI, J_le, J_lt, J_eq, J_in, J_nat]; omega
      have iix : (J i).toNatClampNeg = i := by simp (disch := omega) only [J_lit, J_neg, J_add, J_sub, J_mul, J_nI, J_le, J_lt, J_eq, J_in, J_nat]; omega
      have cin : vp_in (J (cs w i)) 25 := by simp (disch := omega) only [J_lit, J_neg, J_add, J_sub, J_mul, J_nI, J_le, J_lt, J_eq, J_in, J_nat]; omega
      have cix : (J (cs w i)).toNatClampNeg = cs w i := by simp (disch := omega) only [J_lit, J_neg, J_add, J_sub, J_mul, J_nI, J_le, J_lt, J_eq, J_in, J_nat]; omega
      have e30 : S' 0 30 = J (cs w i) := q3
      refine zRun_wp [7, 54] 80 ?_
      refine ⟨fun c1 => ?_, fun _ => ?_⟩
      · rw [show S' 0 9 = J N by rw [q2 9 (by decide)]; exact hS] at c1
        simp (disch := omega) only [J_lit, J_neg, J_add, J_sub, J_mul, J_nI, J_le, J_lt, J_eq, J_in, J_nat] at c1; omega
      refine ⟨fun c1 => ?_, fun c1 => ?_⟩ <;> simp (disch := omega) only [J_lit, J_neg, J_add, J_sub, J_mul, J_nI, J_le, J_lt, J_eq, J_in, J_nat] at c1
      · have := cs_same c1
        exact ih (i + 1) _ _ (by omega) (by simp only [J_lit, J_neg, J_add, J_sub, J_mul, J_nI]; congr 1) q1 q2 (by rw [this]; exact q3) (by rw [this]; exact q4)
      obtain ⟨a1, a2⟩ := cs_next c1
      refine ⟨iin, ?_, rfl, fun e => absurd e (by decide), ?_⟩
      · rw [e30]; exact cin
      · rw [e30, cix, iix, e9]
        refine ih (i + 1) _ _ (by omega) (by simp only [J_lit, J_neg, J_add, J_sub, J_mul, J_nI]; congr 1) (fun c' b1 b2 b3 => ?_) (fun k b1 => ?_) ?_ (fun k hk => ?_)
        · rw [zu_same b1, zu_same b2]; exact q1 c' b1 b2 b3
        · simp only [zu_r, if_true]; rw [if_neg b1, if_neg (by decide)]; exact q2 k b1
        · simp only [zu_r, if_true]; rw [if_neg (by decide), a1, e30]; simp only [J_lit, J_neg, J_add, J_sub, J_mul, J_nI]; rfl
        · rw [zu_same (by decide)]
          simp only [zu_r, if_true]
          by_cases ek : k = cs w i
          · rw [if_pos ek, ek, a2]
          · rw [if_neg ek]; exact q4 k (by omega)
  refine eX12_orders (zRun_wp [7, 54] 80 ?_)
  refine ⟨rfl, fun e => absurd e (by decide), ?_⟩
  refine bars N 0 _ _ (by omega) rfl (fun c' a1 _ _ => zu_same a1) (fun k a1 => ?_) ?_ (fun k hk => ?_)
  · simp only [zu_r, if_true]; rw [if_neg a1]
  · simp only [zu_r, if_true]; unfold cs; rw [if_neg (by omega)]; rfl
  · unfold cs at hk; rw [if_neg (by omega)] at hk; omega
end orders
