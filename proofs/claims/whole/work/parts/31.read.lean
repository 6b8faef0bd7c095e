section texts3
variable {d : Nat} {SC SM : zS} {b : Nat → Nat → Int} {n : Nat → Nat}
/-- the model's read behind its tests -/
theorem w_readloop {Q : Option Value → zS → Prop} {x y : Int32} {t o oa cap A s c ci : Nat} (hm : (x, t, o, oa, cap, A) ∈ txs) (hs : (y, s, c, ci) ∈ shs) {a m : Nat} (ha : a ≤ cap) (hm60 : m ≤ 60) (k : Nat) (hk : k ≤ m) (hka : a + k ≤ cap)
    (hby : ∀ j, j < k → 0 ≤ SM A_items (60 * s + j) ∧ SM A_items (60 * s + j) ≤ 255) (hstop : k = m ∨ a + k = cap ∨ ¬ (0 ≤ SM A_items (60 * s + k) ∧ SM A_items (60 * s + k) ≤ 255))
    (hsz : SM A_sizes s = J m) (hty : SM A_typed t = J a)
    (hq : ∀ M', (∀ c, c ≠ A → c ≠ A_typed → M' c = SM c) → (∀ t', t' ≠ t → M' A_typed t' = SM A_typed t') → M' A_typed t = J (a + k : Nat) → (∀ j, j < a → M' A j = SM A j) → (∀ j, j < k → M' A (a + j) = SM A_items (60 * s + j)) → Q (some (.int (J k))) M') :
    ∀ (r i : Nat) (x3 : Int32) (M : zS), i + r = k → x3 = J i → (∀ c, c ≠ A → c ≠ A_typed → M c = SM c) → (∀ t', t' ≠ t → M A_typed t' = SM A_typed t') → M A_typed t = J (a + i : Nat) → (∀ j, j < a → M A j = SM A j) → (∀ j, j < i → M A (a + j) = SM A_items (60 * s + j)) → zWp shM (KM (d + 3)) kX12_read 1 Q 34 [some (.ref 0), some (.int x), some (.int y), some (.int x3)] [] M := by
  obtain ⟨hx, ht2, -, -, ecap, eA, -, x01, hin, ex⟩ := txs_x hm
  obtain ⟨hy, hs4, -, -, -, -, -, hiny, ey⟩ := shs_x hs
  intro r
  induction r with
  | zero =>
    intro i x3 M hi e3 q1 q2 q3 q4 q5
    subst e3
    have ei : i = k := by omega
    subst ei
    refine zRun_wp [34] 80 ?_
    have e2 : M 2 (Int32.toNatClampNeg y) = J m := by rw [hy, q1 2 (by omega) (by decide)]; exact hsz
    refine ⟨hiny, fun c1 => ?_, fun c1 => ?_⟩ <;> rw [e2] at c1 <;> simp (disch := omega) only [J_lit, J_neg, J_add, J_sub, J_mul, J_nI, J_le, J_lt, J_eq, J_in, J_nat] at c1
    · exact hq M q1 q2 q3 q4 q5
    · have hi2 : vp_in (60 * y + J i) 240 := by rw [ey]; simp (disch := omega) only [J_lit, J_neg, J_add, J_sub, J_mul, J_nI, J_le, J_lt, J_eq, J_in, J_nat]; omega
      have hix : (60 * y + J i).toNatClampNeg = 60 * s + i := by rw [ey]; simp (disch := omega) only [J_lit, J_neg, J_add, J_sub, J_mul, J_nI, J_le, J_lt, J_eq, J_in, J_nat]; omega
      refine ⟨hi2, ?_⟩
      rw [hix, show M 3 = SM 3 from q1 3 (by omega) (by decide)]
      obtain ⟨z, ez, z1, z2⟩ := J_of (SM 3 (60 * s + i))
      have bz : (0 ≤ SM A_items (60 * s + i) ∧ SM A_items (60 * s + i) ≤ 255) ↔ (0 ≤ z ∧ z ≤ 255) := by
        rw [show SM A_items (60 * s + i) = J z from ez]
        simp (disch := omega) only [J_lit, J_neg, J_add, J_sub, J_mul, J_nI, J_le, J_lt, J_eq, J_in, J_nat]
      refine w_type ez z1 z2 hm (n := a + i) hka q3 (fun _ => ?_) (fun _ _ => ?_) (fun e1 e2 => ?_)
      · exact ⟨fun _ => hq M q1 q2 q3 q4 q5, fun e => absurd (by decide) e⟩
      · exact ⟨fun _ => hq M q1 q2 q3 q4 q5, fun e => absurd (by decide) e⟩
      · rcases hstop with e | e | e
        · omega
        · omega
        · exact absurd (bz.mpr e1) e
  | succ r ih =>
    intro i x3 M hi e3 q1 q2 q3 q4 q5
    subst e3
    refine zRun_wp [34] 80 ?_
    have e2 : M 2 (Int32.toNatClampNeg y) = J m := by rw [hy, q1 2 (by omega) (by decide)]; exact hsz
    refine ⟨hiny, fun c1 => ?_, fun c1 => ?_⟩ <;> rw [e2] at c1 <;> simp (disch := omega) only [J_lit, J_neg, J_add, J_sub, J_mul, J_nI, J_le, J_lt, J_eq, J_in, J_nat] at c1
    · omega
    · have hi2 : vp_in (60 * y + J i) 240 := by rw [ey]; simp (disch := omega) only [J_lit, J_neg, J_add, J_sub, J_mul, J_nI, J_le, J_lt, J_eq, J_in, J_nat]; omega
      have hix : (60 * y + J i).toNatClampNeg = 60 * s + i := by rw [ey]; simp (disch := omega) only [J_lit, J_neg, J_add, J_sub, J_mul, J_nI, J_le, J_lt, J_eq, J_in, J_nat]; omega
      refine ⟨hi2, ?_⟩
      rw [hix, show M 3 = SM 3 from q1 3 (by omega) (by decide)]
      obtain ⟨z, ez, z1, z2⟩ := J_of (SM 3 (60 * s + i))
      have bz : 0 ≤ z ∧ z ≤ 255 := by
        have := hby i (by omega)
        rw [show SM A_items (60 * s + i) = J z from ez] at this
        simp (disch := omega) only [J_lit, J_neg, J_add, J_sub, J_mul, J_nI, J_le, J_lt, J_eq, J_in, J_nat] at this
        exact this
      refine w_type ez z1 z2 hm (n := a + i) (by omega) q3 (fun e => absurd bz e) (fun _ e => absurd e (by omega)) (fun _ _ => ?_)
      refine ⟨fun c2 => ?_, fun _ => ?_⟩
      · simp (disch := omega) only [J_lit, J_neg, J_add, J_sub, J_mul, J_nI, J_le, J_lt, J_eq, J_in, J_nat] at c2
        omega
      · refine ih (i + 1) _ _ (by omega) (by simp only [J_lit, J_neg, J_add, J_sub, J_mul, J_nI]; congr 1) (fun c' e1 e2 => ?_) (fun t' e => ?_) ?_ (fun j hj => ?_) (fun j hj => ?_)
        · rw [zu_same e2, zu_same e1]; exact q1 c' e1 e2
        · simp only [zu_r, if_true]; rw [if_neg e, if_neg (by show ¬ (7 = A); omega)]; exact q2 t' e
        · simp only [zu_r, if_true]; rfl
        · rw [zu_same (by show A ≠ 7; omega)]; simp only [zu_r, if_true]; rw [if_neg (by omega)]; exact q4 j hj
        · rw [zu_same (by show A ≠ 7; omega)]; simp only [zu_r, if_true]
          by_cases e : j = i
          · rw [if_pos (by omega), e]
          · rw [if_neg (by omega)]; exact q5 j (by omega)
abbrev OpRd (SC SM S' M' : zS) (b : Nat → Nat → Int) (n : Nat → Nat) (r r' : Option Value) : Prop := OpT SC SM S' M' b n r r' ∨ (r = r' ∧ S' = zu SC 0 9 1 ∧ M' = zu SM 0 M_latest 1)
set_option maxHeartbeats 4000000 in
theorem op_read (h : TX SC SM b n) (hS : ShAll SC SM) (x y : Int32) : KC (d + 4) mX11_read [.ref 0, .int x, .int y] SC (fun r S' => KM (d + 4) mX12_read [.ref 0, .int x, .int y] SM (fun r' M' => OpRd SC SM S' M' b n r r')) := by
  have badM : ¬ ((0 ≤ x ∧ x < 2) ∧ (0 ≤ y ∧ y < 4)) → KM (d + 4) mX12_read [.ref 0, .int x, .int y] SM (fun r' M' => OpRd SC SM SC M' b n (some (.int (-2))) r') := by
    intro hb
    refine eX12_read (zRun_wp [34] 80 ?_)
    refine w_isTwo ?_
    refine ⟨fun _ => Or.inl ⟨rfl, Or.inl ⟨rfl, rfl⟩⟩, fun c1 => ?_⟩
    rw [bb_0, Classical.not_not, ← two_iff] at c1
    refine w_isSheet ?_
    refine ⟨fun c2 => ?_, fun _ => Or.inl ⟨rfl, Or.inl ⟨rfl, rfl⟩⟩⟩
    rw [bb_0, Classical.not_not, ← four_iff] at c2
    exact absurd ⟨c1, c2⟩ hb
  refine eX11_read (zRun_wp [53] 80 ?_)
  refine v_isText ?_
  refine ⟨fun c1 => ?_, fun c1 => ?_⟩
  · rw [bb_0] at c1
    exact badM (fun q => c1 q.1)
  rw [bb_0, Classical.not_not] at c1
  refine v_isSheet ?_
  refine ⟨fun c2 => ?_, fun c2 => ?_⟩
  rotate_left
  · rw [bb_0] at c2
    exact badM (fun q => c2 q.2)
  rw [bb_0, Classical.not_not] at c2
  obtain ⟨t, o, oa, cap, A, hm⟩ := txs_of c1
  obtain ⟨hx, ht2, eo, eoa, ecap, eA, -, x01, hin, ex⟩ := txs_x hm
  obtain ⟨k1, k2, k3, k4, k5, k6⟩ := h x t o oa cap A hm
  obtain ⟨s, c, ci, hs⟩ := shs_of c2.1 (lt_le4 c2.2)
  obtain ⟨hy, hs4, e34, e35, y0, y3, y4, hiny, ey⟩ := shs_x hs
  have hR := hS.2 y s c ci hs
  refine ⟨hiny, fun q hq => ?_⟩
  obtain ⟨rfl, hcm, hc4⟩ := qcell hs hq
  -- the model, from its tests on
  have goM : ∀ {Q' : Option Value → zS → Prop}, (SM A_forms s < 0 → Q' (some (.int (-11))) (zu SM 0 M_latest 1)) → (¬ SM A_forms s < 0 → zWp shM (KM (d + 3)) kX12_read 1 Q' 34 [some (.ref 0), some (.int x), some (.int y), some (.int 0)] [] SM) → KM (d + 4) mX12_read [.ref 0, .int x, .int y] SM Q' := by
    intro Q' g1 g2
    refine eX12_read (zRun_wp [34] 80 ?_)
    refine w_isTwo ?_
    rw [bb_t x01]
    refine ⟨fun q => absurd q (by decide), fun _ => ?_⟩
    refine w_isSheet ?_
    rw [bb_t ⟨y0, y3⟩]
    refine ⟨fun _ => ?_, fun q => absurd q (by decide)⟩
    refine ⟨hiny, fun c3 => ?_, fun c3 => ?_⟩ <;> rw [hy] at c3
    · exact g2 (Int32.not_lt.mpr c3)
    · exact w_finds (g1 (Int32.not_le.mp c3))
  have lostk : ¬ SC q 1 = 0 → KM (d + 4) mX12_read [.ref 0, .int x, .int y] SM (fun r' M' => OpRd SC SM (zu SC 0 9 1) M' b n (some (.int (-11))) r') := by
    intro l1
    refine goM (fun _ => Or.inr ⟨rfl, rfl, rfl⟩) (fun e => ?_)
    rcases hR with ⟨l, l2⟩ | ⟨f, m, f1, f2, f3, -⟩
    · rw [l2] at e; exact absurd (by decide) e
    · exact absurd f3 l1
  have loop : SC q 1 = 0 → ∀ (m : Nat), m ≤ 60 → SC q 3 = J m → (∀ k, k < m → SM A_items (60 * s + k) = SC ci k) → ¬ SM A_forms s < 0 → SM A_sizes s = J m → ∀ (r i : Nat) (x5 : Int32) (S' : zS), i + r = 60 → x5 = J i → i ≤ m → n t + i ≤ cap → (∀ k, k < i → 0 ≤ SC ci k ∧ SC ci k ≤ 255) → (∀ c, c ≠ o → c ≠ oa → S' c = SC c) → S' o 1 = J (n t + i : Nat) → (∀ k, k < n t → S' oa k = SC oa k) → (∀ k, k < i → S' oa (n t + k) = SC ci k) → zWp shC (KC (d + 3)) kX11_read 1 (fun r S' => KM (d + 4) mX12_read [.ref 0, .int x, .int y] SM (fun r' M' => OpRd SC SM S' M' b n r r')) 53 [some (.ref 0), some (.int x), some (.int y), some (.ref q), some (.ref o), some (.int x5)] [] S' := by
    intro l0 m hm60 l3 l4 l5 l6 r
    -- what is left to do when the loop ends
    have done : ∀ (i : Nat) (S' : zS), i ≤ m → n t + i ≤ cap → (∀ k, k < i → 0 ≤ SC ci k ∧ SC ci k ≤ 255) → (i = m ∨ n t + i = cap ∨ ¬ (0 ≤ SC ci i ∧ SC ci i ≤ 255)) → (∀ c, c ≠ o → c ≠ oa → S' c = SC c) → S' o 1 = J (n t + i : Nat) → (∀ k, k < n t → S' oa k = SC oa k) → (∀ k, k < i → S' oa (n t + k) = SC ci k) → KC (d + 3) mX11_noteChange [.ref 0, .int x] S' (fun _ S2 => KM (d + 4) mX12_read [.ref 0, .int x, .int y] SM (fun r' M' => OpRd SC SM S2 M' b n (some (.int (J i))) r')) := by
      intro i S' hi hcap hby hstop g1 g2 g3 g4
      refine v_note hm (fun S2 j1 j2 => ?_)
      refine goM (fun e => absurd e l5) (fun _ => ?_)
      have byM : ∀ j, j < i → 0 ≤ SM A_items (60 * s + j) ∧ SM A_items (60 * s + j) ≤ 255 := fun j hj => by rw [l4 j (by omega)]; exact hby j hj
      refine w_readloop hm hs k1 hm60 i hi hcap byM ?_ l6 k5 (fun M' p1 p2 p3 p4 p5 => Or.inl ⟨rfl, Or.inr ⟨x, t, o, oa, cap, A, upF b t (fun k => if k < n t then b t k else (SC ci (k - n t)).toInt), upF n t (n t + i), hm, ?_, ?_, ?_, ?_, p1⟩⟩) i 0 0 SM (by omega) rfl (fun _ _ _ => rfl) (fun _ _ => rfl) k5 (fun _ _ => rfl) (fun j hj => absurd hj (by omega))
      · rcases hstop with e | e | e
        · exact Or.inl e
        · exact Or.inr (Or.inl e)
        · by_cases e2 : i = m
          · exact Or.inl e2
          · rw [← l4 i (by omega)] at e; exact Or.inr (Or.inr e)
      · have intJ : ∀ v : Int32, J v.toInt = v := fun v => Int32.ofInt_toInt v
        refine TX_step hm h (fun t' e => ⟨upF_n e, upF_n e⟩) (fun c e0 e1 e2 => by rw [j1 c e0, g1 c e1 e2]) p1 p2 ?_ ?_ ?_ ?_ ?_ ?_
        · rw [upF_s]; omega
        · rw [upF_s, upF_s]
          intro k hk
          by_cases e : k < n t
          · rw [if_pos e]; exact k2 k e
          · rw [if_neg e]
            have := hby (k - n t) (by omega)
            rw [Int32.le_iff_toInt_le, Int32.le_iff_toInt_le] at this
            exact this
        · rw [upF_s, j1 o (by omega)]; exact g2
        · rw [upF_s, upF_s]
          intro k hk
          rw [j1 oa (by omega)]
          by_cases e : k < n t
          · rw [if_pos e, g3 k e]; exact k4 k e
          · rw [if_neg e, intJ, ← g4 (k - n t) (by omega)]; congr 1; omega
        · rw [upF_s]; exact p3
        · rw [upF_s, upF_s]
          intro k hk
          by_cases e : k < n t
          · rw [if_pos e, p4 k e]; exact k6 k e
          · rw [if_neg e, intJ, ← l4 (k - n t) (by omega), ← p5 (k - n t) (by omega)]; congr 1; omega
      · exact fun t' e => ⟨upF_n e, upF_n e⟩
      · exact fun c e0 e1 e2 => by rw [j1 c e0, g1 c e1 e2]
      · unfold TFlag at j2 ⊢
        rw [g1 0 (by omega) (by omega)] at j2
        exact j2
    have fullk : ∀ {S' : zS} {i : Nat} {Q' : Option Value → zS → Prop}, n t + i ≤ cap → S' o 1 = J (n t + i : Nat) → Q' (some (.int (bb (cap ≤ n t + i)))) S' → KC (d + 3) mX10_isFull [.ref o] S' Q' := fun e1 e2 k => v_isFull hm e1 e2 k
    have addk : ∀ {S' : zS} {i : Nat} {v : Int32} {Q' : Option Value → zS → Prop}, n t + i < cap → S' o 1 = J (n t + i : Nat) → Q' none (zu (zu S' oa (n t + i) v) o 1 (J (n t + i + 1 : Nat))) → KC (d + 3) mX10_add [.ref o, .int v] S' Q' := fun e1 e2 k => v_add hm e1 e2 k
    have cells : ∃ tt ss : Nat, (tt = 0 ∨ tt = 1) ∧ (ss = 0 ∨ ss = 1 ∨ ss = 2 ∨ ss = 3) ∧ o = 2 + 2 * tt ∧ oa = 3 + 2 * tt ∧ q = 34 + 2 * ss ∧ ci = 35 + 2 * ss ∧ cap ≤ 40 := ⟨t, s, by omega, by omega, eo, eoa, e34, e35, by omega⟩
    clear hq hm hs k1 k2 k3 k4 k5 k6 hR lostk goM badM eo eoa ecap eA e34 e35 hcm hc4
    obtain ⟨tt, ss, ht, hss, rfl, rfl, rfl, rfl, hcap40⟩ := cells
    induction r with
    | zero => intro i x5 S' hi e5 hi2; omega
    | succ r ih =>
      intro i x5 S' hi e5 hi2 hi3 hby g1 g2 g3 g4
      subst e5
      have done := done i S' hi2 hi3 hby
      have fullk := fun {Q' : Option Value → zS → Prop} => fullk (S' := S') (i := i) (Q' := Q') hi3 g2
      have addk := fun {v : Int32} {Q' : Option Value → zS → Prop} => addk (S' := S') (i := i) (v := v) (Q' := Q')
      rcases ht with rfl | rfl <;> rcases hss with rfl | rfl | rfl | rfl
      all_goals
        refine zRun_wp [53] 80 ?_
        refine ⟨fun c3 => ?_, fun c3 => ?_⟩ <;> rw [g1 _ (by decide) (by decide), show SC _ 3 = J m from l3] at c3 <;> simp (disch := omega) only [J_lit, J_neg, J_add, J_sub, J_mul, J_nI, J_le, J_lt, J_eq, J_in, J_nat] at c3
        · exact done (Or.inl (by omega)) g1 g2 g3 g4
        refine fullk ?_
        refine ⟨fun c4 => ?_, fun c4 => ?_⟩
        · rw [bb_0, Classical.not_not] at c4
          exact done (Or.inr (Or.inl (by omega))) g1 g2 g3 g4
        rw [bb_0] at c4
        have hi60 : vp_in (J i) 60 := by simp (disch := omega) only [J_lit, J_neg, J_add, J_sub, J_mul, J_nI, J_le, J_lt, J_eq, J_in, J_nat]; omega
        have hix : (J i).toNatClampNeg = i := by simp (disch := omega) only [J_lit, J_neg, J_add, J_sub, J_mul, J_nI, J_le, J_lt, J_eq, J_in, J_nat]; omega
        refine ⟨hi60, ?_⟩
        refine v_isByte ?_
        refine ⟨fun c5 => ?_, fun c5 => ?_⟩ <;> rw [bb_0, hix, g1 _ (by decide) (by decide)] at c5
        · exact done (Or.inr (Or.inr c5)) g1 g2 g3 g4
        rw [Classical.not_not] at c5
        refine ⟨hi60, ?_⟩
        refine addk (by omega) g2 ?_
        rw [hix, g1 _ (by decide) (by decide)]
        refine ih (i + 1) _ _ (by omega) (by simp only [J_lit, J_neg, J_add, J_sub, J_mul, J_nI]; congr 1) (by omega) (by omega) (fun k hk => ?_) (fun c e1 e2 => ?_) ?_ (fun k hk => ?_) (fun k hk => ?_)
        · by_cases e : k = i
          · rw [e]; exact c5
          · exact hby k (by omega)
        · rw [zu_same e1, zu_same e2]; exact g1 c e1 e2
        · simp only [zu_r, if_true]; rfl
        · rw [zu_same (by decide)]; simp only [zu_r, if_true]; rw [if_neg (by omega)]; exact g3 k hk
        · rw [zu_same (by decide)]; simp only [zu_r, if_true]
          by_cases e : k = i
          · rw [if_pos (by omega), e]
          · rw [if_neg (by omega)]; exact g4 k (by omega)
  have start : SC q 1 = 0 → zWp shC (KC (d + 3)) kX11_read 1 (fun r S' => KM (d + 4) mX12_read [.ref 0, .int x, .int y] SM (fun r' M' => OpRd SC SM S' M' b n r r')) 53 [some (.ref 0), some (.int x), some (.int y), some (.ref q), some (.ref o), some (.int 0)] [] SC := by
    intro l0
    rcases hR with ⟨l, l2⟩ | ⟨f, m, f1, f2, f3, f4, f5, f6, f7, f8⟩
    · exact absurd (l.symm.trans l0) (by decide)
    · exact loop l0 m f2 f5 f8 (by rw [f6]; exact f_neg f1) f7 60 0 0 SC (by omega) rfl (by omega) (by omega) (fun k hk => absurd hk (by omega)) (fun _ _ _ => rfl) k3 (fun _ _ => rfl) (fun k hk => absurd hk (by omega))
  have tc := fun {q' : Nat} (hq : zn [2, 4] x.toNatClampNeg = some q') => tcell hm hq
  have sc := fun {q' : Nat} (hq : zn [34, 36, 38, 40] y.toNatClampNeg = some q') => (qcell hs hq).1
  clear loop goM badM
  rcases hc4 with rfl | rfl | rfl | rfl
  all_goals
    refine ⟨fun l0 => ?_, fun l1 => v_finding (lostk l1)⟩
    refine ⟨hiny, fun q2 hq2 => ?_⟩
    obtain rfl := sc hq2
    refine ⟨hin, fun q3 hq3 => ?_⟩
    obtain rfl := tc hq3
    exact start l0
end texts3
