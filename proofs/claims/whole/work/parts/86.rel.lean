/-! both together -/
def Rel (SC SM : zS) (b : Nat → Nat → Int) (n : Nat → Nat) (dd : Nat) : Prop := CI SC b n dd ∧ MI SM b n dd ∧ ShAll SC SM
def RR (SC SM : zS) : Prop := ∃ b n dd, Rel SC SM b n dd
/-- class and model do the same -/
abbrev Op (mc mm : Nat) (as : List Value) (SC SM : zS) : Prop := KC 72 mc (.ref 0 :: as) SC (fun r S' => KM 72 mm (.ref 0 :: as) SM (fun r' M' => r = r' ∧ RR S' M'))
theorem ShAll_k {SC SM S' M' : zS} (h : ShAll SC SM) (k1 : ∀ c, c ≠ 0 → 33 ≤ c → S' c = SC c) (k2 : S' 0 9 = SC 0 9) (k3 : ∀ c, 1 ≤ c → c ≤ 3 → M' c = SM c) (k4 : M' 0 4 = SM 0 4) : ShAll S' M' := by
  refine ⟨by rw [k2, k4]; exact h.1, fun x s c ci hm => ?_⟩
  obtain ⟨-, h4, e1, e2, -⟩ := shs_x hm
  exact ShR_congr (h.2 x s c ci hm) (fun k _ => by rw [k1 c (by omega) (by omega)]) (k1 ci (by omega) (by omega)) (by rw [k3 1 (by decide) (by decide)]) (by rw [k3 2 (by decide) (by decide)]) (fun k _ => by rw [k3 3 (by decide) (by decide)])
theorem CI_k {S S' : zS} {b : Nat → Nat → Int} {n : Nat → Nat} {dd : Nat} (h : CI S b n dd) (k : ∀ c, c ≠ 0 → c ≤ 32 → S' c = S c) (k0 : ∀ j, j = 8 ∨ 10 ≤ j → S' 0 j = S 0 j) : CI S' b n dd := by
  obtain ⟨t, hd, h10, h11, h12, h13, h14⟩ := h
  refine ⟨TC_k t (fun c c1 c2 => k c c1 (by omega)), by rw [k0 8 (by decide)]; exact hd, fun w => ?_, fun w => ?_, fun w => ?_, fun w => ?_, fun w => ?_⟩
  · rw [k0 10 (by decide)] at w
    exact RunOk_k (h10 w) (fun c c1 c2 => k c (by omega) (by omega))
  · rw [k0 11 (by decide)] at w
    exact ScT_k (h11 w) (fun c c1 c2 => k c (by omega) (by omega))
  · rw [k0 12 (by decide)] at w
    exact SpsOk_k (h12 w) (fun c c1 c2 => k c (by omega) (by omega))
  · rw [k0 13 (by decide)] at w
    exact FndOk_k (h13 w) (fun c c1 c2 => k c (by omega) (by omega))
  · rw [k0 14 (by decide)] at w
    exact MdC_k (h14 w) (k 27 (by decide) (by decide))
section rel
variable {SC SM : zS} {b : Nat → Nat → Int} {n : Nat → Nat} {dd : Nat}
theorem Rel_q {S' M' : zS} (h : Rel SC SM b n dd) (c1 : CK SC S') (c2 : CI S' b n dd) (m1 : MKK SM M') : RR S' M' :=
  ⟨b, n, dd, c2, MI_k h.2.1 m1, ShAll_k h.2.2 (fun c c0 c3 => c1.1 c c0 (by omega)) (c1.2.1 9 (by decide)) (fun c e1 e2 => m1.1 c (by omega) (by omega)) m1.2.1⟩
theorem Rel_sh {S' M' : zS} {r r' : Option Value} (h : Rel SC SM b n dd) (o : OpR SC SM S' M' r r') : r = r' ∧ RR S' M' := by
  obtain ⟨e, hs, f1, f2⟩ := o
  have f2 : (∀ c, 5 ≤ c → M' c = SM c) ∧ ∀ k, k ≠ 4 → M' 0 k = SM 0 k := f2
  refine ⟨e, b, n, dd, CI_k h.1 (fun c c0 c3 => f1.1 c c0 (by omega)) (fun j hj => f1.2 j (by omega)), ?_, hs⟩
  obtain ⟨⟨h0, h1, h2, h3, h4⟩, h5, h6⟩ := h.2.1
  exact ⟨⟨h0, by rw [f2.1 7 (by decide)]; exact h1, fun j hj => by rw [f2.1 5 (by decide)]; exact h2 j hj, by rw [f2.1 7 (by decide)]; exact h3, fun j hj => by rw [f2.1 6 (by decide)]; exact h4 j hj⟩, by rw [f2.2 8 (by decide)]; exact h5, h6⟩
theorem Rel_TX (h : Rel SC SM b n dd) : TX SC SM b n := TX_iff.mpr ⟨h.1.1, h.2.1.1⟩
theorem Rel_t {S' M' : zS} {r r' : Option Value} (h : Rel SC SM b n dd) (o : OpT SC SM S' M' b n r r') : r = r' ∧ RR S' M' := by
  obtain ⟨e, o⟩ := o
  refine ⟨e, ?_⟩
  rcases o with ⟨rfl, rfl⟩ | ⟨x, t, o, oa, cap, A, b', n', hm, tx, oth, k1, fl, k2⟩
  · exact ⟨b, n, dd, h⟩
  obtain ⟨tc, tm⟩ := TX_iff.mp tx
  obtain ⟨-, t2, eo, ea, -, eA, -⟩ := txs_x hm
  have k2 : ∀ c, c ≠ A → c ≠ 7 → M' c = SM c := k2
  obtain ⟨⟨t0, hd, h10, h11, h12, h13, h14⟩, ⟨m0, m1, m2⟩, hs⟩ := h
  have sh : ShAll S' M' := ShAll_k hs (fun c c0 c3 => k1 c c0 (by omega) (by omega)) (by
    have : t = 0 ∨ t = 1 := by omega
    rcases this with rfl | rfl
    · exact (fl.1 rfl).1 9 (by decide) (by decide) (by decide) (by decide)
    · exact (fl.2 rfl).1 9 (by decide)) (fun c e1 e2 => k2 c (by omega) (by omega)) (by rw [k2 0 (by omega) (by decide)])
  have mi : MI M' b' n' dd := ⟨tm, by rw [k2 0 (by omega) (by decide)]; exact m1, m2⟩
  have kc : ∀ c, 6 ≤ c → S' c = SC c := fun c hc => k1 c (by omega) (by omega) (by omega)
  have : t = 0 ∨ t = 1 := by omega
  rcases this with rfl | rfl
  · obtain ⟨f1, f2, f3, f4, f5⟩ := fl.1 rfl
    obtain ⟨o1, o2⟩ := oth 1 (by decide)
    refine ⟨b', n', dd, ⟨tc, ?_, fun w => ?_, fun w => ?_, fun w => ?_, fun w => ?_, fun w => ?_⟩, mi, sh⟩
    · rw [f1 8 (by decide) (by decide) (by decide) (by decide)]; exact hd
    · rw [f2] at w; exact absurd w (by decide)
    · rw [f1 11 (by decide) (by decide) (by decide) (by decide)] at w
      rw [o1, o2]
      exact ScT_k (h11 w) (fun c c1 c2 => kc c (by omega))
    · rw [f3] at w; exact absurd w (by decide)
    · rw [f4] at w; exact absurd w (by decide)
    · rw [f5] at w; exact absurd w (by decide)
  · obtain ⟨f1, f2⟩ := fl.2 rfl
    obtain ⟨o1, o2⟩ := oth 0 (by decide)
    have eg : gB b' n' = gB b n := by show rg (b' 0) (n' 0) = rg (b 0) (n 0); rw [o1, o2]
    have en : nB b' n' = nB b n := by show rN (b' 0) (n' 0) = rN (b 0) (n 0); rw [o1, o2]
    refine ⟨b', n', dd, ⟨tc, ?_, fun w => ?_, fun w => ?_, fun w => ?_, fun w => ?_, fun w => ?_⟩, mi, sh⟩
    · rw [f1 8 (by decide)]; exact hd
    · rw [f1 10 (by decide)] at w
      have := RunOk_k (S' := S') (h10 w) (fun c c1 c2 => kc c (by omega))
      unfold RunOk at this ⊢
      rw [eg, en, o1, o2]; exact this
    · rw [f2] at w; exact absurd w (by decide)
    · rw [f1 12 (by decide)] at w
      have := SpsOk_k (S' := S') (h12 w) (fun c c1 c2 => kc c (by omega))
      unfold SpsOk at this ⊢
      rw [eg, en]; exact this
    · rw [f1 13 (by decide)] at w
      have := FndOk_k (S' := S') (h13 w) (fun c c1 c2 => kc c (by omega))
      unfold FndOk prB at this ⊢
      rw [eg, en]; exact this
    · rw [f1 14 (by decide)] at w
      have := MdC_k (S' := S') (h14 w) (kc 27 (by decide))
      rw [eg, en]; exact this
theorem o_type (h : Rel SC SM b n dd) (x v : Int32) : Op mX11_type mX12_type [.int x, .int v] SC SM :=
  zK_Q (op_type (d := 69) (Rel_TX h) x v) (fun _ _ h1 => zK_Q h1 (fun _ _ o => Rel_t h o))
theorem o_wipe (h : Rel SC SM b n dd) (x : Int32) : Op mX11_wipe mX12_wipe [.int x] SC SM :=
  zK_Q (op_wipe (d := 69) (Rel_TX h) x) (fun _ _ h1 => zK_Q h1 (fun _ _ o => Rel_t h o))
theorem o_undo (h : Rel SC SM b n dd) (x : Int32) : Op mX11_undo mX12_undo [.int x] SC SM :=
  zK_Q (op_undo (d := 69) (Rel_TX h) x) (fun _ _ h1 => zK_Q h1 (fun _ _ o => Rel_t h o))
theorem o_lose (h : Rel SC SM b n dd) (x : Int32) : Op mX11_lose mX12_lose [.int x] SC SM :=
  zK_Q (op_lose (d := 69) h.2.2 x) (fun _ _ h1 => zK_Q h1 (fun _ _ o => Rel_sh h o))
theorem o_sheet (h : Rel SC SM b n dd) (x f m : Int32) : Op mX11_sheet mX12_sheet [.int x, .int f, .int m] SC SM :=
  zK_Q (op_sheet (d := 69) h.2.2 x f m) (fun _ _ h1 => zK_Q h1 (fun _ _ o => Rel_sh h o))
theorem o_lay (h : Rel SC SM b n dd) (x f i v : Int32) : Op mX11_lay mX12_lay [.int x, .int f, .int i, .int v] SC SM :=
  zK_Q (op_lay (d := 69) h.2.2 x f i v) (fun _ _ h1 => zK_Q h1 (fun _ _ o => Rel_sh h o))
theorem o_get (h : Rel SC SM b n dd) (x f i : Int32) : Op mX11_get mX12_get [.int x, .int f, .int i] SC SM :=
  zK_Q (op_get (d := 69) h.2.2 x f i) (fun _ _ h1 => zK_Q h1 (fun _ _ o => Rel_sh h o))
theorem o_copy (h : Rel SC SM b n dd) (x i y j m : Int32) : Op mX11_copy mX12_copy [.int x, .int i, .int y, .int j, .int m] SC SM :=
  zK_Q (op_copy (d := 69) h.2.2 x i y j m) (fun _ _ h1 => zK_Q h1 (fun _ _ o => Rel_sh h o))
theorem o_read (h : Rel SC SM b n dd) (x y : Int32) : Op mX11_read mX12_read [.int x, .int y] SC SM :=
  zK_Q (op_read (d := 68) (Rel_TX h) h.2.2 x y) (fun _ _ h1 => zK_Q h1 (fun _ _ o => by
    rcases o with o | ⟨e, rfl, rfl⟩
    · exact Rel_t h o
    · exact Rel_sh h (by rw [← e]; exact op_find h.2.2)))
theorem Rel_dep {v : Int32} {S' : zS} (h : Rel SC SM b n dd) (hv : 0 ≤ v ∧ v ≤ 3) (e : (SC 0 8 = v ∧ S' = zu SC 0 8 v) ∨ (SC 0 8 ≠ v ∧ S' = zu (zu (zu SC 0 8 v) 0 13 1) 0 14 1)) : RR S' (zu SM 0 M_depth v) := by
  obtain ⟨z, rfl, z1, z2⟩ := J_of v
  simp (disch := omega) only [J_lit, J_neg, J_add, J_sub, J_mul, J_nI, J_le, J_lt, J_eq, J_in, J_nat] at hv
  obtain ⟨⟨t0, hd, h10, h11, h12, h13, h14⟩, ⟨⟨m0, m1, m2, m3, m4⟩, m5, m6⟩, hs⟩ := h
  have ez : J z = J (z.toNat : Int) := by congr 1; omega
  have mi : MI (zu SM 0 M_depth (J z)) b n z.toNat := by
    refine ⟨⟨m0, ?_, ?_, ?_, ?_⟩, ?_, by omega⟩
    · rw [zu_same (by decide)]; exact m1
    · rw [zu_same (by decide)]; exact m2
    · rw [zu_same (by decide)]; exact m3
    · rw [zu_same (by decide)]; exact m4
    · simp only [zu_r, if_true]
      exact ez
  rcases e with ⟨e, rfl⟩ | ⟨e, rfl⟩
  · have e' : dd = z.toNat := by
      rw [hd.1] at e
      simp (disch := omega) only [J_lit, J_neg, J_add, J_sub, J_mul, J_nI, J_le, J_lt, J_eq, J_in, J_nat] at e
      omega
    subst e'
    have k0 : ∀ k, (zu SC 0 8 (J z)) 0 k = SC 0 k := fun k => by
      simp only [zu_r, if_true]
      by_cases w : k = 8
      · rw [if_pos w, w]; exact e.symm
      · rw [if_neg w]
    refine ⟨b, n, z.toNat, CI_k ⟨t0, hd, h10, h11, h12, h13, h14⟩ (fun c c0 _ => zu_same c0) (fun j _ => k0 j), mi, ShAll_k hs (fun c c0 _ => zu_same c0) (k0 9) (fun c c1 c2 => zu_same (by omega)) ?_⟩
    simp only [zu_r, if_true]
    rw [if_neg (by decide)]
  · have kc : ∀ c, c ≠ 0 → (zu (zu (zu SC 0 8 (J z)) 0 13 1) 0 14 1) c = SC c := fun c c0 => by rw [zu_same c0, zu_same c0, zu_same c0]
    have k0 : ∀ k, k ≠ 8 → k ≠ 13 → k ≠ 14 → (zu (zu (zu SC 0 8 (J z)) 0 13 1) 0 14 1) 0 k = SC 0 k := fun k a1 a2 a3 => by simp only [zu_r, if_true]; rw [if_neg a3, if_neg a2, if_neg a1]
    refine ⟨b, n, z.toNat, ⟨TC_k t0 (fun c c0 _ => kc c c0), ⟨?_, by omega⟩, fun w => ?_, fun w => ?_, fun w => ?_, fun w => ?_, fun w => ?_⟩, mi, ShAll_k hs (fun c c0 _ => kc c c0) (k0 9 (by decide) (by decide) (by decide)) (fun c c1 c2 => zu_same (by omega)) ?_⟩
    · simp only [zu_r, if_true]
      exact ez
    · rw [k0 10 (by decide) (by decide) (by decide)] at w
      exact RunOk_k (h10 w) (fun c c1 c2 => kc c (by omega))
    · rw [k0 11 (by decide) (by decide) (by decide)] at w
      exact ScT_k (h11 w) (fun c c1 c2 => kc c (by omega))
    · rw [k0 12 (by decide) (by decide) (by decide)] at w
      exact SpsOk_k (h12 w) (fun c c1 c2 => kc c (by omega))
    · simp [zu_r] at w
    · simp [zu_r] at w
    · simp only [zu_r, if_true]
      rw [if_neg (by decide)]
theorem o_depth (h : Rel SC SM b n dd) (v : Int32) : Op mX11_depth mX12_depth [.int v] SC SM :=
  zK_Q (op_depth (d := 69) ⟨dd, h.1.2.1.1, h.2.1.2.1⟩ v) (fun _ _ h1 => zK_Q h1 (fun _ _ o => by
    obtain ⟨e, o⟩ := o
    refine ⟨e, ?_⟩
    rcases o with ⟨rfl, rfl⟩ | ⟨hv, rfl, e2⟩
    · exact ⟨b, n, dd, h⟩
    · exact Rel_dep h hv e2))
theorem o_fault (h : Rel SC SM b n dd) (t w : Int32) : Op mX11_fault mX12_fault [.int t, .int w] SC SM := by
  obtain ⟨t, rfl, t1, t2⟩ := J_of t
  obtain ⟨w, rfl, w1, w2⟩ := J_of w
  refine v_fault (d := 66) h.1 t1 t2 w1 w2 (fun S' c1 c2 => ?_)
  exact w_fault (d := 65) h.2.1 t1 t2 w1 w2 (fun M' m1 => ⟨rfl, Rel_q h c1 c2 m1⟩)
theorem o_within (h : Rel SC SM b n dd) (j : Int32) : Op mX11_within mX12_within [.int j] SC SM := by
  obtain ⟨j, rfl, j1, j2⟩ := J_of j
  refine v_within (d := 66) h.1 j1 j2 (fun S' c1 c2 => ?_)
  exact w_within (d := 66) h.2.1 j1 j2 (fun M' m1 => ⟨rfl, Rel_q h c1 c2 m1⟩)
theorem o_bar (h : Rel SC SM b n dd) (i : Int32) : Op mX11_bar mX12_bar [.int i] SC SM := by
  obtain ⟨i, rfl, i1, i2⟩ := J_of i
  refine v_bar (d := 68) h.1 i1 i2 (fun S' c1 c2 => ?_)
  exact w_bar (d := 64) h.2.1 i1 i2 (fun M' m1 => ⟨rfl, Rel_q h c1 c2 m1⟩)
theorem o_alike (h : Rel SC SM b n dd) (i j : Int32) : Op mX11_alike mX12_alike [.int i, .int j] SC SM := by
  obtain ⟨i, rfl, i1, i2⟩ := J_of i
  obtain ⟨j, rfl, j1, j2⟩ := J_of j
  refine v_alike (d := 66) h.1 i1 i2 j1 j2 (fun S' c1 c2 => ?_)
  exact w_alike (d := 64) h.2.1 i1 i2 j1 j2 (fun M' m1 => ⟨rfl, Rel_q h c1 c2 m1⟩)
theorem o_again (h : Rel SC SM b n dd) (i j : Int32) : Op mX11_again mX12_again [.int i, .int j] SC SM := by
  obtain ⟨i, rfl, i1, i2⟩ := J_of i
  obtain ⟨j, rfl, j1, j2⟩ := J_of j
  refine v_again (d := 66) h.1 i1 i2 j1 j2 (fun S' c1 c2 => ?_)
  exact w_again (d := 64) h.2.1 i1 i2 j1 j2 (fun M' m1 => ⟨rfl, Rel_q h c1 c2 m1⟩)
theorem o_plays (h : Rel SC SM b n dd) (i : Int32) : Op mX11_plays mX12_plays [.int i] SC SM := by
  obtain ⟨i, rfl, i1, i2⟩ := J_of i
  refine v_plays (d := 66) h.1 i1 i2 (fun S' c1 c2 => ?_)
  exact w_plays (d := 64) h.2.1 i1 i2 (fun M' m1 => ⟨rfl, Rel_q h c1 c2 m1⟩)
theorem o_often (h : Rel SC SM b n dd) (p : Int32) : Op mX11_often mX12_often [.int p] SC SM := by
  obtain ⟨p, rfl, p1, p2⟩ := J_of p
  refine v_often (d := 66) h.1 p1 p2 (fun S' c1 c2 => ?_)
  exact w_often (d := 64) h.2.1 p1 p2 (fun M' m1 => ⟨rfl, Rel_q h c1 c2 m1⟩)
theorem o_score (h : Rel SC SM b n dd) (w : Int32) : Op mX11_score mX12_score [.int w] SC SM := by
  obtain ⟨w, rfl, w1, w2⟩ := J_of w
  refine v_score (d := 66) h.1 w1 w2 (fun S' c1 c2 => ?_)
  exact w_score (d := 64) h.2.1 w1 w2 (fun M' m1 => ⟨rfl, Rel_q h c1 c2 m1⟩)
theorem o_same (h : Rel SC SM b n dd) : Op mX11_same mX12_same [] SC SM := by
  refine v_same (d := 65) h.1  (fun S' c1 c2 => ?_)
  exact w_same (d := 64) h.2.1  (fun M' m1 => ⟨rfl, Rel_q h c1 c2 m1⟩)
theorem o_first (h : Rel SC SM b n dd) : Op mX11_first mX12_first [] SC SM := by
  refine v_first (d := 66) h.1  (fun S' c1 c2 => ?_)
  exact w_first (d := 64) h.2.1  (fun M' m1 => ⟨rfl, Rel_q h c1 c2 m1⟩)
theorem o_span (h : Rel SC SM b n dd) (e i j w : Int32) : Op mX11_span mX12_span [.int e, .int i, .int j, .int w] SC SM := by
  obtain ⟨e, rfl, e1, e2⟩ := J_of e
  obtain ⟨i, rfl, i1, i2⟩ := J_of i
  obtain ⟨j, rfl, j1, j2⟩ := J_of j
  obtain ⟨w, rfl, w1, w2⟩ := J_of w
  refine v_span (d := 66) h.1 e1 e2 i1 i2 j1 j2 w1 w2 (fun S' c1 c2 => ?_)
  exact w_span (d := 64) h.2.1 e1 e2 i1 i2 j1 j2 w1 w2 (fun M' m1 => ⟨rfl, Rel_q h c1 c2 m1⟩)
theorem o_found (h : Rel SC SM b n dd) (w : Int32) : Op mX11_found mX12_found [.int w] SC SM := by
  obtain ⟨w, rfl, w1, w2⟩ := J_of w
  refine v_found (d := 14) h.1 w1 w2 (fun S' c1 c2 => ?_)
  exact w_found (d := 63) h.2.1 w1 w2 (fun M' m1 => ⟨rfl, Rel_q h c1 c2 m1⟩)
theorem o_shown (h : Rel SC SM b n dd) (i : Int32) : Op mX11_shown mX12_shown [.int i] SC SM := by
  obtain ⟨i, rfl, i1, i2⟩ := J_of i
  refine v_shown (d := 14) h.1 i1 i2 (fun S' c1 c2 => ?_)
  exact w_shown (d := 63) h.2.1 i1 i2 (fun M' m1 => ⟨rfl, Rel_q h c1 c2 m1⟩)
theorem o_mend (h : Rel SC SM b n dd) (w : Int32) : Op mX11_mend mX12_mend [.int w] SC SM := by
  obtain ⟨w, rfl, w1, w2⟩ := J_of w
  refine v_mend (d := 65) h.1 w1 w2 (fun S' c1 c2 => ?_)
  exact w_mend (d := 64) h.2.1 w1 w2 (fun M' m1 => ⟨rfl, Rel_q h c1 c2 m1⟩)
theorem o_count (h : Rel SC SM b n dd) (w : Int32) : Op mX11_count mX12_count [.int w] SC SM := by
  obtain ⟨w, rfl, w1, w2⟩ := J_of w
  refine v_count (d := 14) h.1 w1 w2 (fun S' c1 c2 => ?_)
  rw [h.2.2.1]
  exact w_count (d := 63) h.2.1 w1 w2 (fun M' m1 => ⟨rfl, Rel_q h c1 c2 m1⟩)
end rel
