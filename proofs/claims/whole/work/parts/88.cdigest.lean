/-! digest -/
def hx (h : Int64) (v : Int32) : Int64 := (31 : Int32).toInt64 * h + v.toInt64
/-- r values from the k-th on -/
def hxr (f : Nat → Int32) : Nat → Nat → Int64 → Int64
  | 0, _, h => h
  | r + 1, k, h => hxr f r (k + 1) (hx h (f k))
def tbv (b : Nat → Nat → Int) (n : Nat → Nat) (k : Nat) (h : Int64) : Int64 :=
  hx (hx (hx (hx (hx (hx h (J (vBar b n k))) (J (vAlike b n k 0))) (J (vAgain b n 0 k))) (J (vSpan b n 1 0 k 0))) (J (vSpan b n 2 k (nB b n) 1))) (J (vSpan b n 3 0 k 1))
def tbr (b : Nat → Nat → Int) (n : Nat → Nat) : Nat → Nat → Int64 → Int64
  | 0, _, h => h
  | r + 1, k, h => tbr b n r (k + 1) (tbv b n k h)
noncomputable def vDig (b : Nat → Nat → Int) (n : Nat → Nat) (dd : Nat) : Int64 :=
  hxr (fun k => J (vMend b n dd k)) 3 0 (hxr (fun k => J (vShown b n dd k)) 60 0 (hxr (fun k => J (vFound b n dd k)) 4 0 (hx (hx (hxr (fun k => J (vScore b n k)) 3 0 (hxr (fun k => J (vOften b n k)) (rmB b n) 0 (hxr (fun k => J (vPlays b n ((k : Int) - 1))) 42 0 (tbr b n (nB b n) 0 (hxr (fun k => J (vWithin b n k)) 3 0 (hxr (fun k => J (vFault b n 1 k)) 3 0 (hx (hxr (fun k => vCount b n dd 0 k) 8 0 (17 : Int32).toInt64) (J (vFault b n 0 0)))))))) ) (J (vSame b n))) (J (vFirst b n)))))
theorem vCount_lt {b : Nat → Nat → Int} {n : Nat → Nat} {dd : Nat} {lt lt' : Int32} {w : Int} (h : w ≠ 8) : vCount b n dd lt w = vCount b n dd lt' w := by
  unfold vCount
  simp only [h, if_false]
theorem vCount_1 {b : Nat → Nat → Int} {n : Nat → Nat} {dd : Nat} {lt : Int32} : vCount b n dd lt 1 = J (nB b n) := by
  unfold vCount
  rw [if_neg (by decide), if_pos rfl]
theorem vCount_5 {b : Nat → Nat → Int} {n : Nat → Nat} {dd : Nat} {lt : Int32} : vCount b n dd lt 5 = J (rmB b n) := by
  unfold vCount
  rw [if_neg (by decide), if_neg (by decide), if_neg (by decide), if_neg (by decide), if_neg (by decide), if_pos rfl]
section cdig
variable {d : Nat} {Q : Option Value → zS → Prop} {b : Nat → Nat → Int} {n : Nat → Nat} {dd : Nat}
theorem v_countE {S : zS} {w : Int} {x : Int32} (ex : x = J w) (h : CI S b n dd) (w1 : 0 ≤ w) (w2 : w ≤ 7) (hq : ∀ S', CK S S' → CI S' b n dd → Q (some (.int (vCount b n dd 0 w))) S') : KC (d + 58) mX11_count [.ref 0, .int x] S Q := by
  subst ex
  refine v_count h (by omega) (by omega) (fun S' c i => ?_)
  rw [vCount_lt (lt' := 0) (by omega)]
  exact hq S' c i
theorem dgC_count {x4 x5 : Option Value} : ∀ (r k : Nat) (H : Int64) (S : zS) (xi : Int32), k + r = 8 → xi = J (k) → CI S b n dd → (∀ S' xj, CK S S' → CI S' b n dd → zWp shC (KC (d + 58)) kX11_digest 3 Q 31 [some (.ref 0), some (.long (hxr (fun k => vCount b n dd 0 k) r k H)), none, some (.int xj), x4, x5] [] S') → zWp shC (KC (d + 58)) kX11_digest 3 Q 6 [some (.ref 0), some (.long (H)), none, some (.int xi), x4, x5] [] S := by
  intro r
  induction r with
  | zero =>
    intro k H S xi hr ei h nx
    subst ei
    refine zRun_wp [6, 31] 60 ?_
    exact ⟨fun _ => nx S _ CK_rfl h, fun w => by simp (disch := omega) only [J_lit, J_neg, J_add, J_sub, J_mul, J_nI, J_le, J_lt, J_eq, J_in, J_nat] at w; omega⟩
  | succ r ih =>
    intro k H S xi hr ei h nx
    subst ei
    refine zRun_wp [6, 31] 60 ?_
    refine ⟨fun w => by simp (disch := omega) only [J_lit, J_neg, J_add, J_sub, J_mul, J_nI, J_le, J_lt, J_eq, J_in, J_nat] at w; omega, fun _ => ?_⟩
    refine v_countE (d := d) rfl h (w := (k : Int)) (by omega) (by omega) (fun S1 c1 i1 => ?_)
    exact ih (k + 1) _ S1 _ (by omega) (by simp only [J_lit, J_neg, J_add, J_sub, J_mul, J_nI]; congr 1) i1 (fun S' xj c i => nx S' xj (CK_tr c1 c) i)
theorem dgC_fault {x4 x5 : Option Value} : ∀ (r k : Nat) (H : Int64) (S : zS) (xi : Int32), k + r = 3 → xi = J (k) → CI S b n dd → (∀ S' xj, CK S S' → CI S' b n dd → zWp shC (KC (d + 58)) kX11_digest 3 Q 72 [some (.ref 0), some (.long (hxr (fun k => J (vFault b n 1 k)) r k H)), none, some (.int xj), x4, x5] [] S') → zWp shC (KC (d + 58)) kX11_digest 3 Q 47 [some (.ref 0), some (.long (H)), none, some (.int xi), x4, x5] [] S := by
  intro r
  induction r with
  | zero =>
    intro k H S xi hr ei h nx
    subst ei
    refine zRun_wp [47, 72] 60 ?_
    exact ⟨fun _ => nx S _ CK_rfl h, fun w => by simp (disch := omega) only [J_lit, J_neg, J_add, J_sub, J_mul, J_nI, J_le, J_lt, J_eq, J_in, J_nat] at w; omega⟩
  | succ r ih =>
    intro k H S xi hr ei h nx
    subst ei
    refine zRun_wp [47, 72] 60 ?_
    refine ⟨fun w => by simp (disch := omega) only [J_lit, J_neg, J_add, J_sub, J_mul, J_nI, J_le, J_lt, J_eq, J_in, J_nat] at w; omega, fun _ => ?_⟩
    refine v_fault (d := d + 52) (t := 1) (w := (k : Int)) h (by omega) (by omega) (by omega) (by omega) (fun S1 c1 i1 => ?_)
    exact ih (k + 1) _ S1 _ (by omega) (by simp only [J_lit, J_neg, J_add, J_sub, J_mul, J_nI]; congr 1) i1 (fun S' xj c i => nx S' xj (CK_tr c1 c) i)
theorem dgC_within {x4 x5 : Option Value} : ∀ (r k : Nat) (H : Int64) (S : zS) (xi : Int32), k + r = 3 → xi = J (k) → CI S b n dd → (∀ S' xj, CK S S' → CI S' b n dd → zWp shC (KC (d + 58)) kX11_digest 3 Q 98 [some (.ref 0), some (.long (hxr (fun k => J (vWithin b n k)) r k H)), none, some (.int xj), x4, x5] [] S') → zWp shC (KC (d + 58)) kX11_digest 3 Q 74 [some (.ref 0), some (.long (H)), none, some (.int xi), x4, x5] [] S := by
  intro r
  induction r with
  | zero =>
    intro k H S xi hr ei h nx
    subst ei
    refine zRun_wp [74, 98] 60 ?_
    exact ⟨fun _ => nx S _ CK_rfl h, fun w => by simp (disch := omega) only [J_lit, J_neg, J_add, J_sub, J_mul, J_nI, J_le, J_lt, J_eq, J_in, J_nat] at w; omega⟩
  | succ r ih =>
    intro k H S xi hr ei h nx
    subst ei
    refine zRun_wp [74, 98] 60 ?_
    refine ⟨fun w => by simp (disch := omega) only [J_lit, J_neg, J_add, J_sub, J_mul, J_nI, J_le, J_lt, J_eq, J_in, J_nat] at w; omega, fun _ => ?_⟩
    refine v_within (d := d + 52) (j := (k : Int)) h (by omega) (by omega) (fun S1 c1 i1 => ?_)
    exact ih (k + 1) _ S1 _ (by omega) (by simp only [J_lit, J_neg, J_add, J_sub, J_mul, J_nI]; congr 1) i1 (fun S' xj c i => nx S' xj (CK_tr c1 c) i)
theorem dgC_plays {x3 : Int32} {x5 : Option Value} : ∀ (r k : Nat) (H : Int64) (S : zS) (xi : Int32), k + r = 42 → xi = J ((k : Int) - 1) → CI S b n dd → (∀ S' xj, CK S S' → CI S' b n dd → zWp shC (KC (d + 58)) kX11_digest 3 Q 244 [some (.ref 0), some (.long (hxr (fun k => J (vPlays b n ((k : Int) - 1))) r k H)), none, some (.int x3), some (.int xj), x5] [] S') → zWp shC (KC (d + 58)) kX11_digest 3 Q 217 [some (.ref 0), some (.long (H)), none, some (.int x3), some (.int xi), x5] [] S := by
  intro r
  induction r with
  | zero =>
    intro k H S xi hr ei h nx
    subst ei
    refine zRun_wp [217, 244] 60 ?_
    exact ⟨fun _ => nx S _ CK_rfl h, fun w => by simp (disch := omega) only [J_lit, J_neg, J_add, J_sub, J_mul, J_nI, J_le, J_lt, J_eq, J_in, J_nat] at w; omega⟩
  | succ r ih =>
    intro k H S xi hr ei h nx
    subst ei
    refine zRun_wp [217, 244] 60 ?_
    refine ⟨fun w => by simp (disch := omega) only [J_lit, J_neg, J_add, J_sub, J_mul, J_nI, J_le, J_lt, J_eq, J_in, J_nat] at w; omega, fun _ => ?_⟩
    refine v_plays (d := d + 52) (i := (k : Int) - 1) h (by omega) (by omega) (fun S1 c1 i1 => ?_)
    exact ih (k + 1) _ S1 _ (by omega) (by simp only [J_lit, J_neg, J_add, J_sub, J_mul, J_nI]; congr 1; omega) i1 (fun S' xj c i => nx S' xj (CK_tr c1 c) i)
theorem dgC_often (rl : rmB b n ≤ 40) {x3 x4 : Int32} (e4 : x4 = J (rmB b n)) : ∀ (r k : Nat) (H : Int64) (S : zS) (xi : Int32), k + r = rmB b n → xi = J (k) → CI S b n dd → (∀ S' xj, CK S S' → CI S' b n dd → zWp shC (KC (d + 58)) kX11_digest 3 Q 281 [some (.ref 0), some (.long (hxr (fun k => J (vOften b n k)) r k H)), none, some (.int x3), some (.int x4), some (.int xj)] [] S') → zWp shC (KC (d + 58)) kX11_digest 3 Q 254 [some (.ref 0), some (.long (H)), none, some (.int x3), some (.int x4), some (.int xi)] [] S := by
  subst e4
  intro r
  induction r with
  | zero =>
    intro k H S xi hr ei h nx
    subst ei
    refine zRun_wp [254, 281] 60 ?_
    exact ⟨fun _ => nx S _ CK_rfl h, fun w => by simp (disch := omega) only [J_lit, J_neg, J_add, J_sub, J_mul, J_nI, J_le, J_lt, J_eq, J_in, J_nat] at w; omega⟩
  | succ r ih =>
    intro k H S xi hr ei h nx
    subst ei
    refine zRun_wp [254, 281] 60 ?_
    refine ⟨fun w => by simp (disch := omega) only [J_lit, J_neg, J_add, J_sub, J_mul, J_nI, J_le, J_lt, J_eq, J_in, J_nat] at w; omega, fun _ => ?_⟩
    refine v_often (d := d + 52) (p := (k : Int)) h (by omega) (by omega) (fun S1 c1 i1 => ?_)
    exact ih (k + 1) _ S1 _ (by omega) (by simp only [J_lit, J_neg, J_add, J_sub, J_mul, J_nI]; congr 1) i1 (fun S' xj c i => nx S' xj (CK_tr c1 c) i)
theorem dgC_score {x3 x4 : Int32} : ∀ (r k : Nat) (H : Int64) (S : zS) (xi : Int32), k + r = 3 → xi = J (k) → CI S b n dd → (∀ S' xj, CK S S' → CI S' b n dd → zWp shC (KC (d + 58)) kX11_digest 3 Q 310 [some (.ref 0), some (.long (hxr (fun k => J (vScore b n k)) r k H)), none, some (.int x3), some (.int x4), some (.int xj)] [] S') → zWp shC (KC (d + 58)) kX11_digest 3 Q 284 [some (.ref 0), some (.long (H)), none, some (.int x3), some (.int x4), some (.int xi)] [] S := by
  intro r
  induction r with
  | zero =>
    intro k H S xi hr ei h nx
    subst ei
    refine zRun_wp [284, 310] 60 ?_
    exact ⟨fun _ => nx S _ CK_rfl h, fun w => by simp (disch := omega) only [J_lit, J_neg, J_add, J_sub, J_mul, J_nI, J_le, J_lt, J_eq, J_in, J_nat] at w; omega⟩
  | succ r ih =>
    intro k H S xi hr ei h nx
    subst ei
    refine zRun_wp [284, 310] 60 ?_
    refine ⟨fun w => by simp (disch := omega) only [J_lit, J_neg, J_add, J_sub, J_mul, J_nI, J_le, J_lt, J_eq, J_in, J_nat] at w; omega, fun _ => ?_⟩
    refine v_score (d := d + 52) (w := (k : Int)) h (by omega) (by omega) (fun S1 c1 i1 => ?_)
    exact ih (k + 1) _ S1 _ (by omega) (by simp only [J_lit, J_neg, J_add, J_sub, J_mul, J_nI]; congr 1) i1 (fun S' xj c i => nx S' xj (CK_tr c1 c) i)
theorem dgC_found {x3 x4 : Int32} : ∀ (r k : Nat) (H : Int64) (S : zS) (xi : Int32), k + r = 4 → xi = J (k) → CI S b n dd → (∀ S' xj, CK S S' → CI S' b n dd → zWp shC (KC (d + 58)) kX11_digest 3 Q 363 [some (.ref 0), some (.long (hxr (fun k => J (vFound b n dd k)) r k H)), none, some (.int x3), some (.int x4), some (.int xj)] [] S') → zWp shC (KC (d + 58)) kX11_digest 3 Q 337 [some (.ref 0), some (.long (H)), none, some (.int x3), some (.int x4), some (.int xi)] [] S := by
  intro r
  induction r with
  | zero =>
    intro k H S xi hr ei h nx
    subst ei
    refine zRun_wp [337, 363] 60 ?_
    exact ⟨fun _ => nx S _ CK_rfl h, fun w => by simp (disch := omega) only [J_lit, J_neg, J_add, J_sub, J_mul, J_nI, J_le, J_lt, J_eq, J_in, J_nat] at w; omega⟩
  | succ r ih =>
    intro k H S xi hr ei h nx
    subst ei
    refine zRun_wp [337, 363] 60 ?_
    refine ⟨fun w => by simp (disch := omega) only [J_lit, J_neg, J_add, J_sub, J_mul, J_nI, J_le, J_lt, J_eq, J_in, J_nat] at w; omega, fun _ => ?_⟩
    refine v_found (d := d) (w := (k : Int)) h (by omega) (by omega) (fun S1 c1 i1 => ?_)
    exact ih (k + 1) _ S1 _ (by omega) (by simp only [J_lit, J_neg, J_add, J_sub, J_mul, J_nI]; congr 1) i1 (fun S' xj c i => nx S' xj (CK_tr c1 c) i)
theorem dgC_shown {x3 x4 : Int32} : ∀ (r k : Nat) (H : Int64) (S : zS) (xi : Int32), k + r = 60 → xi = J (k) → CI S b n dd → (∀ S' xj, CK S S' → CI S' b n dd → zWp shC (KC (d + 58)) kX11_digest 3 Q 393 [some (.ref 0), some (.long (hxr (fun k => J (vShown b n dd k)) r k H)), none, some (.int x3), some (.int x4), some (.int xj)] [] S') → zWp shC (KC (d + 58)) kX11_digest 3 Q 366 [some (.ref 0), some (.long (H)), none, some (.int x3), some (.int x4), some (.int xi)] [] S := by
  intro r
  induction r with
  | zero =>
    intro k H S xi hr ei h nx
    subst ei
    refine zRun_wp [366, 393] 60 ?_
    exact ⟨fun _ => nx S _ CK_rfl h, fun w => by simp (disch := omega) only [J_lit, J_neg, J_add, J_sub, J_mul, J_nI, J_le, J_lt, J_eq, J_in, J_nat] at w; omega⟩
  | succ r ih =>
    intro k H S xi hr ei h nx
    subst ei
    refine zRun_wp [366, 393] 60 ?_
    refine ⟨fun w => by simp (disch := omega) only [J_lit, J_neg, J_add, J_sub, J_mul, J_nI, J_le, J_lt, J_eq, J_in, J_nat] at w; omega, fun _ => ?_⟩
    refine v_shown (d := d) (i := (k : Int)) h (by omega) (by omega) (fun S1 c1 i1 => ?_)
    exact ih (k + 1) _ S1 _ (by omega) (by simp only [J_lit, J_neg, J_add, J_sub, J_mul, J_nI]; congr 1) i1 (fun S' xj c i => nx S' xj (CK_tr c1 c) i)
theorem dgC_mend {x3 x4 : Int32} : ∀ (r k : Nat) (H : Int64) (S : zS) (xi : Int32), k + r = 3 → xi = J (k) → CI S b n dd → (∀ S' xj, CK S S' → CI S' b n dd → zWp shC (KC (d + 58)) kX11_digest 3 Q 422 [some (.ref 0), some (.long (hxr (fun k => J (vMend b n dd k)) r k H)), none, some (.int x3), some (.int x4), some (.int xj)] [] S') → zWp shC (KC (d + 58)) kX11_digest 3 Q 396 [some (.ref 0), some (.long (H)), none, some (.int x3), some (.int x4), some (.int xi)] [] S := by
  intro r
  induction r with
  | zero =>
    intro k H S xi hr ei h nx
    subst ei
    refine zRun_wp [396, 422] 60 ?_
    exact ⟨fun _ => nx S _ CK_rfl h, fun w => by simp (disch := omega) only [J_lit, J_neg, J_add, J_sub, J_mul, J_nI, J_le, J_lt, J_eq, J_in, J_nat] at w; omega⟩
  | succ r ih =>
    intro k H S xi hr ei h nx
    subst ei
    refine zRun_wp [396, 422] 60 ?_
    refine ⟨fun w => by simp (disch := omega) only [J_lit, J_neg, J_add, J_sub, J_mul, J_nI, J_le, J_lt, J_eq, J_in, J_nat] at w; omega, fun _ => ?_⟩
    refine v_mend (d := d + 51) (w := (k : Int)) h (by omega) (by omega) (fun S1 c1 i1 => ?_)
    exact ih (k + 1) _ S1 _ (by omega) (by simp only [J_lit, J_neg, J_add, J_sub, J_mul, J_nI]; congr 1) i1 (fun S' xj c i => nx S' xj (CK_tr c1 c) i)
theorem dgC_bars (hN : nB b n ≤ 24) {x5 : Option Value} {x3 : Int32} (e3 : x3 = J (nB b n)) : ∀ (r k : Nat) (H : Int64) (S : zS) (xi : Int32), k + r = nB b n → xi = J k → CI S b n dd → (∀ S' xj, CK S S' → CI S' b n dd → zWp shC (KC (d + 58)) kX11_digest 3 Q 214 [some (.ref 0), some (.long (tbr b n r k H)), none, some (.int x3), some (.int xj), x5] [] S') → zWp shC (KC (d + 58)) kX11_digest 3 Q 107 [some (.ref 0), some (.long H), none, some (.int x3), some (.int xi), x5] [] S := by
  subst e3
  intro r
  induction r with
  | zero =>
    intro k H S xi hr ei h nx
    subst ei
    refine zRun_wp [107, 214] 60 ?_
    exact ⟨fun _ => nx S _ CK_rfl h, fun w => by simp (disch := omega) only [J_lit, J_neg, J_add, J_sub, J_mul, J_nI, J_le, J_lt, J_eq, J_in, J_nat] at w; omega⟩
  | succ r ih =>
    intro k H S xi hr ei h nx
    subst ei
    refine zRun_wp [107, 214] 100 ?_
    refine ⟨fun w => by simp (disch := omega) only [J_lit, J_neg, J_add, J_sub, J_mul, J_nI, J_le, J_lt, J_eq, J_in, J_nat] at w; omega, fun _ => ?_⟩
    refine v_bar (d := d + 54) (i := (k : Int)) h (by omega) (by omega) (fun S1 c1 i1 => ?_)
    refine v_alike (d := d + 52) (i := (k : Int)) (j := 0) i1 (by omega) (by omega) (by omega) (by omega) (fun S2 c2 i2 => ?_)
    refine v_again (d := d + 52) (i := 0) (j := (k : Int)) i2 (by omega) (by omega) (by omega) (by omega) (fun S3 c3 i3 => ?_)
    refine v_span (d := d + 52) (e := 1) (i := 0) (j := (k : Int)) (w := 0) i3 (by omega) (by omega) (by omega) (by omega) (by omega) (by omega) (by omega) (by omega) (fun S4 c4 i4 => ?_)
    refine v_span (d := d + 52) (e := 2) (i := (k : Int)) (j := (nB b n : Int)) (w := 1) i4 (by omega) (by omega) (by omega) (by omega) (by omega) (by omega) (by omega) (by omega) (fun S5 c5 i5 => ?_)
    refine v_span (d := d + 52) (e := 3) (i := 0) (j := (k : Int)) (w := 1) i5 (by omega) (by omega) (by omega) (by omega) (by omega) (by omega) (by omega) (by omega) (fun S6 c6 i6 => ?_)
    exact ih (k + 1) _ S6 _ (by omega) (by simp only [J_lit, J_neg, J_add, J_sub, J_mul, J_nI]; congr 1) i6 (fun S' xj c i => nx S' xj (CK_tr (CK_tr (CK_tr (CK_tr (CK_tr (CK_tr c1 c2) c3) c4) c5) c6) c) i)
set_option maxHeartbeats 2000000 in
theorem v_digest {S : zS} (h : CI S b n dd) (hq : ∀ S', CK S S' → CI S' b n dd → Q (some (.long (vDig b n dd))) S') : KC (d + 59) mX11_digest [.ref 0] S Q := by
  have hN := nB_le (b := b) h.1.1.1
  have rl := rmB_le (b := b) (n := n) h.1.1.2.1
  have fin : ∀ (S : zS) (x3 x4 x5 : Int32) (H : Int64), Q (some (.long H)) S → zWp shC (KC (d + 58)) kX11_digest 3 Q 422 [some (.ref 0), some (.long H), none, some (.int x3), some (.int x4), some (.int x5)] [] S := by
    intro S x3 x4 x5 H q
    refine zRun_wp [] 60 ?_
    exact q
  refine eX11_digest (zRun_wp [6] 60 ?_)
  refine dgC_count 8 0 _ S _ rfl rfl h (fun S1 j1 c1 i1 => ?_)
  refine zRun_wp [47] 60 ?_
  refine v_fault (d := d + 52) (t := 0) (w := 0) i1 (by omega) (by omega) (by omega) (by omega) (fun S2 c2 i2 => ?_)
  have k2 := CK_tr c1 c2
  refine dgC_fault 3 0 _ S2 _ rfl rfl i2 (fun S3 j3 c3 i3 => ?_)
  have k3 := CK_tr k2 c3
  refine zRun_wp [74] 60 ?_
  refine dgC_within 3 0 _ S3 _ rfl rfl i3 (fun S4 j4 c4 i4 => ?_)
  have k4 := CK_tr k3 c4
  refine zRun_wp [107] 60 ?_
  refine v_countE (d := d) (w := 1) rfl i4 (by omega) (by omega) (fun S5 c5 i5 => ?_)
  have k5 := CK_tr k4 c5
  refine dgC_bars hN vCount_1 (nB b n) 0 _ S5 _ (by omega) rfl i5 (fun S6 j6 c6 i6 => ?_)
  have k6 := CK_tr k5 c6
  refine zRun_wp [217] 60 ?_
  refine dgC_plays 42 0 _ S6 _ rfl rfl i6 (fun S7 j7 c7 i7 => ?_)
  have k7 := CK_tr k6 c7
  refine zRun_wp [254] 60 ?_
  refine v_countE (d := d) (w := 5) rfl i7 (by omega) (by omega) (fun S8 c8 i8 => ?_)
  have k8 := CK_tr k7 c8
  refine dgC_often rl vCount_5 (rmB b n) 0 _ S8 _ (by omega) rfl i8 (fun S9 j9 c9 i9 => ?_)
  have k9 := CK_tr k8 c9
  refine zRun_wp [284] 60 ?_
  refine dgC_score 3 0 _ S9 _ rfl rfl i9 (fun S10 j10 c10 i10 => ?_)
  have k10 := CK_tr k9 c10
  refine zRun_wp [337] 60 ?_
  refine v_same (d := d + 51) i10 (fun S11 c11 i11 => ?_)
  have k11 := CK_tr k10 c11
  refine v_first (d := d + 52) i11 (fun S12 c12 i12 => ?_)
  have k12 := CK_tr k11 c12
  refine dgC_found 4 0 _ S12 _ rfl rfl i12 (fun S13 j13 c13 i13 => ?_)
  have k13 := CK_tr k12 c13
  refine zRun_wp [366] 60 ?_
  refine dgC_shown 60 0 _ S13 _ rfl rfl i13 (fun S14 j14 c14 i14 => ?_)
  have k14 := CK_tr k13 c14
  refine zRun_wp [396] 60 ?_
  refine dgC_mend 3 0 _ S14 _ rfl rfl i14 (fun S15 j15 c15 i15 => ?_)
  refine fin S15 _ _ _ _ ?_
  exact hq S15 (CK_tr k14 c15) i15
end cdig
