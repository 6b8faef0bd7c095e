section mdig
variable {d : Nat} {Q : Option Value → zS → Prop} {b : Nat → Nat → Int} {n : Nat → Nat} {dd : Nat}
theorem w_countE {S : zS} {w : Int} {x : Int32} (ex : x = J w) (h : MI S b n dd) (w1 : 0 ≤ w) (w2 : w ≤ 7) (hq : ∀ S', MKK S S' → Q (some (.int (vCount b n dd 0 w))) S') : KM (d + 9) mX12_count [.ref 0, .int x] S Q := by
  subst ex
  refine w_count h (by omega) (by omega) (fun S' c => ?_)
  rw [vCount_lt (lt' := 0) (by omega)]
  exact hq S' c
theorem w_spanByE {S : zS} {x : Int32} {e i j w : Int} (ex : x = J j) (hM : ∀ d' i' j', d' ≤ 3 → i' < j' → j' ≤ nB b n → MOk S (gB b n) d' i' j') (hN : nB b n ≤ 24) (e1 : 0 ≤ e) (e2 : e ≤ 3) (i1 : 0 ≤ i) (i2 : i ≤ nB b n) (j1 : 0 ≤ j) (j2 : j ≤ nB b n) (w1 : 0 ≤ w) (w2 : w ≤ 1) (hq : Q (some (.int (J (vSpan b n e i j w)))) S) : KM (d + 1) mX12_spanBy [.ref 0, .int (J e), .int (J i), .int x, .int (J w)] S Q := by
  subst ex; exact w_spanBy hM hN e1 e2 i1 i2 j1 j2 w1 w2 hq
theorem w_tellsBarOf {S : zS} (f : MFa S b n dd) (hN : nB b n ≤ 24) {k : Nat} (hk : k < nB b n) {H : Int64} (hq : Q (some (.long (tbv b n k H))) S) : KM (d + 2) mX12_tellsBarOf [.ref 0, .long H, .int (J k)] S Q := by
  obtain ⟨r1, r2, r3, r4⟩ := f.1.1
  have ix : (J k).toNatClampNeg = k := by simp (disch := omega) only [J_lit, J_neg, J_add, J_sub, J_mul, J_nI, J_le, J_lt, J_eq, J_in, J_nat]; omega
  have inn : vp_in (J k) 24 := by simp (disch := omega) only [J_lit, J_neg, J_add, J_sub, J_mul, J_nI, J_le, J_lt, J_eq, J_in, J_nat]; omega
  have iy : (25 * J k).toNatClampNeg = 25 * k + 0 := by simp (disch := omega) only [J_lit, J_neg, J_add, J_sub, J_mul, J_nI, J_le, J_lt, J_eq, J_in, J_nat]; omega
  have iny : vp_in (25 * J k) 625 := by simp (disch := omega) only [J_lit, J_neg, J_add, J_sub, J_mul, J_nI, J_le, J_lt, J_eq, J_in, J_nat]; omega
  have vb : J (vBar b n k) = S 9 k := by
    rw [r4 k hk]; unfold vBar; rw [if_pos (by omega), Int.toNat_natCast]
  have va : J (vAlike b n k 0) = S 18 (25 * k + 0) := by
    rw [f.1.2.2.2 k 0 (by omega) (by omega)]; unfold vAlike; rw [if_pos (by omega), Int.toNat_natCast]; rfl
  refine eX12_tellsBarOf (zRun_wp [] 100 ?_)
  refine ⟨inn, iny, ?_⟩
  rw [ix, iy, ← vb, ← va]
  refine w_againBy (d := d) (i := 0) (j := (k : Int)) f.1 hN (by omega) (by omega) (by omega) (by omega) ?_
  refine w_spanBy (d := d) (e := 1) (i := 0) (j := (k : Int)) (w := 0) f.2.1 hN (by omega) (by omega) (by omega) (by omega) (by omega) (by omega) (by omega) (by omega) ?_
  refine w_spanByE (d := d) (e := 2) (i := (k : Int)) (j := (nB b n : Int)) (w := 1) r1 f.2.1 hN (by omega) (by omega) (by omega) (by omega) (by omega) (by omega) (by omega) (by omega) ?_
  refine w_spanBy (d := d) (e := 3) (i := 0) (j := (k : Int)) (w := 1) f.2.1 hN (by omega) (by omega) (by omega) (by omega) (by omega) (by omega) (by omega) (by omega) ?_
  exact hq
theorem dgM_count : ∀ (r k : Nat) (H : Int64) (S : zS) (xi : Int32), k + r = 8 → xi = J (k) → MI S b n dd → (∀ S' xj, MKK S S' → zWp shM (KM (d + 9)) kX12_digest 3 Q 31 [some (.ref 0), some (.long (hxr (fun k => vCount b n dd 0 k) r k H)), none, some (.int xj)] [] S') → zWp shM (KM (d + 9)) kX12_digest 3 Q 6 [some (.ref 0), some (.long (H)), none, some (.int xi)] [] S := by
  intro r
  induction r with
  | zero =>
    intro k H S xi hr ei h nx
    subst ei
    refine zRun_wp [6, 31] 60 ?_
    exact ⟨fun _ => nx S _ MKK_rfl, fun w => by simp (disch := omega) only [J_lit, J_neg, J_add, J_sub, J_mul, J_nI, J_le, J_lt, J_eq, J_in, J_nat] at w; omega⟩
  | succ r ih =>
    intro k H S xi hr ei h nx
    subst ei
    refine zRun_wp [6, 31] 60 ?_
    refine ⟨fun w => by simp (disch := omega) only [J_lit, J_neg, J_add, J_sub, J_mul, J_nI, J_le, J_lt, J_eq, J_in, J_nat] at w; omega, fun _ => ?_⟩
    refine w_countE (d := d) rfl h (w := (k : Int)) (by omega) (by omega) (fun S1 c1 => ?_)
    exact ih (k + 1) _ S1 _ (by omega) (by simp only [J_lit, J_neg, J_add, J_sub, J_mul, J_nI]; congr 1) (MI_k h c1) (fun S' xj c => nx S' xj (MKK_tr c1 c))
theorem dgM_fault : ∀ (r k : Nat) (H : Int64) (S : zS) (xi : Int32), k + r = 3 → xi = J k → MI S b n dd → (k = 0 ∨ MoF S (b 1) (n 1)) → (∀ S' xj, MKK S S' → MoF S' (b 1) (n 1) → zWp shM (KM (d + 9)) kX12_digest 3 Q 72 [some (.ref 0), some (.long (hxr (fun k => J (vFault b n 1 k)) r k H)), none, some (.int xj)] [] S') → zWp shM (KM (d + 9)) kX12_digest 3 Q 47 [some (.ref 0), some (.long H), none, some (.int xi)] [] S := by
  intro r
  induction r with
  | zero =>
    intro k H S xi hr ei h hf nx
    subst ei
    refine zRun_wp [47, 72] 60 ?_
    refine ⟨fun _ => nx S _ MKK_rfl ?_, fun w => by simp (disch := omega) only [J_lit, J_neg, J_add, J_sub, J_mul, J_nI, J_le, J_lt, J_eq, J_in, J_nat] at w; omega⟩
    rcases hf with hf | hf
    · omega
    · exact hf
  | succ r ih =>
    intro k H S xi hr ei h hf nx
    subst ei
    refine zRun_wp [47, 72] 60 ?_
    refine ⟨fun w => by simp (disch := omega) only [J_lit, J_neg, J_add, J_sub, J_mul, J_nI, J_le, J_lt, J_eq, J_in, J_nat] at w; omega, fun _ => ?_⟩
    refine w_faultBy1 (d := d + 3) (w := (k : Int)) h (by omega) (by omega) (fun S1 c1 f1 => ?_)
    exact ih (k + 1) _ S1 _ (by omega) (by simp only [J_lit, J_neg, J_add, J_sub, J_mul, J_nI]; congr 1) (MI_k h c1) (Or.inr f1) (fun S' xj c f => nx S' xj (MKK_tr c1 c) f)
theorem dgM_within {S : zS} (hF : MoF S (b 1) (n 1)) : ∀ (r k : Nat) (H : Int64) (xi : Int32), k + r = 3 → xi = J (k) → (∀ xj, zWp shM (KM (d + 9)) kX12_digest 3 Q 98 [some (.ref 0), some (.long (hxr (fun k => J (vWithin b n k)) r k H)), none, some (.int xj)] [] S) → zWp shM (KM (d + 9)) kX12_digest 3 Q 74 [some (.ref 0), some (.long (H)), none, some (.int xi)] [] S := by
  intro r
  induction r with
  | zero =>
    intro k H xi hr ei nx
    subst ei
    refine zRun_wp [74, 98] 60 ?_
    exact ⟨fun _ => nx _, fun w => by simp (disch := omega) only [J_lit, J_neg, J_add, J_sub, J_mul, J_nI, J_le, J_lt, J_eq, J_in, J_nat] at w; omega⟩
  | succ r ih =>
    intro k H xi hr ei nx
    subst ei
    refine zRun_wp [74, 98] 60 ?_
    refine ⟨fun w => by simp (disch := omega) only [J_lit, J_neg, J_add, J_sub, J_mul, J_nI, J_le, J_lt, J_eq, J_in, J_nat] at w; omega, fun _ => ?_⟩
    refine w_withinBy (d := d + 8) (b := b) (n := n) (j := (k : Int)) hF (by omega) (by omega) ?_
    exact ih (k + 1) _ _ (by omega) (by simp only [J_lit, J_neg, J_add, J_sub, J_mul, J_nI]; congr 1) (fun xj => nx xj)
theorem dgM_bars {S : zS} (f : MFa S b n dd) (hN : nB b n ≤ 24) (e9 : S 0 9 = J (nB b n)) : ∀ (r k : Nat) (H : Int64) (xi : Int32), k + r = nB b n → xi = J (k) → (∀ xj, zWp shM (KM (d + 9)) kX12_digest 3 Q 129 [some (.ref 0), some (.long (tbr b n r k H)), none, some (.int xj)] [] S) → zWp shM (KM (d + 9)) kX12_digest 3 Q 108 [some (.ref 0), some (.long (H)), none, some (.int xi)] [] S := by
  intro r
  induction r with
  | zero =>
    intro k H xi hr ei nx
    subst ei
    refine zRun_wp [108, 129] 60 ?_
    exact ⟨fun _ => nx _, fun w => by rw [e9] at w; simp (disch := omega) only [J_lit, J_neg, J_add, J_sub, J_mul, J_nI, J_le, J_lt, J_eq, J_in, J_nat] at w; omega⟩
  | succ r ih =>
    intro k H xi hr ei nx
    subst ei
    refine zRun_wp [108, 129] 60 ?_
    refine ⟨fun w => by rw [e9] at w; simp (disch := omega) only [J_lit, J_neg, J_add, J_sub, J_mul, J_nI, J_le, J_lt, J_eq, J_in, J_nat] at w; omega, fun _ => ?_⟩
    refine w_tellsBarOf (d := d + 7) f hN (k := k) (by omega) ?_
    exact ih (k + 1) _ _ (by omega) (by simp only [J_lit, J_neg, J_add, J_sub, J_mul, J_nI]; congr 1) (fun xj => nx xj)
theorem dgM_plays {S : zS} (hP : PlO S (odB b n)) : ∀ (r k : Nat) (H : Int64) (xi : Int32), k + r = 42 → xi = J ((k : Int) - 1) → (∀ xj, zWp shM (KM (d + 9)) kX12_digest 3 Q 156 [some (.ref 0), some (.long (hxr (fun k => J (vPlays b n ((k : Int) - 1))) r k H)), none, some (.int xj)] [] S) → zWp shM (KM (d + 9)) kX12_digest 3 Q 131 [some (.ref 0), some (.long (H)), none, some (.int xi)] [] S := by
  intro r
  induction r with
  | zero =>
    intro k H xi hr ei nx
    subst ei
    refine zRun_wp [131, 156] 60 ?_
    exact ⟨fun _ => nx _, fun w => by simp (disch := omega) only [J_lit, J_neg, J_add, J_sub, J_mul, J_nI, J_le, J_lt, J_eq, J_in, J_nat] at w; omega⟩
  | succ r ih =>
    intro k H xi hr ei nx
    subst ei
    refine zRun_wp [131, 156] 60 ?_
    refine ⟨fun w => by simp (disch := omega) only [J_lit, J_neg, J_add, J_sub, J_mul, J_nI, J_le, J_lt, J_eq, J_in, J_nat] at w; omega, fun _ => ?_⟩
    refine w_playsBy (d := d + 8) (b := b) (n := n) (i := (k : Int) - 1) hP (by omega) (by omega) ?_
    exact ih (k + 1) _ _ (by omega) (by simp only [J_lit, J_neg, J_add, J_sub, J_mul, J_nI]; congr 1; omega) (fun xj => nx xj)
theorem dgM_often {S : zS} (hP : PlO S (odB b n)) (hn : n 1 ≤ 40) (rl : rmB b n ≤ 40) (e24 : S 0 24 = J (rmB b n)) : ∀ (r k : Nat) (H : Int64) (xi : Int32), k + r = rmB b n → xi = J (k) → (∀ xj, zWp shM (KM (d + 9)) kX12_digest 3 Q 185 [some (.ref 0), some (.long (hxr (fun k => J (vOften b n k)) r k H)), none, some (.int xj)] [] S) → zWp shM (KM (d + 9)) kX12_digest 3 Q 158 [some (.ref 0), some (.long (H)), none, some (.int xi)] [] S := by
  intro r
  induction r with
  | zero =>
    intro k H xi hr ei nx
    subst ei
    refine zRun_wp [158, 185] 60 ?_
    exact ⟨fun _ => nx _, fun w => by rw [e24] at w; simp (disch := omega) only [J_lit, J_neg, J_add, J_sub, J_mul, J_nI, J_le, J_lt, J_eq, J_in, J_nat] at w; omega⟩
  | succ r ih =>
    intro k H xi hr ei nx
    subst ei
    refine zRun_wp [158, 185] 60 ?_
    refine ⟨fun w => by rw [e24] at w; simp (disch := omega) only [J_lit, J_neg, J_add, J_sub, J_mul, J_nI, J_le, J_lt, J_eq, J_in, J_nat] at w; omega, fun _ => ?_⟩
    refine w_oftenBy (d := d + 8) (b := b) (n := n) (p := (k : Int)) hP hn (by omega) (by omega) ?_
    exact ih (k + 1) _ _ (by omega) (by simp only [J_lit, J_neg, J_add, J_sub, J_mul, J_nI]; congr 1) (fun xj => nx xj)
theorem dgM_score {S : zS} (hF : MoF S (b 1) (n 1)) : ∀ (r k : Nat) (H : Int64) (xi : Int32), k + r = 3 → xi = J (k) → (∀ xj, zWp shM (KM (d + 9)) kX12_digest 3 Q 211 [some (.ref 0), some (.long (hxr (fun k => J (vScore b n k)) r k H)), none, some (.int xj)] [] S) → zWp shM (KM (d + 9)) kX12_digest 3 Q 187 [some (.ref 0), some (.long (H)), none, some (.int xi)] [] S := by
  intro r
  induction r with
  | zero =>
    intro k H xi hr ei nx
    subst ei
    refine zRun_wp [187, 211] 60 ?_
    exact ⟨fun _ => nx _, fun w => by simp (disch := omega) only [J_lit, J_neg, J_add, J_sub, J_mul, J_nI, J_le, J_lt, J_eq, J_in, J_nat] at w; omega⟩
  | succ r ih =>
    intro k H xi hr ei nx
    subst ei
    refine zRun_wp [187, 211] 60 ?_
    refine ⟨fun w => by simp (disch := omega) only [J_lit, J_neg, J_add, J_sub, J_mul, J_nI, J_le, J_lt, J_eq, J_in, J_nat] at w; omega, fun _ => ?_⟩
    refine w_scoreBy (d := d + 8) (b := b) (n := n) (w := (k : Int)) hF (by omega) (by omega) ?_
    exact ih (k + 1) _ _ (by omega) (by simp only [J_lit, J_neg, J_add, J_sub, J_mul, J_nI]; congr 1) (fun xj => nx xj)
theorem dgM_found {S : zS} (f : MFa S b n dd) (hN : nB b n ≤ 24) : ∀ (r k : Nat) (H : Int64) (xi : Int32), k + r = 4 → xi = J (k) → (∀ xj, zWp shM (KM (d + 9)) kX12_digest 3 Q 270 [some (.ref 0), some (.long (hxr (fun k => J (vFound b n dd k)) r k H)), none, some (.int xj)] [] S) → zWp shM (KM (d + 9)) kX12_digest 3 Q 246 [some (.ref 0), some (.long (H)), none, some (.int xi)] [] S := by
  intro r
  induction r with
  | zero =>
    intro k H xi hr ei nx
    subst ei
    refine zRun_wp [246, 270] 60 ?_
    exact ⟨fun _ => nx _, fun w => by simp (disch := omega) only [J_lit, J_neg, J_add, J_sub, J_mul, J_nI, J_le, J_lt, J_eq, J_in, J_nat] at w; omega⟩
  | succ r ih =>
    intro k H xi hr ei nx
    subst ei
    refine zRun_wp [246, 270] 60 ?_
    refine ⟨fun w => by simp (disch := omega) only [J_lit, J_neg, J_add, J_sub, J_mul, J_nI, J_le, J_lt, J_eq, J_in, J_nat] at w; omega, fun _ => ?_⟩
    refine w_foundBy (d := d + 8) (w := (k : Int)) f hN (by omega) (by omega) ?_
    exact ih (k + 1) _ _ (by omega) (by simp only [J_lit, J_neg, J_add, J_sub, J_mul, J_nI]; congr 1) (fun xj => nx xj)
theorem dgM_shown {S : zS} (hO : OutOk S (prB b n dd)) : ∀ (r k : Nat) (H : Int64) (xi : Int32), k + r = 60 → xi = J (k) → (∀ xj, zWp shM (KM (d + 9)) kX12_digest 3 Q 297 [some (.ref 0), some (.long (hxr (fun k => J (vShown b n dd k)) r k H)), none, some (.int xj)] [] S) → zWp shM (KM (d + 9)) kX12_digest 3 Q 272 [some (.ref 0), some (.long (H)), none, some (.int xi)] [] S := by
  intro r
  induction r with
  | zero =>
    intro k H xi hr ei nx
    subst ei
    refine zRun_wp [272, 297] 60 ?_
    exact ⟨fun _ => nx _, fun w => by simp (disch := omega) only [J_lit, J_neg, J_add, J_sub, J_mul, J_nI, J_le, J_lt, J_eq, J_in, J_nat] at w; omega⟩
  | succ r ih =>
    intro k H xi hr ei nx
    subst ei
    refine zRun_wp [272, 297] 60 ?_
    refine ⟨fun w => by simp (disch := omega) only [J_lit, J_neg, J_add, J_sub, J_mul, J_nI, J_le, J_lt, J_eq, J_in, J_nat] at w; omega, fun _ => ?_⟩
    refine w_shownBy (d := d + 8) (i := (k : Int)) hO (by omega) (by omega) ?_
    exact ih (k + 1) _ _ (by omega) (by simp only [J_lit, J_neg, J_add, J_sub, J_mul, J_nI]; congr 1) (fun xj => nx xj)
theorem dgM_mend {S : zS} (hM : MdM S (md (gB b n) (nB b n) dd (nB b n))) (hN : nB b n ≤ 24) : ∀ (r k : Nat) (H : Int64) (xi : Int32), k + r = 3 → xi = J (k) → (∀ xj, zWp shM (KM (d + 9)) kX12_digest 3 Q 327 [some (.ref 0), some (.long (hxr (fun k => J (vMend b n dd k)) r k H)), none, some (.int xj)] [] S) → zWp shM (KM (d + 9)) kX12_digest 3 Q 303 [some (.ref 0), some (.long (H)), none, some (.int xi)] [] S := by
  intro r
  induction r with
  | zero =>
    intro k H xi hr ei nx
    subst ei
    refine zRun_wp [303, 327] 60 ?_
    exact ⟨fun _ => nx _, fun w => by simp (disch := omega) only [J_lit, J_neg, J_add, J_sub, J_mul, J_nI, J_le, J_lt, J_eq, J_in, J_nat] at w; omega⟩
  | succ r ih =>
    intro k H xi hr ei nx
    subst ei
    refine zRun_wp [303, 327] 60 ?_
    refine ⟨fun w => by simp (disch := omega) only [J_lit, J_neg, J_add, J_sub, J_mul, J_nI, J_le, J_lt, J_eq, J_in, J_nat] at w; omega, fun _ => ?_⟩
    refine w_mendBy (d := d + 8) (w := (k : Int)) hM hN (by omega) (by omega) ?_
    exact ih (k + 1) _ _ (by omega) (by simp only [J_lit, J_neg, J_add, J_sub, J_mul, J_nI]; congr 1) (fun xj => nx xj)
theorem PK_Fa {S S' : zS} (k2 : PK S S') (f1 : MFa S b n dd) : MFa S' b n dd := by
  refine ⟨PK_Fi k2 f1.1, fun d' i' j' a b c => ?_, ?_, ?_⟩
  · have := f1.2.1 d' i' j' a b c
    unfold MOk at this ⊢
    rw [k2.1 A_cost (by decide) (by decide) (by decide) (by decide), k2.1 A_how (by decide) (by decide) (by decide) (by decide)]
    exact this
  · have := f1.2.2.1
    unfold MJ at this ⊢
    rw [k2.2 38 (by decide), k2.2 39 (by decide), k2.2 40 (by decide), k2.2 41 (by decide)]
    exact this
  · have := f1.2.2.2
    unfold OutOk at this ⊢
    rw [k2.2 43 (by decide), k2.1 24 (by decide) (by decide) (by decide) (by decide)]
    exact this
set_option maxHeartbeats 2000000 in
theorem w_digest {S : zS} (h : MI S b n dd) (hq : ∀ S', MKK S S' → Q (some (.long (vDig b n dd))) S') : KM (d + 10) mX12_digest [.ref 0] S Q := by
  have hN := nB_le (b := b) h.1.1.1
  have n1 := h.1.1.2.1
  have rl := rmB_le (b := b) (n := n) n1
  have vr := vFirst_rng (b := b) (n := n) hN
  have fin : ∀ (S : zS) (x3 : Int32) (H : Int64), Q (some (.long H)) S → zWp shM (KM (d + 9)) kX12_digest 3 Q 327 [some (.ref 0), some (.long H), none, some (.int x3)] [] S := by
    intro S x3 H q
    refine zRun_wp [] 60 ?_
    exact q
  refine eX12_digest (zRun_wp [6] 60 ?_)
  refine dgM_count 8 0 _ S _ rfl rfl h (fun S1 j1 c1 => ?_)
  have h1 := MI_k h c1
  refine zRun_wp [47] 60 ?_
  refine w_faultBy0 (d := d + 5) (w := 0) h1 (by omega) (by omega) (fun S2 c2 => ?_)
  have k2 := MKK_tr c1 c2
  have h2 := MI_k h k2
  refine dgM_fault 3 0 _ S2 _ rfl rfl h2 (Or.inl rfl) (fun S3 j3 c3 f3 => ?_)
  have k3 := MKK_tr k2 c3
  have h3 := MI_k h k3
  refine zRun_wp [74] 60 ?_
  refine dgM_within f3 3 0 _ _ rfl rfl (fun j4 => ?_)
  refine zRun_wp [108] 60 ?_
  refine w_findAll (d := d + 1) h3 (fun S5 c5 f5 => ?_)
  have h5 := MI_k h3 c5
  refine w_plAll (d := d + 5) h5 f5.1 (fun S6 c6 p6 => ?_)
  have k6 := MKK_tr (MKK_tr k3 c5) (PK_M c6)
  have h6 := MI_k h k6
  have f6 := PK_Fa c6 f5
  have e24 : S6 0 24 = J (rmB b n) := f6.1.2.1.2.2.2.2.1
  refine dgM_bars f6 hN f6.1.1.1 (nB b n) 0 _ _ (by omega) rfl (fun j7 => ?_)
  refine zRun_wp [131] 60 ?_
  refine dgM_plays p6 42 0 _ _ rfl rfl (fun j8 => ?_)
  refine zRun_wp [158] 60 ?_
  refine dgM_often p6 n1 rl e24 (rmB b n) 0 _ _ (by omega) rfl (fun j9 => ?_)
  refine zRun_wp [187] 60 ?_
  refine dgM_score f6.1.2.1 3 0 _ _ rfl rfl (fun j10 => ?_)
  refine zRun_wp [229] 60 ?_
  refine w_firstNow (d := d + 8) f6.1 p6 hN n1 ?_
  have rest : ∀ (H : Int64) (x : Int32) (y : Int32), x = J (vSame b n) → (∀ S', MKK S S' → Q (some (.long (hxr (fun k => J (vMend b n dd k)) 3 0 (hxr (fun k => J (vShown b n dd k)) 60 0 (hxr (fun k => J (vFound b n dd k)) 4 0 (hx (hx H (J (vSame b n))) (J (vFirst b n)))))))) S') → zWp shM (KM (d + 9)) kX12_digest 3 Q 229 [some (.ref 0), some (.long H), none, some (.int y)] [.int x, .long ((31 : Int32).toInt64 * H)] S6 := by
    intro H x y ex q
    subst ex
    refine zRun_wp [246] 60 ?_
    refine w_firstNow (d := d + 8) f6.1 p6 hN n1 ?_
    refine dgM_found f6 hN 4 0 _ _ rfl rfl (fun j11 => ?_)
    refine zRun_wp [272] 60 ?_
    refine dgM_shown f6.2.2.2 60 0 _ _ rfl rfl (fun j12 => ?_)
    refine zRun_wp [303] 60 ?_
    refine w_mds (d := d + 4) h6 f6.1 (fun S7 c7 m7 => ?_)
    refine dgM_mend m7 hN 3 0 _ _ rfl rfl (fun j13 => ?_)
    refine fin S7 _ _ ?_
    exact q S7 (MKK_tr k6 c7)
  refine ⟨fun w => ?_, fun w => ?_⟩ <;> rw [show (-1 : Int32) = J (-1) from rfl] at w <;> simp (disch := omega) only [J_lit, J_neg, J_add, J_sub, J_mul, J_nI, J_le, J_lt, J_eq, J_in, J_nat] at w
  · refine rest _ _ _ ?_ hq
    unfold vSame; rw [if_neg w]; rfl
  · refine rest _ _ _ ?_ hq
    unfold vSame; rw [if_pos w]; rfl
end mdig
theorem o_digest {SC SM : zS} {b : Nat → Nat → Int} {n : Nat → Nat} {dd : Nat} (h : Rel SC SM b n dd) : Op mX11_digest mX12_digest [] SC SM := by
  refine v_digest (d := 13) h.1 (fun S' c1 c2 => ?_)
  exact w_digest (d := 62) h.2.1 (fun M' m1 => ⟨rfl, Rel_q h c1 c2 m1⟩)
