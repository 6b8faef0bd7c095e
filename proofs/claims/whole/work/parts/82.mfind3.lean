/-! the model looks anew at each asking -/
def MKK (M M' : zS) : Prop := (∀ c, c ≠ 0 → c < 8 → M' c = M c) ∧ M' 0 4 = M 0 4 ∧ M' 0 8 = M 0 8
theorem MKK_rfl {M : zS} : MKK M M := ⟨fun _ _ _ => rfl, rfl, rfl⟩
theorem MKK_tr {M M1 M2 : zS} (a : MKK M M1) (b : MKK M1 M2) : MKK M M2 := ⟨fun c h1 h2 => (b.1 c h1 h2).trans (a.1 c h1 h2), b.2.1.trans a.2.1, b.2.2.trans a.2.2⟩
def MI (M : zS) (b : Nat → Nat → Int) (n : Nat → Nat) (dd : Nat) : Prop := TM M b n ∧ M 0 8 = J dd ∧ dd ≤ 3
theorem MI_k {M M' : zS} {b : Nat → Nat → Int} {n : Nat → Nat} {dd : Nat} (h : MI M b n dd) (k : MKK M M') : MI M' b n dd := by
  obtain ⟨⟨h0, h1, h2, h3, h4⟩, h5, h6⟩ := h
  refine ⟨⟨h0, by rw [k.1 7 (by decide) (by decide)]; exact h1, fun j hj => by rw [k.1 5 (by decide) (by decide)]; exact h2 j hj, by rw [k.1 7 (by decide) (by decide)]; exact h3, fun j hj => by rw [k.1 6 (by decide) (by decide)]; exact h4 j hj⟩, by rw [k.2.2]; exact h5, h6⟩
def MRn (M : zS) (b : Nat → Nat → Int) (n : Nat → Nat) : Prop := M 0 9 = J (nB b n) ∧ (∀ k, k < nB b n → M 8 k = J (phi (gB b n k)) ∧ vcode (gB b n k)) ∧ M 0 12 = J (un (gB b n) (nB b n)) ∧ ∀ k, k < nB b n → M 9 k = J (nu (gB b n) k)
def MLk (M : zS) (b : Nat → Nat → Int) (n : Nat → Nat) : Prop := M 0 30 = J (nB b n) ∧ ∀ i j, i ≤ 24 → j ≤ 24 → M 18 (25 * i + j) = J (al (gB b n) (nB b n) i j)
def MFi (M : zS) (b : Nat → Nat → Int) (n : Nat → Nat) : Prop := MRn M b n ∧ MoF M (b 1) (n 1) ∧ MLk M b n
def MFa (M : zS) (b : Nat → Nat → Int) (n : Nat → Nat) (dd : Nat) : Prop := MFi M b n ∧ (∀ d' i' j', d' ≤ 3 → i' < j' → j' ≤ nB b n → MOk M (gB b n) d' i' j') ∧ MJ M (fnd (gB b n) (nB b n) dd) ∧ OutOk M (prB b n dd)
theorem MoE_k {S S' : zS} : ∀ {l : List En}, MoE S l → (∀ c, 10 ≤ c → c ≤ 13 → S' c = S c) → MoE S' l := by
  intro l
  induction l with
  | nil => intro _ _; trivial
  | cons x t ih =>
    obtain ⟨p, c, q⟩ := x
    intro h k
    obtain ⟨⟨h1, h2, h3, h4⟩, h5⟩ := h
    exact ⟨⟨by rw [k 10 (by decide) (by decide)]; exact h1, by rw [k 11 (by decide) (by decide)]; exact h2, by rw [k 12 (by decide) (by decide)]; exact h3, by rw [k 13 (by decide) (by decide)]; exact h4⟩, ih h5 k⟩
theorem MoF_k {S S' : zS} {c : Nat → Int} {m : Nat} (h : MoF S c m) (k : ∀ c, 10 ≤ c → c ≤ 16 → S' c = S c) (k0 : ∀ j, 13 ≤ j → j ≤ 26 → S' 0 j = S 0 j) : MoF S' c m := by
  obtain ⟨h1, h2, h3, h4, h5, h6, h7, h8⟩ := h
  refine ⟨by rw [k0 13 (by decide) (by decide)]; exact h1, by rw [k0 14 (by decide) (by decide)]; exact h2, by rw [k0 15 (by decide) (by decide)]; exact h3, MoE_k h4 (fun c c1 c2 => k c c1 (by omega)), by rw [k0 24 (by decide) (by decide)]; exact h5, by rw [k0 25 (by decide) (by decide)]; exact h6, by rw [k0 26 (by decide) (by decide)]; exact h7, fun f => ?_⟩
  obtain ⟨m1, m2, m3, m4, m5, m6, m7, m8, m9, m10⟩ := h8 f
  refine ⟨?_, ?_, ?_, ?_, ?_, ?_, MoE_k m7 (fun c c1 c2 => k c c1 (by omega)), fun j a1 a2 p c q t a3 => ?_, fun j a1 a2 => ?_, fun j a1 => ?_⟩
  · rw [k0 15 (by decide) (by decide)]; exact m1
  · rw [k0 21 (by decide) (by decide)]; exact m2
  · rw [k0 22 (by decide) (by decide)]; exact m3
  · rw [k0 23 (by decide) (by decide)]; exact m4
  · rw [k0 24 (by decide) (by decide)]; exact m5
  · rw [k0 26 (by decide) (by decide)]; exact m6
  · rw [k 12 (by decide) (by decide), k 13 (by decide) (by decide)]; exact m8 j a1 a2 p c q t a3
  · rw [k 15 (by decide) (by decide)]; exact m9 j a1 a2
  · rw [k 16 (by decide) (by decide)]; exact m10 j a1
theorem MRn_k {M M' : zS} {b : Nat → Nat → Int} {n : Nat → Nat} (h : MRn M b n) (k8 : M' 8 = M 8) (k9 : M' 9 = M 9) (e9 : M' 0 9 = M 0 9) (e12 : M' 0 12 = M 0 12) : MRn M' b n := by
  unfold MRn at h ⊢; rw [k8, k9, e9, e12]; exact h
theorem MFi_k {M M' : zS} {b : Nat → Nat → Int} {n : Nat → Nat} (h : MFi M b n) (k : ∀ c, 8 ≤ c → c ≤ 18 → M' c = M c) (k0 : ∀ j, j ≤ 30 → M' 0 j = M 0 j) : MFi M' b n := by
  obtain ⟨h1, h2, h3⟩ := h
  refine ⟨MRn_k h1 (k 8 (by decide) (by decide)) (k 9 (by decide) (by decide)) (k0 9 (by decide)) (k0 12 (by decide)), MoF_k h2 (fun c c1 c2 => k c (by omega) (by omega)) (fun j j1 j2 => k0 j (by omega)), ?_⟩
  unfold MLk at h3 ⊢
  rw [k0 30 (by decide), k 18 (by decide) (by decide)]; exact h3
section mfi
variable {d : Nat} {S : zS} {Q : Option Value → zS → Prop} {b : Nat → Nat → Int} {n : Nat → Nat} {dd : Nat}
theorem w_look (h : MI S b n dd) (hq : ∀ S', MKK S S' → MRn S' b n → MoF S' (b 1) (n 1) → Q none S') : KM (d + 6) mX12_look [.ref 0] S Q := by
  obtain ⟨⟨⟨n0, n1, b0, b1⟩, t1, t2, t3, t4⟩, hd, hdd⟩ := h
  have hN := nB_le (b := b) n0
  have rr := rfp_rng (b 0) (n 0)
  have go : ∀ S1 : zS, (∀ c, c ≠ 0 → c ≠ 8 → S1 c = S c) → (∀ k, k ≠ 9 → S1 0 k = S 0 k) → S1 0 9 = J (nB b n) → (∀ k, k < nB b n → S1 8 k = J (phi (gB b n k))) → zWp shM (KM (d + 5)) kX12_look 0 Q 13 [some (.ref 0)] [] S1 := by
    intro S1 a1 a2 a3 a4
    refine zRun_wp [] 60 ?_
    refine w_numbers (g := gB b n) hN a3 (fun k hk => ⟨a4 k hk, rg_codes (b := b 0) (n := n 0) k hk⟩) (fun S2 c1 c2 c3 c4 => ?_)
    have k2 : ∀ c, c ≠ 0 → c ≠ 8 → c ≠ 9 → S2 c = S c := fun c e0 e1 e2 => by rw [c1 c e0 e2]; exact a1 c e0 e1
    refine w_readsScore (d := d) n1 b1 (by rw [k2 7 (by decide) (by decide) (by decide)]; exact t3) (fun k hk => by rw [k2 6 (by decide) (by decide) (by decide)]; exact t4 k hk) (fun S3 e1 e2 => ?_)
    refine hq S3 ⟨fun c c0 c8 => by rw [e1.1 c c0 (by omega)]; exact k2 c c0 (by omega) (by omega), ?_, ?_⟩ ⟨?_, fun k hk => ⟨?_, rg_codes (b := b 0) (n := n 0) k hk⟩, ?_, fun k hk => ?_⟩ e2
    · rw [e1.2 4 (by decide), c2 4 (by decide), a2 4 (by decide)]
    · rw [e1.2 8 (by decide), c2 8 (by decide), a2 8 (by decide)]
    · rw [e1.2 9 (by decide), c2 9 (by decide)]; exact a3
    · rw [e1.1 8 (by decide) (by decide), c1 8 (by decide) (by decide)]; exact a4 k hk
    · rw [e1.2 12 (by decide)]; exact c3
    · rw [e1.1 9 (by decide) (by decide)]; exact c4 k hk
  refine eX12_look (zRun_wp [13] 60 ?_)
  refine w_readsRun (d := d + 2) n0 b0 t1 t2 (fun S1 a1 a2 a3 a4 => ?_)
  refine ⟨fun _ => go S1 a1 a2 a3 a4, fun w => ?_⟩
  rw [show (-1 : Int32) = J (-1) from rfl] at w
  simp (disch := omega) only [J_lit, J_neg, J_add, J_sub, J_mul, J_nI, J_le, J_lt, J_eq, J_in, J_nat] at w
  have z0 : nB b n = 0 := by show rN _ _ = 0; unfold rN; rw [if_neg w]
  refine ⟨rfl, fun e => absurd e (by decide), ?_⟩
  refine go _ (fun c c0 c8 => by rw [zu_same c0]; exact a1 c c0 c8) (fun k hk => by simp only [zu_r, if_true]; rw [if_neg hk]; exact a2 k hk) ?_ (fun k hk => by omega)
  simp only [zu_r, if_true]
  rw [z0]; rfl
theorem w_find (h : MI S b n dd) (hq : ∀ S', MKK S S' → MFi S' b n → Q none S') : KM (d + 7) mX12_find [.ref 0] S Q := by
  have hN := nB_le (b := b) h.1.1.1
  refine eX12_find (zRun_wp [] 60 ?_)
  refine w_look (d := d) h (fun S1 k1 r1 f1 => ?_)
  refine w_orders (d := d + 5) (w := -1) (g := gB b n) hN (by omega) r1.1 r1.2.2.2 (fun S2 a1 a2 a3 a4 => ?_)
  have a1 : ∀ c, c ≠ 0 → c ≠ 17 → c ≠ 18 → S2 c = S1 c := a1
  have a2 : ∀ k, k ≠ 30 → S2 0 k = S1 0 k := a2
  rw [cs_m1] at a3 a4
  rw [show (fun k => gB b n (skI (-1) k)) = gB b n from funext (fun k => by rw [skI_m1])] at a4
  refine hq S2 (MKK_tr k1 ⟨fun c c0 c8 => a1 c c0 (by omega) (by omega), a2 4 (by decide), a2 8 (by decide)⟩) ⟨?_, ?_, a3, a4⟩
  · exact MRn_k r1 (a1 8 (by decide) (by decide) (by decide)) (a1 9 (by decide) (by decide) (by decide)) (a2 9 (by decide)) (a2 12 (by decide))
  · exact MoF_k f1 (fun c c1 c2 => a1 c (by omega) (by omega) (by omega)) (fun j j1 j2 => a2 j (by omega))
theorem w_findAll (h : MI S b n dd) (hq : ∀ S', MKK S S' → MFa S' b n dd → Q none S') : KM (d + 8) mX12_findAll [.ref 0] S Q := by
  have hN := nB_le (b := b) h.1.1.1
  refine eX12_findAll (zRun_wp [] 60 ?_)
  refine w_find (d := d) h (fun S1 k1 f1 => ?_)
  have h1 := MI_k h k1
  refine w_finding (d := d + 3) hN f1.2.2.1 h1.2.1 h1.2.2 f1.2.2.2 (fun S2 a1 a2 a3 a4 => ?_)
  have a1 : ∀ c, c ≠ 0 → c ≠ 22 → c ≠ 23 → S2 c = S1 c := a1
  have k2 : MKK S1 S2 := ⟨fun c c0 c8 => a1 c c0 (by omega) (by omega), a2 4 (by decide), a2 8 (by decide)⟩
  have f2 : MFi S2 b n := MFi_k f1 (fun c c1 c2 => a1 c (by omega) (by omega) (by omega)) (fun j hj => a2 j (by omega))
  have h2 := MI_k h1 k2
  refine w_shows (d := d + 3) hN f2.2.2.1 h2.2.1 h2.2.2 a3 a4 (fa2_ok hN _) f2.1.2.1 (prB_len h.1.1.1) (fun S3 c1 c2 => ?_)
  have c10 := c1
  have c1 : (∀ c, c ≠ 0 → c ≠ 24 → c ≠ 25 → S3 c = S2 c) ∧ ∀ i, i ≠ 43 → i ≠ 45 → S3 0 i = S2 0 i := c1
  refine hq S3 (MKK_tr (MKK_tr k1 k2) ⟨fun c c0 c8 => c1.1 c c0 (by omega) (by omega), c1.2 4 (by decide) (by decide), c1.2 8 (by decide) (by decide)⟩) ⟨MFi_k f2 (fun c e1 e2 => c1.1 c (by omega) (by omega) (by omega)) (fun j hj => c1.2 j (by omega) (by omega)), fun d' i' j' p1 p2 p3 => MOk_SK (a3 d' i' j' p1 p2 p3) c10, ?_, c2⟩
  unfold MJ at a4 ⊢
  rw [c1.2 38 (by decide) (by decide), c1.2 39 (by decide) (by decide), c1.2 40 (by decide) (by decide), c1.2 41 (by decide) (by decide)]
  exact a4
theorem PK_M {S S' : zS} (k : PK S S') : MKK S S' := ⟨fun c c0 c8 => k.1 c c0 (by omega) (by omega) (by omega), k.2 4 (by decide), k.2 8 (by decide)⟩
theorem PK_Fi {S S' : zS} (k : PK S S') (f : MFi S b n) : MFi S' b n := MFi_k f (fun c c1 c2 => k.1 c (by omega) (by omega) (by omega) (by omega)) (fun j hj => k.2 j (by omega))
theorem w_plAll (h : MI S b n dd) (f : MFi S b n) (hq : ∀ S', PK S S' → PlO S' (odB b n) → Q none S') : KM (d + 4) mX12_playsAll [.ref 0] S Q := by
  obtain ⟨⟨⟨n0, n1, b0, b1⟩, t1, t2, t3, t4⟩, hd, hdd⟩ := h
  exact w_playsAll n1 b1 t3 t4 f.2.1 hq
end mfi
