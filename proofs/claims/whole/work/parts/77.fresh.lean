/-! what the class keeps until a text or DEPTH changes -/
def TC (S : zS) (b : Nat → Nat → Int) (n : Nat → Nat) : Prop := (n 0 ≤ 24 ∧ n 1 ≤ 40 ∧ (∀ k, k < n 0 → 0 ≤ b 0 k ∧ b 0 k ≤ 255) ∧ ∀ k, k < n 1 → 0 ≤ b 1 k ∧ b 1 k ≤ 255) ∧ S 2 1 = J (n 0) ∧ (∀ k, k < n 0 → S 3 k = J (b 0 k)) ∧ S 4 1 = J (n 1) ∧ ∀ k, k < n 1 → S 5 k = J (b 1 k)
def TM (S : zS) (b : Nat → Nat → Int) (n : Nat → Nat) : Prop := (n 0 ≤ 24 ∧ n 1 ≤ 40 ∧ (∀ k, k < n 0 → 0 ≤ b 0 k ∧ b 0 k ≤ 255) ∧ ∀ k, k < n 1 → 0 ≤ b 1 k ∧ b 1 k ≤ 255) ∧ S 7 0 = J (n 0) ∧ (∀ k, k < n 0 → S 5 k = J (b 0 k)) ∧ S 7 1 = J (n 1) ∧ ∀ k, k < n 1 → S 6 k = J (b 1 k)
theorem TX_iff {SC SM : zS} {b : Nat → Nat → Int} {n : Nat → Nat} : TX SC SM b n ↔ TC SC b n ∧ TM SM b n := by
  constructor
  · intro h
    obtain ⟨a1, a2, a3, a4, a5, a6⟩ := h 0 0 2 3 24 5 (by simp [txs])
    obtain ⟨c1, c2, c3, c4, c5, c6⟩ := h 1 1 4 5 40 6 (by simp [txs])
    exact ⟨⟨⟨a1, c1, a2, c2⟩, a3, a4, c3, c4⟩, ⟨⟨a1, c1, a2, c2⟩, a5, a6, c5, c6⟩⟩
  · intro h x t o oa cap A hm
    obtain ⟨⟨⟨a1, c1, a2, c2⟩, a3, a4, c3, c4⟩, ⟨-, a5, a6, c5, c6⟩⟩ := h
    simp only [txs, List.mem_cons, Prod.mk.injEq, List.not_mem_nil, or_false] at hm
    rcases hm with ⟨rfl, rfl, rfl, rfl, rfl, rfl⟩ | ⟨rfl, rfl, rfl, rfl, rfl, rfl⟩
    · exact ⟨a1, a2, a3, a4, a5, a6⟩
    · exact ⟨c1, c2, c3, c4, c5, c6⟩
abbrev gB (b : Nat → Nat → Int) (n : Nat → Nat) : Nat → Int := rg (b 0) (n 0)
abbrev nB (b : Nat → Nat → Int) (n : Nat → Nat) : Nat := rN (b 0) (n 0)
def RunOk (S : zS) (b : Nat → Nat → Int) (n : Nat → Nat) : Prop := S 7 1 = J (nB b n) ∧ (∀ k, k < nB b n → S 8 k = J (gB b n k)) ∧ (∀ k, k < nB b n → S 9 k = J (nu (gB b n) k)) ∧ S 6 2 = J (un (gB b n) (nB b n)) ∧ S 6 3 = J (rfp (b 0) (n 0))
def SpsOk (S : zS) (b : Nat → Nat → Int) (n : Nat → Nat) : Prop := SpOk S 20 21 22 (gB b n) (nB b n) ∧ ∀ dd, dd ≤ 3 → AllC S 23 (gB b n) (nB b n) dd
noncomputable abbrev prB (b : Nat → Nat → Int) (n : Nat → Nat) (dd : Nat) : List Nat := prn (gB b n) (fun i => bw (gB b n i)) (nB b n) dd (fnd (gB b n) (nB b n) dd)
def FndOk (S : zS) (b : Nat → Nat → Int) (n : Nat → Nat) (dd : Nat) : Prop := JOk S 24 (fnd (gB b n) (nB b n) dd) ∧ PrOk S (prB b n dd)
/-- the class's state as far as texts and DEPTH go -/
def CI (S : zS) (b : Nat → Nat → Int) (n : Nat → Nat) (dd : Nat) : Prop := TC S b n ∧ (S 0 8 = J dd ∧ dd ≤ 3) ∧ (S 0 10 = 0 → RunOk S b n) ∧ (S 0 11 = 0 → ScT S (b 1) (n 1)) ∧ (S 0 12 = 0 → SpsOk S b n) ∧ (S 0 13 = 0 → FndOk S b n dd) ∧ (S 0 14 = 0 → MdC S (md (gB b n) (nB b n) dd (nB b n)))
/-- what asking may change -/
def CK (S S' : zS) : Prop := (∀ c, c ≠ 0 → (c < 6 ∨ 32 < c) → S' c = S c) ∧ (∀ k, k ≤ 9 → S' 0 k = S 0 k) ∧ ∀ k, S 0 k = 0 → 10 ≤ k → S' 0 k = 0
theorem CK_rfl {S : zS} : CK S S := ⟨fun _ _ _ => rfl, fun _ _ => rfl, fun _ h _ => h⟩
theorem CK_tr {S S1 S2 : zS} (a : CK S S1) (b : CK S1 S2) : CK S S2 := ⟨fun c h1 h2 => (b.1 c h1 h2).trans (a.1 c h1 h2), fun k h => (b.2.1 k h).trans (a.2.1 k h), fun k h1 h2 => b.2.2 k (a.2.2 k h1 h2) h2⟩
/-! how many bytes the run's bars have -/
def bl (z : Int) : Nat := if z < 256 then 1 else 2
def wt (f : Nat → Int) : Nat → Nat
  | 0 => 0
  | k + 1 => wt f k + bl (f k)
theorem wt_congr {f f' : Nat → Int} : ∀ m, (∀ k, k < m → f k = f' k) → wt f m = wt f' m := by
  intro m
  induction m with
  | zero => intro _; rfl
  | succ m ih => intro h; unfold wt; rw [ih (fun k hk => h k (by omega)), h m (by omega)]
theorem rg_last {b : Nat → Int} {i : Nat} (h : letr (b i)) : rg b (i + 1) (rm b (i + 1) - 1) = b i := by
  rw [rg_s, if_pos h, rm_s, if_pos h, Nat.add_sub_cancel, upF_s]
theorem rm_prev {b : Nat → Int} {i : Nat} (h0 : 0 < i) (h : letr (b (i - 1))) : 0 < rm b i ∧ rg b i (rm b i - 1) = b (i - 1) := by
  obtain ⟨j, rfl⟩ : ∃ j, i = j + 1 := ⟨i - 1, by omega⟩
  rw [Nat.add_sub_cancel] at h ⊢
  exact ⟨by rw [rm_s, if_pos h]; omega, rg_last h⟩
theorem wt_run {b : Nat → Int} : ∀ i, (∀ k, k < i → okb b k) → wt (rg b i) (rm b i) = i := by
  intro i
  induction i with
  | zero => intro _; rfl
  | succ i ih =>
    intro h
    have hi := ih (fun k hk => h k (by omega))
    have ho := h i (by omega)
    rw [rg_s, rm_s]
    by_cases c : letr (b i)
    · rw [if_pos c, if_pos c]
      show wt _ (rm b i) + bl _ = _
      rw [upF_s, wt_congr (f' := rg b i) _ (fun k hk => by rw [upF_n (by omega)]), hi]
      unfold bl; rw [if_pos (by omega)]
    · rw [if_neg c, if_neg c, Nat.add_zero]
      have hp : figr (b i) ∧ 0 < i ∧ letr (b (i - 1)) := by
        rcases ho with ho | ho
        · exact absurd ho c
        · exact ho
      obtain ⟨r1, r2⟩ := rm_prev hp.2.1 hp.2.2
      obtain ⟨m, em⟩ : ∃ m, rm b i = m + 1 := ⟨rm b i - 1, by omega⟩
      rw [em] at hi r2 ⊢
      rw [Nat.add_sub_cancel] at r2 ⊢
      have hi' : wt (rg b i) m + bl (rg b i m) = i := hi
      show wt _ m + bl _ = _
      rw [upF_s, wt_congr (f' := rg b i) _ (fun k hk => by rw [upF_n (by omega)]), r2]
      rw [r2] at hi'
      have b1 : bl (b (i - 1)) = 1 := by unfold bl; rw [if_pos (by omega)]
      have b2 : bl (b (i - 1) + 256 * b i) = 2 := by unfold bl; rw [if_neg (by omega)]
      omega
theorem wt_B {b : Nat → Nat → Int} {n : Nat → Nat} : wt (gB b n) (nB b n) ≤ n 0 := by
  unfold nB rN
  split
  · rename_i h
    rw [wt_run _ ((rfp_iff _ _).mp h)]
    exact Nat.le_refl _
  · exact Nat.zero_le _
theorem prB_len {b : Nat → Nat → Int} {n : Nat → Nat} {dd : Nat} (hn : n 0 ≤ 24) : (prB b n dd).length ≤ 60 := by
  have hN : nB b n ≤ 24 := by have := rN_le (b 0) (n 0); show rN _ _ ≤ 24; omega
  refine prn_len (W := wt (gB b n)) hN (by have := wt_B (b := b) (n := n); omega) (fun i hi => ?_) (fa2_ok hN _)
  have hv := vcode_rng (rg_codes (b := b 0) (n := n 0) i hi)
  have : (bw (gB b n i)).length = bl (gB b n i) := by
    unfold bw bl; split <;> rfl
  refine ⟨?_, ?_⟩
  · show 1 ≤ (bw (gB b n i)).length
    rw [this]; unfold bl; split <;> omega
  · show _ + (bw (gB b n i)).length = _
    rw [this]; rfl
section fresh
variable {d : Nat} {S : zS} {Q : Option Value → zS → Prop} {b : Nat → Nat → Int} {n : Nat → Nat} {dd : Nat}
theorem nB_le (h : n 0 ≤ 24) : nB b n ≤ 24 := by have := rN_le (b 0) (n 0); show rN _ _ ≤ 24; omega
theorem TC_k {S S' : zS} (h : TC S b n) (k : ∀ c, c ≠ 0 → c < 6 → S' c = S c) : TC S' b n := by
  obtain ⟨h0, h1, h2, h3, h4⟩ := h
  exact ⟨h0, by rw [k 2 (by decide) (by decide)]; exact h1, fun j hj => by rw [k 3 (by decide) (by decide)]; exact h2 j hj, by rw [k 4 (by decide) (by decide)]; exact h3, fun j hj => by rw [k 5 (by decide) (by decide)]; exact h4 j hj⟩
theorem RunOk_k {S S' : zS} (h : RunOk S b n) (k : ∀ c, 6 ≤ c → c ≤ 9 → S' c = S c) : RunOk S' b n := by
  unfold RunOk at h ⊢
  rw [k 6 (by decide) (by decide), k 7 (by decide) (by decide), k 8 (by decide) (by decide), k 9 (by decide) (by decide)]
  exact h
theorem ScT_k {S S' : zS} {c : Nat → Int} {m : Nat} (h : ScT S c m) (k : ∀ c, 10 ≤ c → c ≤ 19 → S' c = S c) : ScT S' c m := by
  obtain ⟨h1, h2, h3, h4, h5, h6, h7, h8, h9⟩ := h
  refine ⟨by rw [k 10 (by decide) (by decide)]; exact h1, by rw [k 10 (by decide) (by decide)]; exact h2, by rw [k 13 (by decide) (by decide)]; exact h3, GrE_keep h4 (fun j _ => by rw [k 14 (by decide) (by decide), k 15 (by decide) (by decide)]; exact ⟨rfl, rfl⟩), by rw [k 10 (by decide) (by decide)]; exact h5, by rw [k 10 (by decide) (by decide)]; exact h6, by rw [k 11 (by decide) (by decide)]; exact h7, fun f j hj => by rw [k 12 (by decide) (by decide)]; exact h8 f j hj, OrC_keep h9 (k 16 (by decide) (by decide)) (k 17 (by decide) (by decide))⟩
theorem SpsOk_k {S S' : zS} (h : SpsOk S b n) (k : ∀ c, 20 ≤ c → c ≤ 23 → S' c = S c) : SpsOk S' b n :=
  ⟨SpOk_keep h.1 (k 20 (by decide) (by decide)) (k 21 (by decide) (by decide)) (k 22 (by decide) (by decide)), fun d hd => AllC_keep (h.2 d hd) (k 23 (by decide) (by decide))⟩
theorem FndOk_k {S S' : zS} (h : FndOk S b n dd) (k : ∀ c, 24 ≤ c → c ≤ 26 → S' c = S c) : FndOk S' b n dd := by
  unfold FndOk JOk PrOk at h ⊢
  rw [k 24 (by decide) (by decide), k 25 (by decide) (by decide), k 26 (by decide) (by decide)]
  exact h
theorem MdC_k {S S' : zS} {s : Int × Nat} (h : MdC S s) (k : S' 27 = S 27) : MdC S' s := by
  unfold MdC at h ⊢; rw [k]; exact h
theorem zn24 {q : Nat} {x : Int32} (h : zn [2, 4] x.toNatClampNeg = some q) (k : Nat) (hk : x.toNatClampNeg = k) : zn [2, 4] k = some q := by rw [← hk]; exact h
theorem in2 (k : Nat) (h : k < 2) : vp_in (J k) 2 := by simp (disch := omega) only [J_lit, J_neg, J_add, J_sub, J_mul, J_nI, J_le, J_lt, J_eq, J_in, J_nat]; omega
theorem v_freshRun (h : CI S b n dd) (hq : ∀ S', CK S S' → CI S' b n dd → S' 0 10 = 0 → (∀ k, k ≠ 10 → S' 0 k = S 0 k) → (∀ c, c ≠ 0 → c < 6 ∨ 9 < c → S' c = S c) → Q (some (.ref 6)) S') : KC (d + 3) mX11_freshRun [.ref 0] S Q := by
  have h' := h
  obtain ⟨t, hd, h10, h11, h12, h13, h14⟩ := h
  obtain ⟨⟨n0, n1, b0, b1⟩, t1, t2, t3, t4⟩ := id t
  refine eX11_freshRun (zRun_wp [] 60 ?_)
  refine ⟨fun w => hq S CK_rfl h' w (fun _ _ => rfl) (fun _ _ _ => rfl), fun w => ?_⟩
  refine ⟨in2 0 (by decide), fun q hqq => ?_⟩
  have eq2 : q = 2 := by cases hqq; rfl
  subst eq2
  refine v_runTake n0 b0 t1 t2 (fun S1 a1 a2 a3 a4 a5 a6 => ?_)
  refine ⟨rfl, fun _ => Or.inl rfl, ?_⟩
  have k1 : ∀ c, c ≠ 0 → c < 6 ∨ 9 < c → (zu S1 0 10 0) c = S c := fun c c1 c2 => by rw [zu_same c1]; exact a1 c c2
  have k0 : ∀ k, k ≠ 10 → (zu S1 0 10 0) 0 k = S 0 k := fun k hk => by simp only [zu_r, if_true]; rw [if_neg hk, a1 0 (by decide)]
  have k10 : (zu S1 0 10 0) 0 10 = 0 := by simp [zu_r]
  refine hq _ ⟨fun c c1 c2 => k1 c c1 (by omega), fun k hk => k0 k (by omega), fun k hk _ => ?_⟩ ⟨TC_k t (fun c c1 c2 => k1 c c1 (by omega)), ?_, fun _ => ?_, fun w => ?_, fun w => ?_, fun w => ?_, fun w => ?_⟩ k10 k0 k1
  · by_cases e : k = 10
    · rw [e]; exact k10
    · rw [k0 k e]; exact hk
  · rw [k0 8 (by decide)]; exact hd
  · refine ⟨?_, fun k hk => ?_, fun k hk => ?_, ?_, ?_⟩
    · rw [zu_same (by decide)]; exact a2
    · rw [zu_same (by decide)]; exact a3 k hk
    · rw [zu_same (by decide)]; exact a4 k hk
    · rw [zu_same (by decide)]; exact a5
    · rw [zu_same (by decide)]; exact a6
  · rw [k0 11 (by decide)] at w
    exact ScT_k (h11 w) (fun c c1 c2 => k1 c (by omega) (by omega))
  · rw [k0 12 (by decide)] at w
    exact SpsOk_k (h12 w) (fun c c1 c2 => k1 c (by omega) (by omega))
  · rw [k0 13 (by decide)] at w
    exact FndOk_k (h13 w) (fun c c1 c2 => k1 c (by omega) (by omega))
  · rw [k0 14 (by decide)] at w
    exact MdC_k (h14 w) (k1 27 (by decide) (by decide))
theorem v_freshScore (h : CI S b n dd) (hq : ∀ S', CK S S' → CI S' b n dd → S' 0 11 = 0 → (∀ k, k ≠ 11 → S' 0 k = S 0 k) → (∀ c, c ≠ 0 → c < 10 ∨ 19 < c → S' c = S c) → Q (some (.ref 10)) S') : KC (d + 5) mX11_freshScore [.ref 0] S Q := by
  have h' := h
  obtain ⟨t, hd, h10, h11, h12, h13, h14⟩ := h
  obtain ⟨⟨n0, n1, b0, b1⟩, t1, t2, t3, t4⟩ := id t
  refine eX11_freshScore (zRun_wp [] 60 ?_)
  refine ⟨fun w => hq S CK_rfl h' w (fun _ _ => rfl) (fun _ _ _ => rfl), fun w => ?_⟩
  refine ⟨in2 1 (by decide), fun q hqq => ?_⟩
  have eq2 : q = 4 := by cases hqq; rfl
  subst eq2
  refine v_scoreTake n1 b1 t3 t4 (fun S1 a1 a2 => ?_)
  refine ⟨rfl, fun _ => Or.inl rfl, ?_⟩
  have k1 : ∀ c, c ≠ 0 → c < 10 ∨ 19 < c → (zu S1 0 11 0) c = S c := fun c c1 c2 => by rw [zu_same c1]; exact a1 c c2
  have k0 : ∀ k, k ≠ 11 → (zu S1 0 11 0) 0 k = S 0 k := fun k hk => by simp only [zu_r, if_true]; rw [if_neg hk, a1 0 (by decide)]
  have k10 : (zu S1 0 11 0) 0 11 = 0 := by simp [zu_r]
  refine hq _ ⟨fun c c1 c2 => k1 c c1 (by omega), fun k hk => k0 k (by omega), fun k hk _ => ?_⟩ ⟨TC_k t (fun c c1 c2 => k1 c c1 (by omega)), ?_, fun w => ?_, fun _ => ?_, fun w => ?_, fun w => ?_, fun w => ?_⟩ k10 k0 k1
  · by_cases e : k = 11
    · rw [e]; exact k10
    · rw [k0 k e]; exact hk
  · rw [k0 8 (by decide)]; exact hd
  · rw [k0 10 (by decide)] at w
    exact RunOk_k (h10 w) (fun c c1 c2 => k1 c (by omega) (by omega))
  · exact ScT_k a2 (fun c c1 c2 => zu_same (by omega))
  · rw [k0 12 (by decide)] at w
    exact SpsOk_k (h12 w) (fun c c1 c2 => k1 c (by omega) (by omega))
  · rw [k0 13 (by decide)] at w
    exact FndOk_k (h13 w) (fun c c1 c2 => k1 c (by omega) (by omega))
  · rw [k0 14 (by decide)] at w
    exact MdC_k (h14 w) (k1 27 (by decide) (by decide))
theorem v_freshSpans (h : CI S b n dd) (hq : ∀ S', CK S S' → CI S' b n dd → S' 0 12 = 0 → Q (some (.ref 20)) S') : KC (d + 5) mX11_freshSpans [.ref 0] S Q := by
  refine eX11_freshSpans (zRun_wp [] 60 ?_)
  refine ⟨fun w => hq S CK_rfl h w, fun w => ?_⟩
  refine v_freshRun (d := d + 1) h (fun S1 c1 i1 f1 _ _ => ?_)
  obtain ⟨t, hd, h10, h11, h12, h13, h14⟩ := i1
  obtain ⟨r1, r2, r3, r4, r5⟩ := h10 f1
  have hN := nB_le (b := b) t.1.1
  have gr : ∀ k, k < nB b n → 0 ≤ gB b n k ∧ gB b n k ≤ 100000 := fun k hk => by
    have : 97 ≤ gB b n k ∧ gB b n k ≤ 14714 := vcode_rng (rg_codes (b := b 0) (n := n 0) k hk)
    omega
  refine v_spTake (c := 20) (c1 := 21) (c2 := 22) (c3 := 23) (w := -1) (d := d + 3) sps20 hN (by omega) r1 (fun k hk => ⟨r2 k hk, gr k hk⟩) (fun S2 a1 a2 a3 a4 => ?_)
  rw [cs_m1] at a2 a3 a4
  rw [show (fun k => gB b n (skI (-1) k)) = gB b n from funext (fun k => by rw [skI_m1])] at a4
  have a3' : ∀ k, k < nB b n → S2 21 k = J (gB b n k) := fun k hk => by have := a3 k hk; rw [skI_m1] at this; exact this
  have so : SpOk S2 20 21 22 (gB b n) (nB b n) := ⟨hN, a2, a3', a4⟩
  refine v_settle0 (L := 3) (d := d) so (Nat.le_refl _) (fun S3 s1 s2 => ?_)
  refine ⟨rfl, fun _ => Or.inl rfl, ?_⟩
  have k1 : ∀ c, c ≠ 0 → c < 20 ∨ 23 < c → (zu S3 0 12 0) c = S1 c := fun c c1 c2 => by rw [zu_same c1, s1 c (by omega), a1 c (by omega) (by omega) (by omega)]
  have k0 : ∀ k, k ≠ 12 → (zu S3 0 12 0) 0 k = S1 0 k := fun k hk => by simp only [zu_r, if_true]; rw [if_neg hk, s1 0 (by decide), a1 0 (by decide) (by decide) (by decide)]
  have k10 : (zu S3 0 12 0) 0 12 = 0 := by simp [zu_r]
  refine hq _ (CK_tr c1 ⟨fun c c1 c2 => k1 c c1 (by omega), fun k hk => k0 k (by omega), fun k hk _ => ?_⟩) ⟨TC_k t (fun c c1 c2 => k1 c c1 (by omega)), ?_, fun w => ?_, fun w => ?_, fun _ => ?_, fun w => ?_, fun w => ?_⟩ k10
  · by_cases e : k = 12
    · rw [e]; exact k10
    · rw [k0 k e]; exact hk
  · rw [k0 8 (by decide)]; exact hd
  · rw [k0 10 (by decide)] at w
    exact RunOk_k (h10 w) (fun c c1 c2 => k1 c (by omega) (by omega))
  · rw [k0 11 (by decide)] at w
    exact ScT_k (h11 w) (fun c c1 c2 => k1 c (by omega) (by omega))
  · refine ⟨SpOk_keep so ?_ ?_ ?_, fun d' hd' i j p1 p2 => ?_⟩
    · rw [zu_same (by decide), s1 20 (by decide)]
    · rw [zu_same (by decide), s1 21 (by decide)]
    · rw [zu_same (by decide), s1 22 (by decide)]
    · have := s2 d' i j hd' p1 p2
      unfold CoOk at this ⊢
      rw [zu_same (by decide)]; exact this
  · rw [k0 13 (by decide)] at w
    exact FndOk_k (h13 w) (fun c c1 c2 => k1 c (by omega) (by omega))
  · rw [k0 14 (by decide)] at w
    exact MdC_k (h14 w) (k1 27 (by decide) (by decide))
theorem v_seekE {cj c c1 c2 c3 m : Nat} {h : Nat → Int} {x : Int32} (ex : x = J dd) (hjs : (cj, c, c1, c2, c3) ∈ jsp) (hS : SpOk S c c1 c2 h m) (hC : AllC S c3 h m dd) (hd : dd ≤ 3)
    (hq : ∀ S', (∀ c', c' ≠ cj → S' c' = S c') → JOk S' cj (fnd h m dd) → Q none S') : KC (d + 4) mX2_seek [.ref cj, .ref c, .int x] S Q := by
  subst ex; exact v_seek hjs hS hC hd hq
theorem v_printE {x : Int32} (ex : x = J dd) {g : Nat → Int} {m : Nat} {s : FS} (hg : ∀ k, k < m → vcode (g k)) (hS : SpOk S 20 21 22 g m) (hC : ∀ dd, dd ≤ 3 → AllC S 23 g m dd) (hd : dd ≤ 3) (hJ : JOk S 24 s) (hf : FOk m s) (hl : (prn g (fun i => bw (g i)) m dd s).length ≤ 60)
    (hq : ∀ S', PrK S S' → PrOk S' (prn g (fun i => bw (g i)) m dd s) → Q none S') : KC (d + 56) mX5_print [.ref 25, .ref 20, .ref 24, .int x] S Q := by
  subst ex; exact v_print hg hS hC hd hJ hf hl hq
theorem v_mendSeekE {x : Int32} (ex : x = J dd) {g : Nat → Int} {N : Nat} (hN : N ≤ 24) (hS : S 7 1 = J N) (hg : ∀ k, k < N → S 8 k = J (g k) ∧ vcode (g k)) (hW : SpOk S 20 21 22 g N) (hC : ∀ d' i' j', d' ≤ 3 → i' < j' → j' ≤ N → CoOk S 23 g d' i' j') (hd : dd ≤ 3)
    (hq : ∀ S', MdK S S' → MdC S' (md g N dd N) → Q none S') : KC (d + 5) mX3_seek [.ref 27, .ref 7, .ref 20, .int x] S Q := by
  subst ex; exact v_mendSeek hN hS hg hW hC hd hq
theorem v_freshFound (h : CI S b n dd) (hq : ∀ S', CK S S' → CI S' b n dd → S' 0 13 = 0 → Q (some (.ref 24)) S') : KC (d + 57) mX11_freshFound [.ref 0] S Q := by
  refine eX11_freshFound (zRun_wp [] 80 ?_)
  refine ⟨fun w => hq S CK_rfl h w, fun w => ?_⟩
  refine v_freshSpans (d := d + 51) h (fun S1 c1 i1 f1 => ?_)
  obtain ⟨t, hd, h10, h11, h12, h13, h14⟩ := i1
  obtain ⟨so, sc⟩ := h12 f1
  have hN := nB_le (b := b) t.1.1
  refine v_seekE (cj := 24) (c := 20) (c1 := 21) (c2 := 22) (c3 := 23) (d := d + 52) hd.1 (by decide) so (sc dd hd.2) hd.2 (fun S2 a1 a2 => ?_)
  have d2 : S2 0 8 = J dd := by rw [a1 0 (by decide)]; exact hd.1
  have so2 := SpOk_keep so (a1 20 (by decide)) (a1 21 (by decide)) (a1 22 (by decide))
  refine v_printE (d := d) d2 (s := fnd (gB b n) (nB b n) dd) (fun k hk => rg_codes (b := b 0) (n := n 0) k hk) so2 (fun e he => AllC_keep (sc e he) (a1 23 (by decide))) hd.2 a2 (fa2_ok hN _) (prB_len t.1.1) (fun S3 p1 p2 => ?_)
  refine ⟨rfl, fun _ => Or.inl rfl, ?_⟩
  have k1 : ∀ c, c ≠ 0 → c < 24 ∨ 26 < c → (zu S3 0 13 0) c = S1 c := fun c c1 c2 => by rw [zu_same c1, p1 c (by omega) (by omega), a1 c (by omega)]
  have k0 : ∀ k, k ≠ 13 → (zu S3 0 13 0) 0 k = S1 0 k := fun k hk => by simp only [zu_r, if_true]; rw [if_neg hk, p1 0 (by decide) (by decide), a1 0 (by decide)]
  have k10 : (zu S3 0 13 0) 0 13 = 0 := by simp [zu_r]
  refine hq _ (CK_tr c1 ⟨fun c c1 c2 => k1 c c1 (by omega), fun k hk => k0 k (by omega), fun k hk _ => ?_⟩) ⟨TC_k t (fun c c1 c2 => k1 c c1 (by omega)), ?_, fun w => ?_, fun w => ?_, fun w => ?_, fun _ => ?_, fun w => ?_⟩ k10
  · by_cases e : k = 13
    · rw [e]; exact k10
    · rw [k0 k e]; exact hk
  · rw [k0 8 (by decide)]; exact hd
  · rw [k0 10 (by decide)] at w
    exact RunOk_k (h10 w) (fun c c1 c2 => k1 c (by omega) (by omega))
  · rw [k0 11 (by decide)] at w
    exact ScT_k (h11 w) (fun c c1 c2 => k1 c (by omega) (by omega))
  · rw [k0 12 (by decide)] at w
    exact SpsOk_k (h12 w) (fun c c1 c2 => k1 c (by omega) (by omega))
  · refine ⟨?_, ?_⟩
    · unfold JOk at a2 ⊢
      rw [zu_same (by decide), p1 24 (by decide) (by decide)]
      exact a2
    · unfold PrOk at p2 ⊢
      rw [zu_same (by decide), zu_same (by decide)]
      exact p2
  · rw [k0 14 (by decide)] at w
    exact MdC_k (h14 w) (k1 27 (by decide) (by decide))
theorem v_freshMending (h : CI S b n dd) (hq : ∀ S', CK S S' → CI S' b n dd → S' 0 14 = 0 → Q (some (.ref 27)) S') : KC (d + 6) mX11_freshMending [.ref 0] S Q := by
  refine eX11_freshMending (zRun_wp [] 80 ?_)
  refine ⟨fun w => hq S CK_rfl h w, fun w => ?_⟩
  refine v_freshRun (d := d + 2) h (fun S0 c0 i0 f0 _ _ => ?_)
  refine v_freshSpans (d := d) i0 (fun S1 c1 i1 f1 => ?_)
  have f0' := c1.2.2 10 f0 (by decide)
  obtain ⟨t, hd, h10, h11, h12, h13, h14⟩ := i1
  obtain ⟨so, sc⟩ := h12 f1
  obtain ⟨r1, r2, r3, r4, r5⟩ := h10 f0'
  have hN := nB_le (b := b) t.1.1
  refine v_mendSeekE (d := d) hd.1 hN r1 (fun k hk => ⟨r2 k hk, rg_codes (b := b 0) (n := n 0) k hk⟩) so (fun d' i' j' p1 p2 p3 => sc d' p1 i' j' p2 p3) hd.2 (fun S3 p1 p2 => ?_)
  refine ⟨rfl, fun _ => Or.inl rfl, ?_⟩
  have k1 : ∀ c, c ≠ 0 → c < 27 ∨ 32 < c → (zu S3 0 14 0) c = S1 c := fun c c1 c2 => by rw [zu_same c1, p1 c (by omega)]
  have k0 : ∀ k, k ≠ 14 → (zu S3 0 14 0) 0 k = S1 0 k := fun k hk => by simp only [zu_r, if_true]; rw [if_neg hk, p1 0 (by decide)]
  have k10 : (zu S3 0 14 0) 0 14 = 0 := by simp [zu_r]
  refine hq _ (CK_tr (CK_tr c0 c1) ⟨fun c c1 c2 => k1 c c1 (by omega), fun k hk => k0 k (by omega), fun k hk _ => ?_⟩) ⟨TC_k t (fun c c1 c2 => k1 c c1 (by omega)), ?_, fun w => ?_, fun w => ?_, fun w => ?_, fun w => ?_, fun _ => ?_⟩ k10
  · by_cases e : k = 14
    · rw [e]; exact k10
    · rw [k0 k e]; exact hk
  · rw [k0 8 (by decide)]; exact hd
  · rw [k0 10 (by decide)] at w
    exact RunOk_k (h10 w) (fun c c1 c2 => k1 c (by omega) (by omega))
  · rw [k0 11 (by decide)] at w
    exact ScT_k (h11 w) (fun c c1 c2 => k1 c (by omega) (by omega))
  · rw [k0 12 (by decide)] at w
    exact SpsOk_k (h12 w) (fun c c1 c2 => k1 c (by omega) (by omega))
  · rw [k0 13 (by decide)] at w
    exact FndOk_k (h13 w) (fun c c1 c2 => k1 c (by omega) (by omega))
  · exact MdC_k p2 (zu_same (by decide))
end fresh
