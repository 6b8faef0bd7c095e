/-- the model's code of a bar -/
def phi (z : Int) : Int := 16 * (z % 256) + (if z < 256 then 0 else z / 256 - 47)
theorem phi_eq {l f : Int} (hl : letr l) (hf : f = 0 ∨ figr f) : phi (l + 256 * f) = 16 * l + (if f = 0 then 0 else f - 47) := by
  unfold phi
  rcases hf with rfl | hf
  · rw [if_pos (by omega), if_pos rfl]; omega
  · rw [if_neg (by omega), if_neg (by omega)]; omega
theorem phi_inj {x y : Int} (hx : vcode x) (hy : vcode y) : phi x = phi y ↔ x = y := by
  obtain ⟨l, f, h1, h2, rfl⟩ := hx
  obtain ⟨l', f', h1', h2', rfl⟩ := hy
  rw [phi_eq h1 h2, phi_eq h1' h2']
  constructor
  · intro h
    rcases h2 with rfl | h2 <;> rcases h2' with rfl | h2'
    · omega
    · rw [if_pos rfl, if_neg (by omega)] at h; omega
    · rw [if_neg (by omega), if_pos rfl] at h; omega
    · rw [if_neg (by omega), if_neg (by omega)] at h; omega
  · intro h
    have : f = f' := by omega
    have : l = l' := by omega
    subst_vars
    rfl
theorem phi_rng {x : Int} (hx : vcode x) : 1552 ≤ phi x ∧ phi x ≤ 1962 := by
  obtain ⟨l, f, h1, h2, rfl⟩ := hx
  rw [phi_eq h1 h2]
  rcases h2 with rfl | h2
  · rw [if_pos rfl]; omega
  · rw [if_neg (by omega)]; omega
section run3
variable {d : Nat} {S : zS} {Q : Option Value → zS → Prop} {b : Nat → Int} {n : Nat}
set_option maxHeartbeats 1000000 in
/-- the model reads the run -/
theorem w_readsRun (hn : n ≤ 24) (hb : ∀ k, k < n → 0 ≤ b k ∧ b k ≤ 255) (hS : S A_typed 0 = J n) (hT : ∀ k, k < n → S A_run k = J (b k))
    (h : ∀ S', (∀ c, c ≠ 0 → c ≠ A_bar → S' c = S c) → (∀ k, k ≠ M_bars → S' 0 k = S 0 k) → S' 0 M_bars = J (rN b n) → (∀ k, k < rN b n → S' A_bar k = J (phi (rg b n k))) → Q (some (.int (J (rfp b n)))) S') : KM (d + 3) mX12_readsRun [.ref 0] S Q := by
  have loop : ∀ (r i : Nat) (x1 : Int32) (j2 j3 : Option Value) (S' : zS), i + r = n → x1 = J i → (∀ c, c ≠ 0 → c ≠ A_bar → S' c = S c) → (∀ k, k ≠ M_bars → S' 0 k = S 0 k) → rfp b i = -1 → S' 0 M_bars = J (rm b i) → (∀ k, k < rm b i → S' A_bar k = J (phi (rg b i k))) → zWp shM (KM (d + 2)) kX12_readsRun 1 Q 7 [some (.ref 0), some (.int x1), j2, j3] [] S' := by
    intro r
    induction r with
    | zero =>
      intro i x1 j2 j3 S' hi e1 q1 q2 q3 q4 q5
      subst e1
      have ei : i = n := by omega
      subst ei
      have hN : rN b i = rm b i := by unfold rN; rw [if_pos q3]
      refine zRun_wp [7] 80 ?_
      refine ⟨by rw [vp_in_iff]; decide, fun _ => ?_, fun c1 => ?_⟩
      · have := h S' q1 q2 (by rw [hN]; exact q4) (by rw [hN]; exact q5)
        rw [q3] at this
        exact this
      · rw [show S' 7 = S 7 from q1 7 (by decide) (by decide)] at c1
        exact absurd (by rw [show S 7 (Int32.toNatClampNeg 0) = J i from hS]; exact Int32.le_refl _) c1
    | succ r ih =>
      intro i x1 j2 j3 S' hi e1 q1 q2 q3 q4 q5
      subst e1
      have iin : vp_in (J i) 24 := by simp (disch := omega) only [J_lit, J_neg, J_add, J_sub, J_mul, J_nI, J_le, J_lt, J_eq, J_in, J_nat]; omega
      have iix : (J i).toNatClampNeg = i := by simp (disch := omega) only [J_lit, J_neg, J_add, J_sub, J_mul, J_nI, J_le, J_lt, J_eq, J_in, J_nat]; omega
      have hbi := hb i (by omega)
      have hrm := rm_le b i
      have e7 : S' 7 (Int32.toNatClampNeg 0) = J n := by rw [q1 7 (by decide) (by decide)]; exact hS
      have e5 : S' 5 i = J (b i) := by rw [q1 5 (by decide) (by decide)]; exact hT i (by omega)
      refine zRun_wp [7, 54] 80 ?_
      refine ⟨by rw [vp_in_iff]; decide, fun c1 => ?_, fun _ => ?_⟩
      · rw [e7] at c1
        simp (disch := omega) only [J_lit, J_neg, J_add, J_sub, J_mul, J_nI, J_le, J_lt, J_eq, J_in, J_nat] at c1
        omega
      refine ⟨iin, ?_⟩
      rw [iix, e5]
      -- behind the test whether it is a figure behind a letter
      have tail : ∀ (x3 : Int32) (fg : Prop) [Decidable fg], x3 = bb fg → (fg ↔ (figr (b i) ∧ 0 < i ∧ letr (b (i - 1)))) → zWp shM (KM (d + 2)) kX12_readsRun 1 Q 54 [some (.ref 0), some (.int (J i)), some (.int (J (b i))), j3] [.int x3] S' := by
        intro x3 fg _ e3 hfg
        refine zRun_wp [7, 77, 100] 80 ?_
        refine w_isLetter ?_
        have bad : ¬ okb b i → Q (some (.int (J i))) (zu S' 0 M_bars 0) := by
          intro ho
          have hf : rfp b (i + 1) = i := by rw [rfp_s, if_pos q3, if_neg ho]
          have hfn : rfp b n = i := by rw [← hf]; exact rfp_stay (by rw [hf]; omega) (by omega)
          have hN : rN b n = 0 := by unfold rN; rw [hfn, if_neg (by omega)]
          have := h (zu S' 0 M_bars 0) (fun c a1 a2 => by rw [zu_same a1]; exact q1 c a1 a2) (fun k a1 => by simp only [zu_r, if_true]; rw [if_neg a1]; exact q2 k a1) (by rw [hN]; simp only [zu_r, if_true]; rfl) (fun k hk => by rw [hN] at hk; omega)
          rw [hfn] at this
          exact this
        have letter : letr (b i) → ¬ fg → zWp shM (KM (d + 2)) kX12_readsRun 1 Q 100 [some (.ref 0), some (.int (J i)), some (.int (J (b i))), some (.int x3)] [] S' := by
          intro hl _
          refine zRun_wp [7] 80 ?_
          have e4 : S' 0 9 = J (rm b i) := q4
          have rix : (J (rm b i)).toNatClampNeg = rm b i := by simp (disch := omega) only [J_lit, J_neg, J_add, J_sub, J_mul, J_nI, J_le, J_lt, J_eq, J_in, J_nat]; omega
          refine ⟨?_, rfl, fun e => absurd e (by decide), ?_⟩
          · rw [e4]; simp (disch := omega) only [J_lit, J_neg, J_add, J_sub, J_mul, J_nI, J_le, J_lt, J_eq, J_in, J_nat]; omega
          rw [e4, rix]
          refine ih (i + 1) _ _ _ _ (by omega) (by simp only [J_lit, J_neg, J_add, J_sub, J_mul, J_nI]; congr 1) (fun c a1 a2 => ?_) (fun k a1 => ?_) ?_ ?_ (fun k hk => ?_)
          · rw [zu_same a1, zu_same a2]; exact q1 c a1 a2
          · simp only [zu_r, if_true]; rw [if_neg a1, if_neg (by decide)]; exact q2 k a1
          · rw [rfp_s, if_pos q3, if_pos (Or.inl hl)]
          · simp only [zu_r, if_true]; rw [if_neg (by decide), e4, rm_s, if_pos hl]; simp only [J_lit, J_neg, J_add, J_sub, J_mul, J_nI]; rfl
          · rw [rm_s, if_pos hl] at hk
            rw [zu_same (by decide), rg_s, if_pos hl]
            simp only [zu_r, if_true]
            by_cases ek : k = rm b i
            · rw [if_pos ek, ek, upF_s]
              simp only [J_lit, J_neg, J_add, J_sub, J_mul, J_nI]
              congr 1
              unfold phi
              rw [if_pos (by omega)]; omega
            · rw [if_neg ek, upF_n ek]; exact q5 k (by omega)
        have figure : fg → zWp shM (KM (d + 2)) kX12_readsRun 1 Q 77 [some (.ref 0), some (.int (J i)), some (.int (J (b i))), some (.int x3)] [] S' := by
          intro hf
          obtain ⟨f1, f2, f3⟩ := hfg.mp hf
          have hnl : ¬ letr (b i) := by omega
          have hp := rm_pos f2 f3
          refine zRun_wp [7] 80 ?_
          have e4 : S' 0 9 = J (rm b i) := q4
          have rin : vp_in (J (rm b i) - 1) 24 := by simp (disch := omega) only [J_lit, J_neg, J_add, J_sub, J_mul, J_nI, J_le, J_lt, J_eq, J_in, J_nat]; omega
          have rix : (J (rm b i) - 1).toNatClampNeg = rm b i - 1 := by simp (disch := omega) only [J_lit, J_neg, J_add, J_sub, J_mul, J_nI, J_le, J_lt, J_eq, J_in, J_nat]; omega
          refine ⟨?_, ?_, ?_⟩
          · rw [e4]; exact rin
          · rw [e4]; exact rin
          rw [e4, rix]
          refine ih (i + 1) _ _ _ _ (by omega) (by simp only [J_lit, J_neg, J_add, J_sub, J_mul, J_nI]; congr 1) (fun c a1 a2 => ?_) (fun k a1 => ?_) ?_ ?_ (fun k hk => ?_)
          · rw [zu_same a2]; exact q1 c a1 a2
          · rw [zu_same (by decide)]; exact q2 k a1
          · rw [rfp_s, if_pos q3, if_pos (Or.inr ⟨f1, f2, f3⟩)]
          · rw [zu_same (by decide), rm_s, if_neg hnl]; exact q4
          · rw [rm_s, if_neg hnl] at hk
            rw [rg_s, if_neg hnl]
            simp only [zu_r, if_true]
            by_cases ek : k = rm b i - 1
            · rw [if_pos ek, ek, upF_s, show S' 8 (rm b i - 1) = J (phi (rg b i (rm b i - 1))) from q5 _ (by omega)]
              simp only [J_lit, J_neg, J_add, J_sub, J_mul, J_nI]
              congr 1
              have e3 : rg b i (rm b i - 1) = b (i - 1) := by
                cases i with
                | zero => omega
                | succ i =>
                  rw [Nat.add_sub_cancel] at f3 ⊢
                  rw [rg_s, rm_s, if_pos f3, if_pos f3, Nat.add_sub_cancel, upF_s]
              have e6 : b (i - 1) = b (i - 1) + 256 * 0 := by omega
              rw [e3, phi_eq f3 (Or.inr f1), if_neg (by omega), e6, phi_eq f3 (Or.inl rfl), if_pos rfl]
              omega
            · rw [if_neg ek, upF_n ek]; exact q5 k (by omega)
        refine ⟨fun c3 => ?_, fun c3 => ?_⟩ <;> rw [bb_0] at c3
        · rw [Classical.not_not] at c3
          simp (disch := omega) only [J_lit, J_neg, J_add, J_sub, J_mul, J_nI, J_le, J_lt, J_eq, J_in, J_nat] at c3
          have nf : ¬ fg := fun q => by have := (hfg.mp q).1; omega
          refine ⟨fun _ => letter c3 nf, fun c4 => ?_⟩
          rw [e3, bb_0] at c4
          exact absurd nf c4
        · simp (disch := omega) only [J_lit, J_neg, J_add, J_sub, J_mul, J_nI, J_le, J_lt, J_eq, J_in, J_nat] at c3
          refine ⟨fun c4 => ?_, fun c4 => ?_⟩ <;> rw [e3, bb_0] at c4
          · rw [Classical.not_not] at c4
            refine ⟨fun c5 => ?_, fun _ => figure c4⟩
            rw [e3, bb_0] at c5
            exact absurd c4 c5
          · refine ⟨rfl, fun e => absurd e (by decide), ?_⟩
            exact bad (by rintro (q | q); exact c3 q; exact c4 (hfg.mpr q))
      refine w_isFigure ?_
      refine ⟨fun c2 => ?_, fun c2 => ?_⟩ <;> rw [bb_0] at c2
      · simp (disch := omega) only [J_lit, J_neg, J_add, J_sub, J_mul, J_nI, J_le, J_lt, J_eq, J_in, J_nat] at c2
        exact tail _ False (by rw [bb_f id]) ⟨fun q => q.elim, fun q => absurd q.1 c2⟩
      rw [Classical.not_not] at c2
      simp (disch := omega) only [J_lit, J_neg, J_add, J_sub, J_mul, J_nI, J_le, J_lt, J_eq, J_in, J_nat] at c2
      refine ⟨fun c3 => ?_, fun c3 => ?_⟩ <;> simp (disch := omega) only [J_lit, J_neg, J_add, J_sub, J_mul, J_nI, J_le, J_lt, J_eq, J_in, J_nat] at c3
      · exact tail _ False (by rw [bb_f id]) ⟨fun q => q.elim, fun q => by omega⟩
      have i1in : vp_in (J i - 1) 24 := by simp (disch := omega) only [J_lit, J_neg, J_add, J_sub, J_mul, J_nI, J_le, J_lt, J_eq, J_in, J_nat]; omega
      have i1ix : (J i - 1).toNatClampNeg = i - 1 := by simp (disch := omega) only [J_lit, J_neg, J_add, J_sub, J_mul, J_nI, J_le, J_lt, J_eq, J_in, J_nat]; omega
      refine ⟨i1in, ?_⟩
      rw [i1ix, show S' 5 (i - 1) = J (b (i - 1)) by rw [q1 5 (by decide) (by decide)]; exact hT _ (by omega)]
      have hbi1 := hb (i - 1) (by omega)
      refine w_isLetter ?_
      refine ⟨fun c4 => ?_, fun c4 => ?_⟩ <;> rw [bb_0] at c4
      · simp (disch := omega) only [J_lit, J_neg, J_add, J_sub, J_mul, J_nI, J_le, J_lt, J_eq, J_in, J_nat] at c4
        exact tail _ False (by rw [bb_f id]) ⟨fun q => q.elim, fun q => absurd q.2.2 c4⟩
      · rw [Classical.not_not] at c4
        simp (disch := omega) only [J_lit, J_neg, J_add, J_sub, J_mul, J_nI, J_le, J_lt, J_eq, J_in, J_nat] at c4
        exact tail _ True (by rw [bb_t trivial]) ⟨fun _ => ⟨c2, by omega, c4⟩, fun _ => trivial⟩
  refine eX12_readsRun (zRun_wp [7] 80 ?_)
  refine ⟨rfl, fun e => absurd e (by decide), ?_⟩
  refine loop n 0 _ _ _ _ (by omega) rfl (fun c a1 _ => zu_same a1) (fun k a1 => ?_) rfl ?_ (fun k hk => ?_)
  · simp only [zu_r, if_true]; rw [if_neg a1]
  · simp only [zu_r, if_true]; rfl
  · unfold rm at hk; omega
set_option maxHeartbeats 1000000 in
/-- the model gives numbers -/
theorem w_numbers {N : Nat} {g : Nat → Int} (hN : N ≤ 24) (hS : S 0 M_bars = J N) (hg : ∀ k, k < N → S A_bar k = J (phi (g k)) ∧ vcode (g k))
    (h : ∀ S', (∀ c, c ≠ 0 → c ≠ A_number → S' c = S c) → (∀ k, k ≠ M_unlike → S' 0 k = S 0 k) → S' 0 M_unlike = J (un g N) → (∀ k, k < N → S' A_number k = J (nu g k)) → Q none S') : KM (d + 1) mX12_numbers [.ref 0] S Q := by
  have outer : ∀ (r i : Nat) (x1 : Int32) (j2 : Option Value) (S' : zS), i + r = N → x1 = J i → (∀ c, c ≠ 0 → c ≠ A_number → S' c = S c) → (∀ k, k ≠ M_unlike → S' 0 k = S 0 k) → S' 0 M_unlike = J (un g i) → (∀ k, k < i → S' A_number k = J (nu g k)) → zWp shM (KM d) kX12_numbers 0 Q 7 [some (.ref 0), some (.int x1), j2] [] S' := by
    intro r
    induction r with
    | zero =>
      intro i x1 j2 S' hi e1 q1 q2 q3 q4
      subst e1
      have ei : i = N := by omega
      subst ei
      refine zRun_wp [7, 24] 60 ?_
      refine ⟨fun _ => h S' q1 q2 q3 q4, fun c1 => ?_⟩
      rw [show S' 0 9 = J i by rw [q2 9 (by decide)]; exact hS] at c1
      exact absurd (Int32.le_refl _) c1
    | succ r ih =>
      intro i x1 j2 S' hi e1 q1 q2 q3 q4
      subst e1
      have iin : vp_in (J i) 24 := by simp (disch := omega) only [J_lit, J_neg, J_add, J_sub, J_mul, J_nI, J_le, J_lt, J_eq, J_in, J_nat]; omega
      have iix : (J i).toNatClampNeg = i := by simp (disch := omega) only [J_lit, J_neg, J_add, J_sub, J_mul, J_nI, J_le, J_lt, J_eq, J_in, J_nat]; omega
      obtain ⟨gi, gv⟩ := hg i (by omega)
      have gr := phi_rng gv
      have uni := un_le g i
      have inner : ∀ (s e : Nat) (x2 : Int32) (S2 : zS), e + s = i → x2 = J e → (∀ c, c ≠ 0 → c ≠ A_number → S2 c = S c) → (∀ k, k ≠ M_unlike → S2 0 k = S 0 k) → S2 0 M_unlike = J (un g i) → (∀ k, k < i → S2 A_number k = J (nu g k)) → S2 A_number i = (if fso g (g i) e < e then J (un g (fso g (g i) e)) else -1) → zWp shM (KM d) kX12_numbers 0 Q 24 [some (.ref 0), some (.int (J i)), some (.int x2)] [] S2 := by
        intro s
        induction s with
        | zero =>
          intro e x2 S2 he e2 p1 p2 p3 p4 p5
          subst e2
          have ee : e = i := by omega
          subst ee
          refine zRun_wp [7, 24] 60 ?_
          refine ⟨fun _ => ?_, fun c1 => absurd (Int32.le_refl _) c1⟩
          have p5' : S2 9 e = (if fso g (g e) e < e then J (un g (fso g (g e) e)) else -1) := p5
          have unf := un_le g (fso g (g e) e)
          have fle := fso_le g (g e) e
          refine ⟨iin, fun c1 => ?_, fun c1 => ?_⟩ <;> rw [iix, p5'] at c1
          · have hf : fso g (g e) e < e := by
              by_cases q : fso g (g e) e < e
              · exact q
              · rw [if_neg q] at c1; exact absurd rfl c1
            refine ih (e + 1) _ _ _ (by omega) (by simp only [J_lit, J_neg, J_add, J_sub, J_mul, J_nI]; congr 1) p1 p2 ?_ (fun k hk => ?_)
            · rw [p3, un_s, if_pos hf]; rfl
            · by_cases ek : k = e
              · rw [ek, p5, if_pos hf]; rfl
              · exact p4 k (by omega)
          · have hf : ¬ fso g (g e) e < e := by
              intro q
              rw [if_pos q] at c1
              simp (disch := omega) only [J_lit, J_neg, J_add, J_sub, J_mul, J_nI, J_le, J_lt, J_eq, J_in, J_nat] at c1
              omega
            refine ⟨iin, rfl, fun e => absurd e (by decide), ?_⟩
            rw [iix]
            have p3' : S2 0 12 = J (un g e) := p3
            refine ih (e + 1) _ _ _ (by omega) (by simp only [J_lit, J_neg, J_add, J_sub, J_mul, J_nI]; congr 1) (fun c a1 a2 => ?_) (fun k a1 => ?_) ?_ (fun k hk => ?_)
            · rw [zu_same a1, zu_same a2]; exact p1 c a1 a2
            · simp only [zu_r, if_true]; rw [if_neg a1, if_neg (by decide)]; exact p2 k a1
            · simp only [zu_r, if_true]; rw [if_neg (by decide), p3', un_s, if_neg hf]; simp only [J_lit, J_neg, J_add, J_sub, J_mul, J_nI]; rfl
            · rw [zu_same (by decide)]
              simp only [zu_r, if_true]
              by_cases ek : k = e
              · rw [if_pos ek, p3', ek, nu_first hf]
              · rw [if_neg ek]; exact p4 k (by omega)
        | succ s ih2 =>
          intro e x2 S2 he e2 p1 p2 p3 p4 p5
          subst e2
          have ein : vp_in (J e) 24 := by simp (disch := omega) only [J_lit, J_neg, J_add, J_sub, J_mul, J_nI, J_le, J_lt, J_eq, J_in, J_nat]; omega
          have eix : (J e).toNatClampNeg = e := by simp (disch := omega) only [J_lit, J_neg, J_add, J_sub, J_mul, J_nI, J_le, J_lt, J_eq, J_in, J_nat]; omega
          obtain ⟨ge, gev⟩ := hg e (by omega)
          have ger := phi_rng gev
          have b8e : S2 8 e = J (phi (g e)) := by rw [p1 8 (by decide) (by decide)]; exact ge
          have b8i : S2 8 i = J (phi (g i)) := by rw [p1 8 (by decide) (by decide)]; exact gi
          have fle := fso_le g (g i) e
          refine zRun_wp [7, 24] 60 ?_
          refine ⟨fun c1 => ?_, fun _ => ?_⟩
          · simp (disch := omega) only [J_lit, J_neg, J_add, J_sub, J_mul, J_nI, J_le, J_lt, J_eq, J_in, J_nat] at c1; omega
          have next : ∀ (v : Int32), v = (if fso g (g i) (e + 1) < e + 1 then J (un g (fso g (g i) (e + 1))) else -1) → zWp shM (KM d) kX12_numbers 0 Q 24 [some (.ref 0), some (.int (J i)), some (.int (J e + 1))] [] (zu S2 9 i v) := by
            intro v hv
            refine ih2 (e + 1) _ _ (by omega) (by simp only [J_lit, J_neg, J_add, J_sub, J_mul, J_nI]; congr 1) (fun c a1 a2 => ?_) (fun k a1 => ?_) ?_ (fun k hk => ?_) ?_
            · rw [zu_same a2]; exact p1 c a1 a2
            · rw [zu_same (by decide)]; exact p2 k a1
            · rw [zu_same (by decide)]; exact p3
            · simp only [zu_r, if_true]; rw [if_neg (by omega)]; exact p4 k hk
            · simp only [zu_r, if_true]; exact hv
          refine ⟨ein, iin, fun c2 => ?_, fun c2 => ?_⟩ <;> rw [eix, iix, b8e, b8i] at c2 <;> simp (disch := omega) only [J_lit, J_neg, J_add, J_sub, J_mul, J_nI, J_le, J_lt, J_eq, J_in, J_nat] at c2 <;> rw [phi_inj gev gv] at c2
          · refine ⟨iin, iin, ?_⟩
            rw [iix]
            refine next _ ?_
            rw [show S2 9 i = _ from p5, fso_s]
            by_cases q : fso g (g i) e < e
            · rw [if_pos q, if_pos q, if_pos (by omega)]
            · rw [if_neg q, if_neg q, if_neg c2, if_neg (by omega)]
          · refine ⟨ein, iin, ?_⟩
            rw [iix, eix]
            refine next _ ?_
            rw [show S2 9 e = _ from p4 e (by omega), fso_s]
            by_cases q : fso g (g i) e < e
            · rw [if_pos q, if_pos (by omega)]
              unfold nu
              rw [c2]
            · rw [if_neg q, if_pos c2, if_pos (by omega), nu_first (by rw [c2]; exact q)]
      refine zRun_wp [7, 24] 60 ?_
      refine ⟨fun c1 => ?_, fun _ => ?_⟩
      · rw [show S' 0 9 = J N by rw [q2 9 (by decide)]; exact hS] at c1
        simp (disch := omega) only [J_lit, J_neg, J_add, J_sub, J_mul, J_nI, J_le, J_lt, J_eq, J_in, J_nat] at c1
        omega
      refine ⟨iin, ?_⟩
      rw [iix]
      refine inner i 0 _ _ (by omega) rfl (fun c a1 a2 => ?_) (fun k a1 => ?_) ?_ (fun k hk => ?_) ?_
      · rw [zu_same a2]; exact q1 c a1 a2
      · rw [zu_same (by decide)]; exact q2 k a1
      · rw [zu_same (by decide)]; exact q3
      · simp only [zu_r, A_forms, A_sizes, A_items, A_moved, M_latest, A_run, A_score, A_typed, M_depth, M_bars, A_bar, A_number, M_unlike, M_place, M_reason, M_open, A_opens, A_stages, A_colon, A_semi, A_shut, M_percent, M_bang, M_dollar, M_printed, M_signs, M_deepest, A_which, A_bytesOf, A_order, M_many, A_like, A_played, M_plays, A_passes, A_from, A_cost, A_how, M_foundCost, M_foundHow, M_foundA, M_foundB, A_out, M_shown, A_waits, M_high, M_mendWhich, M_mendCost, if_true]; rw [if_neg (by omega)]; exact q4 k hk
      · simp only [zu_r, A_forms, A_sizes, A_items, A_moved, M_latest, A_run, A_score, A_typed, M_depth, M_bars, A_bar, A_number, M_unlike, M_place, M_reason, M_open, A_opens, A_stages, A_colon, A_semi, A_shut, M_percent, M_bang, M_dollar, M_printed, M_signs, M_deepest, A_which, A_bytesOf, A_order, M_many, A_like, A_played, M_plays, A_passes, A_from, A_cost, A_how, M_foundCost, M_foundHow, M_foundA, M_foundB, A_out, M_shown, A_waits, M_high, M_mendWhich, M_mendCost, if_true]; rw [if_neg (by omega)]
  refine eX12_numbers (zRun_wp [7, 24] 60 ?_)
  refine ⟨rfl, fun e => absurd e (by decide), ?_⟩
  refine outer N 0 _ _ _ (by omega) rfl (fun c a1 _ => zu_same a1) (fun k a1 => ?_) ?_ (fun k hk => absurd hk (by omega))
  · simp only [zu_r, if_true]; rw [if_neg a1]
  · simp only [zu_r, if_true]; rfl
end run3
