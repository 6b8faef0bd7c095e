section mshows
variable {d : Nat} {S : zS} {Q : Option Value → zS → Prop} {m : Nat} {g : Nat → Int}
theorem MOk_SK {S S' : zS} {dd i j : Nat} (h : MOk S g dd i j) (k : SK S S') : MOk S' g dd i j := by
  unfold MOk at h ⊢
  rw [k.1 A_cost (by decide) (by decide) (by decide), k.1 A_how (by decide) (by decide) (by decide)]
  exact h
set_option maxHeartbeats 4000000 in
theorem w_shloop {L : List Nat} {T : zS} (hm : m ≤ 24) (hL : L.length ≤ 60) (hM : ∀ d' i' j', d' ≤ 3 → i' < j' → j' ≤ m → MOk T g d' i' j') (hb : ∀ k, k < m → T A_bar k = J (phi (g k)) ∧ vcode (g k))
    (hq : ∀ S', SK T S' → OutOk S' L → Q none S') : ∀ (F : Nat) (p : List It) (l : List Nat) (S : zS) (x1 x2 x3 x4 : Option Value), wsum p ≤ F → F ≤ 100 → SK T S → WP S m p → OutOk S l → l ++ txt g (fun i => bw (g i)) p = L → zWp shM (KM (d + 3)) kX12_shows 0 Q 156 [some (.ref 0), x1, x2, x3, x4] [] S := by
  intro F
  induction F with
  | zero =>
    intro p l S x1 x2 x3 x4 hF hF2 kT hw ho hl
    have hlen := WO_len hw.2
    have hp : p = [] := List.length_eq_zero_iff.mp (by omega)
    subst hp
    have h0 : S 0 45 = J 0 := hw.1
    refine zRun_wp [156] 80 ?_
    refine ⟨fun _ => ?_, fun q => ?_⟩
    · refine hq S kT ?_
      rw [txt, List.append_nil] at hl
      rw [← hl]; exact ho
    · rw [h0] at q
      simp (disch := omega) only [J_lit, J_neg, J_add, J_sub, J_mul, J_nI, J_le, J_lt, J_eq, J_in, J_nat] at q
      omega
  | succ F ih =>
    intro p l S x1 x2 x3 x4 hF hF2 kT hw ho hl
    have hlen := WO_len hw.2
    have h0 : S 0 45 = J p.length := hw.1
    cases p with
    | nil =>
      refine zRun_wp [156] 80 ?_
      refine ⟨fun _ => ?_, fun q => ?_⟩
      · refine hq S kT ?_
        rw [txt, List.append_nil] at hl
        rw [← hl]; exact ho
      · rw [h0] at q
        simp (disch := omega) only [J_lit, J_neg, J_add, J_sub, J_mul, J_nI, J_le, J_lt, J_eq, J_in, J_nat] at q
        exact absurd q (by decide)
    | cons x t =>
      rw [List.length_cons] at hlen h0
      simp only [wsum] at hF hlen
      obtain ⟨-, w1, w2, w3⟩ := hw
      have hlt := congrArg List.length hl
      rw [List.length_append] at hlt
      -- the state with one less
      have k1 : SK S (zu S 0 45 (S 0 45 - 1)) := ⟨fun c c1 _ _ => zu_same c1, fun i _ c2 => by simp only [zu_r, if_true]; rw [if_neg c2]⟩
      have h1 : zu S 0 45 (S 0 45 - 1) 0 45 = J t.length := by
        simp only [zu_r, if_true]
        rw [h0]; simp only [J_lit, J_neg, J_add, J_sub, J_mul, J_nI]; congr 1; omega
      have w4 : WP (zu S 0 45 (S 0 45 - 1)) m t := ⟨h1, WO_keep w3 (fun k _ => by rw [zu_same (by decide)])⟩
      have o4 : OutOk (zu S 0 45 (S 0 45 - 1)) l := ⟨ho.1, by simp only [zu_r, if_true]; rw [if_neg (by decide)]; exact ho.2.1, fun k hk => by rw [zu_same (by decide)]; exact ho.2.2 k hk⟩
      have kT' := SK_tr kT k1
      have wt : zu S 0 45 (S 0 45 - 1) 25 t.length = J (enc x) := by rw [zu_same (by decide)]; exact w1
      have step : ∀ (x3 : Option Value) (x4 : Int32), x4 = J (enc x) → zWp shM (KM (d + 3)) kX12_shows 0 Q 184 [some (.ref 0), x1, x2, x3, some (.int x4)] [] (zu S 0 45 (S 0 45 - 1)) := by
        intro x3 x4 e4
        subst e4
        rcases x with b | ⟨dd, i, n⟩
        · obtain ⟨b1, b2⟩ : 1 ≤ b ∧ b ≤ 100 := w2
          have ee : enc (.inl b) = -(b : Int) := rfl
          rw [ee]
          simp only [txt] at hl hlt
          rw [List.length_cons] at hlt
          refine zRun_wp [156] 80 ?_
          refine ⟨fun q => ?_, fun _ => ?_⟩
          · simp (disch := omega) only [J_lit, J_neg, J_add, J_sub, J_mul, J_nI, J_le, J_lt, J_eq, J_in, J_nat] at q
            omega
          refine w_tellsByte (b := b) (by simp only [J_lit, J_neg, J_add, J_sub, J_mul, J_nI]; congr 1; omega) (by omega) o4 w4 (fun S' a1 a2 a3 => ?_)
          refine ih t _ S' _ _ _ _ (by simp only [wei] at hF; omega) (by omega) (SK_tr kT' a1) a2 a3 ?_
          rw [List.append_assoc]; exact hl
        · have w2' := w2
          obtain ⟨d1, d2, d3⟩ : dd ≤ 3 ∧ 1 ≤ n ∧ i + n ≤ m := w2
          have hwe : wei (.inr (dd, i, n)) = 3 * n - 1 := rfl
          rw [hwe] at hF hlen
          have ee : enc (.inr (dd, i, n)) = ((625 * dd + 25 * i + (i + n) : Nat) : Int) := rfl
          simp only [txt] at hl hlt
          rw [List.length_append] at hlt
          refine zRun_wp [156] 80 ?_
          refine ⟨fun _ => ?_, fun q => ?_⟩
          · refine w_opensSpan (dd := dd) (i := i) (n := n) rfl hm w2' (MOk_SK (hM dd i (i + n) d1 (by omega) d3) kT') (fun k hk => ?_) w4 (by omega) o4 (by omega) (fun S' p' l' a1 a2 a3 a4 a5 => ?_)
            · rw [kT'.1 A_bar (by decide) (by decide) (by decide)]; exact hb k hk
            · refine ih (p' ++ t) _ S' _ _ _ _ (by rw [wsum_app]; omega) (by omega) (SK_tr kT' a1) a2 a3 ?_
              rw [txt_app, List.append_assoc, ← List.append_assoc l', a4]
              exact hl
          · rw [ee] at q
            simp (disch := omega) only [J_lit, J_neg, J_add, J_sub, J_mul, J_nI, J_le, J_lt, J_eq, J_in, J_nat] at q
            omega
      have inn : vp_in (zu S 0 45 (S 0 45 - 1) 0 45) 120 := by rw [h1]; simp (disch := omega) only [J_lit, J_neg, J_add, J_sub, J_mul, J_nI, J_le, J_lt, J_eq, J_in, J_nat]; omega
      have ix : (zu S 0 45 (S 0 45 - 1) 0 45).toNatClampNeg = t.length := by rw [h1]; simp (disch := omega) only [J_lit, J_neg, J_add, J_sub, J_mul, J_nI, J_le, J_lt, J_eq, J_in, J_nat]; omega
      refine zRun_wp [184] 80 ?_
      refine ⟨fun q => ?_, fun _ => ?_⟩
      · rw [h0] at q
        simp (disch := omega) only [J_lit, J_neg, J_add, J_sub, J_mul, J_nI, J_le, J_lt, J_eq, J_in, J_nat] at q
        omega
      · refine ⟨rfl, fun e => absurd e (by decide), inn, ?_⟩
        refine step _ _ ?_
        rw [ix]; exact wt
set_option maxHeartbeats 4000000 in
theorem w_shows {dd : Nat} {s : FS} (hm : m ≤ 24) (hS : S 0 M_many = J m) (hd : S 0 M_depth = J dd) (hdd : dd ≤ 3) (hM : ∀ d' i' j', d' ≤ 3 → i' < j' → j' ≤ m → MOk S g d' i' j') (hJ : MJ S s) (hf : FOk m s) (hb : ∀ k, k < m → S A_bar k = J (phi (g k)) ∧ vcode (g k))
    (hl : (prn g (fun i => bw (g i)) m dd s).length ≤ 60)
    (hq : ∀ S', SK S S' → OutOk S' (prn g (fun i => bw (g i)) m dd s) → Q none S') : KM (d + 4) mX12_shows [.ref 0] S Q := by
  obtain ⟨-, -, f1, f2, f3⟩ := hf
  obtain ⟨-, j1, j2⟩ := hJ
  obtain ⟨cst, kind, a, b⟩ := s
  dsimp only at f1 f2 f3 j1 j2
  -- the start
  have k0 : SK S (zu (zu S 0 43 0) 0 45 0) := ⟨fun c c1 _ _ => by rw [zu_same c1, zu_same c1], fun i c1 c2 => by simp only [zu_r, if_true]; rw [if_neg c2, if_neg c1]⟩
  have w0 : WP (zu (zu S 0 43 0) 0 45 0) m [] := ⟨by simp only [zu_r, if_true]; rfl, trivial⟩
  have o0 : OutOk (zu (zu S 0 43 0) 0 45 0) [] := ⟨by decide, by simp only [zu_r, if_true]; rw [if_neg (by decide)]; rfl, fun k hk => absurd hk (Nat.not_lt_zero k)⟩
  have sf : ∀ S', SK S S' → S' 0 30 = J m ∧ S' 0 8 = J dd ∧ S' 0 39 = J kind := fun S' k => ⟨by rw [k.2 30 (by decide) (by decide)]; exact hS, by rw [k.2 8 (by decide) (by decide)]; exact hd, by rw [k.2 39 (by decide) (by decide)]; exact j1⟩
  have lp := fun (p : List It) (S' : zS) (x1 x2 x3 x4 : Option Value) (h1 : wsum p ≤ 100) (h2 : SK S S') (h3 : WP S' m p) (h4 : OutOk S' []) (h5 : txt g (fun i => bw (g i)) p = prn g (fun i => bw (g i)) m dd (cst, kind, a, b)) => w_shloop (d := d) (m := m) (g := g) (Q := Q) (L := prn g (fun i => bw (g i)) m dd (cst, kind, a, b)) (T := S) hm hl hM hb hq 100 p [] S' x1 x2 x3 x4 h1 (Nat.le_refl _) h2 h3 h4 h5
  generalize hL : prn g (fun i => bw (g i)) m dd (cst, kind, a, b) = L at lp hq hl
  unfold prn at hL
  dsimp only at hL
  obtain ⟨t1, t2, t3⟩ := sf _ k0
  have start : ∀ x1 x2 x3 : Int32, x1 = J m → (kind ≠ 0 → x2 = J a ∧ x3 = J b) → zWp shM (KM (d + 3)) kX12_shows 0 Q 25 [some (.ref 0), some (.int x1), some (.int x2), some (.int x3), none] [] (zu (zu S 0 43 0) 0 45 0) := by
    intro x1 x2 x3 q1 q23
    subst q1
    generalize zu (zu S 0 43 0) 0 45 0 = S0 at k0 w0 o0 t1 t2 t3
    by_cases e0 : kind = 0
    · rw [if_pos e0] at hL
      by_cases m0 : m = 0
      · refine zRun_wp [49, 156] 80 ?_
        have z : ∀ y : Option Value, zWp shM (KM (d + 3)) kX12_shows 0 Q 49 [some (.ref 0), some (.int (J m)), some (.int x2), some (.int x3), y] [] S0 := by
          intro y
          refine zRun_wp [156] 80 ?_
          refine ⟨fun _ => ?_, fun q => ?_⟩
          · refine ⟨fun _ => ?_, fun q => ?_⟩
            · exact lp [] S0 _ _ _ _ (by decide) k0 w0 o0 (by rw [← hL, m0]; rfl)
            · rw [t3, e0] at q
              exact absurd q (by decide)
          · rw [t3, e0] at q
            exact absurd q (by decide)
        refine ⟨fun _ => z _, fun q => ?_⟩
        simp (disch := omega) only [J_lit, J_neg, J_add, J_sub, J_mul, J_nI, J_le, J_lt, J_eq, J_in, J_nat] at q
        omega
      · refine zRun_wp [156] 80 ?_
        refine ⟨fun q => ?_, fun _ => ?_⟩
        · simp (disch := omega) only [J_lit, J_neg, J_add, J_sub, J_mul, J_nI, J_le, J_lt, J_eq, J_in, J_nat] at q
          omega
        refine ⟨fun q => ?_, fun _ => ?_⟩
        · rw [t3, e0] at q
          exact absurd rfl q
        refine w_laterSpan (dd := dd) (i := 0) (n := m) t2 rfl (by rw [Nat.zero_add]) hm ⟨hdd, by omega, by omega⟩ (by simp) w0 (fun S1 a1 a2 a3 => ?_)
        refine lp _ S1 _ _ _ _ ?_ (SK_tr k0 a1) a2 (a3 _ o0) ?_
        · simp only [wsum, wei]; omega
        · rw [← hL]; simp [txt]
    · rw [if_neg e0] at hL
      obtain ⟨q2, q3⟩ := q23 e0
      subst q2 q3
      have z : ∀ y : Option Value, zWp shM (KM (d + 3)) kX12_shows 0 Q 49 [some (.ref 0), some (.int (J m)), some (.int (J a)), some (.int (J b)), y] [] S0 := by
        intro y
        by_cases e1 : kind = 1
        · rw [if_pos e1] at hL
          obtain ⟨b1, b2⟩ := f2 e1
          refine zRun_wp [156] 80 ?_
          refine ⟨fun q => ?_, fun _ => ?_⟩
          · rw [t3, e1] at q
            exact absurd rfl q
          refine w_later (it := .inl 36) rfl ⟨by omega, by omega⟩ (by simp) w0 (fun S1 a1 a2 a3 => ?_)
          have u1 := SK_tr k0 a1
          refine w_laterSpan (dd := dd) (i := a) (n := m - a - a) (sf _ u1).2.1 rfl (by simp only [J_lit, J_neg, J_add, J_sub, J_mul, J_nI]; congr 1; omega) hm ⟨hdd, by omega, by omega⟩ (by simp) a2 (fun S2 c1 c2 c3 => ?_)
          have u2 := SK_tr u1 c1
          refine w_later (it := .inl 33) rfl ⟨by omega, by omega⟩ (by simp) c2 (fun S3 d1 d2 d3 => ?_)
          have u3 := SK_tr u2 d1
          refine w_laterSpan (dd := dd) (i := 0) (n := a) (sf _ u3).2.1 rfl (by rw [Nat.zero_add]) hm ⟨hdd, by omega, by omega⟩ (by simp) d2 (fun S4 e1 e2 e3 => ?_)
          refine lp _ S4 _ _ _ _ ?_ (SK_tr u3 e1) e2 (e3 _ (d3 _ (c3 _ (a3 _ o0)))) ?_
          · simp only [wsum, wei]; omega
          · rw [← hL]; simp [txt]
        · rw [if_neg e1] at hL
          have ek : kind = 2 := by omega
          obtain ⟨b1, b2, b3⟩ := f3 ek
          refine zRun_wp [156] 100 ?_
          refine ⟨fun _ => ?_, fun q => ?_⟩
          rotate_left
          · rw [t3, ek] at q
            exact absurd q (by decide)
          refine ⟨fun q => ?_, fun _ => ?_⟩
          · rw [t3, ek] at q
            exact absurd rfl q
          refine w_later (it := .inl 36) rfl ⟨by omega, by omega⟩ (by simp) w0 (fun S1 a1 a2 a3 => ?_)
          have u1 := SK_tr k0 a1
          refine w_laterSpan (dd := dd) (i := a + b) (n := m - b - (a + b)) (sf _ u1).2.1 (by simp only [J_lit, J_neg, J_add, J_sub, J_mul, J_nI]; congr 1) (by simp only [J_lit, J_neg, J_add, J_sub, J_mul, J_nI]; congr 1; omega) hm ⟨hdd, by omega, by omega⟩ (by simp) a2 (fun S2 c1 c2 c3 => ?_)
          have u2 := SK_tr u1 c1
          refine w_later (it := .inl 33) rfl ⟨by omega, by omega⟩ (by simp) c2 (fun S3 d1 d2 d3 => ?_)
          have u3 := SK_tr u2 d1
          refine w_laterSpan (dd := dd) (i := a) (n := b) (sf _ u3).2.1 rfl (by simp only [J_lit, J_neg, J_add, J_sub, J_mul, J_nI]; congr 1) hm ⟨hdd, by omega, by omega⟩ (by simp) d2 (fun S4 e1 e2 e3 => ?_)
          have u4 := SK_tr u3 e1
          refine w_later (it := .inl 37) rfl ⟨by omega, by omega⟩ (by simp) e2 (fun S5 g1 g2 g3 => ?_)
          have u5 := SK_tr u4 g1
          refine w_laterSpan (dd := dd) (i := 0) (n := a) (sf _ u5).2.1 rfl (by rw [Nat.zero_add]) hm ⟨hdd, by omega, by omega⟩ (by simp) g2 (fun S6 h1 h2 h3 => ?_)
          refine lp _ S6 _ _ _ _ ?_ (SK_tr u5 h1) h2 (h3 _ (g3 _ (e3 _ (d3 _ (c3 _ (a3 _ o0)))))) ?_
          · simp only [wsum, wei]; omega
          · rw [← hL]; simp [txt]
      refine zRun_wp [49, 156] 80 ?_
      refine ⟨fun _ => z _, fun _ => ?_⟩
      refine ⟨fun _ => z _, fun q => ?_⟩
      rw [t3] at q
      simp (disch := omega) only [J_lit, J_neg, J_add, J_sub, J_mul, J_nI, J_le, J_lt, J_eq, J_in, J_nat] at q
      omega
  refine eX12_shows (zRun_wp [25] 80 ?_)
  refine ⟨rfl, fun e => absurd e (by decide), rfl, fun e => absurd e (by decide), ?_⟩
  refine start _ _ _ t1 (fun q => ?_)
  obtain ⟨j3, j4⟩ := j2 q
  exact ⟨by rw [k0.2 40 (by decide) (by decide)]; exact j3, by rw [k0.2 41 (by decide) (by decide)]; exact j4⟩
end mshows
