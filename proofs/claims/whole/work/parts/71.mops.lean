/-! the model reads the score -/
def MoE (S : zS) : List En → Prop
  | [] => True
  | (p, c, q) :: t => (S 10 t.length = J p ∧ S 11 t.length = J (eg c q) ∧ S 12 p = J c ∧ S 13 p = J q) ∧ MoE S t
def MoT (S : zS) (b : Nat → Int) (i : Nat) : Prop := S 0 15 = J (gst b i).1.length ∧ S 0 21 = J (gst b i).2.1 ∧ S 0 22 = J (gst b i).2.2.1 ∧ S 0 23 = J (gst b i).2.2.2 ∧ S 0 24 = J (rm b i) ∧ S 0 26 = J (dpt b i) ∧ MoE S (gst b i).1 ∧
  (∀ k, k < i → b k = 93 → ∀ p c q t, (gst b k).1 = (p, c, q) :: t → S 12 p = J c ∧ S 13 p = J q) ∧ (∀ k, k < i → letr (b k) → S 15 k = J (rm b k)) ∧ ∀ k, k < rm b i → S 16 k = J (phi (sgc b i k))
/-- what takes writes -/
def MsK (S S' : zS) : Prop := (∀ c, c ≠ 0 → (c < 10 ∨ 16 < c) → S' c = S c) ∧ ∀ k, k < 15 ∨ 26 < k ∨ k = 25 → S' 0 k = S 0 k
theorem HS_lt {b : Nat → Int} {m : Nat} : ∀ {l : List En}, HS b m l → ∀ e ∈ l, e.1 < m := by
  intro l
  induction l with
  | nil => intro _ e he; cases he
  | cons x t ih =>
    obtain ⟨p, c, q⟩ := x
    intro h e he
    rcases List.mem_cons.mp he with w | w
    · rw [w]; exact h.1.1
    · exact ih h.2 e w
theorem MoE_keep {S S' : zS} : ∀ {l : List En} (m : Nat), (∀ e ∈ l, e.1 < m) → MoE S l → (∀ k, k < l.length → S' 10 k = S 10 k ∧ S' 11 k = S 11 k) → (∀ p, p < m → S' 12 p = S 12 p ∧ S' 13 p = S 13 p) → MoE S' l := by
  intro l
  induction l with
  | nil => intro _ _ _ _ _; trivial
  | cons x t ih =>
    obtain ⟨p, c, q⟩ := x
    intro m hm h k1 k2
    obtain ⟨⟨h1, h2, h3, h4⟩, h5⟩ := h
    have k0 := k1 t.length (by simp)
    have kp := k2 p (hm _ List.mem_cons_self)
    exact ⟨⟨by rw [k0.1]; exact h1, by rw [k0.2]; exact h2, by rw [kp.1]; exact h3, by rw [kp.2]; exact h4⟩, ih m (fun e he => hm e (List.mem_cons_of_mem _ he)) h5 (fun j hj => k1 j (by simp; omega)) k2⟩
theorem dpt_same {b : Nat → Int} {i : Nat} (h : (gst b (i + 1)).1.length ≤ (gst b i).1.length) : dpt b (i + 1) = dpt b i := by
  rw [dpt_s]
  have := dpt_ge b i
  exact Nat.max_eq_left (by omega)
/-- an open one isn't one that was shut -/
theorem open_ne {b : Nat → Int} {i k p p' : Nat} {c q c' q' : Int} {t t' : List En} (hA : Acc b i) (e : (gst b i).1 = (p, c, q) :: t) (hk : k < i) (hb : b k = 93) (e' : (gst b k).1 = (p', c', q') :: t') : p' ≠ p := by
  intro w
  have h1 := HS_all i hA
  rw [e] at h1
  have h2 := HS_all k (Acc_le hA (by omega))
  rw [e'] at h2
  obtain ⟨⟨a1, a2, a3, a4, a5, -⟩, -⟩ := h1
  obtain ⟨⟨c1, c2, c3, -⟩, -⟩ := h2
  have := a5 (k + 1) (by omega) (by omega)
  rw [gst_shut hb, e'] at this
  subst w
  rw [a3] at c3
  rw [c3] at this
  exact absurd this (Nat.lt_irrefl _)
section mops
variable {d : Nat} {S : zS} {Q : Option Value → zS → Prop} {b : Nat → Int} {i : Nat}
theorem w_isOpenN {x : Int32} (h : S 0 15 = J 0) (hq : Q (some (.int 0)) S) : KM (d + 1) mX12_isOpen [.ref 0, .int x] S Q := by
  refine eX12_isOpen (zRun_wp [] 60 ?_)
  refine ⟨fun _ => ⟨Or.inl rfl, hq⟩, fun w => ?_⟩
  rw [h] at w
  exact absurd w (by decide)
theorem w_isOpenC {k : Nat} {v z : Int} {x : Int32} (ex : x = J v) (hv : 0 ≤ v ∧ v ≤ 2) (hz : 0 ≤ z ∧ z ≤ 2) (h : S 0 15 = J (k + 1 : Nat)) (hk : k + 1 ≤ 3) (h2 : S 11 k = J z) (hq : Q (some (.int (bb (z = v)))) S) : KM (d + 1) mX12_isOpen [.ref 0, .int x] S Q := by
  subst ex
  have ix : (S 0 15 - 1).toNatClampNeg = k := by rw [h]; simp (disch := omega) only [J_lit, J_neg, J_add, J_sub, J_mul, J_nI, J_le, J_lt, J_eq, J_in, J_nat]; omega
  have inn : vp_in (S 0 15 - 1) 4 := by rw [h]; simp (disch := omega) only [J_lit, J_neg, J_add, J_sub, J_mul, J_nI, J_le, J_lt, J_eq, J_in, J_nat]; omega
  refine eX12_isOpen (zRun_wp [] 60 ?_)
  refine ⟨fun w => ?_, fun _ => ?_⟩
  · rw [h] at w
    simp (disch := omega) only [J_lit, J_neg, J_add, J_sub, J_mul, J_nI, J_le, J_lt, J_eq, J_in, J_nat] at w
    omega
  refine ⟨inn, ?_⟩
  refine ⟨fun w => ?_, fun w => ?_⟩ <;> rw [ix, h2] at w <;> simp (disch := omega) only [J_lit, J_neg, J_add, J_sub, J_mul, J_nI, J_le, J_lt, J_eq, J_in, J_nat] at w
  · exact ⟨Or.inl rfl, by rwa [bb_f w] at hq⟩
  · exact ⟨Or.inr rfl, by rwa [bb_t w] at hq⟩
/-- behind a byte that changes neither the printed bars nor how deep -/
theorem MoT_next {S S' : zS} (h : MoT S b i) (hl : ¬ letr (b i)) (hf : ¬ figr (b i)) (kd : dpt b (i + 1) = dpt b i) (k1 : S' 0 24 = S 0 24 ∧ S' 0 26 = S 0 26 ∧ S' 15 = S 15 ∧ S' 16 = S 16) (h1 : S' 0 15 = J (gst b (i + 1)).1.length) (h2 : S' 0 21 = J (gst b (i + 1)).2.1 ∧ S' 0 22 = J (gst b (i + 1)).2.2.1 ∧ S' 0 23 = J (gst b (i + 1)).2.2.2) (h3 : MoE S' (gst b (i + 1)).1)
    (h4 : ∀ k, k < i + 1 → b k = 93 → ∀ p c q t, (gst b k).1 = (p, c, q) :: t → S' 12 p = J c ∧ S' 13 p = J q) : MoT S' b (i + 1) := by
  obtain ⟨-, -, -, -, m5, m6, -, -, m9, m10⟩ := h
  refine ⟨h1, h2.1, h2.2.1, h2.2.2, ?_, ?_, h3, h4, fun k hk hl' => ?_, fun k hk => ?_⟩
  · rw [k1.1, rm_n hl]; exact m5
  · rw [k1.2.1, kd]; exact m6
  · rw [k1.2.2.1]
    by_cases e : k = i
    · rw [e] at hl'; contradiction
    · exact m9 k (by omega) hl'
  · rw [rm_n hl] at hk
    rw [k1.2.2.2, sgc_s, if_neg hl, if_neg hf]
    exact m10 k hk
theorem mark_rng (hA : Acc b i) (hi : i < 40) : -1 ≤ (gst b i).2.1 ∧ (gst b i).2.1 ≤ 40 ∧ -1 ≤ (gst b i).2.2.1 ∧ (gst b i).2.2.1 ≤ 40 := by
  obtain ⟨k1, k2, -⟩ := MK_all i hA
  rcases k1 with k1 | ⟨P, k1, k1', -⟩ <;> rcases k2 with k2 | ⟨B, k2, k2', -⟩ <;> omega
set_option maxHeartbeats 2000000 in
theorem w_marks (hM : MoT S b i) (hA : Acc b i) (hi : i < 40) (hz : b i = 37 ∨ b i = 33 ∨ b i = 36) (hdl : (gst b i).2.2.2 = -1) (e : (gst b i).1 = [])
    (h1 : fitM (b i) (gst b i).2 → ∀ S', MsK S S' → MoT S' b (i + 1) → Q (some (.int 1)) S')
    (h0 : ¬ fitM (b i) (gst b i).2 → Q (some (.int 0)) S) : KM (d + 1) mX12_marks [.ref 0, .int (J i), .int (J (b i))] S Q := by
  have hM' := hM
  obtain ⟨m1, m2, m3, m4, m5, m6, m7, m8, m9, m10⟩ := hM
  have hl : ¬ letr (b i) := by omega
  have hf : ¬ figr (b i) := by omega
  have mr := mark_rng hA hi
  rw [e] at m1
  have m1' : S 0 15 = 0 := m1
  have p21 : S 0 21 = -1 ↔ (gst b i).2.1 = -1 := by
    rw [m2, show (-1 : Int32) = J (-1) from rfl]; simp (disch := omega) only [J_lit, J_neg, J_add, J_sub, J_mul, J_nI, J_le, J_lt, J_eq, J_in, J_nat]
  have p22 : S 0 22 = -1 ↔ (gst b i).2.2.1 = -1 := by
    rw [m3, show (-1 : Int32) = J (-1) from rfl]; simp (disch := omega) only [J_lit, J_neg, J_add, J_sub, J_mul, J_nI, J_le, J_lt, J_eq, J_in, J_nat]
  have p23 : S 0 23 = -1 := by rw [m4, hdl]; rfl
  have mk : ∀ x y z : Int32, (gst b (i + 1)).1 = [] → x = J (gst b (i + 1)).2.1 → y = J (gst b (i + 1)).2.2.1 → z = J (gst b (i + 1)).2.2.2 → fitM (b i) (gst b i).2 → Q (some (.int 1)) (zu (zu (zu S 0 21 x) 0 22 y) 0 23 z) := by
    intro x y z g1 ex ey ez fi
    have k2 : ∀ c, c ≠ 0 → (zu (zu (zu S 0 21 x) 0 22 y) 0 23 z) c = S c := fun c c1 => by rw [zu_same c1, zu_same c1, zu_same c1]
    have k3 : ∀ k, k ≠ 21 → k ≠ 22 → k ≠ 23 → (zu (zu (zu S 0 21 x) 0 22 y) 0 23 z) 0 k = S 0 k := fun k c1 c2 c3 => by simp only [zu_r, if_true]; rw [if_neg c3, if_neg c2, if_neg c1]
    refine h1 fi _ ⟨fun c c1 _ => k2 c c1, fun k hk => k3 k (by omega) (by omega) (by omega)⟩ ?_
    refine MoT_next hM' hl hf (dpt_same (by rw [g1]; exact Nat.zero_le _)) ⟨k3 24 (by decide) (by decide) (by decide), k3 26 (by decide) (by decide) (by decide), k2 15 (by decide), k2 16 (by decide)⟩ (by rw [g1, k3 15 (by decide) (by decide) (by decide)]; exact m1) ⟨?_, ?_, ?_⟩ (by rw [g1]; trivial) (fun k hk hb p c q t ek => ?_)
    · simp only [zu_r, if_true]
      exact ex
    · simp only [zu_r, if_true]
      exact ey
    · simp only [zu_r, if_true]
      exact ez
    · rw [k2 12 (by decide), k2 13 (by decide)]
      exact m8 k (by by_cases w : k = i
                     · rw [w] at hb; omega
                     · omega) hb p c q t ek
  rcases hz with z | z | z
  · have g := gst_pct z
    rw [e] at g
    have at70 : ∀ r : Int32, (r = 1 → fitM (b i) (gst b i).2) → (r = 0 → ¬ fitM (b i) (gst b i).2) → (r = 0 ∨ r = 1) → zWp shM (KM d) kX12_marks 2 Q 70 [some (.ref 0), some (.int (J i)), some (.int (J 37)), none] [.int r] S := by
      intro r r1 r0 rr
      refine zRun_wp [] 80 ?_
      rcases rr with rr | rr
      · subst rr
        refine ⟨fun _ => ?_, fun w => absurd rfl w⟩
        exact ⟨Or.inl rfl, h0 (r0 rfl)⟩
      · subst rr
        refine ⟨fun w => absurd w (by decide), fun _ => ?_⟩
        refine ⟨fun w => absurd rfl w, fun _ => ?_⟩
        refine ⟨rfl, fun e => absurd e (by decide), ?_⟩
        refine ⟨fun _ => ?_, fun w => absurd w (by decide)⟩
        refine ⟨rfl, fun e => absurd e (by decide), ?_⟩
        refine ⟨fun _ => ?_, fun w => absurd w (by decide)⟩
        refine ⟨rfl, fun e => absurd e (by decide), Or.inr rfl, ?_⟩
        refine mk _ _ _ (by rw [g]) ?_ ?_ ?_ (r1 rfl)
        · rw [g]
        · rw [g]; exact m3
        · rw [g]; exact m4
    rw [z]
    refine eX12_marks (zRun_wp [70] 60 ?_)
    refine ⟨fun w => absurd m1' w, fun _ => ?_⟩
    refine ⟨fun w => absurd rfl w, fun _ => ?_⟩
    refine ⟨fun w => ?_, fun w => ?_⟩ <;> rw [p21] at w
    · exact at70 0 (fun q => absurd q (by decide)) (fun _ f => by rcases f with ⟨f, f1⟩ | ⟨f, f1⟩ | ⟨f, f1⟩ <;> first | omega | exact w f1.1) (Or.inl rfl)
    refine ⟨fun w2 => ?_, fun w2 => ?_⟩ <;> rw [p22] at w2
    · exact at70 0 (fun q => absurd q (by decide)) (fun _ f => by rcases f with ⟨f, f1⟩ | ⟨f, f1⟩ | ⟨f, f1⟩ <;> first | omega | exact w2 f1.2) (Or.inl rfl)
    · exact at70 1 (fun _ => Or.inl ⟨z, w, w2⟩) (fun q => absurd q (by decide)) (Or.inr rfl)
  · have g := gst_bng z
    rw [e] at g
    have at70 : ∀ r : Int32, (r = 1 → fitM (b i) (gst b i).2) → (r = 0 → ¬ fitM (b i) (gst b i).2) → (r = 0 ∨ r = 1) → zWp shM (KM d) kX12_marks 2 Q 70 [some (.ref 0), some (.int (J i)), some (.int (J 33)), none] [.int r] S := by
      intro r r1 r0 rr
      refine zRun_wp [] 80 ?_
      rcases rr with rr | rr
      · subst rr
        refine ⟨fun _ => ?_, fun w => absurd rfl w⟩
        exact ⟨Or.inl rfl, h0 (r0 rfl)⟩
      · subst rr
        refine ⟨fun w => absurd w (by decide), fun _ => ?_⟩
        refine ⟨fun _ => ?_, fun w => absurd w (by decide)⟩
        refine ⟨rfl, fun e => absurd e (by decide), ?_⟩
        refine ⟨fun w => absurd rfl w, fun _ => ?_⟩
        refine ⟨rfl, fun e => absurd e (by decide), ?_⟩
        refine ⟨fun _ => ?_, fun w => absurd w (by decide)⟩
        refine ⟨rfl, fun e => absurd e (by decide), Or.inr rfl, ?_⟩
        refine mk _ _ _ (by rw [g]) ?_ ?_ ?_ (r1 rfl)
        · rw [g]; exact m2
        · rw [g]
        · rw [g]; exact m4
    rw [z]
    refine eX12_marks (zRun_wp [70] 60 ?_)
    refine ⟨fun w => absurd m1' w, fun _ => ?_⟩
    refine ⟨fun _ => ?_, fun w => absurd w (by decide)⟩
    refine ⟨fun w => absurd rfl w, fun _ => ?_⟩
    refine ⟨fun w => ?_, fun w => ?_⟩ <;> rw [p22] at w
    · exact at70 0 (fun q => absurd q (by decide)) (fun _ f => by rcases f with ⟨f, f1⟩ | ⟨f, f1⟩ | ⟨f, f1⟩ <;> first | omega | exact w f1) (Or.inl rfl)
    · exact at70 1 (fun _ => Or.inr (Or.inl ⟨z, w⟩)) (fun q => absurd q (by decide)) (Or.inr rfl)
  · have g := gst_dol z
    rw [e] at g
    have at70 : ∀ r : Int32, (r = 1 → fitM (b i) (gst b i).2) → (r = 0 → ¬ fitM (b i) (gst b i).2) → (r = 0 ∨ r = 1) → zWp shM (KM d) kX12_marks 2 Q 70 [some (.ref 0), some (.int (J i)), some (.int (J 36)), none] [.int r] S := by
      intro r r1 r0 rr
      refine zRun_wp [] 80 ?_
      rcases rr with rr | rr
      · subst rr
        refine ⟨fun _ => ?_, fun w => absurd rfl w⟩
        exact ⟨Or.inl rfl, h0 (r0 rfl)⟩
      · subst rr
        refine ⟨fun w => absurd w (by decide), fun _ => ?_⟩
        refine ⟨fun _ => ?_, fun w => absurd w (by decide)⟩
        refine ⟨rfl, fun e => absurd e (by decide), ?_⟩
        refine ⟨fun _ => ?_, fun w => absurd w (by decide)⟩
        refine ⟨rfl, fun e => absurd e (by decide), ?_⟩
        refine ⟨fun w => absurd rfl w, fun _ => ?_⟩
        refine ⟨rfl, fun e => absurd e (by decide), Or.inr rfl, ?_⟩
        refine mk _ _ _ (by rw [g]) ?_ ?_ ?_ (r1 rfl)
        · rw [g]; exact m2
        · rw [g]; exact m3
        · rw [g]
    rw [z]
    refine eX12_marks (zRun_wp [70] 60 ?_)
    refine ⟨fun w => absurd m1' w, fun _ => ?_⟩
    refine ⟨fun _ => ?_, fun w => absurd w (by decide)⟩
    refine ⟨fun _ => ?_, fun w => absurd w (by decide)⟩
    refine ⟨fun w => ?_, fun w => ?_⟩ <;> rw [p22] at w
    · exact at70 0 (fun q => absurd q (by decide)) (fun _ f => by rcases f with ⟨f, f1⟩ | ⟨f, f1⟩ | ⟨f, f1⟩ <;> first | omega | exact f1.1 w) (Or.inl rfl)
    refine ⟨fun w2 => absurd p23 w2, fun _ => ?_⟩
    exact at70 1 (fun _ => Or.inr (Or.inr ⟨z, w, hdl⟩)) (fun q => absurd q (by decide)) (Or.inr rfl)
theorem w_marksC {k : Nat} (hk : k + 1 ≤ 3) (h : S 0 15 = J (k + 1 : Nat)) {x y : Int32} (h0 : Q (some (.int 0)) S) : KM (d + 1) mX12_marks [.ref 0, .int x, .int y] S Q := by
  refine eX12_marks (zRun_wp [] 60 ?_)
  refine ⟨fun _ => ?_, fun w => ?_⟩
  · refine ⟨fun _ => ⟨Or.inl rfl, h0⟩, fun w => absurd rfl w⟩
  · rw [h] at w
    simp (disch := omega) only [J_lit, J_neg, J_add, J_sub, J_mul, J_nI, J_le, J_lt, J_eq, J_in, J_nat] at w
    omega
theorem w_closesN (h : S 0 15 = J 0) {x : Int32} (h0 : Q (some (.int 0)) S) : KM (d + 2) mX12_closes [.ref 0, .int x] S Q := by
  refine eX12_closes (zRun_wp [] 60 ?_)
  refine w_isOpenN h ?_
  refine ⟨fun w => absurd rfl w, fun _ => ?_⟩
  refine w_isOpenN h ?_
  refine ⟨fun w => absurd rfl w, fun _ => ?_⟩
  exact ⟨Or.inl rfl, h0⟩
theorem w_goesOnN (h : S 0 15 = J 0) {x y : Int32} (h0 : Q (some (.int 0)) S) : KM (d + 2) mX12_goesOn [.ref 0, .int x, .int y] S Q := by
  refine eX12_goesOn (zRun_wp [] 60 ?_)
  refine w_isOpenN h ?_
  refine ⟨fun w => absurd rfl w, fun _ => ?_⟩
  exact ⟨Or.inl rfl, h0⟩
set_option maxHeartbeats 2000000 in
theorem w_closesC (hM : MoT S b i) (hA : Acc b i) (hi : i < 40) (z : b i = 93) {p : Nat} {c q : Int} {t : List En} (e : (gst b i).1 = (p, c, q) :: t)
    (h1 : fitE (b i) c q → ∀ S', MsK S S' → MoT S' b (i + 1) → Q (some (.int 1)) S')
    (h0 : ¬ fitE (b i) c q → Q (some (.int 0)) S) : KM (d + 2) mX12_closes [.ref 0, .int (J i)] S Q := by
  have hM' := hM
  obtain ⟨m1, m2, m3, m4, m5, m6, m7, m8, m9, m10⟩ := hM
  have hlen := gst_len i hA
  have er := eg_rng c q
  rw [e, List.length_cons] at m1 hlen
  rw [e] at m7
  obtain ⟨⟨n1, n2, n3, n4⟩, n5⟩ := m7
  have hH := HS_all i hA
  rw [e] at hH
  have hp : p < i := hH.1.1
  have g := gst_shut z
  rw [e] at g
  have gg1 : (gst b (i + 1)).1 = t := by rw [g]; rfl
  have gg2 : (gst b (i + 1)).2 = (gst b i).2 := by rw [g]
  have e0 : eg c q = 0 ↔ c = -1 := by unfold eg; split <;> (try split) <;> omega
  have e2 : eg c q = 2 ↔ (c ≠ -1 ∧ q ≠ -1) := by unfold eg; split <;> (try split) <;> omega
  have go : fitE (b i) c q → zWp shM (KM (d + 1)) kX12_closes 2 Q 18 [some (.ref 0), some (.int (J i))] [] S := by
    intro fi
    have h15 : (zu S 0 15 (S 0 15 - 1)) 0 15 = J t.length := by
      simp only [zu_r, if_true]; rw [m1]; simp only [J_lit, J_neg, J_add, J_sub, J_mul, J_nI]; congr 1; omega
    have ix : ((zu S 0 15 (S 0 15 - 1)) 0 15).toNatClampNeg = t.length := by rw [h15]; simp (disch := omega) only [J_lit, J_neg, J_add, J_sub, J_mul, J_nI, J_le, J_lt, J_eq, J_in, J_nat]; omega
    have inn : vp_in ((zu S 0 15 (S 0 15 - 1)) 0 15) 4 := by rw [h15]; simp (disch := omega) only [J_lit, J_neg, J_add, J_sub, J_mul, J_nI, J_le, J_lt, J_eq, J_in, J_nat]; omega
    have h10 : (zu S 0 15 (S 0 15 - 1)) 10 t.length = J p := by rw [zu_same (by decide)]; exact n1
    have inp : vp_in ((zu S 0 15 (S 0 15 - 1)) 10 ((zu S 0 15 (S 0 15 - 1)) 0 15).toNatClampNeg) 40 := by rw [ix, h10]; simp (disch := omega) only [J_lit, J_neg, J_add, J_sub, J_mul, J_nI, J_le, J_lt, J_eq, J_in, J_nat]; omega
    refine zRun_wp [] 60 ?_
    refine ⟨rfl, fun e => absurd e (by decide), inn, inp, Or.inr rfl, ?_⟩
    have k2 : ∀ (j : Nat) (y : Int32) c, c ≠ 0 → c ≠ 14 → (zu (zu S 0 15 (S 0 15 - 1)) 14 j y) c = S c := fun j y c c1 c2 => by rw [zu_same c2, zu_same c1]
    have k3 : ∀ (j : Nat) (y : Int32) k, k ≠ 15 → (zu (zu S 0 15 (S 0 15 - 1)) 14 j y) 0 k = S 0 k := fun j y k c1 => by rw [zu_same (by decide)]; simp only [zu_r, if_true]; rw [if_neg c1]
    refine h1 fi _ ⟨fun c c1 c2 => k2 _ _ c c1 (by omega), fun k hk => k3 _ _ k (by omega)⟩ ?_
    refine MoT_next hM' (by omega) (by omega) (dpt_same (by rw [gg1, e, List.length_cons]; omega)) ⟨k3 _ _ 24 (by decide), k3 _ _ 26 (by decide), k2 _ _ 15 (by decide) (by decide), k2 _ _ 16 (by decide) (by decide)⟩ ?_ ?_ ?_ (fun k hk hb p' c' q' t' ek => ?_)
    · rw [gg1, zu_same (by decide)]; exact h15
    · rw [gg2, k3 _ _ 21 (by decide), k3 _ _ 22 (by decide), k3 _ _ 23 (by decide)]; exact ⟨m2, m3, m4⟩
    · rw [gg1]
      exact MoE_keep i (fun x hx => HS_lt hH x (List.mem_cons_of_mem _ hx)) n5 (fun k _ => by rw [k2 _ _ 10 (by decide) (by decide), k2 _ _ 11 (by decide) (by decide)]; exact ⟨rfl, rfl⟩) (fun k _ => by rw [k2 _ _ 12 (by decide) (by decide), k2 _ _ 13 (by decide) (by decide)]; exact ⟨rfl, rfl⟩)
    · rw [k2 _ _ 12 (by decide) (by decide), k2 _ _ 13 (by decide) (by decide)]
      by_cases w : k = i
      · rw [w, e] at ek
        injection ek with w1 w2
        injection w1 with w3 w4
        injection w4 with w5 w6
        subst w3 w5 w6
        exact ⟨n3, n4⟩
      · exact m8 k (by omega) hb p' c' q' t' ek
  refine eX12_closes (zRun_wp [18] 60 ?_)
  refine w_isOpenC (v := 0) rfl (by omega) er m1 hlen n2 ?_
  refine ⟨fun w => ?_, fun w => ?_⟩ <;> rw [bb_0] at w
  · exact go (Or.inr (Or.inr ⟨z, Or.inl (e0.mp (Decidable.not_not.mp w))⟩))
  refine w_isOpenC (v := 2) rfl (by omega) er m1 hlen n2 ?_
  refine ⟨fun w2 => ?_, fun w2 => ?_⟩ <;> rw [bb_0] at w2
  · exact go (Or.inr (Or.inr ⟨z, Or.inr (e2.mp (Decidable.not_not.mp w2)).2⟩))
  · refine ⟨Or.inl rfl, h0 (fun f => ?_)⟩
    rcases f with ⟨f, -⟩ | ⟨f, -⟩ | ⟨-, f⟩
    · omega
    · omega
    · rcases f with f | f
      · exact w (e0.mpr f)
      · by_cases cc : c = -1
        · exact w (e0.mpr cc)
        · exact w2 (e2.mpr ⟨cc, f⟩)
set_option maxHeartbeats 2000000 in
theorem w_goesOnC (hM : MoT S b i) (hA : Acc b i) (hi : i < 40) {v : Int} (hz : (b i = 58 ∧ v = 0) ∨ (b i = 59 ∧ v = 1)) {x : Int32} (ex : x = J v) {p : Nat} {c q : Int} {t : List En} (e : (gst b i).1 = (p, c, q) :: t)
    (h1 : fitE (b i) c q → ∀ S', MsK S S' → MoT S' b (i + 1) → Q (some (.int 1)) S')
    (h0 : ¬ fitE (b i) c q → Q (some (.int 0)) S) : KM (d + 2) mX12_goesOn [.ref 0, .int (J i), .int x] S Q := by
  subst ex
  have hM' := hM
  obtain ⟨m1, m2, m3, m4, m5, m6, m7, m8, m9, m10⟩ := hM
  have hlen := gst_len i hA
  have er := eg_rng c q
  rw [e, List.length_cons] at m1 hlen
  rw [e] at m7
  obtain ⟨⟨n1, n2, n3, n4⟩, n5⟩ := m7
  have hH := HS_all i hA
  rw [e] at hH
  have hp : p < i := hH.1.1
  have hpt : HS b p t := by
    have := HS_all p (Acc_le hA (by omega))
    rw [hH.1.2.2.1] at this
    exact this
  have e0 : eg c q = 0 ↔ c = -1 := by unfold eg; split <;> (try split) <;> omega
  have e1 : eg c q = 1 ↔ (c ≠ -1 ∧ q = -1) := by unfold eg; split <;> (try split) <;> omega
  have ix : (S 0 15 - 1).toNatClampNeg = t.length := by rw [m1]; simp (disch := omega) only [J_lit, J_neg, J_add, J_sub, J_mul, J_nI, J_le, J_lt, J_eq, J_in, J_nat]; omega
  have inn : vp_in (S 0 15 - 1) 4 := by rw [m1]; simp (disch := omega) only [J_lit, J_neg, J_add, J_sub, J_mul, J_nI, J_le, J_lt, J_eq, J_in, J_nat]; omega
  have qm : c = -1 → q = -1 := by
    intro w
    rcases hH.1.2.2.2.2.2.2 with h | ⟨c', h, -⟩
    · exact h.2
    · omega
  have ipx : (S 10 t.length).toNatClampNeg = p := by rw [n1]; simp (disch := omega) only [J_lit, J_neg, J_add, J_sub, J_mul, J_nI, J_le, J_lt, J_eq, J_in, J_nat]; omega
  have inp : vp_in (S 10 t.length) 40 := by rw [n1]; simp (disch := omega) only [J_lit, J_neg, J_add, J_sub, J_mul, J_nI, J_le, J_lt, J_eq, J_in, J_nat]; omega
  refine eX12_goesOn (zRun_wp [] 60 ?_)
  refine w_isOpenC (v := v) rfl (by omega) er m1 hlen n2 ?_
  rcases hz with ⟨z, rfl⟩ | ⟨z, rfl⟩
  · have g := gst_col z
    rw [e] at g
    have gg1 : (gst b (i + 1)).1 = (p, (i : Int), q) :: t := by rw [g]; rfl
    have gg2 : (gst b (i + 1)).2 = (gst b i).2 := by rw [g]
    refine ⟨fun w => ?_, fun w => ?_⟩ <;> rw [bb_0] at w
    · have w := Decidable.not_not.mp w
      have fi : fitE (b i) c q := Or.inl ⟨z, e0.mp w⟩
      refine ⟨inn, ?_⟩
      refine ⟨fun w => absurd rfl w, fun _ => ?_⟩
      refine ⟨inn, ?_⟩
      have ip2 : vp_in ((zu S 11 (S 0 15 - 1).toNatClampNeg (J 0 + 1)) 10 (S 0 15 - 1).toNatClampNeg) 40 := by rw [zu_same (by decide), ix]; exact inp
      have ip3 : ((zu S 11 (S 0 15 - 1).toNatClampNeg (J 0 + 1)) 10 (S 0 15 - 1).toNatClampNeg).toNatClampNeg = p := by rw [zu_same (by decide), ix]; exact ipx
      refine ⟨ip2, Or.inr rfl, ?_⟩
      rw [show (zu S 11 (S 0 15 - 1).toNatClampNeg (J 0 + 1)) 0 15 = S 0 15 from rfl, ip3, ix]
      have k2 : ∀ (y : Int32) c, c ≠ 11 → c ≠ 12 → (zu (zu S 11 t.length y) 12 p (J i)) c = S c := fun y c c1 c2 => by rw [zu_same c2, zu_same c1]
      refine h1 fi _ ⟨fun c c1 c2 => k2 _ c (by omega) (by omega), fun k hk => by rw [k2 _ 0 (by decide) (by decide)]⟩ ?_
      refine MoT_next hM' (by omega) (by omega) (dpt_same (by rw [gg1, e, List.length_cons, List.length_cons]; omega)) ⟨by rw [k2 _ 0 (by decide) (by decide)], by rw [k2 _ 0 (by decide) (by decide)], k2 _ 15 (by decide) (by decide), k2 _ 16 (by decide) (by decide)⟩ ?_ ?_ ?_ (fun k hk hb p' c' q' t' ek => ?_)
      · rw [gg1, List.length_cons, k2 _ 0 (by decide) (by decide)]; exact m1
      · rw [gg2, k2 _ 0 (by decide) (by decide)]; exact ⟨m2, m3, m4⟩
      · rw [gg1]
        refine ⟨⟨?_, ?_, ?_, ?_⟩, ?_⟩
        · rw [k2 _ 10 (by decide) (by decide)]; exact n1
        · rw [zu_same (by decide)]
          simp only [zu_r, if_true]
          unfold eg; rw [if_neg (by omega), if_pos (qm (e0.mp w))]; rfl
        · simp only [zu_r, if_true]
        · rw [k2 _ 13 (by decide) (by decide)]; exact n4
        · refine MoE_keep p (fun x hx => HS_lt hpt x hx) n5 (fun k hk => ⟨?_, ?_⟩) (fun k hk => ⟨?_, ?_⟩)
          · rw [k2 _ 10 (by decide) (by decide)]
          · rw [zu_same (by decide)]
            simp only [zu_r, if_true]
            rw [if_neg (by omega)]
          · simp only [zu_r, if_true]
            rw [if_neg (by omega), if_neg (by decide)]
          · rw [k2 _ 13 (by decide) (by decide)]
      · have hk' : k < i := by
          by_cases w : k = i
          · rw [w] at hb; omega
          · omega
        have ne := open_ne hA e hk' hb ek
        have old := m8 k hk' hb p' c' q' t' ek
        refine ⟨?_, ?_⟩
        · simp only [zu_r, if_true]
          rw [if_neg ne, if_neg (by decide)]
          exact old.1
        · rw [k2 _ 13 (by decide) (by decide)]
          exact old.2
    · refine ⟨Or.inl rfl, h0 (fun f => ?_)⟩
      rcases f with ⟨f, f1⟩ | ⟨f, f1⟩ | ⟨f, -⟩
      · exact w (e0.mpr f1)
      · omega
      · omega
  · have g := gst_sem z
    rw [e] at g
    have gg1 : (gst b (i + 1)).1 = (p, c, (i : Int)) :: t := by rw [g]; rfl
    have gg2 : (gst b (i + 1)).2 = (gst b i).2 := by rw [g]
    refine ⟨fun w => ?_, fun w => ?_⟩ <;> rw [bb_0] at w
    · have w := Decidable.not_not.mp w
      have fi : fitE (b i) c q := Or.inr (Or.inl ⟨z, e1.mp w⟩)
      refine ⟨inn, ?_⟩
      refine ⟨fun _ => ?_, fun w => absurd w (by decide)⟩
      refine ⟨inn, ?_⟩
      have ip2 : vp_in ((zu S 11 (S 0 15 - 1).toNatClampNeg (J 1 + 1)) 10 (S 0 15 - 1).toNatClampNeg) 40 := by rw [zu_same (by decide), ix]; exact inp
      have ip3 : ((zu S 11 (S 0 15 - 1).toNatClampNeg (J 1 + 1)) 10 (S 0 15 - 1).toNatClampNeg).toNatClampNeg = p := by rw [zu_same (by decide), ix]; exact ipx
      refine ⟨ip2, Or.inr rfl, ?_⟩
      rw [show (zu S 11 (S 0 15 - 1).toNatClampNeg (J 1 + 1)) 0 15 = S 0 15 from rfl, ip3, ix]
      have k2 : ∀ (y : Int32) c, c ≠ 11 → c ≠ 13 → (zu (zu S 11 t.length y) 13 p (J i)) c = S c := fun y c c1 c2 => by rw [zu_same c2, zu_same c1]
      refine h1 fi _ ⟨fun c c1 c2 => k2 _ c (by omega) (by omega), fun k hk => by rw [k2 _ 0 (by decide) (by decide)]⟩ ?_
      refine MoT_next hM' (by omega) (by omega) (dpt_same (by rw [gg1, e, List.length_cons, List.length_cons]; omega)) ⟨by rw [k2 _ 0 (by decide) (by decide)], by rw [k2 _ 0 (by decide) (by decide)], k2 _ 15 (by decide) (by decide), k2 _ 16 (by decide) (by decide)⟩ ?_ ?_ ?_ (fun k hk hb p' c' q' t' ek => ?_)
      · rw [gg1, List.length_cons, k2 _ 0 (by decide) (by decide)]; exact m1
      · rw [gg2, k2 _ 0 (by decide) (by decide)]; exact ⟨m2, m3, m4⟩
      · rw [gg1]
        refine ⟨⟨?_, ?_, ?_, ?_⟩, ?_⟩
        · rw [k2 _ 10 (by decide) (by decide)]; exact n1
        · rw [zu_same (by decide)]
          simp only [zu_r, if_true]
          unfold eg; rw [if_neg (e1.mp w).1, if_neg (by omega)]; rfl
        · rw [k2 _ 12 (by decide) (by decide)]; exact n3
        · simp only [zu_r, if_true]
        · refine MoE_keep p (fun x hx => HS_lt hpt x hx) n5 (fun k hk => ⟨?_, ?_⟩) (fun k hk => ⟨?_, ?_⟩)
          · rw [k2 _ 10 (by decide) (by decide)]
          · rw [zu_same (by decide)]
            simp only [zu_r, if_true]
            rw [if_neg (by omega)]
          · rw [k2 _ 12 (by decide) (by decide)]
          · simp only [zu_r, if_true]
            rw [if_neg (by omega), if_neg (by decide)]
      · have hk' : k < i := by
          by_cases w : k = i
          · rw [w] at hb; omega
          · omega
        have ne := open_ne hA e hk' hb ek
        have old := m8 k hk' hb p' c' q' t' ek
        refine ⟨?_, ?_⟩
        · rw [k2 _ 12 (by decide) (by decide)]
          exact old.1
        · simp only [zu_r, if_true]
          rw [if_neg ne, if_neg (by decide)]
          exact old.2
    · refine ⟨Or.inl rfl, h0 (fun f => ?_)⟩
      rcases f with ⟨f, f1⟩ | ⟨f, f1⟩ | ⟨f, -⟩
      · omega
      · exact w (e1.mpr f1)
      · omega
theorem w_signed (hM : MoT S b i) (hA : Acc b i) (hi : i < 40) (hs : sgz (b i)) (hn : b i ≠ 91) (hdl : (gst b i).2.2.2 = -1)
    (h1 : fits (b i) (gst b i) = true → ∀ S', MsK S S' → MoT S' b (i + 1) → Q (some (.int 1)) S')
    (h0 : ¬ fits (b i) (gst b i) = true → Q (some (.int 0)) S) : KM (d + 3) mX12_signed [.ref 0, .int (J i), .int (J (b i))] S Q := by
  have m1 := hM.1
  have hlen := gst_len i hA
  cases e : (gst b i).1 with
  | nil =>
    rw [e] at m1
    have ge : gst b i = ([], (gst b i).2) := by rw [← e]
    have fe : fits (b i) (gst b i) = true ↔ fitM (b i) (gst b i).2 := by rw [ge]; exact fits_n
    have no : ¬ fitM (b i) (gst b i).2 → Q (some (.int 0)) S := fun w => h0 (fun q => w (fe.mp q))
    refine eX12_signed (zRun_wp [] 60 ?_)
    refine ⟨fun w1 => ?_, fun w1 => ?_⟩ <;> simp (disch := omega) only [J_lit, J_neg, J_add, J_sub, J_mul, J_nI, J_le, J_lt, J_eq, J_in, J_nat] at w1
    rotate_left
    · refine w_closesN m1 ?_
      exact ⟨Or.inl rfl, no (fun q => by rcases q with ⟨q, -⟩ | ⟨q, -⟩ | ⟨q, -⟩ <;> omega)⟩
    refine ⟨fun w2 => ?_, fun w2 => ?_⟩ <;> simp (disch := omega) only [J_lit, J_neg, J_add, J_sub, J_mul, J_nI, J_le, J_lt, J_eq, J_in, J_nat] at w2
    rotate_left
    · refine w_goesOnN m1 ?_
      exact ⟨Or.inl rfl, no (fun q => by rcases q with ⟨q, -⟩ | ⟨q, -⟩ | ⟨q, -⟩ <;> omega)⟩
    refine ⟨fun w3 => ?_, fun w3 => ?_⟩ <;> simp (disch := omega) only [J_lit, J_neg, J_add, J_sub, J_mul, J_nI, J_le, J_lt, J_eq, J_in, J_nat] at w3
    rotate_left
    · refine w_goesOnN m1 ?_
      exact ⟨Or.inl rfl, no (fun q => by rcases q with ⟨q, -⟩ | ⟨q, -⟩ | ⟨q, -⟩ <;> omega)⟩
    refine w_marks (d := d + 1) hM hA hi (by omega) hdl e (fun f S' k1 k2 => ?_) (fun f => ?_)
    · exact ⟨Or.inr rfl, h1 (fe.mpr f) S' k1 k2⟩
    · exact ⟨Or.inl rfl, no f⟩
  | cons x t =>
    obtain ⟨p, c, q⟩ := x
    rw [e, List.length_cons] at m1 hlen
    have ge : gst b i = ((p, c, q) :: t, (gst b i).2) := by rw [← e]
    have fe : fits (b i) (gst b i) = true ↔ fitE (b i) c q := by rw [ge]; exact fits_c
    have no : ¬ fitE (b i) c q → Q (some (.int 0)) S := fun w => h0 (fun q => w (fe.mp q))
    refine eX12_signed (zRun_wp [] 60 ?_)
    refine ⟨fun w1 => ?_, fun w1 => ?_⟩ <;> simp (disch := omega) only [J_lit, J_neg, J_add, J_sub, J_mul, J_nI, J_le, J_lt, J_eq, J_in, J_nat] at w1
    rotate_left
    · refine w_closesC hM hA hi w1 e (fun f S' k1 k2 => ?_) (fun f => ?_)
      · exact ⟨Or.inr rfl, h1 (fe.mpr f) S' k1 k2⟩
      · exact ⟨Or.inl rfl, no f⟩
    refine ⟨fun w2 => ?_, fun w2 => ?_⟩ <;> simp (disch := omega) only [J_lit, J_neg, J_add, J_sub, J_mul, J_nI, J_le, J_lt, J_eq, J_in, J_nat] at w2
    rotate_left
    · refine w_goesOnC hM hA hi (Or.inl ⟨w2, rfl⟩) rfl e (fun f S' k1 k2 => ?_) (fun f => ?_)
      · exact ⟨Or.inr rfl, h1 (fe.mpr f) S' k1 k2⟩
      · exact ⟨Or.inl rfl, no f⟩
    refine ⟨fun w3 => ?_, fun w3 => ?_⟩ <;> simp (disch := omega) only [J_lit, J_neg, J_add, J_sub, J_mul, J_nI, J_le, J_lt, J_eq, J_in, J_nat] at w3
    rotate_left
    · refine w_goesOnC hM hA hi (Or.inr ⟨w3, rfl⟩) rfl e (fun f S' k1 k2 => ?_) (fun f => ?_)
      · exact ⟨Or.inr rfl, h1 (fe.mpr f) S' k1 k2⟩
      · exact ⟨Or.inl rfl, no f⟩
    refine w_marksC (d := d + 1) hlen m1 ?_
    exact ⟨Or.inl rfl, no (fun f => by rcases f with ⟨f, -⟩ | ⟨f, -⟩ | ⟨f, -⟩ <;> omega)⟩
end mops
