/-! the class's Jumps -/
def JOk (S : zS) (cj : Nat) (s : FS) : Prop := S cj 0 = J (cv s.1) ∧ S cj 1 = J s.2.1 ∧ S cj 2 = J s.2.2.1 ∧ S cj 3 = J s.2.2.2
def jsp : List (Nat × Nat × Nat × Nat × Nat) := [(24, 20, 21, 22, 23), (32, 28, 29, 30, 31)]
theorem jsp_x {cj c c1 c2 c3 : Nat} (h : (cj, c, c1, c2, c3) ∈ jsp) : (c, c1, c2, c3) ∈ sps ∧ cj = c + 4 ∧ c1 = c + 1 ∧ c2 = c + 2 ∧ c3 = c + 3 := by
  simp only [jsp, List.mem_cons, Prod.mk.injEq, List.not_mem_nil, or_false] at h
  rcases h with ⟨rfl, rfl, rfl, rfl, rfl⟩ | ⟨rfl, rfl, rfl, rfl, rfl⟩ <;> exact ⟨by decide, by decide, by decide, by decide, by decide⟩
section seek
variable {d : Nat} {S : zS} {Q : Option Value → zS → Prop} {cj c c1 c2 c3 m : Nat} {h : Nat → Int}
theorem v_offer (hj : cj = 24 ∨ cj = 32) {s : FS} {x k a b : Nat} (hm : m ≤ 24) (hs : JOk S cj s) (hf : FOk m s) (hx : x % 1000 < 200) (hx2 : x ≤ 100000) (hq : ∀ S', (∀ c', c' ≠ cj → S' c' = S c') → JOk S' cj (ofr s x k a b) → Q none S') : KC (d + 1) mX2_offer [.ref cj, .int (J (cv x)), .int (J k), .int (J a), .int (J b)] S Q := by
  obtain ⟨s0, s1, s2, s3⟩ := id hs
  obtain ⟨f1, f2, -⟩ := hf
  have l1 : cv x ≤ 40000 := by unfold cv; omega
  have l2 : cv s.1 ≤ 40000 := by unfold cv; omega
  have lt := cv_lt (a := x) (b := s.1) (by omega) (by omega)
  rcases hj with rfl | rfl
  all_goals
    refine eX2_offer (zRun_wp [] 60 ?_)
    refine ⟨fun k1 => ?_, fun k1 => ?_⟩ <;> rw [s0] at k1 <;> simp (disch := omega) only [J_lit, J_neg, J_add, J_sub, J_mul, J_nI, J_le, J_lt, J_eq, J_in, J_nat] at k1
    · refine hq S (fun _ _ => rfl) ?_
      unfold ofr
      rw [if_neg (fun q => by have := lt.mpr q; omega)]
      exact hs
    · refine ⟨rfl, fun e => absurd e (by decide), rfl, fun e => absurd e (by decide), rfl, fun e => absurd e (by decide), rfl, fun e => absurd e (by decide), ?_⟩
      refine hq _ (fun c' hc => ?_) ?_
      · rw [zu_same hc, zu_same hc, zu_same hc, zu_same hc]
      · unfold ofr
        rw [if_pos (lt.mp (by omega))]
        refine ⟨?_, ?_, ?_, ?_⟩ <;> simp [zu_r]
/-- all costs of a depth stand -/
def AllC (S : zS) (c3 : Nat) (h : Nat → Int) (m dd : Nat) : Prop := ∀ i j, i < j → j ≤ m → CoOk S c3 h dd i j
theorem AllC_keep {S S' : zS} {c3 dd : Nat} (h0 : AllC S c3 h m dd) (k : S' c3 = S c3) : AllC S' c3 h m dd := by
  intro i j a b
  have := h0 i j a b
  unfold CoOk at this ⊢
  rw [k]; exact this
theorem v_costE {dd i j : Nat} (hc : (c, c1, c2, c3) ∈ sps) (hS : SpOk S c c1 c2 h m) (hC : AllC S c3 h m dd) (hd : dd ≤ 3) (hi : i ≤ m) (hj : j ≤ m) {x y : Int32} (ex : x = J i) (ey : y = J j) (hq : Q (some (.int (J (cv (co h dd i (j - i)))))) S) : KC (d + 2) mX9_cost [.ref c, .int (J dd), .int x, .int y] S Q := by
  subst ex ey
  exact v_cost hc hS hd hi hj (fun q => hC i j q hj) hq
theorem v_alikeE {i j : Nat} (hc : (c, c1, c2, c3) ∈ sps) (hS : SpOk S c c1 c2 h m) (hi : i ≤ 24) (hj : j ≤ 24) {x y : Int32} (ex : x = J i) (ey : y = J j) (hq : Q (some (.int (J (al h m i j)))) S) : KC (d + 2) mX9_alikeFrom [.ref c, .int x, .int y] S Q := by
  subst ex ey
  exact v_alikeFrom hc hS hi hj hq
theorem v_offerE (hj : cj = 24 ∨ cj = 32) {s : FS} {x k a b : Nat} {x1 x2 x3 x4 : Int32} (e1 : x1 = J (cv x)) (e2 : x2 = J k) (e3 : x3 = J a) (e4 : x4 = J b) (hm : m ≤ 24) (hs : JOk S cj s) (hf : FOk m s) (hx : x % 1000 < 200) (hx2 : x ≤ 100000) (hq : ∀ S', (∀ c', c' ≠ cj → S' c' = S c') → JOk S' cj (ofr s x k a b) → Q none S') : KC (d + 1) mX2_offer [.ref cj, .int x1, .int x2, .int x3, .int x4] S Q := by
  subst e1 e2 e3 e4
  exact v_offer hj hm hs hf hx hx2 hq
set_option maxHeartbeats 2000000 in
theorem v_seekFromSign (hjs : (cj, c, c1, c2, c3) ∈ jsp) {s : FS} {dd a : Nat} (hS : SpOk S c c1 c2 h m) (hC : AllC S c3 h m dd) (hd : dd ≤ 3) (ha : 1 ≤ a) (ham : a + 3 ≤ m) (hs : JOk S cj s) (hf : FOk m s)
    (hq : ∀ S', (∀ c', c' ≠ cj → S' c' = S c') → JOk S' cj (fb2 h m dd a s m) → Q none S') : KC (d + 3) mX2_seekFromSign [.ref cj, .ref c, .int (J dd), .int (J a)] S Q := by
  obtain ⟨hc, q0, q1, q2, q3⟩ := jsp_x hjs
  have hm := hS.1
  have hj : cj = 24 ∨ cj = 32 := by
    simp only [jsp, List.mem_cons, Prod.mk.injEq, List.not_mem_nil, or_false] at hjs
    rcases hjs with ⟨rfl, -⟩ | ⟨rfl, -⟩ <;> decide
  have loop : ∀ (r b : Nat) (x5 : Int32) (j6 : Option Value) (S' : zS), b + r = m → 1 ≤ b → x5 = J b → (∀ c', c' ≠ cj → S' c' = S c') → JOk S' cj (fb2 h m dd a s (b - 1)) → zWp shC (KC (d + 2)) kX2_seekFromSign 0 Q 9 [some (.ref cj), some (.ref c), some (.int (J dd)), some (.int (J a)), some (.int (J m)), some (.int x5), j6] [] S' := by
    intro r
    induction r with
    | zero =>
      intro b x5 j6 S' hr b1 e5 k1 hJ
      subst e5
      have fin := hq S' k1 (by rw [fb2_stop (A := b - 1) m (by omega) (by omega)]; exact hJ)
      simp only [jsp, List.mem_cons, Prod.mk.injEq, List.not_mem_nil, or_false] at hjs
      rcases hjs with ⟨rfl, rfl, rfl, rfl, rfl⟩ | ⟨rfl, rfl, rfl, rfl, rfl⟩
      all_goals
        refine zRun_wp [9] 80 ?_
        refine ⟨fun _ => fin, fun g1 => ?_⟩
        simp (disch := omega) only [J_lit, J_neg, J_add, J_sub, J_mul, J_nI, J_le, J_lt, J_eq, J_in, J_nat] at g1
        omega
    | succ r ih =>
      intro b x5 j6 S' hr b1 e5 k1 hJ
      subst e5
      have S1 : SpOk S' c c1 c2 h m := SpOk_keep hS (k1 c (by omega)) (k1 c1 (by omega)) (k1 c2 (by omega))
      have C1 : AllC S' c3 h m dd := AllC_keep hC (k1 c3 (by omega))
      have fin : m ≤ a + 2 * b → Q none S' := fun q => hq S' k1 (by rw [fb2_stop (A := b - 1) m (by omega) (by omega)]; exact hJ)
      have ef : fb2 h m dd a s b = if a + 2 * b + 1 ≤ m ∧ er h a (m - b) b then ofr (fb2 h m dd a s (b - 1)) (c2f h m dd a b) 2 a b else fb2 h m dd a s (b - 1) := by
        obtain ⟨b', rfl⟩ : ∃ b', b = b' + 1 := ⟨b - 1, by omega⟩
        rfl
      have next : ∀ (j6 : Option Value) (S2 : zS), (∀ c', c' ≠ cj → S2 c' = S c') → JOk S2 cj (fb2 h m dd a s b) → zWp shC (KC (d + 2)) kX2_seekFromSign 0 Q 9 [some (.ref cj), some (.ref c), some (.int (J dd)), some (.int (J a)), some (.int (J m)), some (.int (J b + 1)), j6] [] S2 := fun j6 S2 g1 g2 => ih (b + 1) _ j6 S2 (by omega) (by omega) (by simp only [J_lit, J_neg, J_add, J_sub, J_mul, J_nI]; congr 1) g1 (by rw [Nat.add_sub_cancel]; exact g2)
      have hal := al_lei h m a (m - b)
      have hae : a + 2 * b + 1 ≤ m → (b ≤ al h m a (m - b) ↔ er h a (m - b) b) := fun q => al_er (by omega) (by omega)
      have hfb := fb2_ok (h := h) (d := dd) hm ha hf (b - 1)
      have cst := fun {i j : Nat} {x y : Int32} {Q' : Option Value → zS → Prop} (hi : i ≤ m) (hj2 : j ≤ m) (ex : x = J i) (ey : y = J j) (k : Q' (some (.int (J (cv (co h dd i (j - i)))))) S') => v_costE (d := d) (Q := Q') hc S1 C1 hd hi hj2 ex ey k
      have alk := fun {i j : Nat} {x y : Int32} {Q' : Option Value → zS → Prop} (hi : i ≤ 24) (hj2 : j ≤ 24) (ex : x = J i) (ey : y = J j) (k : Q' (some (.int (J (al h m i j)))) S') => v_alikeE (d := d) (Q := Q') hc S1 hi hj2 ex ey k
      have few := fun (q : a + 2 * b + 1 ≤ m) => c2f_few (h := h) (d := dd) (a := a) (b := b) hm (by omega)
      have big : a + 2 * b + 1 ≤ m → c2f h m dd a b ≤ 80000 := fun _ => by
        have w1 := co_le h dd 0 a
        have w2 := co_le h dd a b
        have w3 := co_le h dd (a + b) (m - b - (a + b))
        unfold c2f
        omega
      have off := fun (q : a + 2 * b + 1 ≤ m) {x1 x2 x3 x4 : Int32} {Q' : Option Value → zS → Prop} (e1 : x1 = J (cv (c2f h m dd a b))) (e2 : x2 = J (2 : Nat)) (e3 : x3 = J a) (e4 : x4 = J b) (k : ∀ S2, (∀ c', c' ≠ cj → S2 c' = S' c') → JOk S2 cj (ofr (fb2 h m dd a s (b - 1)) (c2f h m dd a b) 2 a b) → Q' none S2) => v_offerE (d := d + 1) (Q := Q') hj e1 e2 e3 e4 hm hJ hfb (few q).1 (by have := big q; omega) k
      have em : J m - J b = J (m - b : Nat) := by simp only [J_lit, J_neg, J_add, J_sub, J_mul, J_nI]; congr 1; omega
      have eab : J a + J b = J (a + b : Nat) := by simp only [J_lit, J_neg, J_add, J_sub, J_mul, J_nI]; congr 1
      clear ih
      simp only [jsp, List.mem_cons, Prod.mk.injEq, List.not_mem_nil, or_false] at hjs
      rcases hjs with ⟨rfl, rfl, rfl, rfl, rfl⟩ | ⟨rfl, rfl, rfl, rfl, rfl⟩
      all_goals
        refine zRun_wp [9] 80 ?_
        refine ⟨fun g1 => ?_, fun g1 => ?_⟩ <;> simp (disch := omega) only [J_lit, J_neg, J_add, J_sub, J_mul, J_nI, J_le, J_lt, J_eq, J_in, J_nat] at g1
        · exact fin (by omega)
        refine alk (i := a) (j := m - b) (by omega) (by omega) rfl em ?_
        refine ⟨fun g2 => ?_, fun g2 => ?_⟩ <;> simp (disch := omega) only [J_lit, J_neg, J_add, J_sub, J_mul, J_nI, J_le, J_lt, J_eq, J_in, J_nat] at g2
        · refine next _ S' k1 ?_
          rw [ef, if_neg (fun q => by have := (hae q.1).mpr q.2; omega)]
          exact hJ
        refine cst (i := 0) (j := a) (by omega) (by omega) rfl rfl ?_
        refine cst (i := a) (j := a + b) (by omega) (by omega) rfl eab ?_
        refine cst (i := a + b) (j := m - b) (by omega) (by omega) eab em ?_
        refine off (by omega) ?_ rfl rfl rfl (fun S2 w1 w2 => ?_)
        · rw [(few (by omega)).2, show a - 0 = a by omega, show a + b - a = b by omega]
          simp only [J_lit, J_neg, J_add, J_sub, J_mul, J_nI]; congr 1
        · refine next _ S2 (fun c' hc' => by rw [w1 c' hc']; exact k1 c' hc') ?_
          rw [ef, if_pos ⟨by omega, (hae (by omega)).mp (by omega)⟩]
          exact w2
  have start : ∀ x4 : Int32, x4 = J m → zWp shC (KC (d + 2)) kX2_seekFromSign 0 Q 9 [some (.ref cj), some (.ref c), some (.int (J dd)), some (.int (J a)), some (.int x4), some (.int 1), none] [] S := by
    intro x4 e4
    subst e4
    exact loop (m - 1) 1 _ _ S (by omega) (by omega) rfl (fun _ _ => rfl) hs
  have sz := hS.2.1
  simp only [jsp, List.mem_cons, Prod.mk.injEq, List.not_mem_nil, or_false] at hjs
  rcases hjs with ⟨rfl, rfl, rfl, rfl, rfl⟩ | ⟨rfl, rfl, rfl, rfl, rfl⟩
  all_goals
    refine eX2_seekFromSign (zRun_wp [9] 80 ?_)
    exact start _ sz
end seek
