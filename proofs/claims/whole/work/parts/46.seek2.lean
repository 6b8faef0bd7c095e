/-! Jumps.seek -/
section seek
variable {d : Nat} {S : zS} {Q : Option Value → zS → Prop} {cj c c1 c2 c3 m : Nat} {h : Nat → Int}
theorem v_signE (hjs : (cj, c, c1, c2, c3) ∈ jsp) {s : FS} {dd a : Nat} (hS : SpOk S c c1 c2 h m) (hC : AllC S c3 h m dd) (hd : dd ≤ 3) (ha : 1 ≤ a) (ham : a + 3 ≤ m) (hs : JOk S cj s) (hf : FOk m s)
    (hq : ∀ S', (∀ c', c' ≠ cj → S' c' = S c') → JOk S' cj (fb2 h m dd a s m) → Q none S') : KC (d + 3) mX2_seekFromSign [.ref cj, .ref c, .int (J dd), .int (J a)] S Q := v_seekFromSign hjs hS hC hd ha ham hs hf hq
set_option maxHeartbeats 2000000 in
theorem v_seek (hjs : (cj, c, c1, c2, c3) ∈ jsp) {dd : Nat} (hS : SpOk S c c1 c2 h m) (hC : AllC S c3 h m dd) (hd : dd ≤ 3)
    (hq : ∀ S', (∀ c', c' ≠ cj → S' c' = S c') → JOk S' cj (fnd h m dd) → Q none S') : KC (d + 4) mX2_seek [.ref cj, .ref c, .int (J dd)] S Q := by
  obtain ⟨hc, q0, q1, q2, q3⟩ := jsp_x hjs
  have hm := hS.1
  have hj : cj = 24 ∨ cj = 32 := by
    simp only [jsp, List.mem_cons, Prod.mk.injEq, List.not_mem_nil, or_false] at hjs
    rcases hjs with ⟨rfl, -⟩ | ⟨rfl, -⟩ <;> decide
  have kS : ∀ {S' : zS}, (∀ c', c' ≠ cj → S' c' = S c') → SpOk S' c c1 c2 h m := fun k1 => SpOk_keep hS (k1 c (by omega)) (k1 c1 (by omega)) (k1 c2 (by omega))
  have kC : ∀ {S' : zS}, (∀ c', c' ≠ cj → S' c' = S c') → AllC S' c3 h m dd := fun k1 => AllC_keep hC (k1 c3 (by omega))
  have loop2 : ∀ (r a : Nat) (x4 : Int32) (j5 : Option Value) (S' : zS), a + r = m + 1 → 1 ≤ a → x4 = J a → (∀ c', c' ≠ cj → S' c' = S c') → JOk S' cj (fa2 h m dd (a - 1)) → zWp shC (KC (d + 3)) kX2_seek 0 Q 101 [some (.ref cj), some (.ref c), some (.int (J dd)), some (.int (J m)), some (.int x4), j5] [] S' := by
    intro r
    induction r with
    | zero =>
      intro a x4 j5 S' hr a1 e4 k1 hJ
      subst e4
      have fin := hq S' k1 (by unfold fnd; rw [fa2_stop (A := a - 1) m (by omega) (by omega)]; exact hJ)
      simp only [jsp, List.mem_cons, Prod.mk.injEq, List.not_mem_nil, or_false] at hjs
      rcases hjs with ⟨rfl, rfl, rfl, rfl, rfl⟩ | ⟨rfl, rfl, rfl, rfl, rfl⟩
      all_goals
        refine zRun_wp [101] 80 ?_
        refine ⟨fun _ => fin, fun g1 => ?_⟩
        simp (disch := omega) only [J_lit, J_neg, J_add, J_sub, J_mul, J_nI, J_le, J_lt, J_eq, J_in, J_nat] at g1
        omega
    | succ r ih =>
      intro a x4 j5 S' hr a1 e4 k1 hJ
      subst e4
      have fin : m ≤ a + 2 → Q none S' := fun q => hq S' k1 (by unfold fnd; rw [fa2_stop (A := a - 1) m (by omega) (by omega)]; exact hJ)
      have ef : a + 3 ≤ m → fa2 h m dd a = fb2 h m dd a (fa2 h m dd (a - 1)) m := by
        obtain ⟨a', rfl⟩ : ∃ a', a = a' + 1 := ⟨a - 1, by omega⟩
        intro q
        show (if a' + 1 + 3 ≤ m then _ else _) = _
        rw [if_pos q]; rfl
      have next : ∀ (j5 : Option Value) (S2 : zS), (∀ c', c' ≠ cj → S2 c' = S c') → JOk S2 cj (fa2 h m dd a) → zWp shC (KC (d + 3)) kX2_seek 0 Q 101 [some (.ref cj), some (.ref c), some (.int (J dd)), some (.int (J m)), some (.int (J a + 1)), j5] [] S2 := fun j5 S2 g1 g2 => ih (a + 1) _ j5 S2 (by omega) (by omega) (by simp only [J_lit, J_neg, J_add, J_sub, J_mul, J_nI]; congr 1) g1 (by rw [Nat.add_sub_cancel]; exact g2)
      have sgn := fun (q : a + 3 ≤ m) {Q' : Option Value → zS → Prop} (k : ∀ S2, (∀ c', c' ≠ cj → S2 c' = S' c') → JOk S2 cj (fb2 h m dd a (fa2 h m dd (a - 1)) m) → Q' none S2) => v_signE (d := d) (Q := Q') hjs (kS k1) (kC k1) hd a1 q hJ (fa2_ok hm (a - 1)) k
      clear ih
      simp only [jsp, List.mem_cons, Prod.mk.injEq, List.not_mem_nil, or_false] at hjs
      rcases hjs with ⟨rfl, rfl, rfl, rfl, rfl⟩ | ⟨rfl, rfl, rfl, rfl, rfl⟩
      all_goals
        refine zRun_wp [101] 80 ?_
        refine ⟨fun g1 => ?_, fun g1 => ?_⟩ <;> simp (disch := omega) only [J_lit, J_neg, J_add, J_sub, J_mul, J_nI, J_le, J_lt, J_eq, J_in, J_nat] at g1
        · exact fin (by omega)
        refine sgn (by omega) (fun S2 w1 w2 => ?_)
        refine next _ S2 (fun c' hc' => by rw [w1 c' hc']; exact k1 c' hc') ?_
        rw [ef (by omega)]
        exact w2
  have loop1 : ∀ (r a : Nat) (x4 : Int32) (j5 : Option Value) (S' : zS), a + r = m + 1 → 1 ≤ a → x4 = J a → (∀ c', c' ≠ cj → S' c' = S c') → JOk S' cj (fa1 h m dd (a - 1)) → zWp shC (KC (d + 3)) kX2_seek 0 Q 34 [some (.ref cj), some (.ref c), some (.int (J dd)), some (.int (J m)), some (.int x4), j5] [] S' := by
    intro r
    induction r with
    | zero =>
      intro a x4 j5 S' hr a1 e4 k1 hJ
      subst e4
      have fin := loop2 m 1 _ j5 S' (by omega) (by omega) rfl k1 (by show JOk S' cj (fa1 h m dd m); rw [fa1_stop (A := a - 1) m (by omega) (by omega)]; exact hJ)
      simp only [jsp, List.mem_cons, Prod.mk.injEq, List.not_mem_nil, or_false] at hjs
      rcases hjs with ⟨rfl, rfl, rfl, rfl, rfl⟩ | ⟨rfl, rfl, rfl, rfl, rfl⟩
      all_goals
        refine zRun_wp [34, 101] 80 ?_
        refine ⟨fun _ => fin, fun g1 => ?_⟩
        simp (disch := omega) only [J_lit, J_neg, J_add, J_sub, J_mul, J_nI, J_le, J_lt, J_eq, J_in, J_nat] at g1
        omega
    | succ r ih =>
      intro a x4 j5 S' hr a1 e4 k1 hJ
      subst e4
      have fin : m ≤ 2 * a → _ := fun q => loop2 m 1 _ j5 S' (by omega) (by omega) rfl k1 (by show JOk S' cj (fa1 h m dd m); rw [fa1_stop (A := a - 1) m (by omega) (by omega)]; exact hJ)
      have ef : fa1 h m dd a = if 2 * a + 1 ≤ m ∧ er h 0 (m - a) a then ofr (fa1 h m dd (a - 1)) (c1f h m dd a) 1 a 0 else fa1 h m dd (a - 1) := by
        obtain ⟨a', rfl⟩ : ∃ a', a = a' + 1 := ⟨a - 1, by omega⟩
        rfl
      have next : ∀ (j5 : Option Value) (S2 : zS), (∀ c', c' ≠ cj → S2 c' = S c') → JOk S2 cj (fa1 h m dd a) → zWp shC (KC (d + 3)) kX2_seek 0 Q 34 [some (.ref cj), some (.ref c), some (.int (J dd)), some (.int (J m)), some (.int (J a + 1)), j5] [] S2 := fun j5 S2 g1 g2 => ih (a + 1) _ j5 S2 (by omega) (by omega) (by simp only [J_lit, J_neg, J_add, J_sub, J_mul, J_nI]; congr 1) g1 (by rw [Nat.add_sub_cancel]; exact g2)
      have hal := al_lei h m 0 (m - a)
      have hae : 2 * a + 1 ≤ m → (a ≤ al h m 0 (m - a) ↔ er h 0 (m - a) a) := fun q => al_er (by omega) (by omega)
      have hfa := fa1_ok (h := h) (d := dd) hm (a - 1)
      have cst := fun {i j : Nat} {x y : Int32} {Q' : Option Value → zS → Prop} (hi : i ≤ m) (hj2 : j ≤ m) (ex : x = J i) (ey : y = J j) (k : Q' (some (.int (J (cv (co h dd i (j - i)))))) S') => v_costE (d := d + 1) (Q := Q') hc (kS k1) (kC k1) hd hi hj2 ex ey k
      have alk := fun {i j : Nat} {x y : Int32} {Q' : Option Value → zS → Prop} (hi : i ≤ 24) (hj2 : j ≤ 24) (ex : x = J i) (ey : y = J j) (k : Q' (some (.int (J (al h m i j)))) S') => v_alikeE (d := d + 1) (Q := Q') hc (kS k1) hi hj2 ex ey k
      have few : 2 * a + 1 ≤ m → _ := fun q => (c1f_few (h := h) (m := m) (d := dd) (a := a) hm).resolve_right (by omega)
      have big : 2 * a + 1 ≤ m → c1f h m dd a ≤ 80000 := fun _ => by
        have w1 := co_le h dd 0 a
        have w2 := co_le h dd a (m - a - a)
        unfold c1f
        omega
      have off := fun (q : 2 * a + 1 ≤ m) {x1 x2 x3 x4 : Int32} {Q' : Option Value → zS → Prop} (e1 : x1 = J (cv (c1f h m dd a))) (e2 : x2 = J (1 : Nat)) (e3 : x3 = J a) (e4 : x4 = J (0 : Nat)) (k : ∀ S2, (∀ c', c' ≠ cj → S2 c' = S' c') → JOk S2 cj (ofr (fa1 h m dd (a - 1)) (c1f h m dd a) 1 a 0) → Q' none S2) => v_offerE (d := d + 2) (Q := Q') hj e1 e2 e3 e4 hm hJ hfa (few q).1 (by have := big q; omega) k
      have em : J m - J a = J (m - a : Nat) := by simp only [J_lit, J_neg, J_add, J_sub, J_mul, J_nI]; congr 1; omega
      clear ih
      simp only [jsp, List.mem_cons, Prod.mk.injEq, List.not_mem_nil, or_false] at hjs
      rcases hjs with ⟨rfl, rfl, rfl, rfl, rfl⟩ | ⟨rfl, rfl, rfl, rfl, rfl⟩
      all_goals
        refine zRun_wp [34, 101] 80 ?_
        refine ⟨fun g1 => ?_, fun g1 => ?_⟩ <;> simp (disch := omega) only [J_lit, J_neg, J_add, J_sub, J_mul, J_nI, J_le, J_lt, J_eq, J_in, J_nat] at g1
        · exact fin (by omega)
        refine alk (i := 0) (j := m - a) (by omega) (by omega) rfl em ?_
        refine ⟨fun g2 => ?_, fun g2 => ?_⟩ <;> simp (disch := omega) only [J_lit, J_neg, J_add, J_sub, J_mul, J_nI, J_le, J_lt, J_eq, J_in, J_nat] at g2
        · refine next _ S' k1 ?_
          rw [ef, if_neg (fun q => by have := (hae q.1).mpr q.2; omega)]
          exact hJ
        refine cst (i := 0) (j := a) (by omega) (by omega) rfl rfl ?_
        refine cst (i := a) (j := m - a) (by omega) (by omega) rfl em ?_
        refine off (by omega) ?_ rfl rfl rfl (fun S2 w1 w2 => ?_)
        · rw [(few (by omega)).2, show a - 0 = a by omega]
          simp only [J_lit, J_neg, J_add, J_sub, J_mul, J_nI]; congr 1
        · refine next _ S2 (fun c' hc' => by rw [w1 c' hc']; exact k1 c' hc') ?_
          rw [ef, if_pos ⟨by omega, (hae (by omega)).mp (by omega)⟩]
          exact w2
  have cst0 := fun {x y : Int32} {Q' : Option Value → zS → Prop} (ex : x = J (0 : Nat)) (ey : y = J m) (k : Q' (some (.int (J (cv (co h dd 0 (m - 0)))))) S) => v_costE (d := d + 1) (Q := Q') hc hS hC hd (Nat.zero_le m) (Nat.le_refl m) ex ey k
  have sz := hS.2.1
  rw [Nat.sub_zero] at cst0
  have start : ∀ (x3 : Int32) (S' : zS), x3 = J m → (∀ c', c' ≠ cj → S' c' = S c') → JOk S' cj (co h dd 0 m, 0, 0, 0) → zWp shC (KC (d + 3)) kX2_seek 0 Q 34 [some (.ref cj), some (.ref c), some (.int (J dd)), some (.int x3), some (.int 1), none] [] S' := by
    intro x3 S' e3 k1 hJ
    subst e3
    exact loop1 m 1 _ _ S' (by omega) (by omega) rfl k1 hJ
  simp only [jsp, List.mem_cons, Prod.mk.injEq, List.not_mem_nil, or_false] at hjs
  rcases hjs with ⟨rfl, rfl, rfl, rfl, rfl⟩ | ⟨rfl, rfl, rfl, rfl, rfl⟩
  all_goals
    refine eX2_seek (zRun_wp [34, 101] 80 ?_)
    refine cst0 rfl sz ?_
    refine ⟨rfl, fun e => absurd e (by decide), rfl, fun e => absurd e (by decide), rfl, fun e => absurd e (by decide), rfl, fun e => absurd e (by decide), ?_⟩
    refine start _ _ sz (fun c' hc => ?_) ?_
    · rw [zu_same hc, zu_same hc, zu_same hc, zu_same hc]
    · refine ⟨?_, ?_, ?_, ?_⟩ <;> simp [zu_r] <;> rfl
end seek
