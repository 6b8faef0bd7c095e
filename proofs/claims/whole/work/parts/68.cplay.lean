/-! the class's Player -/
def PlE (S : zS) (b : Nat → Int) : List En → Prop
  | [] => True
  | (p, c, _) :: t => S 18 t.length = J (od b p).length ∧ S 19 t.length = J (if c = -1 then -1 else ((od b c.toNat).length : Int)) ∧ PlE S b t
def jst (b : Nat → Int) (m : Int × Int × Int) : Nat := if m.1 = -1 then 0 else (od b m.1.toNat).length
def jen (b : Nat → Int) (m : Int × Int × Int) : Nat := if m.2.1 = -1 then 0 else (od b m.2.1.toNat).length
/-- so many are played -/
def OrC (S : zS) (l : List Nat) : Prop := l.length ≤ 640 ∧ S 16 1 = J l.length ∧ ∀ k, k < l.length → S 17 k = J (l.getD k 0)
def PlC (S : zS) (b : Nat → Int) (i : Nat) : Prop := OrC S (od b i) ∧ S 16 4 = J (gst b i).1.length ∧ S 16 5 = J (jst b (gst b i).2) ∧ S 16 6 = J (jen b (gst b i).2) ∧ PlE S b (gst b i).1
theorem PlE_keep {S S' : zS} {b : Nat → Int} : ∀ {l : List En}, PlE S b l → (∀ k, k < l.length → S' 18 k = S 18 k ∧ S' 19 k = S 19 k) → PlE S' b l := by
  intro l
  induction l with
  | nil => intro _ _; trivial
  | cons e t ih =>
    obtain ⟨p, c, q⟩ := e
    intro h k
    have k0 := k t.length (by simp)
    exact ⟨by rw [k0.1]; exact h.1, by rw [k0.2]; exact h.2.1, ih h.2.2 (fun j hj => k j (by simp; omega))⟩
section cplay
variable {d : Nat} {S : zS} {Q : Option Value → zS → Prop} {b : Nat → Int} {i : Nat}
theorem v_playBar {l : List Nat} {r : Nat} {x : Int32} (ex : x = J r) (ho : OrC S l) (hl : l.length < 640) (hq : ∀ S', (∀ c, c ≠ 16 → c ≠ 17 → S' c = S c) → (∀ k, k ≠ 1 → S' 16 k = S 16 k) → OrC S' (l ++ [r]) → Q none S') : KC (d + 1) mX4_playBar [.ref 16, .int x] S Q := by
  subst ex
  obtain ⟨-, o1, o2⟩ := ho
  have ix : (S 16 1).toNatClampNeg = l.length := by rw [o1]; simp (disch := omega) only [J_lit, J_neg, J_add, J_sub, J_mul, J_nI, J_le, J_lt, J_eq, J_in, J_nat]; omega
  have inn : vp_in (S 16 1) 640 := by rw [o1]; simp (disch := omega) only [J_lit, J_neg, J_add, J_sub, J_mul, J_nI, J_le, J_lt, J_eq, J_in, J_nat]; omega
  refine eX4_playBar (zRun_wp [] 60 ?_)
  refine ⟨fun w => ?_, fun _ => ?_⟩
  · rw [o1] at w
    simp (disch := omega) only [J_lit, J_neg, J_add, J_sub, J_mul, J_nI, J_le, J_lt, J_eq, J_in, J_nat] at w
    omega
  refine ⟨inn, rfl, fun e => absurd e (by decide), ?_⟩
  rw [ix]
  refine hq _ (fun c c1 c2 => by rw [zu_same c1, zu_same c2]) (fun k hk => by simp only [zu_r, if_true]; rw [if_neg hk, if_neg (by decide)]) ⟨?_, ?_, fun k hk => ?_⟩
  · rw [List.length_append, List.length_singleton]; omega
  · rw [List.length_append, List.length_singleton]
    simp only [zu_r, if_true]
    rw [if_neg (by decide), o1]
    simp only [J_lit, J_neg, J_add, J_sub, J_mul, J_nI]; congr 1
  · rw [List.length_append, List.length_singleton] at hk
    rw [getD_app hk, zu_same (by decide)]
    simp only [zu_r, if_true]
    by_cases e : k = l.length
    · rw [if_pos e, if_pos e]
    · rw [if_neg e, if_neg e]
      exact o2 k (by omega)
theorem getD_cat {l r : List Nat} {k : Nat} : (l ++ r).getD k 0 = if k < l.length then l.getD k 0 else r.getD (k - l.length) 0 := by
  simp only [List.getD_eq_getElem?_getD]
  split
  · rename_i h; rw [List.getElem?_append_left h]
  · rename_i h; rw [List.getElem?_append_right (by omega)]
theorem getD_cutl {l : List Nat} {f t k : Nat} (h : k < t - f) (ht : t ≤ l.length) : ((l.take t).drop f).getD k 0 = l.getD (f + k) 0 := by
  simp only [List.getD_eq_getElem?_getD]
  rw [List.getElem?_drop, List.getElem?_take_of_lt (by omega)]
theorem v_once {l : List Nat} {f t : Nat} {x y : Int32} (ex : x = J f) (ey : y = J t) (ho : OrC S l) (hft : f ≤ t) (htl : t ≤ l.length) (hl : l.length + (t - f) ≤ 640) (hq : ∀ S', (∀ c, c ≠ 16 → c ≠ 17 → S' c = S c) → (∀ k, k ≠ 1 → S' 16 k = S 16 k) → OrC S' (l ++ (l.take t).drop f) → Q none S') : KC (d + 1) mX4_playOnceMore [.ref 16, .int x, .int y] S Q := by
  subst ex ey
  obtain ⟨-, o1, o2⟩ := ho
  have e1 : (J f).toNatClampNeg = f := by simp (disch := omega) only [J_lit, J_neg, J_add, J_sub, J_mul, J_nI, J_le, J_lt, J_eq, J_in, J_nat]; omega
  have e2 : (S 16 1).toNatClampNeg = l.length := by rw [o1]; simp (disch := omega) only [J_lit, J_neg, J_add, J_sub, J_mul, J_nI, J_le, J_lt, J_eq, J_in, J_nat]; omega
  have e3 : (J t - J f).toNatClampNeg = t - f := by simp (disch := omega) only [J_lit, J_neg, J_add, J_sub, J_mul, J_nI, J_le, J_lt, J_eq, J_in, J_nat]; omega
  refine eX4_playOnceMore (zRun_wp [] 60 ?_)
  refine ⟨fun w => ?_, fun _ => ⟨fun w => ?_, fun _ => ⟨fun w => ?_, fun _ => ⟨fun w => ?_, fun _ => ?_⟩⟩⟩⟩
  · simp (disch := omega) only [J_lit, J_neg, J_add, J_sub, J_mul, J_nI, J_le, J_lt, J_eq, J_in, J_nat] at w
    omega
  · simp (disch := omega) only [J_lit, J_neg, J_add, J_sub, J_mul, J_nI, J_le, J_lt, J_eq, J_in, J_nat] at w
    omega
  · rw [o1] at w
    simp (disch := omega) only [J_lit, J_neg, J_add, J_sub, J_mul, J_nI, J_le, J_lt, J_eq, J_in, J_nat] at w
    omega
  · rw [o1] at w
    simp (disch := omega) only [J_lit, J_neg, J_add, J_sub, J_mul, J_nI, J_le, J_lt, J_eq, J_in, J_nat] at w
    omega
  refine ⟨by simp (disch := omega) only [J_lit, J_neg, J_add, J_sub, J_mul, J_nI, J_le, J_lt, J_eq, J_in, J_nat]; omega, by rw [o1]; simp (disch := omega) only [J_lit, J_neg, J_add, J_sub, J_mul, J_nI, J_le, J_lt, J_eq, J_in, J_nat]; omega, by simp (disch := omega) only [J_lit, J_neg, J_add, J_sub, J_mul, J_nI, J_le, J_lt, J_eq, J_in, J_nat]; omega, by rw [e1, e3]; omega, by rw [e2, e3]; omega, rfl, fun e => absurd e (by decide), ?_⟩
  rw [e1, e2, e3]
  have len : (l ++ (l.take t).drop f).length = l.length + (t - f) := by
    rw [List.length_append, List.length_drop, List.length_take, Nat.min_eq_left htl]
  refine hq _ (fun c c1 c2 => by rw [zu_same c1, zcp_same c2]) (fun k hk => by simp only [zu_r, if_true]; rw [if_neg hk, zcp_same (by decide)]) ⟨?_, ?_, fun k hk => ?_⟩
  · rw [len]; exact hl
  · rw [len]
    simp only [zu_r, if_true]
    rw [zcp_same (by decide), o1]
    simp only [J_lit, J_neg, J_add, J_sub, J_mul, J_nI]; congr 1; omega
  · rw [len] at hk
    rw [zu_same (by decide), getD_cat]
    unfold zcp va_cpy
    rw [if_pos rfl]
    show (if l.length ≤ k ∧ k < l.length + (t - f) then S 17 (f + (k - l.length)) else S 17 k) = _
    by_cases c : k < l.length
    · rw [if_neg (by omega), if_pos c]; exact o2 k c
    · rw [if_pos (by omega), if_neg c, getD_cutl (by omega) htl]; exact o2 _ (by omega)
set_option maxHeartbeats 2000000 in
theorem v_obey (hP : PlC S b i) (hA : Acc b (i + 1)) (hb : sgz (b i)) (hi : i < 40)
    (hq : ∀ S', (∀ c, c ≠ 16 → c ≠ 17 → c ≠ 18 → c ≠ 19 → S' c = S c) → PlC S' b (i + 1) → Q none S') : KC (d + 2) mX4_obey [.ref 16, .int (J (b i))] S Q := by
  obtain ⟨po, p1, p2, p3, p4⟩ := hP
  have hA' := Acc_le hA (show i ≤ i + 1 by omega)
  have hlen := gst_len i hA'
  have bound := od_640 (b := b) (n := 40) (Nat.le_refl _) (i + 1) (by omega) hA
  have ho := po
  obtain ⟨o0, o1, o2⟩ := ho
  obtain ⟨r1, r2⟩ := rsn_0 (hA i (by omega))
  have hH := HS_all i hA'
  have hM := MK_all i hA'
  have fin : ∀ x2 : Int32, x2 = J ((gst b i).1.length - 1 : Int) → ∀ x3 : Int32, x3 = bb (0 < (gst b i).1.length) → zWp shC (KC (d + 1)) kX4_obey 0 Q 22 [some (.ref 16), some (.int (J (b i))), some (.int x2), some (.int x3)] [] S := by
    intro x2 ex2 x3 ex3
    subst ex2
    refine zRun_wp [] 100 ?_
    rcases r2 with r2 | ⟨r2, -⟩ | ⟨r2, r3⟩ | ⟨-, ⟨p, c, q, t, e, f⟩ | ⟨e, f⟩⟩
    · exfalso; omega
    · exfalso; omega
    · -- [
      have g := gst_open r2
      have od' : od b (i + 1) = od b i := od_oth (by omega) (by omega) (by omega) (by omega)
      rw [r2]
      refine ⟨fun w => absurd rfl w, fun _ => ?_⟩
      have ix : (S 16 4).toNatClampNeg = (gst b i).1.length := by rw [p1]; simp (disch := omega) only [J_lit, J_neg, J_add, J_sub, J_mul, J_nI, J_le, J_lt, J_eq, J_in, J_nat]; omega
      have inn : vp_in (S 16 4) 3 := by rw [p1]; simp (disch := omega) only [J_lit, J_neg, J_add, J_sub, J_mul, J_nI, J_le, J_lt, J_eq, J_in, J_nat]; omega
      refine eX4_openRepeat (zRun_wp [] 60 ?_)
      refine ⟨fun w => ?_, fun _ => ?_⟩
      · rw [p1] at w
        simp (disch := omega) only [J_lit, J_neg, J_add, J_sub, J_mul, J_nI, J_le, J_lt, J_eq, J_in, J_nat] at w
        omega
      refine ⟨inn, inn, rfl, fun e => absurd e (by decide), ?_⟩
      rw [show (zu S 18 (S 16 4).toNatClampNeg (S 16 1)) 16 4 = S 16 4 from rfl, ix]
      refine hq _ (fun c c1 c2 c3 c4 => by rw [zu_same c1, zu_same c4, zu_same c3]) ⟨?_, ?_, ?_, ?_, ?_⟩
      · rw [od']
        refine ⟨o0, ?_, fun k hk => ?_⟩
        · simp only [zu_r, if_true]
          exact o1
        · rw [zu_same (by decide), zu_same (by decide), zu_same (by decide)]; exact o2 k hk
      · rw [g]
        simp only [zu_r, if_true, List.length_cons]
        rw [if_neg (by decide), if_neg (by decide), p1]
        simp only [J_lit, J_neg, J_add, J_sub, J_mul, J_nI]; congr 1
      · rw [g]
        simp only [zu_r, if_true]
        exact p2
      · rw [g]
        simp only [zu_r, if_true]
        exact p3
      · rw [g]
        refine ⟨?_, ?_, ?_⟩
        · rw [zu_same (by decide), zu_same (by decide)]
          simp only [zu_r, if_true]
          exact o1
        · rw [zu_same (by decide)]
          simp only [zu_r, if_true]
          rfl
        · refine PlE_keep p4 (fun j hj => ⟨?_, ?_⟩)
          · rw [zu_same (by decide), zu_same (by decide)]
            simp only [zu_r, if_true]
            rw [if_neg (by omega)]
          · rw [zu_same (by decide)]
            simp only [zu_r, if_true]
            rw [if_neg (by omega), if_neg (by decide)]
    · rw [e] at hH p4
      have e1 := e
      obtain ⟨⟨a1, a2, a3, a4, a5, a6, a7⟩, -⟩ := hH
      obtain ⟨q1, q2, q3⟩ := p4
      rw [e, List.length_cons] at p1 hlen ex3 ⊢
      have ex3' : x3 = 1 := by rw [ex3]; exact bb_t (by omega)
      subst ex3'
      have ix : (J ((t.length + 1 : Nat) - 1 : Int)).toNatClampNeg = t.length := by simp (disch := omega) only [J_lit, J_neg, J_add, J_sub, J_mul, J_nI, J_le, J_lt, J_eq, J_in, J_nat]; omega
      have inn : vp_in (J ((t.length + 1 : Nat) - 1 : Int)) 3 := by simp (disch := omega) only [J_lit, J_neg, J_add, J_sub, J_mul, J_nI, J_le, J_lt, J_eq, J_in, J_nat]; omega
      rcases f with ⟨z, fc⟩ | ⟨z, fc, fqq⟩ | ⟨z, fz⟩
      · -- :
        have g := gst_col z
        rw [e] at g
        have gg1 : (gst b (i + 1)).1 = (p, (i : Int), q) :: t := by rw [g]; rfl
        have gg2 : (gst b (i + 1)).2 = (gst b i).2 := by rw [g]
        have od' : od b (i + 1) = od b i := od_oth (by omega) (by omega) (by omega) (by omega)
        rw [z]
        refine ⟨fun _ => ?_, fun w => absurd w (by decide)⟩
        refine ⟨fun w => absurd rfl w, fun _ => ?_⟩
        refine ⟨fun w => absurd w (by decide), fun _ => ?_⟩
        refine ⟨inn, ?_⟩
        rw [ix]
        refine hq _ (fun c c1 c2 c3 c4 => by rw [zu_same c4]) ⟨?_, ?_, ?_, ?_, ?_⟩
        · rw [od']
          refine ⟨o0, ?_, fun k hk => ?_⟩
          · rw [zu_same (by decide)]; exact o1
          · rw [zu_same (by decide)]; exact o2 k hk
        · rw [gg1, List.length_cons, zu_same (by decide)]; exact p1
        · rw [gg2, zu_same (by decide)]; exact p2
        · rw [gg2, zu_same (by decide)]; exact p3
        · rw [gg1]
          refine ⟨?_, ?_, ?_⟩
          · rw [zu_same (by decide)]; exact q1
          · simp only [zu_r, if_true]
            rw [if_neg (by omega), Int.toNat_natCast]
            exact o1
          · refine PlE_keep q3 (fun j hj => ⟨?_, ?_⟩)
            · rw [zu_same (by decide)]
            · simp only [zu_r, if_true]
              rw [if_neg (by omega)]
      · -- ;
        have g := gst_sem z
        rw [e] at g
        have gg1 : (gst b (i + 1)).1 = (p, c, (i : Int)) :: t := by rw [g]; rfl
        have gg2 : (gst b (i + 1)).2 = (gst b i).2 := by rw [g]
        rcases a7 with a7 | ⟨c', h1, h2, h3, -⟩
        · exact absurd a7.1 fc
        subst h1
        rw [if_neg fc, Int.toNat_natCast] at q2
        have od' := od_sem z e1 (by omega) (by omega)
        have l1 := od_len (b := b) (i := p) (j := c') (by omega)
        have l2 := od_len (b := b) (i := c') (j := i) (by omega)
        rw [od', List.length_append, List.length_drop, List.length_take, Nat.min_eq_left l2] at bound
        rw [z]
        refine ⟨fun _ => ?_, fun w => absurd w (by decide)⟩
        refine ⟨fun _ => ?_, fun w => absurd w (by decide)⟩
        refine ⟨fun w => absurd rfl w, fun _ => ?_⟩
        refine ⟨fun w => absurd w (by decide), fun _ => ?_⟩
        refine ⟨inn, inn, ?_⟩
        refine v_once (f := (od b p).length) (t := (od b c').length) (by rw [ix]; exact q1) (by rw [ix]; exact q2) po l1 l2 (by omega) (fun S' k1 k2 k3 => ?_)
        refine hq S' (fun c c1 c2 c3 c4 => k1 c c1 c2) ⟨by rw [od']; exact k3, ?_, ?_, ?_, ?_⟩
        · rw [gg1, List.length_cons, k2 4 (by decide)]; exact p1
        · rw [gg2, k2 5 (by decide)]; exact p2
        · rw [gg2, k2 6 (by decide)]; exact p3
        · rw [gg1]
          refine ⟨?_, ?_, ?_⟩
          · rw [k1 18 (by decide) (by decide)]; exact q1
          · rw [k1 19 (by decide) (by decide), if_neg fc, Int.toNat_natCast]; exact q2
          · exact PlE_keep q3 (fun j hj => by rw [k1 18 (by decide) (by decide), k1 19 (by decide) (by decide)]; exact ⟨rfl, rfl⟩)
      · -- ]
        have g := gst_shut z
        rw [e] at g
        have gg1 : (gst b (i + 1)).1 = t := by rw [g]; rfl
        have gg2 : (gst b (i + 1)).2 = (gst b i).2 := by rw [g]
        have last : ∀ S' : zS, (∀ c, c ≠ 16 → c ≠ 17 → S' c = S c) → (∀ k, k ≠ 1 → S' 16 k = S 16 k) → OrC S' (od b (i + 1)) → Q none (zu S' 16 4 (S' 16 4 - 1)) := by
          intro S' k1 k2 k3
          refine hq _ (fun c c1 c2 c3 c4 => by rw [zu_same c1]; exact k1 c c1 c2) ⟨⟨k3.1, ?_, fun k hk => ?_⟩, ?_, ?_, ?_, ?_⟩
          · simp only [zu_r, if_true]
            exact k3.2.1
          · rw [zu_same (by decide)]; exact k3.2.2 k hk
          · rw [gg1]
            simp only [zu_r, if_true]
            rw [k2 4 (by decide), p1]; simp only [J_lit, J_neg, J_add, J_sub, J_mul, J_nI]; congr 1; omega
          · rw [gg2]
            simp only [zu_r, if_true]
            rw [if_neg (by decide), k2 5 (by decide)]; exact p2
          · rw [gg2]
            simp only [zu_r, if_true]
            rw [if_neg (by decide), k2 6 (by decide)]; exact p3
          · rw [gg1]
            exact PlE_keep q3 (fun j hj => by rw [zu_same (by decide), zu_same (by decide), k1 18 (by decide) (by decide), k1 19 (by decide) (by decide)]; exact ⟨rfl, rfl⟩)
        rw [z]
        refine ⟨fun _ => ?_, fun w => absurd w (by decide)⟩
        refine ⟨fun _ => ?_, fun w => absurd w (by decide)⟩
        refine ⟨fun _ => ?_, fun w => absurd w (by decide)⟩
        refine ⟨fun w => absurd rfl w, fun _ => ?_⟩
        refine ⟨fun w => absurd w (by decide), fun _ => ?_⟩
        refine ⟨inn, ?_⟩
        by_cases cc : c = -1
        · subst cc
          rw [if_pos rfl] at q2
          have od' := od_sh1 z e1 (by omega)
          have l1 := od_len (b := b) (i := p) (j := i) (by omega)
          rw [od', List.length_append, List.length_drop] at bound
          refine ⟨fun w => ?_, fun _ => ?_⟩
          · rw [ix] at w
            exact absurd q2 w
          refine ⟨inn, ?_⟩
          refine v_once (f := (od b p).length) (t := (od b i).length) (by rw [ix]; exact q1) o1 po l1 (Nat.le_refl _) (by omega) (fun S' k1 k2 k3 => ?_)
          refine ⟨rfl, fun e => absurd e (by decide), ?_⟩
          refine last S' k1 k2 ?_
          rw [od']
          rw [List.take_length] at k3
          exact k3
        · rw [if_neg cc] at q2
          have od' := od_sh2 z e1 cc
          refine ⟨fun _ => ?_, fun w => ?_⟩
          · refine ⟨rfl, fun e => absurd e (by decide), ?_⟩
            refine last S (fun _ _ _ => rfl) (fun _ _ => rfl) ?_
            rw [od']; exact po
          · exfalso
            rw [ix, q2, show (-1 : Int32) = J (-1) from rfl] at w
            have : (od b c.toNat).length ≤ 640 := by
              rcases a7 with a7 | ⟨c', h1, h2, h3, -⟩
              · exact absurd a7.1 cc
              · subst h1
                rw [Int.toNat_natCast]
                exact od_640 (n := 40) (Nat.le_refl _) c' (by omega) (Acc_le hA (by omega))
            simp (disch := omega) only [J_lit, J_neg, J_add, J_sub, J_mul, J_nI, J_le, J_lt, J_eq, J_in, J_nat] at w
            omega
    · have e1 := e
      rw [e] at p1 p4 ex3 ⊢
      have nl : ¬ letr (b i) := by rcases f with ⟨z, -⟩ | ⟨z, -⟩ | ⟨z, -⟩ <;> omega
      have ex3' : x3 = 0 := by rw [ex3]; exact bb_f (by decide)
      subst ex3'
      rcases f with ⟨z, f1, f2⟩ | ⟨z, f1⟩ | ⟨z, f1, f2⟩
      · -- %
        have g := gst_pct z
        have od' : od b (i + 1) = od b i := od_oth nl (by omega) (by omega) (by omega)
        rw [z]
        refine ⟨fun _ => ?_, fun w => absurd w (by decide)⟩
        refine ⟨fun _ => ?_, fun w => absurd w (by decide)⟩
        refine ⟨fun _ => ?_, fun w => absurd w (by decide)⟩
        refine ⟨fun _ => ?_, fun w => absurd w (by decide)⟩
        refine ⟨fun w => absurd rfl w, fun _ => ?_⟩
        refine ⟨rfl, fun e => absurd e (by decide), ?_⟩
        refine hq _ (fun c c1 c2 c3 c4 => by rw [zu_same c1]) ⟨⟨by rw [od']; exact o0, ?_, fun k hk => ?_⟩, ?_, ?_, ?_, ?_⟩
        · rw [od']
          simp only [zu_r, if_true]
          exact o1
        · rw [od'] at hk ⊢
          rw [zu_same (by decide)]; exact o2 k hk
        · rw [g]
          simp only [zu_r, if_true]
          rw [if_neg (by decide), e]; exact p1
        · rw [g]
          simp only [zu_r, if_true]
          unfold jst
          rw [if_neg (by show ¬ (i : Int) = -1; omega)]
          show _ = J ((od b (i : Int).toNat).length : Int)
          rw [Int.toNat_natCast]; exact o1
        · rw [g]
          simp only [zu_r, if_true]
          rw [if_neg (by decide)]
          exact p3
        · rw [g, e]; trivial
      · -- !
        have g := gst_bng z
        have od' : od b (i + 1) = od b i := od_oth nl (by omega) (by omega) (by omega)
        rw [z]
        refine ⟨fun _ => ?_, fun w => absurd w (by decide)⟩
        refine ⟨fun _ => ?_, fun w => absurd w (by decide)⟩
        refine ⟨fun _ => ?_, fun w => absurd w (by decide)⟩
        refine ⟨fun _ => ?_, fun w => absurd w (by decide)⟩
        refine ⟨fun _ => ?_, fun w => absurd w (by decide)⟩
        refine ⟨fun w => absurd rfl w, fun _ => ?_⟩
        refine ⟨rfl, fun e => absurd e (by decide), ?_⟩
        refine hq _ (fun c c1 c2 c3 c4 => by rw [zu_same c1]) ⟨⟨by rw [od']; exact o0, ?_, fun k hk => ?_⟩, ?_, ?_, ?_, ?_⟩
        · rw [od']
          simp only [zu_r, if_true]
          exact o1
        · rw [od'] at hk ⊢
          rw [zu_same (by decide)]; exact o2 k hk
        · rw [g]
          simp only [zu_r, if_true]
          rw [if_neg (by decide), e]; exact p1
        · rw [g]
          simp only [zu_r, if_true]
          rw [if_neg (by decide)]
          exact p2
        · rw [g]
          simp only [zu_r, if_true]
          unfold jen
          rw [if_neg (by show ¬ (i : Int) = -1; omega)]
          show _ = J ((od b (i : Int).toNat).length : Int)
          rw [Int.toNat_natCast]; exact o1
        · rw [g, e]; trivial
      · -- $
        have g := gst_dol z
        obtain ⟨m1, m2, -⟩ := hM
        rcases m2 with m2 | ⟨B, b1, b2, b3, -⟩
        · exact absurd m2 f1
        have hP : (gst b i).2.1 = -1 ∨ (gst b i).2.1.toNat ≤ i := by
          rcases m1 with m1 | ⟨P, w1, w2, -⟩
          · exact Or.inl m1
          · exact Or.inr (by rw [w1, Int.toNat_natCast]; omega)
        have od' := od_dol z b1 (by omega) hP
        have ej : jen b (gst b i).2 = (od b B).length := by
          unfold jen; rw [if_neg f1, b1, Int.toNat_natCast]
        have es : jst b (gst b i).2 = (if (gst b i).2.1 = -1 then 0 else (od b (gst b i).2.1.toNat).length) := rfl
        rw [← es] at od'
        have l2 := od_len (b := b) (i := B) (j := i) (by omega)
        have l1 : jst b (gst b i).2 ≤ (od b B).length := by
          unfold jst
          split
          · omega
          · rcases m1 with m1 | ⟨P, w1, w2, -⟩
            · contradiction
            · rw [w1, Int.toNat_natCast]
              exact od_len (by omega)
        rw [od', List.length_append, List.length_drop, List.length_take, Nat.min_eq_left l2] at bound
        rw [ej] at p3
        rw [z]
        refine ⟨fun _ => ?_, fun w => absurd w (by decide)⟩
        refine ⟨fun _ => ?_, fun w => absurd w (by decide)⟩
        refine ⟨fun _ => ?_, fun w => absurd w (by decide)⟩
        refine ⟨fun _ => ?_, fun w => absurd w (by decide)⟩
        refine ⟨fun _ => ?_, fun w => absurd w (by decide)⟩
        refine ⟨fun _ => ?_, fun w => absurd w (by decide)⟩
        refine ⟨fun w => absurd rfl w, fun _ => ?_⟩
        refine v_once (f := jst b (gst b i).2) (t := (od b B).length) p2 p3 po l1 l2 (by omega) (fun S' k1 k2 k3 => ?_)
        refine hq S' (fun c c1 c2 c3 c4 => k1 c c1 c2) ⟨by rw [od']; exact k3, ?_, ?_, ?_, ?_⟩
        · rw [g, k2 4 (by decide), e]; exact p1
        · rw [g, k2 5 (by decide)]; exact p2
        · rw [g, k2 6 (by decide)]
          rw [← ej] at p3
          exact p3
        · rw [g, e]; trivial
  have start : ∀ x2 : Int32, x2 = J ((gst b i).1.length - 1 : Int) → zWp shC (KC (d + 1)) kX4_obey 0 Q 7 [some (.ref 16), some (.int (J (b i))), some (.int x2), none] [] S := by
    intro x2 ex
    subst ex
    refine zRun_wp [22] 60 ?_
    refine ⟨fun w => ?_, fun w => ?_⟩ <;> simp (disch := omega) only [J_lit, J_neg, J_add, J_sub, J_mul, J_nI, J_le, J_lt, J_eq, J_in, J_nat] at w
    · exact fin _ rfl _ (bb_f (by omega)).symm
    refine ⟨fun w2 => ?_, fun w2 => ?_⟩ <;> simp (disch := omega) only [J_lit, J_neg, J_add, J_sub, J_mul, J_nI, J_le, J_lt, J_eq, J_in, J_nat] at w2
    · omega
    · exact fin _ rfl _ (bb_t (by omega)).symm
  refine eX4_obey (zRun_wp [7] 60 ?_)
  refine start _ ?_
  rw [p1]; simp only [J_lit, J_neg, J_add, J_sub, J_mul, J_nI]
end cplay
