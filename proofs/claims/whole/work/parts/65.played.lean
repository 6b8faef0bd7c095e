/-! the bars as they are played, as soon as a sign comes -/
def odn (z : Int) (r : Nat) (s : Gs) (f : Nat → List Nat) (l : List Nat) : List Nat :=
  if letr z then l ++ [r]
  else if z = 59 then (match s.1 with | (p, c, _) :: _ => l ++ (l.take (f c.toNat).length).drop (f p).length | [] => l)
  else if z = 93 then (match s.1 with | (p, c, _) :: _ => if c = -1 then l ++ l.drop (f p).length else l | [] => l)
  else if z = 36 then l ++ (l.take (f s.2.2.1.toNat).length).drop (if s.2.1 = -1 then 0 else (f s.2.1.toNat).length)
  else l
def oh (b : Nat → Int) : Nat → Nat → List Nat
  | 0 => fun _ => []
  | i + 1 => upF (oh b i) (i + 1) (odn (b i) (rm b i) (gst b i) (oh b i) (oh b i i))
def od (b : Nat → Int) (i : Nat) : List Nat := oh b i i
theorem oh_eq (b : Nat → Int) : ∀ i k, k ≤ i → oh b i k = od b k := by
  intro i
  induction i with
  | zero => intro k hk; have : k = 0 := by omega
            subst this; rfl
  | succ i ih =>
    intro k hk
    by_cases e : k = i + 1
    · subst e; rfl
    · show upF (oh b i) (i + 1) _ k = _
      rw [upF_n e]; exact ih k (by omega)
theorem od_s (b : Nat → Int) (i : Nat) : od b (i + 1) = odn (b i) (rm b i) (gst b i) (oh b i) (od b i) := by
  show upF (oh b i) (i + 1) _ (i + 1) = _
  rw [upF_s]; rfl
theorem od_0 (b : Nat → Int) : od b 0 = [] := rfl
theorem od_let {b : Nat → Int} {i : Nat} (h : letr (b i)) : od b (i + 1) = od b i ++ [rm b i] := by
  rw [od_s]; unfold odn; rw [if_pos h]
theorem od_oth {b : Nat → Int} {i : Nat} (h : ¬ letr (b i)) (h1 : b i ≠ 59) (h2 : b i ≠ 93) (h3 : b i ≠ 36) : od b (i + 1) = od b i := by
  rw [od_s]; unfold odn; rw [if_neg h, if_neg h1, if_neg h2, if_neg h3]
theorem od_sem {b : Nat → Int} {i p c' : Nat} {q : Int} {t : List En} (h : b i = 59) (e : (gst b i).1 = (p, (c' : Int), q) :: t) (hp : p ≤ i) (hc : c' ≤ i) : od b (i + 1) = od b i ++ ((od b i).take (od b c').length).drop (od b p).length := by
  rw [od_s]; unfold odn; rw [if_neg (by omega), if_pos h, e]
  dsimp only
  rw [Int.toNat_natCast, oh_eq b i c' hc, oh_eq b i p hp]
theorem od_sh1 {b : Nat → Int} {i p : Nat} {q : Int} {t : List En} (h : b i = 93) (e : (gst b i).1 = (p, -1, q) :: t) (hp : p ≤ i) : od b (i + 1) = od b i ++ (od b i).drop (od b p).length := by
  rw [od_s]; unfold odn; rw [if_neg (by omega), if_neg (by omega), if_pos h, e]
  dsimp only
  rw [if_pos rfl, oh_eq b i p hp]
theorem od_sh2 {b : Nat → Int} {i p : Nat} {c q : Int} {t : List En} (h : b i = 93) (e : (gst b i).1 = (p, c, q) :: t) (hc : c ≠ -1) : od b (i + 1) = od b i := by
  rw [od_s]; unfold odn; rw [if_neg (by omega), if_neg (by omega), if_pos h, e]
  dsimp only
  rw [if_neg hc]
theorem od_dol {b : Nat → Int} {i B : Nat} (h : b i = 36) (e : (gst b i).2.2.1 = (B : Int)) (hB : B ≤ i) (hP : (gst b i).2.1 = -1 ∨ (gst b i).2.1.toNat ≤ i) : od b (i + 1) = od b i ++ ((od b i).take (od b B).length).drop (if (gst b i).2.1 = -1 then 0 else (od b (gst b i).2.1.toNat).length) := by
  rw [od_s]; unfold odn; rw [if_neg (by omega), if_neg (by omega), if_neg (by omega), if_pos h, e, Int.toNat_natCast, oh_eq b i B hB]
  by_cases c : (gst b i).2.1 = -1
  · rw [if_pos c, if_pos c]
  · rw [if_neg c, if_neg c, oh_eq b i _ (by omega)]
theorem od_ext (b : Nat → Int) (i : Nat) : ∃ t, od b (i + 1) = od b i ++ t := by
  rw [od_s]; unfold odn
  split
  · exact ⟨_, rfl⟩
  split
  · split
    · exact ⟨_, rfl⟩
    · exact ⟨[], by simp⟩
  split
  · split
    · split
      · exact ⟨_, rfl⟩
      · exact ⟨[], by simp⟩
    · exact ⟨[], by simp⟩
  split
  · exact ⟨_, rfl⟩
  · exact ⟨[], by simp⟩
theorem od_pre (b : Nat → Int) {i j : Nat} (h : i ≤ j) : ∃ t, od b j = od b i ++ t := by
  induction j with
  | zero => have : i = 0 := by omega
            subst this; exact ⟨[], by simp⟩
  | succ j ih =>
    by_cases e : i = j + 1
    · subst e; exact ⟨[], by simp⟩
    · obtain ⟨t, h1⟩ := ih (by omega)
      obtain ⟨u, h2⟩ := od_ext b j
      exact ⟨t ++ u, by rw [h2, h1, List.append_assoc]⟩
/-- what is played between two places -/
def seg (b : Nat → Int) (i j : Nat) : List Nat := (od b j).drop (od b i).length
theorem od_seg {b : Nat → Int} {i j : Nat} (h : i ≤ j) : od b j = od b i ++ seg b i j := by
  obtain ⟨t, e⟩ := od_pre b h
  unfold seg
  rw [e, List.drop_left]
theorem od_len {b : Nat → Int} {i j : Nat} (h : i ≤ j) : (od b i).length ≤ (od b j).length := by
  rw [od_seg h, List.length_append]; omega
theorem seg_refl (b : Nat → Int) (i : Nat) : seg b i i = [] := by
  unfold seg; exact List.drop_length
theorem seg_tr {b : Nat → Int} {i j k : Nat} (h1 : i ≤ j) (h2 : j ≤ k) : seg b i k = seg b i j ++ seg b j k := by
  have e := od_seg (b := b) (Nat.le_trans h1 h2)
  rw [od_seg h2, od_seg h1, List.append_assoc] at e
  exact (List.append_cancel_left e).symm
theorem seg_of {b : Nat → Int} {i j : Nat} {t : List Nat} (h : od b j = od b i ++ t) : seg b i j = t := by
  unfold seg; rw [h, List.drop_left]
/-- the first so many of the played -/
theorem od_cut {b : Nat → Int} {p c i : Nat} (h1 : p ≤ c) (h2 : c ≤ i) : ((od b i).take (od b c).length).drop (od b p).length = seg b p c := by
  rw [od_seg h2, List.take_left]; rfl
theorem seg_sem {b : Nat → Int} {i p c' : Nat} {q : Int} {t : List En} (h : b i = 59) (e : (gst b i).1 = (p, (c' : Int), q) :: t) (hp : p ≤ c') (hc : c' ≤ i) : od b (i + 1) = od b i ++ seg b p c' := by
  rw [od_sem h e (by omega) hc, od_cut hp hc]
theorem seg_sh1 {b : Nat → Int} {i p : Nat} {q : Int} {t : List En} (h : b i = 93) (e : (gst b i).1 = (p, -1, q) :: t) (hp : p ≤ i) : od b (i + 1) = od b i ++ seg b p i := od_sh1 h e hp
theorem rm_y {b : Nat → Int} {i : Nat} (h : letr (b i)) : rm b (i + 1) = rm b i + 1 := by rw [rm_s, if_pos h]
theorem rm_n {b : Nat → Int} {i : Nat} (h : ¬ letr (b i)) : rm b (i + 1) = rm b i := by rw [rm_s, if_neg h]; omega
def fh (k : Nat) : Nat := if k = 0 then 4 else if k = 1 then 2 else 1
theorem fh_is (k : Nat) : fh k = 1 ∨ fh k = 2 ∨ fh k = 4 := by
  unfold fh
  split
  · exact Or.inr (Or.inr rfl)
  · split
    · exact Or.inr (Or.inl rfl)
    · exact Or.inl rfl
def fq (q : Int) : Nat := if q = -1 then 1 else 2
/-- at most sixteen times each letter -/
theorem od_bound {b : Nat → Int} : ∀ i, Acc b i → ((gst b i).1 = [] → (od b i).length ≤ (if (gst b i).2.2.2 = -1 then 8 else 16) * rm b i) ∧ ∀ p c q t, (gst b i).1 = (p, c, q) :: t → t.length ≤ 2 ∧ (od b i).length + (fq q * fh t.length) * rm b p ≤ (od b p).length + (fq q * fh t.length) * rm b i := by
  intro i
  induction i using Nat.strongRecOn with
  | _ j ih =>
    intro hA
    cases j with
    | zero => exact ⟨fun _ => by rw [od_0]; simp, fun p c q t e => by cases e⟩
    | succ i =>
      obtain ⟨B1, B2⟩ := ih i (by omega) (Acc_le hA (by omega))
      have hH := HS_all i (Acc_le hA (by omega))
      have hM := MK_all i (Acc_le hA (by omega))
      obtain ⟨r1, r2⟩ := rsn_0 (hA i (by omega))
      rw [if_pos r1] at B1
      have fpos : ∀ (q : Int) (k : Nat), k ≤ 2 → fq q * fh k = 1 ∨ fq q * fh k = 2 ∨ fq q * fh k = 4 ∨ fq q * fh k = 8 := by
        intro q k hk
        have : k = 0 ∨ k = 1 ∨ k = 2 := by omega
        unfold fq
        rcases this with rfl | rfl | rfl <;> split <;> simp [fh]
      rcases r2 with r2 | ⟨r2, -⟩ | ⟨r2, r3⟩ | ⟨-, ⟨p, c, q, t, e, f⟩ | ⟨e, f⟩⟩
      · rw [gst_letter (Or.inl r2), od_let r2, rm_y r2, List.length_append, List.length_singleton]
        refine ⟨fun e => ?_, fun p c q t e => ?_⟩
        · rw [if_pos r1]; have := B1 e; omega
        · obtain ⟨l1, l2⟩ := B2 p c q t e
          refine ⟨l1, ?_⟩
          rcases fpos q t.length l1 with w | w | w | w <;> rw [w] at l2 ⊢ <;> omega
      · rw [gst_letter (Or.inr r2), od_oth (by omega) (by omega) (by omega) (by omega), rm_n (by omega)]
        exact ⟨fun e => by rw [if_pos r1]; exact B1 e, B2⟩
      · rw [gst_open r2, od_oth (by omega) (by omega) (by omega) (by omega), rm_n (by omega)]
        refine ⟨fun e => (by cases e), fun p c q t e => ?_⟩
        injection e with e1 e2
        injection e1 with e3 e4
        subst e2 e3
        exact ⟨by omega, Nat.le_refl _⟩
      · rw [e] at hH
        obtain ⟨⟨a1, a2, a3, a4, a5, a6, a7⟩, ht⟩ := hH
        obtain ⟨l1, l2⟩ := B2 p c q t e
        have mono := rm_mono b (i := p) (j := i) (by omega)
        have mo := od_len (b := b) (i := p) (j := i) (by omega)
        rcases f with ⟨z, fc⟩ | ⟨z, fc, fqq⟩ | ⟨z, fz⟩
        · rw [gst_col z, e, od_oth (by omega) (by omega) (by omega) (by omega), rm_n (by omega)]
          refine ⟨fun e => (by cases e), fun p' c' q' t' e' => ?_⟩
          injection e' with e1 e2
          injection e1 with e3 e4
          injection e4 with e5 e6
          subst e2 e3 e6
          exact ⟨l1, l2⟩
        · rw [gst_sem z, e, rm_n (by omega)]
          refine ⟨fun e => (by cases e), fun p' c' q' t' e' => ?_⟩
          injection e' with e1 e2
          injection e1 with e3 e4
          injection e4 with e5 e6
          subst e2 e3 e6
          refine ⟨l1, ?_⟩
          rcases a7 with a7 | ⟨c'', g1, g2, g3, -⟩
          · exact absurd a7.1 fc
          subst g1
          rw [od_sem z e (by omega) (by omega), List.length_append, List.length_drop, List.length_take]
          have mc := od_len (b := b) (i := c'') (j := i) (by omega)
          have q1 : fq q = 1 := by unfold fq; rw [if_pos fqq]
          have q2 : fq (i : Int) = 2 := by unfold fq; rw [if_neg (by omega)]
          rw [q1] at l2
          rw [q2]
          have : t.length = 0 ∨ t.length = 1 ∨ t.length = 2 := by omega
          rcases this with w | w | w <;> rw [w] at l2 ⊢ <;> simp [fh] at l2 ⊢ <;> omega
        · rw [gst_shut z, e, rm_n (by omega)]
          obtain ⟨P1, P2⟩ := ih p (by omega) (Acc_le hA (by omega))
          have dlp : (gst b p).2.2.2 = -1 := by rw [a6 p (Nat.le_refl _) (by omega)]; exact r1
          rw [a3] at P1 P2
          rw [if_pos dlp] at P1
          have key : (od b (i + 1)).length + 2 * fh t.length * rm b p ≤ (od b p).length + 2 * fh t.length * rm b i := by
            by_cases cc : c = -1
            · subst cc
              have q1 : q = -1 := by
                rcases a7 with a7 | ⟨c'', g1, _⟩
                · exact a7.2
                · omega
              have q1 : fq q = 1 := by unfold fq; rw [if_pos q1]
              rw [od_sh1 z e (by omega), List.length_append, List.length_drop]
              rw [q1] at l2
              have : t.length = 0 ∨ t.length = 1 ∨ t.length = 2 := by omega
              rcases this with w | w | w <;> rw [w] at l2 ⊢ <;> simp [fh] at l2 ⊢ <;> omega
            · have q2 : fq q = 2 := by
                unfold fq; rw [if_neg (by
                  rcases fz with fz | fz
                  · exact absurd fz cc
                  · exact fz)]
              rw [od_sh2 z e cc]
              rw [q2] at l2
              exact l2
          refine ⟨fun et => ?_, fun p' c' q' t' et => ?_⟩
          · have et' : t = [] := et
            subst et'
            rw [if_pos r1]
            have := P1 rfl
            have w : fh ([] : List En).length = 4 := rfl
            rw [w] at key
            omega
          · have et' : t = (p', c', q') :: t' := et
            obtain ⟨s1, s2⟩ := P2 p' c' q' t' et'
            refine ⟨s1, ?_⟩
            have tl : t.length = t'.length + 1 := by rw [et']; rfl
            have dbl : fh t'.length = 2 * fh t.length := by
              rw [tl]
              have : t'.length = 0 ∨ t'.length = 1 := by omega
              rcases this with w | w <;> rw [w] <;> rfl
            rw [← dbl] at key
            have mp := rm_mono b (i := p) (j := i) (by omega)
            have vq : fq q' = 1 ∨ fq q' = 2 := by unfold fq; split <;> simp
            have vw : fh t'.length = 1 ∨ fh t'.length = 2 ∨ fh t'.length = 4 := fh_is _
            rcases vw with w | w | w <;> rw [w] at key s2 ⊢ <;> rcases vq with v | v <;> rw [v] at s2 ⊢ <;> omega
      · have nl : ¬ letr (b i) := by rcases f with ⟨z, -⟩ | ⟨z, -⟩ | ⟨z, -⟩ <;> omega
        have B1' := B1 e
        rw [rm_n nl]
        rcases f with ⟨z, f1, f2⟩ | ⟨z, f1⟩ | ⟨z, f1, f2⟩
        · rw [gst_pct z, od_oth nl (by omega) (by omega) (by omega), e]
          exact ⟨fun _ => by rw [if_pos r1]; exact B1', fun p c q t e => by cases e⟩
        · rw [gst_bng z, od_oth nl (by omega) (by omega) (by omega), e]
          exact ⟨fun _ => by rw [if_pos r1]; exact B1', fun p c q t e => by cases e⟩
        · rw [gst_dol z, e]
          refine ⟨fun _ => ?_, fun p c q t e => by cases e⟩
          obtain ⟨m1, m2, -⟩ := hM
          rcases m2 with m2 | ⟨B, b1, b2, b3, -⟩
          · exact absurd m2 f1
          have hP : (gst b i).2.1 = -1 ∨ (gst b i).2.1.toNat ≤ i := by
            rcases m1 with m1 | ⟨P, p1, p2, -⟩
            · exact Or.inl m1
            · exact Or.inr (by rw [p1, Int.toNat_natCast]; omega)
          show _ ≤ (if (i : Int) = -1 then 8 else 16) * rm b i
          rw [od_dol z b1 (by omega) hP, List.length_append, List.length_drop, List.length_take, if_neg (show ¬ (i : Int) = -1 by omega)]
          have := Nat.min_le_right (od b B).length (od b i).length
          omega
theorem od_640 {b : Nat → Int} {n : Nat} (hn : n ≤ 40) : ∀ i, i ≤ n → Acc b i → (od b i).length ≤ 640 := by
  intro i hi hA
  obtain ⟨B1, B2⟩ := od_bound i hA
  have hr := rm_le b i
  cases e : (gst b i).1 with
  | nil =>
    have := B1 e
    split at this <;> omega
  | cons x t =>
    obtain ⟨p, c, q⟩ := x
    obtain ⟨l1, l2⟩ := B2 p c q t e
    have hH := HS_all i hA
    rw [e] at hH
    obtain ⟨⟨a1, -⟩, -⟩ := hH
    -- the open one's start is bounded as well
    have up : ∀ (l : List En) (j : Nat), j ≤ i → (gst b j).1 = l → (od b j).length ≤ 16 * rm b j := by
      intro l
      induction l with
      | nil =>
        intro j hj ej
        have := (od_bound j (Acc_le hA hj)).1 ej
        split at this <;> omega
      | cons y t ih =>
        intro j hj ej
        obtain ⟨p, c, q⟩ := y
        obtain ⟨s1, s2⟩ := (od_bound j (Acc_le hA hj)).2 p c q t ej
        have hH := HS_all j (Acc_le hA hj)
        rw [ej] at hH
        obtain ⟨⟨a1, a2, a3, -⟩, -⟩ := hH
        have := ih p (by omega) a3
        have mp := rm_mono b (i := p) (j := j) (by omega)
        have vq : fq q = 1 ∨ fq q = 2 := by unfold fq; split <;> simp
        have vw : fh t.length = 1 ∨ fh t.length = 2 ∨ fh t.length = 4 := fh_is _
        rcases vw with w | w | w <;> rw [w] at s2 <;> rcases vq with v | v <;> rw [v] at s2 <;> omega
    have := up _ i (Nat.le_refl _) e
    omega
theorem od_lt {b : Nat → Int} : ∀ i, ∀ x ∈ od b i, x < rm b i := by
  intro i
  induction i with
  | zero => intro x hx; cases hx
  | succ i ih =>
    intro x hx
    have m := rm_mono b (i := i) (j := i + 1) (by omega)
    have sub : ∀ y ∈ od b i, y < rm b (i + 1) := fun y hy => by have := ih y hy; omega
    rw [od_s] at hx
    unfold odn at hx
    split at hx
    · rename_i c
      rcases List.mem_append.mp hx with h | h
      · exact sub x h
      · rw [List.mem_singleton.mp h, rm_y c]; omega
    split at hx
    · split at hx
      · rcases List.mem_append.mp hx with h | h
        · exact sub x h
        · exact sub x (List.mem_of_mem_take (List.mem_of_mem_drop h))
      · exact sub x hx
    split at hx
    · split at hx
      · split at hx
        · rcases List.mem_append.mp hx with h | h
          · exact sub x h
          · exact sub x (List.mem_of_mem_drop h)
        · exact sub x hx
      · exact sub x hx
    split at hx
    · rcases List.mem_append.mp hx with h | h
      · exact sub x h
      · exact sub x (List.mem_of_mem_take (List.mem_of_mem_drop h))
    · exact sub x hx
