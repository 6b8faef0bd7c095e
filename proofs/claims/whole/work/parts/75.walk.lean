/-! the model plays a stretch just as the class did -/
theorem fresh_no {b : Nat → Int} {i j : Nat} (hA : Acc b (j + 1)) (hij : i ≤ j) (e : gst b i = gst b (j + 1)) : letr (b j) ∨ figr (b j) ∨ (b j = 93 ∧ ∃ p c q t, (gst b j).1 = (p, c, q) :: t ∧ (c = -1 ∨ q ≠ -1)) := by
  have hAi := Acc_le hA (show i ≤ j + 1 by omega)
  obtain ⟨r1, r2⟩ := rsn_0 (hA j (by omega))
  have hH := HS_all i hAi
  have hM := MK_all i hAi
  rcases r2 with r2 | ⟨r2, -⟩ | ⟨r2, -⟩ | ⟨-, ⟨p, c, q, t, e', f⟩ | ⟨e', f⟩⟩
  · exact Or.inl r2
  · exact Or.inr (Or.inl r2)
  · exfalso
    rw [e, gst_open r2] at hH
    have := hH.1.1
    omega
  · rcases f with ⟨z, fc⟩ | ⟨z, fc, fqq⟩ | ⟨z, fz⟩
    · exfalso
      rw [e, gst_col z, e'] at hH
      have h7 := hH.1.2.2.2.2.2.2
      rcases h7 with h7 | ⟨c', h7, -, h8, -⟩ <;> omega
    · exfalso
      rw [e, gst_sem z, e'] at hH
      have h7 := hH.1.2.2.2.2.2.2
      rcases h7 with h7 | ⟨c', h7, -, h8, -, -, -, h9⟩
      · omega
      · rcases h9 with h9 | ⟨q', h9, -, h10, -⟩ <;> omega
    · exact Or.inr (Or.inr ⟨z, p, c, q, t, e', fz⟩)
  · exfalso
    rcases f with ⟨z, -⟩ | ⟨z, -⟩ | ⟨z, -⟩
    · rw [e, gst_pct z] at hM
      obtain ⟨m1, -, -⟩ := hM
      rcases m1 with m1 | ⟨P, m1, m2, -⟩
      · have : ((j : Nat) : Int) = -1 := m1
        omega
      · have : ((j : Nat) : Int) = (P : Int) := m1
        omega
    · rw [e, gst_bng z] at hM
      obtain ⟨-, m1, -⟩ := hM
      rcases m1 with m1 | ⟨P, m1, m2, -⟩
      · have : ((j : Nat) : Int) = -1 := m1
        omega
      · have : ((j : Nat) : Int) = (P : Int) := m1
        omega
    · rw [e, gst_dol z] at hM
      obtain ⟨-, -, m1⟩ := hM
      rcases m1 with m1 | ⟨P, m1, m2, -⟩
      · have : ((j : Nat) : Int) = -1 := m1
        omega
      · have : ((j : Nat) : Int) = (P : Int) := m1
        omega
section walk
variable {d : Nat} {Q : Option Value → zS → Prop} {b : Nat → Int} {x1 : Int32} {E n : Nat} {T : zS}
set_option maxHeartbeats 4000000 in
theorem walk (hE : E ≤ n) (hn : n ≤ 40) (hA : Acc b n) (hT6 : ∀ k, k < n → T 6 k = J (b k)) (hT15 : ∀ k, k < n → letr (b k) → T 15 k = J (rm b k)) (hT12 : ∀ k, k < n → b k = 93 → ∀ p c q t, (gst b k).1 = (p, c, q) :: t → T 12 p = J c ∧ T 13 p = J q) :
    ∀ j, j ≤ E → ∀ i, i ≤ j → gst b i = gst b j → ∀ (S : zS) (l : List Nat) (h : Nat), h = (gst b i).1.length → PK T S → PlO S l → l.length + (seg b i j).length ≤ 640 → (∀ S', PK T S' → PlO S' (l ++ seg b i j) → (∀ k, k < h → S' 20 k = S 20 k ∧ S' 21 k = S 21 k) → Wk d Q x1 E h j S') → Wk d Q x1 E h i S := by
  have tb : ∀ (S : zS) (k : Nat), PK T S → k < n → S 6 k = J (b k) := fun S k hk hl => by rw [hk.1 6 (by decide) (by decide) (by decide) (by decide)]; exact hT6 k hl
  intro j
  induction j using Nat.strongRecOn with
  | _ j ih =>
    intro hjE i hij e S l h hh kT hp hl hq
    by_cases eij : i = j
    · subst eij
      rw [seg_refl, List.append_nil] at hq
      exact hq S kT hp (fun _ _ => ⟨rfl, rfl⟩)
    obtain ⟨j', rfl⟩ : ∃ j', j = j' + 1 := ⟨j - 1, by omega⟩
    have hA1 := Acc_le hA (show j' + 1 ≤ n by omega)
    have hh3 : h ≤ 3 := by rw [hh]; exact gst_len i (Acc_le hA (by omega))
    rcases fresh_no hA1 (by omega) e with z | z | ⟨z, p, c, q, t, e', fz⟩
    · -- a letter
      have g := gst_letter (b := b) (i := j') (Or.inl z)
      have sg : seg b i (j' + 1) = seg b i j' ++ [rm b j'] := by
        refine seg_of ?_
        rw [od_let z, od_seg (show i ≤ j' by omega), List.append_assoc]
      rw [sg] at hl hq
      rw [List.length_append, List.length_singleton] at hl
      refine ih j' (by omega) (by omega) i (by omega) (by rw [e, g]) S l h hh kT hp (by omega) (fun S' k1 k2 k3 => ?_)
      refine st_letter (b := b) (by omega) (by omega) hh3 (tb S' j' k1 (by omega)) z (r := rm b j') ?_ k2 (by rw [List.length_append]; omega) (fun S2 a1 a2 a3 a4 => ?_)
      · rw [k1.1 15 (by decide) (by decide) (by decide) (by decide)]; exact hT15 j' (by omega) z
      · refine hq S2 (PK_tr k1 a1) (by rw [← List.append_assoc]; exact a2) (fun k hk => ?_)
        rw [a3, a4]; exact k3 k hk
    · -- a figure
      have g := gst_letter (b := b) (i := j') (Or.inr z)
      have sg : seg b i (j' + 1) = seg b i j' := by
        unfold seg; rw [od_oth (by omega) (by omega) (by omega) (by omega)]
      rw [sg] at hl hq
      refine ih j' (by omega) (by omega) i (by omega) (by rw [e, g]) S l h hh kT hp hl (fun S' k1 k2 k3 => ?_)
      exact st_figure (b := b) (by omega) (by omega) hh3 (tb S' j' k1 (by omega)) z (hq S' k1 k2 k3)
    · -- ]
      have hH := HS_all j' (Acc_le hA1 (by omega))
      rw [e'] at hH
      obtain ⟨⟨a1, a2, a3, a4, a5, a6, a7⟩, -⟩ := hH
      have g : gst b (j' + 1) = (t, (gst b j').2) := by rw [gst_shut z, e']; rfl
      have ei1 : (gst b i).1 = t := by rw [e, g]
      have hip : i ≤ p := by
        by_cases w : i ≤ p
        · exact w
        · have := a5 i (by omega) (by omega)
          rw [ei1] at this
          exact absurd this (Nat.lt_irrefl _)
      have gp : gst b p = gst b (j' + 1) := by
        rw [g, ← a6 p (Nat.le_refl _) (by omega), ← a3]
      have ht3 : t.length + 1 ≤ 3 := by
        have := gst_len j' (Acc_le hA1 (by omega))
        rw [e', List.length_cons] at this
        exact this
      have hht : h = t.length := by rw [hh, ei1]
      have gp1 : gst b (p + 1) = ((p, -1, -1) :: t, (gst b j').2) := by
        rw [← a4, ← a6 (p + 1) (by omega) (by omega)]
      have odp : od b (p + 1) = od b p := od_oth (by omega) (by omega) (by omega) (by omega)
      have sp1 : seg b p (p + 1) = [] := by unfold seg; rw [odp, List.drop_length]
      obtain ⟨tc, tq⟩ := hT12 j' (by omega) z p c q t e'
      have tcS : ∀ S : zS, PK T S → S 12 p = J c := fun S k => by rw [k.1 12 (by decide) (by decide) (by decide) (by decide)]; exact tc
      have tqS : ∀ S : zS, PK T S → S 13 p = J q := fun S k => by rw [k.1 13 (by decide) (by decide) (by decide) (by decide)]; exact tq
      rcases a7 with ⟨cm, qm⟩ | ⟨c', c1, c2, c3, c4, c5, c6, c7⟩
      · -- twice the same
        subst cm qm
        have sj : od b (j' + 1) = od b j' ++ seg b (p + 1) j' := by
          rw [seg_sh1 z e' (by omega)]
          unfold seg; rw [odp]
        have sg : seg b i (j' + 1) = seg b i p ++ (seg b (p + 1) j' ++ seg b (p + 1) j') := by
          refine seg_of ?_
          rw [sj, od_seg (show p + 1 ≤ j' by omega), odp, od_seg hip]
          simp only [List.append_assoc]
        have gj : gst b j' = ((p, -1, -1) :: t, (gst b j').2) := by rw [← e']
        rw [sg] at hl hq
        simp only [List.length_append] at hl
        refine ih p (by omega) (by omega) i hip (by rw [gp]; exact e) S l h hh kT hp (by omega) (fun S1 k1 p1 f1 => ?_)
        refine st_open (b := b) (by omega) (by omega) hh3 (tb S1 p k1 (by omega)) a2 ?_
        have k2 : PK T (zu (zu S1 21 h (J p)) 20 h 1) := PK_tr k1 ⟨fun c c1 c2 c3 c4 => by rw [zu_same c3, zu_same c4], fun k _ => by rw [zu_same (by decide), zu_same (by decide)]⟩
        have p2 : PlO (zu (zu S1 21 h (J p)) 20 h 1) (l ++ seg b i p) := PlO_k p1 (by rw [zu_same (by decide), zu_same (by decide)]) (by rw [zu_same (by decide), zu_same (by decide)])
        have fr2 : ∀ k, k < h → (zu (zu S1 21 h (J p)) 20 h 1) 20 k = S 20 k ∧ (zu (zu S1 21 h (J p)) 20 h 1) 21 k = S 21 k := fun k hk => by
          refine ⟨?_, ?_⟩
          · simp only [zu_r, if_true]
            rw [if_neg (by omega), if_neg (by decide)]; exact (f1 k hk).1
          · rw [zu_same (by decide)]
            simp only [zu_r, if_true]
            rw [if_neg (by omega)]; exact (f1 k hk).2
        have v2 : (zu (zu S1 21 h (J p)) 20 h 1) 20 h = 1 ∧ (zu (zu S1 21 h (J p)) 20 h 1) 21 h = J p := ⟨by simp [zu_r], by simp [zu_r]⟩
        generalize zu (zu S1 21 h (J p)) 20 h 1 = S2 at k2 p2 fr2 v2
        refine ih j' (by omega) (by omega) (p + 1) (by omega) (by rw [gp1, gj]) S2 _ (h + 1) (by rw [gp1, List.length_cons, hht]) k2 p2 (by simp only [List.length_append]; omega) (fun S3 k3 p3 f3 => ?_)
        have v3 := f3 h (by omega)
        rw [v2.1, v2.2] at v3
        refine st_sign (b := b) (p := p) (v := 1) (c := -1) (q := -1) (by omega) (by omega) (by omega) (tb S3 j' k3 (by omega)) (Or.inr (Or.inr z)) (by omega) v3.2 v3.1 (Or.inl rfl) (fun _ => ⟨tcS S3 k3, by omega, by omega⟩) (fun w => by omega) (by omega) (fun w => by omega) (fun _ => ?_) (fun w => by omega) (fun _ w => absurd ⟨rfl, rfl⟩ w)
        have k4 : PK T (zu S3 20 h 2) := PK_tr k3 ⟨fun c c1 c2 c3 c4 => by rw [zu_same c3], fun k _ => by rw [zu_same (by decide)]⟩
        have p4 := PlO_k (S' := zu S3 20 h 2) p3 (by rw [zu_same (by decide)]) (by rw [zu_same (by decide)])
        have fr4 : ∀ k, k < h → (zu S3 20 h 2) 20 k = S 20 k ∧ (zu S3 20 h 2) 21 k = S 21 k := fun k hk => by
          refine ⟨?_, ?_⟩
          · simp only [zu_r, if_true]
            rw [if_neg (by omega), (f3 k (by omega)).1]; exact (fr2 k hk).1
          · rw [zu_same (by decide), (f3 k (by omega)).2]; exact (fr2 k hk).2
        have v4 : (zu S3 20 h 2) 20 h = 2 ∧ (zu S3 20 h 2) 21 h = J p := ⟨by simp [zu_r], by rw [zu_same (by decide)]; exact v3.2⟩
        generalize zu S3 20 h 2 = S4 at k4 p4 fr4 v4
        refine ih j' (by omega) (by omega) (p + 1) (by omega) (by rw [gp1, gj]) S4 _ (h + 1) (by rw [gp1, List.length_cons, hht]) k4 p4 (by simp only [List.length_append]; omega) (fun S5 k5 p5 f5 => ?_)
        have v5 := f5 h (by omega)
        rw [v4.1, v4.2] at v5
        refine st_sign (b := b) (p := p) (v := 2) (c := -1) (q := -1) (by omega) (by omega) (by omega) (tb S5 j' k5 (by omega)) (Or.inr (Or.inr z)) (by omega) v5.2 v5.1 (Or.inr rfl) (fun _ => ⟨tcS S5 k5, by omega, by omega⟩) (fun w => by omega) (by omega) (fun w => by omega) (fun w => ?_) (fun w => by omega) (fun _ _ => ?_)
        · exfalso
          rcases w with w | w
          · omega
          · exact absurd w.2.2 (by decide)
        · refine hq S5 k5 ?_ (fun k hk => ⟨?_, ?_⟩)
          · simp only [List.append_assoc] at p5 ⊢
            exact p5
          · rw [(f5 k (by omega)).1]; exact (fr4 k hk).1
          · rw [(f5 k (by omega)).2]; exact (fr4 k hk).2
      · -- with endings
        subst c1
        have cn : ((c' : Nat) : Int) ≠ -1 := by omega
        rcases c7 with c7 | ⟨q', q1, q2, q3, q4, q5, q6⟩
        · exfalso
          rcases fz with fz | fz
          · exact cn fz
          · exact fz c7
        subst q1
        have mk : ∀ k, p ≤ k → k ≤ j' → (gst b k).2 = (gst b j').2 := a6
        have gc : gst b c' = ((p, -1, -1) :: t, (gst b j').2) := by rw [← c5, ← mk c' (by omega) (by omega)]
        have gc1 : gst b (c' + 1) = ((p, (c' : Int), -1) :: t, (gst b j').2) := by rw [← c6, ← mk (c' + 1) (by omega) (by omega)]
        have gq : gst b q' = ((p, (c' : Int), -1) :: t, (gst b j').2) := by rw [← q5, ← mk q' (by omega) (by omega)]
        have gq1 : gst b (q' + 1) = ((p, (c' : Int), (q' : Int)) :: t, (gst b j').2) := by rw [← q6, ← mk (q' + 1) (by omega) (by omega)]
        have gj : gst b j' = ((p, (c' : Int), (q' : Int)) :: t, (gst b j').2) := by rw [← e']
        have odc : od b (c' + 1) = od b c' := od_oth (by omega) (by omega) (by omega) (by omega)
        have odq : od b (q' + 1) = od b q' ++ seg b (p + 1) c' := by
          rw [seg_sem q4 q5 (by omega) (by omega)]
          unfold seg; rw [odp]
        have odj : od b (j' + 1) = od b j' := od_sh2 z e' cn
        have sg : seg b i (j' + 1) = seg b i p ++ (seg b (p + 1) c' ++ (seg b (c' + 1) q' ++ (seg b (p + 1) c' ++ seg b (q' + 1) j'))) := by
          refine seg_of ?_
          rw [odj, od_seg (show q' + 1 ≤ j' by omega), odq, od_seg (show c' + 1 ≤ q' by omega), odc, od_seg (show p + 1 ≤ c' by omega), odp, od_seg hip]
          simp only [List.append_assoc]
        rw [sg] at hl hq
        simp only [List.length_append] at hl
        refine ih p (by omega) (by omega) i hip (by rw [gp]; exact e) S l h hh kT hp (by omega) (fun S1 k1 p1 f1 => ?_)
        refine st_open (b := b) (by omega) (by omega) hh3 (tb S1 p k1 (by omega)) a2 ?_
        have k2 : PK T (zu (zu S1 21 h (J p)) 20 h 1) := PK_tr k1 ⟨fun c c1 c2 c3 c4 => by rw [zu_same c3, zu_same c4], fun k _ => by rw [zu_same (by decide), zu_same (by decide)]⟩
        have p2 : PlO (zu (zu S1 21 h (J p)) 20 h 1) (l ++ seg b i p) := PlO_k p1 (by rw [zu_same (by decide), zu_same (by decide)]) (by rw [zu_same (by decide), zu_same (by decide)])
        have fr2 : ∀ k, k < h → (zu (zu S1 21 h (J p)) 20 h 1) 20 k = S 20 k ∧ (zu (zu S1 21 h (J p)) 20 h 1) 21 k = S 21 k := fun k hk => by
          refine ⟨?_, ?_⟩
          · simp only [zu_r, if_true]
            rw [if_neg (by omega), if_neg (by decide)]; exact (f1 k hk).1
          · rw [zu_same (by decide)]
            simp only [zu_r, if_true]
            rw [if_neg (by omega)]; exact (f1 k hk).2
        have v2 : (zu (zu S1 21 h (J p)) 20 h 1) 20 h = 1 ∧ (zu (zu S1 21 h (J p)) 20 h 1) 21 h = J p := ⟨by simp [zu_r], by simp [zu_r]⟩
        generalize zu (zu S1 21 h (J p)) 20 h 1 = S2 at k2 p2 fr2 v2
        -- the beginning
        refine ih c' (by omega) (by omega) (p + 1) (by omega) (by rw [gp1, gc]) S2 _ (h + 1) (by rw [gp1, List.length_cons, hht]) k2 p2 (by simp only [List.length_append]; omega) (fun S3 k3 p3 f3 => ?_)
        have v3 := f3 h (by omega)
        rw [v2.1, v2.2] at v3
        refine st_sign (b := b) (p := p) (v := 1) (c := (c' : Int)) (q := (q' : Int)) (by omega) (by omega) (by omega) (tb S3 c' k3 (by omega)) (Or.inl c4) (by omega) v3.2 v3.1 (Or.inl rfl) (fun w => by omega) (fun _ w => absurd w (by decide)) (by omega) (fun _ w => absurd w (by decide)) (fun w => by omega) (fun _ _ => ?_) (fun w => by omega)
        -- the second ending ahead
        refine ih q' (by omega) (by omega) (c' + 1) (by omega) (by rw [gc1, gq]) S3 _ (h + 1) (by rw [gc1, List.length_cons, hht]) k3 p3 (by simp only [List.length_append]; omega) (fun S4 k4 p4 f4 => ?_)
        have v4 := f4 h (by omega)
        rw [v3.1, v3.2] at v4
        refine st_sign (b := b) (p := p) (v := 1) (c := (c' : Int)) (q := (q' : Int)) (by omega) (by omega) (by omega) (tb S4 q' k4 (by omega)) (Or.inr (Or.inl q4)) (by omega) v4.2 v4.1 (Or.inl rfl) (fun w => by omega) (fun w => by omega) (by omega) (fun w => by omega) (fun _ => ?_) (fun w => by omega) (fun w => by omega)
        have k5 : PK T (zu S4 20 h 2) := PK_tr k4 ⟨fun c c1 c2 c3 c4 => by rw [zu_same c3], fun k _ => by rw [zu_same (by decide)]⟩
        have p5 := PlO_k (S' := zu S4 20 h 2) p4 (by rw [zu_same (by decide)]) (by rw [zu_same (by decide)])
        have fr5 : ∀ k, k < h → (zu S4 20 h 2) 20 k = S 20 k ∧ (zu S4 20 h 2) 21 k = S 21 k := fun k hk => by
          refine ⟨?_, ?_⟩
          · simp only [zu_r, if_true]
            rw [if_neg (by omega), (f4 k (by omega)).1, (f3 k (by omega)).1]; exact (fr2 k hk).1
          · rw [zu_same (by decide), (f4 k (by omega)).2, (f3 k (by omega)).2]; exact (fr2 k hk).2
        have v5 : (zu S4 20 h 2) 20 h = 2 ∧ (zu S4 20 h 2) 21 h = J p := ⟨by simp [zu_r], by rw [zu_same (by decide)]; exact v4.2⟩
        generalize zu S4 20 h 2 = S5 at k5 p5 fr5 v5
        -- the beginning once more
        refine ih c' (by omega) (by omega) (p + 1) (by omega) (by rw [gp1, gc]) S5 _ (h + 1) (by rw [gp1, List.length_cons, hht]) k5 p5 (by simp only [List.length_append]; omega) (fun S6 k6 p6 f6 => ?_)
        have v6 := f6 h (by omega)
        rw [v5.1, v5.2] at v6
        refine st_sign (b := b) (p := p) (v := 2) (c := (c' : Int)) (q := (q' : Int)) (by omega) (by omega) (by omega) (tb S6 c' k6 (by omega)) (Or.inl c4) (by omega) v6.2 v6.1 (Or.inr rfl) (fun w => by omega) (fun _ _ => ⟨tqS S6 k6, by omega, by omega⟩) (by omega) (fun _ _ => ?_) (fun w => by omega) (fun _ w => absurd w (by decide)) (fun w => by omega)
        rw [Int.toNat_natCast]
        -- the other ending
        refine ih j' (by omega) (by omega) (q' + 1) (by omega) (by rw [gq1, gj]) S6 _ (h + 1) (by rw [gq1, List.length_cons, hht]) k6 p6 (by simp only [List.length_append]; omega) (fun S7 k7 p7 f7 => ?_)
        have v7 := f7 h (by omega)
        rw [v6.1, v6.2] at v7
        refine st_sign (b := b) (p := p) (v := 2) (c := (c' : Int)) (q := (q' : Int)) (by omega) (by omega) (by omega) (tb S7 j' k7 (by omega)) (Or.inr (Or.inr z)) (by omega) v7.2 v7.1 (Or.inr rfl) (fun _ => ⟨tcS S7 k7, by omega, by omega⟩) (fun w => by omega) (by omega) (fun w => by omega) (fun w => ?_) (fun w => by omega) (fun _ _ => ?_)
        · exfalso
          rcases w with w | w
          · omega
          · exact cn w.2.1
        · refine hq S7 k7 ?_ (fun k hk => ⟨?_, ?_⟩)
          · simp only [List.append_assoc] at p7 ⊢
            exact p7
          · rw [(f7 k (by omega)).1, (f6 k (by omega)).1]; exact (fr5 k hk).1
          · rw [(f7 k (by omega)).2, (f6 k (by omega)).2]; exact (fr5 k hk).2
end walk
