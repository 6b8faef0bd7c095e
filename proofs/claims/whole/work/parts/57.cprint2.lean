/-- the bytes of what is found -/
noncomputable def prn (h : Nat → Int) (bb : Nat → List Nat) (m dd : Nat) (s : FS) : List Nat :=
  if s.2.1 = 0 then pf h bb dd 0 m else
  if s.2.1 = 1 then pf h bb dd 0 s.2.2.1 ++ 33 :: (pf h bb dd s.2.2.1 (m - s.2.2.1 - s.2.2.1) ++ [36]) else
  pf h bb dd 0 s.2.2.1 ++ 37 :: (pf h bb dd s.2.2.1 s.2.2.2 ++ 33 :: (pf h bb dd (s.2.2.1 + s.2.2.2) (m - s.2.2.2 - (s.2.2.1 + s.2.2.2)) ++ [36]))
theorem prn_len {h : Nat → Int} {bb : Nat → List Nat} {W : Nat → Nat} {m dd : Nat} {s : FS} (hm : m ≤ 24) (hW : W m ≤ 24) (hb : ∀ i, i < m → 1 ≤ (bb i).length ∧ W i + (bb i).length = W (i + 1)) (hs : FOk m s) : (prn h bb m dd s).length ≤ 60 := by
  have hW' : ∀ i, i < m → W i + 1 ≤ W (i + 1) := fun i hi => by have := hb i hi; omega
  have L := fun n i (hi : i + n ≤ m) => (show W i + (pf h bb dd i n).length ≤ W (i + n) + n from by
    by_cases e : n = 0
    · subst e; rw [pf_0, List.length_nil]; exact Nat.le_refl _
    · have := pf_len (h := h) hm hb n (by omega) dd i hi; omega)
  have M := fun n i (hi : i + n ≤ m) => W_mono hW' n i hi
  obtain ⟨-, -, s1, s2, s3⟩ := hs
  unfold prn
  split
  · have := L m 0 (by omega); rw [Nat.zero_add] at this; omega
  · split
    · rename_i e
      obtain ⟨a1, a2⟩ := s2 e
      have x := L s.2.2.1 0 (by omega)
      have y := L (m - s.2.2.1 - s.2.2.1) s.2.2.1 (by omega)
      have z := M s.2.2.1 (m - s.2.2.1) (by omega)
      rw [show s.2.2.1 + (m - s.2.2.1 - s.2.2.1) = m - s.2.2.1 by omega] at y
      rw [show m - s.2.2.1 + s.2.2.1 = m by omega] at z
      rw [Nat.zero_add] at x
      simp only [List.length_append, List.length_cons, List.length_nil]
      omega
    · have e : s.2.1 = 2 := by omega
      obtain ⟨a1, a2, a3⟩ := s3 e
      have x := L s.2.2.1 0 (by omega)
      have y := L s.2.2.2 s.2.2.1 (by omega)
      have u := L (m - s.2.2.2 - (s.2.2.1 + s.2.2.2)) (s.2.2.1 + s.2.2.2) (by omega)
      have z := M s.2.2.2 (m - s.2.2.2) (by omega)
      rw [show s.2.2.1 + s.2.2.2 + (m - s.2.2.2 - (s.2.2.1 + s.2.2.2)) = m - s.2.2.2 by omega] at u
      rw [show m - s.2.2.2 + s.2.2.2 = m by omega] at z
      rw [Nat.zero_add] at x
      simp only [List.length_append, List.length_cons, List.length_nil]
      omega
section cprint2
variable {d : Nat} {S : zS} {Q : Option Value → zS → Prop} {m : Nat} {g : Nat → Int}
set_option maxHeartbeats 4000000 in
theorem v_print {dd : Nat} {s : FS} (hg : ∀ k, k < m → vcode (g k)) (hS : SpOk S 20 21 22 g m) (hC : ∀ dd, dd ≤ 3 → AllC S 23 g m dd) (hd : dd ≤ 3) (hJ : JOk S 24 s) (hf : FOk m s) (hl : (prn g (fun i => bw (g i)) m dd s).length ≤ 60)
    (hq : ∀ S', PrK S S' → PrOk S' (prn g (fun i => bw (g i)) m dd s) → Q none S') : KC (d + 56) mX5_print [.ref 25, .ref 20, .ref 24, .int (J dd)] S Q := by
  have hm := hS.1
  obtain ⟨-, -, f1, f2, f3⟩ := hf
  have P := fun (n i : Nat) (l : List Nat) (S1 : zS) (Q' : Option Value → zS → Prop) (x3 x4 : Int32) (e3 : x3 = J i) (e4 : x4 = J (i + n : Nat)) (hi : i + n ≤ m) (k : PrK S S1) (hp : PrOk S1 l) (hl : l.length + (pf g (fun i => bw (g i)) dd i n).length ≤ 60) (hq : ∀ S', PrK S1 S' → PrOk S' (l ++ pf g (fun i => bw (g i)) dd i n) → Q' none S') => v_printSpan (m := m) hg n (d + 55) dd i 0 l S1 Q' (J dd) x3 x4 0 (by omega) rfl e3 e4 rfl hd hi (by omega) (SpOk_pr hS k) (fun dd h => AllC_pr (hC dd h) k) hp hl hq
  have pu := fun {l : List Nat} {b : Nat} {S : zS} {Q : Option Value → zS → Prop} {x : Int32} (ex : x = J b) (hP : PrOk S l) (hl : l.length < 60) (hq : ∀ S', PrK S S' → PrOk S' (l ++ [b]) → Q none S') => v_pput (d := d + 54) (Q := Q) ex hP hl hq
  have k0 : PrK S (zu S 25 1 0) := fun c h1 h2 => zu_same h1
  have p0 : PrOk (zu S 25 1 0) [] := ⟨by decide, by simp only [zu_r, if_true]; rfl, fun k hk => absurd hk (Nat.not_lt_zero k)⟩
  have s1 := hS.2.1
  obtain ⟨-, j1, j2, j3⟩ := hJ
  obtain ⟨cst, kind, a, b⟩ := s
  dsimp only at f1 f2 f3 j1 j2 j3
  have c1 : zu S 25 1 0 20 1 = J m := s1
  have c2 : zu S 25 1 0 24 2 = J a := j2
  have c3 : zu S 25 1 0 24 3 = J b := j3
  have c4 : zu S 25 1 0 24 1 = J kind := j1
  have start : ∀ x4 x5 x6 : Int32, x4 = J m → x5 = J a → x6 = J b → zWp shC (KC (d + 55)) kX5_print 0 Q 23 [some (.ref 25), some (.ref 20), some (.ref 24), some (.int (J dd)), some (.int x4), some (.int x5), some (.int x6)] [] (zu S 25 1 0) := by
    intro x4 x5 x6 q4 q5 q6
    subst q4 q5 q6
    refine zRun_wp [] 160 ?_
    unfold prn at hq hl
    dsimp only at hq hl
    by_cases e0 : kind = 0
    · rw [if_pos e0] at hq hl
      subst e0
      refine ⟨fun q => absurd c4 q, fun _ => ?_⟩
      refine P m 0 [] _ _ _ _ rfl (by rw [Nat.zero_add]) (by omega) k0 p0 (by rw [List.length_nil]; omega) (fun S' k1 k2 => ?_)
      exact hq S' (PrK_tr k0 k1) k2
    rw [if_neg e0] at hq hl
    refine ⟨fun _ => ?_, fun q => ?_⟩
    rotate_left
    · rw [c4] at q
      simp (disch := omega) only [J_lit, J_neg, J_add, J_sub, J_mul, J_nI, J_le, J_lt, J_eq, J_in, J_nat] at q
      omega
    by_cases e1 : kind = 1
    · rw [if_pos e1] at hq hl
      simp only [List.length_append, List.length_cons, List.length_nil] at hl
      obtain ⟨a1, a2⟩ := f2 e1
      refine P a 0 [] _ _ _ _ rfl (by rw [Nat.zero_add]) (by omega) k0 p0 (by rw [List.length_nil]; omega) (fun S1 k1 k2 => ?_)
      have t1 := PrK_tr k0 k1
      have jk : S1 24 1 = J kind := by rw [t1 24 (by decide) (by decide)]; exact j1
      refine ⟨fun _ => ?_, fun q => ?_⟩
      rotate_left
      · rw [jk] at q
        simp (disch := omega) only [J_lit, J_neg, J_add, J_sub, J_mul, J_nI, J_le, J_lt, J_eq, J_in, J_nat] at q
        omega
      refine pu (b := 33) rfl k2 (by simp only [List.nil_append]; omega) (fun S2 k3 k4 => ?_)
      have t2 := PrK_tr t1 k3
      refine P (m - a - a) a _ S2 _ _ _ rfl (by simp only [J_lit, J_neg, J_add, J_sub, J_mul, J_nI]; congr 1; omega) (by omega) t2 k4 (by simp only [List.length_append, List.length_cons, List.length_nil]; omega) (fun S3 k5 k6 => ?_)
      have t3 := PrK_tr t2 k5
      refine pu (b := 36) rfl k6 (by simp only [List.length_append, List.length_cons, List.length_nil]; omega) (fun S4 k7 k8 => ?_)
      refine hq S4 (PrK_tr t3 k7) ?_
      simp only [List.append_assoc, List.nil_append, List.singleton_append, List.cons_append] at k8 ⊢
      exact k8
    · rw [if_neg e1] at hq hl
      simp only [List.length_append, List.length_cons, List.length_nil] at hl
      obtain ⟨a1, a2, a3⟩ := f3 (by omega)
      refine P a 0 [] _ _ _ _ rfl (by rw [Nat.zero_add]) (by omega) k0 p0 (by rw [List.length_nil]; omega) (fun S1 k1 k2 => ?_)
      have t1 := PrK_tr k0 k1
      have jk : S1 24 1 = J kind := by rw [t1 24 (by decide) (by decide)]; exact j1
      refine ⟨fun q => ?_, fun _ => ?_⟩
      · rw [jk] at q
        simp (disch := omega) only [J_lit, J_neg, J_add, J_sub, J_mul, J_nI, J_le, J_lt, J_eq, J_in, J_nat] at q
        omega
      refine pu (b := 37) rfl k2 (by simp only [List.nil_append]; omega) (fun S2 k3 k4 => ?_)
      have t2 := PrK_tr t1 k3
      refine P b a _ S2 _ _ _ rfl (by simp only [J_lit, J_neg, J_add, J_sub, J_mul, J_nI]; congr 1) (by omega) t2 k4 (by simp only [List.length_append, List.length_cons, List.length_nil]; omega) (fun S3 k5 k6 => ?_)
      have t3 := PrK_tr t2 k5
      refine pu (b := 33) rfl k6 (by simp only [List.length_append, List.length_cons, List.length_nil]; omega) (fun S4 k7 k8 => ?_)
      have t4 := PrK_tr t3 k7
      refine P (m - b - (a + b)) (a + b) _ S4 _ _ _ (by simp only [J_lit, J_neg, J_add, J_sub, J_mul, J_nI]; congr 1) (by simp only [J_lit, J_neg, J_add, J_sub, J_mul, J_nI]; congr 1; omega) (by omega) t4 k8 (by simp only [List.length_append, List.length_cons, List.length_nil]; omega) (fun S5 k9 k10 => ?_)
      have t5 := PrK_tr t4 k9
      refine pu (b := 36) rfl k10 (by simp only [List.length_append, List.length_cons, List.length_nil]; omega) (fun S6 k11 k12 => ?_)
      refine hq S6 (PrK_tr t5 k11) ?_
      simp only [List.append_assoc, List.nil_append, List.singleton_append, List.cons_append] at k12 ⊢
      exact k12
  refine eX5_print (zRun_wp [23] 160 ?_)
  refine ⟨rfl, fun e => absurd e (by decide), ?_⟩
  exact start _ _ _ c1 c2 c3
end cprint2
