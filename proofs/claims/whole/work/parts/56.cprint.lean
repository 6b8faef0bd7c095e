/-! the class's Printer -/
/-- a bar's bytes -/
def bw (z : Int) : List Nat := if z < 256 then [z.toNat] else [(z % 256).toNat, (z / 256).toNat]
/-- the Printer holds a list -/
def PrOk (S : zS) (l : List Nat) : Prop := l.length ≤ 60 ∧ S 25 1 = J l.length ∧ ∀ k, k < l.length → S 26 k = J (l.getD k 0)
/-- only the Printer's cells change -/
def PrK (S S' : zS) : Prop := ∀ c, c ≠ 25 → c ≠ 26 → S' c = S c
theorem PrK_rfl {S : zS} : PrK S S := fun _ _ _ => rfl
theorem PrK_tr {S S1 S2 : zS} (a : PrK S S1) (b : PrK S1 S2) : PrK S S2 := fun c h1 h2 => (b c h1 h2).trans (a c h1 h2)
theorem getD_app {l : List Nat} {b k : Nat} (h : k < l.length + 1) : (l ++ [b]).getD k 0 = if k = l.length then b else l.getD k 0 := by
  simp only [List.getD_eq_getElem?_getD]
  by_cases e : k = l.length
  · subst e; simp
  · rw [if_neg e, List.getElem?_append_left (by omega)]
section cprint
variable {d : Nat} {S : zS} {Q : Option Value → zS → Prop} {m : Nat} {g : Nat → Int}
theorem v_pput {l : List Nat} {b : Nat} {x : Int32} (ex : x = J b) (hP : PrOk S l) (hl : l.length < 60) (hq : ∀ S', PrK S S' → PrOk S' (l ++ [b]) → Q none S') : KC (d + 1) mX5_put [.ref 25, .int x] S Q := by
  subst ex
  obtain ⟨p0, p1, p2⟩ := hP
  have ix : (J l.length).toNatClampNeg = l.length := by simp (disch := omega) only [J_lit, J_neg, J_add, J_sub, J_mul, J_nI, J_le, J_lt, J_eq, J_in, J_nat]; omega
  refine eX5_put (zRun_wp [] 60 ?_)
  refine ⟨fun g1 => ?_, fun g1 => ?_⟩ <;> rw [p1] at g1 <;> simp (disch := omega) only [J_lit, J_neg, J_add, J_sub, J_mul, J_nI, J_le, J_lt, J_eq, J_in, J_nat] at g1
  · omega
  · have inn : vp_in (S 25 1) 60 := by rw [p1]; simp (disch := omega) only [J_lit, J_neg, J_add, J_sub, J_mul, J_nI, J_le, J_lt, J_eq, J_in, J_nat]; omega
    rw [← p1] at ix
    refine ⟨inn, rfl, fun e => absurd e (by decide), ?_⟩
    rw [ix]
    refine hq _ (fun c h1 h2 => by rw [zu_same h1, zu_same h2]) ⟨?_, ?_, ?_⟩
    · rw [List.length_append, List.length_singleton]; omega
    · rw [List.length_append, List.length_singleton]
      simp only [zu_r]
      rw [if_pos trivial, if_pos trivial, if_neg (by decide), p1]
      simp only [J_lit, J_neg, J_add, J_sub, J_mul, J_nI]; congr 1
    · intro k hk
      rw [List.length_append, List.length_singleton] at hk
      rw [getD_app hk, zu_same (by decide)]
      simp only [zu_r, if_true]
      by_cases e : k = l.length
      · rw [if_pos e, if_pos e]
      · rw [if_neg e, if_neg e]
        exact p2 k (by omega)
theorem v_printBar {l : List Nat} {i : Nat} {x : Int32} (ex : x = J i) (hS : SpOk S 20 21 22 g m) (hg : ∀ k, k < m → vcode (g k)) (hi : i < m) (hP : PrOk S l) (hl : l.length + (bw (g i)).length ≤ 60) (hq : ∀ S', PrK S S' → PrOk S' (l ++ bw (g i)) → Q none S') : KC (d + 2) mX5_printBar [.ref 25, .ref 20, .int x] S Q := by
  subst ex
  obtain ⟨hm, s1, s2, -⟩ := hS
  obtain ⟨v1, v2⟩ := vcode_rng (hg i hi)
  have ix : (J i).toNatClampNeg = i := by simp (disch := omega) only [J_lit, J_neg, J_add, J_sub, J_mul, J_nI, J_le, J_lt, J_eq, J_in, J_nat]; omega
  have inb : vp_in (J i) 24 := by simp (disch := omega) only [J_lit, J_neg, J_add, J_sub, J_mul, J_nI, J_le, J_lt, J_eq, J_in, J_nat]; omega
  have si := s2 i hi
  refine eX5_printBar (zRun_wp [] 60 ?_)
  refine ⟨fun g1 => ?_, fun g1 => ?_⟩ <;> simp (disch := omega) only [J_lit, J_neg, J_add, J_sub, J_mul, J_nI, J_le, J_lt, J_eq, J_in, J_nat] at g1
  · omega
  refine ⟨fun _ => ?_, fun g2 => ?_⟩
  · refine ⟨inb, by decide, ?_⟩
    rw [ix, si, show (256 : Int32) = J 256 from rfl, J_rem (by omega) (by omega) (by omega) (by omega)]
    by_cases c : g i < 256
    · have eb : bw (g i) = [(g i).toNat] := if_pos c
      rw [eb] at hq hl
      refine v_pput (b := (g i).toNat) (by congr 1; omega) hP (by rw [List.length_singleton] at hl; omega) (fun S' k1 k2 => ?_)
      have si' : S' 21 i = J (g i) := by rw [k1 21 (by decide) (by decide)]; exact si
      refine ⟨inb, fun g3 => ?_, fun g3 => ?_⟩
      · exact hq S' k1 k2
      · rw [ix, si'] at g3
        simp (disch := omega) only [J_lit, J_neg, J_add, J_sub, J_mul, J_nI, J_le, J_lt, J_eq, J_in, J_nat] at g3
        omega
    · have eb : bw (g i) = [(g i % 256).toNat, (g i / 256).toNat] := if_neg c
      rw [eb] at hq hl
      simp only [List.length_cons, List.length_nil] at hl
      refine v_pput (b := (g i % 256).toNat) (by congr 1; omega) hP (by omega) (fun S' k1 k2 => ?_)
      have si' : S' 21 i = J (g i) := by rw [k1 21 (by decide) (by decide)]; exact si
      refine ⟨inb, fun g3 => ?_, fun g3 => ?_⟩
      · rw [ix, si'] at g3
        simp (disch := omega) only [J_lit, J_neg, J_add, J_sub, J_mul, J_nI, J_le, J_lt, J_eq, J_in, J_nat] at g3
        omega
      · refine ⟨inb, by decide, ?_⟩
        rw [ix, si', show (256 : Int32) = J 256 from rfl, J_div (by omega) (by omega) (by omega) (by omega)]
        refine v_pput (b := (g i / 256).toNat) (by congr 1; omega) k2 (by rw [List.length_append, List.length_singleton]; omega) (fun S2 k3 k4 => ?_)
        refine hq S2 (PrK_tr k1 k3) ?_
        rw [List.append_assoc] at k4
        exact k4
  · rw [s1] at g2
    simp (disch := omega) only [J_lit, J_neg, J_add, J_sub, J_mul, J_nI, J_le, J_lt, J_eq, J_in, J_nat] at g2
    omega
theorem SpOk_pr {S S' : zS} (h : SpOk S 20 21 22 g m) (k : PrK S S') : SpOk S' 20 21 22 g m := SpOk_keep h (k 20 (by decide) (by decide)) (k 21 (by decide) (by decide)) (k 22 (by decide) (by decide))
theorem AllC_pr {S S' : zS} {dd : Nat} (h : AllC S 23 g m dd) (k : PrK S S') : AllC S' 23 g m dd := AllC_keep h (k 23 (by decide) (by decide))
set_option maxHeartbeats 4000000 in
theorem v_printSpan (hg : ∀ k, k < m → vcode (g k)) : ∀ (n D dd i lev : Nat) (l : List Nat) (S : zS) (Q : Option Value → zS → Prop) (x2 x3 x4 x5 : Int32), 2 * n + 6 ≤ D → x2 = J dd → x3 = J i → x4 = J (i + n : Nat) → x5 = J lev → dd ≤ 3 → i + n ≤ m → lev + n ≤ 24 → SpOk S 20 21 22 g m → (∀ dd, dd ≤ 3 → AllC S 23 g m dd) → PrOk S l → l.length + (pf g (fun i => bw (g i)) dd i n).length ≤ 60 → (∀ S', PrK S S' → PrOk S' (l ++ pf g (fun i => bw (g i)) dd i n) → Q none S') → KC D mX5_printSpan [.ref 25, .ref 20, .int x2, .int x3, .int x4, .int x5] S Q := by
  intro n
  induction n using Nat.strongRecOn with
  | _ n ih =>
    intro D dd i lev l S Q x2 x3 x4 x5 hD e2 e3 e4 e5 hd hj hlev hS hC hP hl hq
    subst e2 e3 e4 e5
    have hm := hS.1
    obtain ⟨d, rfl⟩ : ∃ d, D = d + 6 := ⟨D - 6, by omega⟩
    refine eX5_printSpan (zRun_wp [] 120 ?_)
    refine ⟨fun g1 => ?_, fun g1 => ?_⟩ <;> simp (disch := omega) only [J_lit, J_neg, J_add, J_sub, J_mul, J_nI, J_le, J_lt, J_eq, J_in, J_nat] at g1
    · omega
    by_cases n0 : n = 0
    · subst n0
      refine ⟨fun g2 => ?_, fun _ => ?_⟩
      · simp (disch := omega) only [J_lit, J_neg, J_add, J_sub, J_mul, J_nI, J_le, J_lt, J_eq, J_in, J_nat] at g2
        omega
      · refine hq S PrK_rfl ?_
        rw [pf_0, List.append_nil]
        exact hP
    refine ⟨fun _ => ?_, fun g2 => ?_⟩
    rotate_left
    · simp (disch := omega) only [J_lit, J_neg, J_add, J_sub, J_mul, J_nI, J_le, J_lt, J_eq, J_in, J_nat] at g2
      omega
    by_cases n1 : n = 1
    · subst n1
      refine ⟨fun g2 => ?_, fun _ => ?_⟩
      · simp (disch := omega) only [J_lit, J_neg, J_add, J_sub, J_mul, J_nI, J_le, J_lt, J_eq, J_in, J_nat] at g2
        omega
      · rw [pf_1] at hq hl
        exact v_printBar rfl hS hg (by omega) hP hl hq
    refine ⟨fun _ => ?_, fun g2 => ?_⟩
    rotate_left
    · simp (disch := omega) only [J_lit, J_neg, J_add, J_sub, J_mul, J_nI, J_le, J_lt, J_eq, J_in, J_nat] at g2
      omega
    refine v_cut (d := d + 2) hS (hC dd hd) hd (by omega) hj (fun k k1 k2 hw => ?_) (fun spl => ?_) rfl
    · -- two parts
      have ep := pf_split (bb := fun i => bw (g i)) (by omega) k1 k2 hw
      rw [ep] at hq hl
      rw [List.length_append] at hl
      refine ⟨fun g3 => ?_, fun _ => ?_⟩
      · simp (disch := omega) only [J_lit, J_neg, J_add, J_sub, J_mul, J_nI, J_le, J_lt, J_eq, J_in, J_nat] at g3
        omega
      refine ih k k2 (d + 5) dd i (lev + 1) l S _ _ _ _ _ (by omega) rfl rfl rfl (by simp only [J_lit, J_neg, J_add, J_sub, J_mul, J_nI]; congr 1) hd (by omega) (by omega) hS hC hP (by omega) (fun S' k3 k4 => ?_)
      refine ih (n - k) (by omega) (d + 5) dd (i + k) (lev + 1) _ S' _ _ _ _ _ (by omega) rfl rfl (by congr 2; omega) (by simp only [J_lit, J_neg, J_add, J_sub, J_mul, J_nI]; congr 1) hd (by omega) (by omega) (SpOk_pr hS k3) (fun dd h => AllC_pr (hC dd h) k3) k4 (by rw [List.length_append]; omega) (fun S2 k5 k6 => ?_)
      refine hq S2 (PrK_tr k3 k5) ?_
      rw [List.append_assoc] at k6
      exact k6
    refine ⟨fun _ => ?_, fun g3 => absurd rfl g3⟩
    refine v_isRepeat (d := d + 2) hS hC hd (by omega) hj (fun r e => ?_) (fun rpl => ?_) rfl
    · -- a repeat
      have hw : HowOk g dd i n (2000 + 30 * (n / 2)) := Or.inr ⟨by omega, Or.inr (Or.inl ⟨r, e, rfl, spl⟩)⟩
      have ep := pf_rep (bb := fun i => bw (g i)) (by omega) (by omega) hw
      obtain ⟨r1, r2, -⟩ := r
      rw [ep] at hq hl
      simp only [List.length_cons, List.length_append, List.length_nil] at hl
      refine ⟨fun g3 => absurd g3 (by decide), fun _ => ?_⟩
      refine v_pput (b := 91) rfl hP (by omega) (fun S1 k1 k2 => ?_)
      refine ⟨by decide, ?_⟩
      have half : (J i + J (i + n : Nat)) / 2 = J (i + n / 2 : Nat) := by
        rw [J_add, show (2 : Int32) = J 2 from rfl, J_div (by omega) (by omega) (by omega) (by omega)]
        congr 1; omega
      refine ih (n / 2) (by omega) (d + 5) (dd - 1) i (lev + 1) _ S1 _ _ _ _ _ (by omega) (by simp only [J_lit, J_neg, J_add, J_sub, J_mul, J_nI]; congr 1; omega) rfl half (by simp only [J_lit, J_neg, J_add, J_sub, J_mul, J_nI]; congr 1) (by omega) (by omega) (by omega) (SpOk_pr hS k1) (fun dd h => AllC_pr (hC dd h) k1) k2 (by simp only [List.length_append, List.length_singleton]; omega) (fun S2 k3 k4 => ?_)
      refine v_pput (b := 93) rfl k4 (by simp only [List.length_append, List.length_singleton]; omega) (fun S3 k5 k6 => ?_)
      refine hq S3 (PrK_tr (PrK_tr k1 k3) k5) ?_
      simp only [List.append_assoc, List.singleton_append] at k6
      exact k6
    refine ⟨fun _ => ?_, fun g3 => absurd rfl g3⟩
    -- two endings
    have d0 : 0 < dd := by
      obtain ⟨w, hw⟩ := HowOk_ex g dd i n (by omega)
      rcases hw with ⟨q, -⟩ | ⟨-, hw⟩
      · omega
      rcases hw with ⟨k, k1, k2, e, -⟩ | ⟨r, -⟩ | ⟨a, b, e, -⟩
      · have := spl k k1 k2; omega
      · exact r.1
      · exact e.1
    obtain ⟨dd, rfl⟩ : ∃ d', dd = d' + 1 := ⟨dd - 1, by omega⟩
    refine eX5_printEndings (zRun_wp [] 160 ?_)
    refine v_endings (d := d + 2) hS hC (by omega) (by omega) hj (fun a b evv ec els => ?_) (fun no => ?_) rfl
    rotate_left
    · exfalso
      obtain ⟨w, hw⟩ := HowOk_ex g (dd + 1) i n (by omega)
      rcases hw with ⟨q, -⟩ | ⟨-, hw⟩
      · omega
      rcases hw with ⟨k, k1, k2, e, -⟩ | ⟨r, e, -⟩ | ⟨a, b, e, e', -⟩
      · have := spl k k1 k2; omega
      · have := rpl r; omega
      · have := no a b e; omega
    have hw : HowOk g (dd + 1) i n (3000 + 30 * a + b) := Or.inr ⟨by omega, Or.inr (Or.inr ⟨a, b, evv, ec, rfl, spl, rpl, els⟩)⟩
    obtain ⟨-, a1, b1, ab, -⟩ := evv
    have ep := pf_end (bb := fun i => bw (g i)) (by omega) a1 b1 ab hw
    rw [ep] at hq hl
    simp only [List.length_cons, List.length_append, List.length_nil, Nat.add_sub_cancel] at hl hq
    refine ⟨fun _ => ?_, fun g3 => ?_⟩
    rotate_left
    · rw [show (-1 : Int32) = J (-1) from rfl] at g3
      simp (disch := omega) only [J_lit, J_neg, J_add, J_sub, J_mul, J_nI, J_le, J_lt, J_eq, J_in, J_nat] at g3
      omega
    refine ⟨by decide, by decide, ?_⟩
    have dv : J (25 * a + b : Nat) / 25 = J a := by
      rw [show (25 : Int32) = J 25 from rfl, J_div (by omega) (by omega) (by omega) (by omega)]
      congr 1; omega
    have rmv : J (25 * a + b : Nat) - J a * 25 = J b := by
      simp only [J_lit, J_neg, J_add, J_sub, J_mul, J_nI]; congr 1; omega
    rw [dv, rmv]
    refine v_pput (b := 91) rfl hP (by omega) (fun S1 k1 k2 => ?_)
    refine ih a (by omega) (d + 4) dd i (lev + 1) _ S1 _ _ _ _ _ (by omega) (by simp only [J_lit, J_neg, J_add, J_sub, J_mul, J_nI]; congr 1; omega) rfl (by simp only [J_lit, J_neg, J_add, J_sub, J_mul, J_nI]; congr 1) (by simp only [J_lit, J_neg, J_add, J_sub, J_mul, J_nI]; congr 1) (by omega) (by omega) (by omega) (SpOk_pr hS k1) (fun dd h => AllC_pr (hC dd h) k1) k2 (by simp only [List.length_append, List.length_singleton]; omega) (fun S2 k3 k4 => ?_)
    have t2 := PrK_tr k1 k3
    refine v_pput (b := 58) rfl k4 (by simp only [List.length_append, List.length_singleton]; omega) (fun S3 k5 k6 => ?_)
    have t3 := PrK_tr t2 k5
    refine ih b (by omega) (d + 4) dd (i + a) (lev + 1) _ S3 _ _ _ _ _ (by omega) (by simp only [J_lit, J_neg, J_add, J_sub, J_mul, J_nI]; congr 1; omega) (by simp only [J_lit, J_neg, J_add, J_sub, J_mul, J_nI]; congr 1) (by simp only [J_lit, J_neg, J_add, J_sub, J_mul, J_nI]; congr 1) (by simp only [J_lit, J_neg, J_add, J_sub, J_mul, J_nI]; congr 1) (by omega) (by omega) (by omega) (SpOk_pr hS t3) (fun dd h => AllC_pr (hC dd h) t3) k6 (by simp only [List.length_append, List.length_singleton]; omega) (fun S4 k7 k8 => ?_)
    have t4 := PrK_tr t3 k7
    refine v_pput (b := 59) rfl k8 (by simp only [List.length_append, List.length_singleton]; omega) (fun S5 k9 k10 => ?_)
    have t5 := PrK_tr t4 k9
    refine ih (n - 2 * a - b) (by omega) (d + 4) dd (i + 2 * a + b) (lev + 1) _ S5 _ _ _ _ _ (by omega) (by simp only [J_lit, J_neg, J_add, J_sub, J_mul, J_nI]; congr 1; omega) (by simp only [J_lit, J_neg, J_add, J_sub, J_mul, J_nI]; congr 1; omega) (by congr 2; omega) (by simp only [J_lit, J_neg, J_add, J_sub, J_mul, J_nI]; congr 1) (by omega) (by omega) (by omega) (SpOk_pr hS t5) (fun dd h => AllC_pr (hC dd h) t5) k10 (by simp only [List.length_append, List.length_singleton]; omega) (fun S6 k11 k12 => ?_)
    have t6 := PrK_tr t5 k11
    refine v_pput (b := 93) rfl k12 (by simp only [List.length_append, List.length_singleton]; omega) (fun S7 k13 k14 => ?_)
    refine hq S7 (PrK_tr t6 k13) ?_
    simp only [List.append_assoc, List.singleton_append, List.cons_append, List.nil_append] at k14 ⊢
    exact k14
end cprint
