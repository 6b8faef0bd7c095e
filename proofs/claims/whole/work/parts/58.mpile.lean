/-! the model's shows: a pile of what waits -/
abbrev It : Type := Nat ⊕ (Nat × Nat × Nat)
def enc : It → Int
  | .inl b => -(b : Int)
  | .inr (d, i, n) => ((625 * d + 25 * i + (i + n) : Nat) : Int)
def okI (m : Nat) : It → Prop
  | .inl b => 1 ≤ b ∧ b ≤ 100
  | .inr (d, i, n) => d ≤ 3 ∧ 1 ≤ n ∧ i + n ≤ m
def wei : It → Nat
  | .inl _ => 1
  | .inr (_, _, n) => 3 * n - 1
def wsum : List It → Nat
  | [] => 0
  | x :: t => wei x + wsum t
noncomputable def txt (h : Nat → Int) (bb : Nat → List Nat) : List It → List Nat
  | [] => []
  | .inl b :: t => b :: txt h bb t
  | .inr (d, i, n) :: t => pf h bb d i n ++ txt h bb t
def WO (S : zS) (m : Nat) : List It → Prop
  | [] => True
  | x :: t => S A_waits t.length = J (enc x) ∧ okI m x ∧ WO S m t
def WP (S : zS) (m : Nat) (p : List It) : Prop := S 0 M_high = J p.length ∧ WO S m p
def OutOk (S : zS) (l : List Nat) : Prop := l.length ≤ 120 ∧ S 0 M_shown = J l.length ∧ ∀ k, k < l.length → S A_out k = J (l.getD k 0)
/-- only what shows writes changes -/
def SK (S S' : zS) : Prop := (∀ c, c ≠ 0 → c ≠ A_out → c ≠ A_waits → S' c = S c) ∧ ∀ i, i ≠ M_shown → i ≠ M_high → S' 0 i = S 0 i
theorem SK_rfl {S : zS} : SK S S := ⟨fun _ _ _ _ => rfl, fun _ _ _ => rfl⟩
theorem SK_tr {S S1 S2 : zS} (a : SK S S1) (b : SK S1 S2) : SK S S2 := ⟨fun c h1 h2 h3 => (b.1 c h1 h2 h3).trans (a.1 c h1 h2 h3), fun i h1 h2 => (b.2 i h1 h2).trans (a.2 i h1 h2)⟩
theorem wsum_app (p q : List It) : wsum (p ++ q) = wsum p + wsum q := by
  induction p with
  | nil => simp [wsum]
  | cons x t ih => simp only [List.cons_append, wsum, ih]; omega
theorem txt_app (h : Nat → Int) (bb : Nat → List Nat) (p q : List It) : txt h bb (p ++ q) = txt h bb p ++ txt h bb q := by
  induction p with
  | nil => rfl
  | cons x t ih =>
    rcases x with b | ⟨d, i, n⟩
    · simp only [List.cons_append, txt, ih]
    · simp only [List.cons_append, txt, ih, List.append_assoc]
theorem WO_keep {S S' : zS} {m : Nat} : ∀ {p : List It}, WO S m p → (∀ k, k < p.length → S' A_waits k = S A_waits k) → WO S' m p := by
  intro p
  induction p with
  | nil => intro _ _; trivial
  | cons x t ih =>
    intro h k
    exact ⟨by rw [k t.length (by simp)]; exact h.1, h.2.1, ih h.2.2 (fun j hj => k j (by simp; omega))⟩
theorem WO_len {S : zS} {m : Nat} : ∀ {p : List It}, WO S m p → p.length ≤ wsum p := by
  intro p
  induction p with
  | nil => intro _; exact Nat.le_refl _
  | cons x t ih =>
    intro h
    have := ih h.2.2
    have hx : 1 ≤ wei x := by
      rcases x with b | ⟨d, i, n⟩
      · exact Nat.le_refl _
      · have : 1 ≤ n := h.2.1.2.1
        show 1 ≤ 3 * n - 1
        omega
    simp only [List.length_cons, wsum]
    omega
section mpile
variable {d : Nat} {S : zS} {Q : Option Value → zS → Prop} {m : Nat} {g : Nat → Int}
theorem w_later {p : List It} {it : It} {x : Int32} (ex : x = J (enc it)) (hit : okI m it) (hp : p.length < 120) (hw : WP S m p) (hq : ∀ S', SK S S' → WP S' m (it :: p) → (∀ l, OutOk S l → OutOk S' l) → Q none S') : KM (d + 1) mX12_later [.ref 0, .int x] S Q := by
  obtain ⟨h1, h2⟩ := hw
  have inn : vp_in (S 0 45) 120 := by rw [show S 0 45 = _ from h1]; simp (disch := omega) only [J_lit, J_neg, J_add, J_sub, J_mul, J_nI, J_le, J_lt, J_eq, J_in, J_nat]; omega
  have ix : (S 0 45).toNatClampNeg = p.length := by rw [show S 0 45 = _ from h1]; simp (disch := omega) only [J_lit, J_neg, J_add, J_sub, J_mul, J_nI, J_le, J_lt, J_eq, J_in, J_nat]; omega
  refine eX12_later (zRun_wp [] 60 ?_)
  refine ⟨inn, rfl, fun e => absurd e (by decide), ?_⟩
  rw [ix]
  refine hq _ ⟨fun c c1 c2 c3 => ?_, fun i c1 c2 => ?_⟩ ⟨?_, ?_, hit, ?_⟩ (fun l hl => ?_)
  · rw [zu_same c1, zu_same c3]
  · simp only [zu_r, if_true]
    rw [if_neg c2, if_neg (by decide)]
  · simp only [zu_r, if_true]
    rw [if_neg (by decide), show S 0 45 = _ from h1, List.length_cons]
    simp only [J_lit, J_neg, J_add, J_sub, J_mul, J_nI]; congr 1
  · rw [zu_same (by decide)]
    simp only [zu_r, if_true]
    exact ex
  · refine WO_keep h2 (fun k hk => ?_)
    rw [zu_same (by decide)]
    simp only [zu_r, if_true]
    rw [if_neg (by omega)]
  · refine ⟨hl.1, ?_, fun k hk => ?_⟩
    · simp only [zu_r, if_true]
      rw [if_neg (by decide), if_neg (by decide)]
      exact hl.2.1
    · rw [zu_same (by decide), zu_same (by decide)]
      exact hl.2.2 k hk
theorem w_laterSpan {p : List It} {dd i n : Nat} {x y z : Int32} (ex : x = J dd) (ey : y = J i) (ez : z = J (i + n : Nat)) (hm : m ≤ 24) (hit : okI m (.inr (dd, i, n))) (hp : p.length < 120) (hw : WP S m p) (hq : ∀ S', SK S S' → WP S' m (.inr (dd, i, n) :: p) → (∀ l, OutOk S l → OutOk S' l) → Q none S') : KM (d + 2) mX12_laterSpan [.ref 0, .int x, .int y, .int z] S Q := by
  subst ex ey ez
  refine eX12_laterSpan (zRun_wp [] 60 ?_)
  refine w_later (it := .inr (dd, i, n)) ?_ hit hp hw hq
  show _ = J ((625 * dd + 25 * i + (i + n) : Nat) : Int)
  simp only [J_lit, J_neg, J_add, J_sub, J_mul, J_nI]; congr 1
theorem w_tellsByte {l : List Nat} {b : Nat} {p : List It} {x : Int32} (ex : x = J b) (hl : l.length < 120) (ho : OutOk S l) (hw : WP S m p) (hq : ∀ S', SK S S' → WP S' m p → OutOk S' (l ++ [b]) → Q none S') : KM (d + 1) mX12_tellsByte [.ref 0, .int x] S Q := by
  subst ex
  obtain ⟨-, o1, o2⟩ := ho
  have inn : vp_in (S 0 43) 120 := by rw [show S 0 43 = _ from o1]; simp (disch := omega) only [J_lit, J_neg, J_add, J_sub, J_mul, J_nI, J_le, J_lt, J_eq, J_in, J_nat]; omega
  have ix : (S 0 43).toNatClampNeg = l.length := by rw [show S 0 43 = _ from o1]; simp (disch := omega) only [J_lit, J_neg, J_add, J_sub, J_mul, J_nI, J_le, J_lt, J_eq, J_in, J_nat]; omega
  refine eX12_tellsByte (zRun_wp [] 60 ?_)
  refine ⟨fun q => ?_, fun _ => ?_⟩
  · rw [show S 0 43 = _ from o1] at q
    simp (disch := omega) only [J_lit, J_neg, J_add, J_sub, J_mul, J_nI, J_le, J_lt, J_eq, J_in, J_nat] at q
    omega
  refine ⟨inn, rfl, fun e => absurd e (by decide), ?_⟩
  rw [ix]
  refine hq _ ⟨fun c c1 c2 c3 => ?_, fun i c1 c2 => ?_⟩ ⟨?_, ?_⟩ ⟨?_, ?_, fun k hk => ?_⟩
  · rw [zu_same c1, zu_same c2]
  · simp only [zu_r, if_true]
    rw [if_neg c1, if_neg (by decide)]
  · simp only [zu_r, if_true]
    rw [if_neg (by decide), if_neg (by decide)]
    exact hw.1
  · refine WO_keep hw.2 (fun k hk => ?_)
    rw [zu_same (by decide), zu_same (by decide)]
  · rw [List.length_append, List.length_singleton]; omega
  · simp only [zu_r, if_true]
    rw [if_neg (by decide), show S 0 43 = _ from o1, List.length_append, List.length_singleton]
    simp only [J_lit, J_neg, J_add, J_sub, J_mul, J_nI]; congr 1
  · rw [List.length_append, List.length_singleton] at hk
    rw [getD_app hk, zu_same (by decide)]
    simp only [zu_r, if_true]
    by_cases e : k = l.length
    · rw [if_pos e, if_pos e]
    · rw [if_neg e, if_neg e]
      exact o2 k (by omega)
theorem w_tellsBar {l : List Nat} {i : Nat} {p : List It} {x : Int32} (ex : x = J i) (hi : i < 24) (hg : vcode (g i)) (hb : S A_bar i = J (phi (g i))) (hl : l.length + (bw (g i)).length ≤ 120) (ho : OutOk S l) (hw : WP S m p) (hq : ∀ S', SK S S' → WP S' m p → OutOk S' (l ++ bw (g i)) → Q none S') : KM (d + 2) mX12_tellsBar [.ref 0, .int x] S Q := by
  subst ex
  obtain ⟨q1, q2⟩ := phi_rng hg
  have inn : vp_in (J i) 24 := by simp (disch := omega) only [J_lit, J_neg, J_add, J_sub, J_mul, J_nI, J_le, J_lt, J_eq, J_in, J_nat]; omega
  have ix : (J i).toNatClampNeg = i := by simp (disch := omega) only [J_lit, J_neg, J_add, J_sub, J_mul, J_nI, J_le, J_lt, J_eq, J_in, J_nat]; omega
  have key : phi (g i) / 16 = g i % 256 ∧ (g i < 256 → phi (g i) % 16 = 0) ∧ (¬ g i < 256 → 0 < phi (g i) % 16 ∧ 48 + phi (g i) % 16 - 1 = g i / 256) ∧ 0 ≤ g i := by
    obtain ⟨a, f, h1, h2, e⟩ := hg
    rw [e, phi_eq h1 h2]
    rcases h2 with h2 | h2
    · rw [if_pos h2]; omega
    · rw [if_neg (by omega)]
      have e1 : (a + 256 * f) / 256 = f := by omega
      have e2 : (a + 256 * f) % 256 = a := by omega
      have e3 : (16 * a + (f - 47)) / 16 = a := by omega
      have e4 : (16 * a + (f - 47)) % 16 = f - 47 := by omega
      rw [e1, e2, e3, e4]
      omega
  obtain ⟨k1, k2, k3, k4⟩ := key
  have start : ∀ x2 : Int32, x2 = J (phi (g i)) → zWp shM (KM (d + 1)) kX12_tellsBar 0 Q 7 [some (.ref 0), some (.int (J i)), some (.int x2)] [] S := by
    intro x2 e2
    subst e2
    refine zRun_wp [] 60 ?_
    refine ⟨by decide, ?_⟩
    have dv : J (phi (g i)) / 16 = J ((g i % 256).toNat) := by
      rw [show (16 : Int32) = J 16 from rfl, J_div (by omega) (by omega) (by omega) (by omega)]
      congr 1; omega
    have rmm : J (phi (g i)) - J (phi (g i)) / 16 * 16 = J (phi (g i) % 16) := by
      rw [show (16 : Int32) = J 16 from rfl, J_rem (by omega) (by omega) (by omega) (by omega)]
    by_cases c : g i < 256
    · have eb : bw (g i) = [(g i).toNat] := if_pos c
      rw [eb] at hq hl
      rw [List.length_singleton] at hl
      refine w_tellsByte (b := (g i).toNat) (by rw [dv]; congr 2; omega) (by omega) ho hw (fun S' t1 t2 t3 => ?_)
      refine ⟨by decide, fun _ => hq S' t1 t2 t3, fun q => ?_⟩
      rw [rmm] at q
      simp (disch := omega) only [J_lit, J_neg, J_add, J_sub, J_mul, J_nI, J_le, J_lt, J_eq, J_in, J_nat] at q
      have := k2 c
      omega
    · have eb : bw (g i) = [(g i % 256).toNat, (g i / 256).toNat] := if_neg c
      rw [eb] at hq hl
      simp only [List.length_cons, List.length_nil] at hl
      obtain ⟨k5, k6⟩ := k3 c
      refine w_tellsByte (b := (g i % 256).toNat) dv (by omega) ho hw (fun S' t1 t2 t3 => ?_)
      refine ⟨by decide, fun q => ?_, fun _ => ?_⟩
      · rw [rmm] at q
        simp (disch := omega) only [J_lit, J_neg, J_add, J_sub, J_mul, J_nI, J_le, J_lt, J_eq, J_in, J_nat] at q
        omega
      refine ⟨by decide, ?_⟩
      refine w_tellsByte (b := (g i / 256).toNat) ?_ (by rw [List.length_append, List.length_singleton]; omega) t3 t2 (fun S2 t4 t5 t6 => ?_)
      · rw [rmm]; simp only [J_lit, J_neg, J_add, J_sub, J_mul, J_nI]; congr 1; omega
      · refine hq S2 (SK_tr t1 t4) t5 ?_
        rw [List.append_assoc] at t6
        exact t6
  refine eX12_tellsBar (zRun_wp [7] 60 ?_)
  refine ⟨inn, ?_⟩
  exact start _ (by rw [ix]; exact hb)
end mpile
