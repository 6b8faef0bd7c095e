/-! the model plays: a step -/
/-- what playing writes -/
def PK (S S' : zS) : Prop := (∀ c, c ≠ 0 → c ≠ 19 → c ≠ 20 → c ≠ 21 → S' c = S c) ∧ ∀ k, k ≠ 33 → S' 0 k = S 0 k
theorem PK_rfl {S : zS} : PK S S := ⟨fun _ _ _ _ _ => rfl, fun _ _ => rfl⟩
theorem PK_tr {S S1 S2 : zS} (a : PK S S1) (b : PK S1 S2) : PK S S2 := ⟨fun c h1 h2 h3 h4 => (b.1 c h1 h2 h3 h4).trans (a.1 c h1 h2 h3 h4), fun i h1 => (b.2 i h1).trans (a.2 i h1)⟩
def PlO (S : zS) (l : List Nat) : Prop := l.length ≤ 640 ∧ S 0 33 = J l.length ∧ ∀ k, k < l.length → S 19 k = J (l.getD k 0)
/-- the loop's head -/
def Wk (d : Nat) (Q : Option Value → zS → Prop) (x1 : Int32) (E h i : Nat) (S : zS) : Prop := ∀ y5 y6 : Option Value, zWp shM (KM (d + 2)) kX12_playing 0 Q 5 [some (.ref 0), some (.int x1), some (.int (J E)), some (.int (J h)), some (.int (J i)), y5, y6] [] S
theorem Wk_e {d : Nat} {Q : Option Value → zS → Prop} {x1 x3 x4 : Int32} {E h i : Nat} {S : zS} (w : Wk d Q x1 E h i S) (e3 : x3 = J h) (e4 : x4 = J i) (y5 y6 : Option Value) : zWp shM (KM (d + 2)) kX12_playing 0 Q 5 [some (.ref 0), some (.int x1), some (.int (J E)), some (.int x3), some (.int x4), y5, y6] [] S := by
  subst e3 e4
  exact w y5 y6
theorem PlO_k {S S' : zS} {l : List Nat} (h : PlO S l) (k0 : S' 0 33 = S 0 33) (k1 : S' 19 = S 19) : PlO S' l := ⟨h.1, by rw [k0]; exact h.2.1, fun k hk => by rw [k1]; exact h.2.2 k hk⟩
section msteps
variable {d : Nat} {S : zS} {Q : Option Value → zS → Prop} {b : Nat → Int} {x1 : Int32} {E h i : Nat}
theorem st_letter (hE : E ≤ 40) (hi : i < E) (hh : h ≤ 3) (hb : S 6 i = J (b i)) (hz : letr (b i)) {l : List Nat} {r : Nat} (hw : S 15 i = J r) (hp : PlO S l) (hl : l.length < 640)
    (hq : ∀ S', PK S S' → PlO S' (l ++ [r]) → S' 20 = S 20 → S' 21 = S 21 → Wk d Q x1 E h (i + 1) S') : Wk d Q x1 E h i S := by
  intro y5 y6
  obtain ⟨-, p1, p2⟩ := hp
  have jx : (J i).toNatClampNeg = i := by simp (disch := omega) only [J_lit, J_neg, J_add, J_sub, J_mul, J_nI, J_le, J_lt, J_eq, J_in, J_nat]; omega
  have inj : vp_in (J i) 40 := by simp (disch := omega) only [J_lit, J_neg, J_add, J_sub, J_mul, J_nI, J_le, J_lt, J_eq, J_in, J_nat]; omega
  have px : (S 0 33).toNatClampNeg = l.length := by rw [p1]; simp (disch := omega) only [J_lit, J_neg, J_add, J_sub, J_mul, J_nI, J_le, J_lt, J_eq, J_in, J_nat]; omega
  have pin : vp_in (S 0 33) 640 := by rw [p1]; simp (disch := omega) only [J_lit, J_neg, J_add, J_sub, J_mul, J_nI, J_le, J_lt, J_eq, J_in, J_nat]; omega
  refine zRun_wp [20] 120 ?_
  refine ⟨fun w => ?_, fun _ => ?_⟩
  · simp (disch := omega) only [J_lit, J_neg, J_add, J_sub, J_mul, J_nI, J_le, J_lt, J_eq, J_in, J_nat] at w
    omega
  refine ⟨inj, ?_⟩
  have go : ∀ (y4 : Option Value) (x5 : Int32), x5 = J (b i) → zWp shM (KM (d + 2)) kX12_playing 0 Q 20 [some (.ref 0), some (.int x1), some (.int (J E)), some (.int (J h)), some (.int (J i)), some (.int x5), y6] [] S := by
    intro y4 x5 e5
    subst e5
    refine zRun_wp [5] 120 ?_
    refine w_isLetter (d := d) ?_
    rw [bb_t (by simp (disch := omega) only [J_lit, J_neg, J_add, J_sub, J_mul, J_nI, J_le, J_lt, J_eq, J_in, J_nat]; exact hz)]
    refine ⟨fun w => absurd w (by decide), fun _ => ?_⟩
    refine ⟨fun w => ?_, fun _ => ?_⟩
    · rw [p1] at w
      simp (disch := omega) only [J_lit, J_neg, J_add, J_sub, J_mul, J_nI, J_le, J_lt, J_eq, J_in, J_nat] at w
      omega
    refine ⟨inj, pin, rfl, fun e => absurd e (by decide), ?_⟩
    rw [px, jx]
    refine ⟨fun _ => ?_, fun w => by simp (disch := omega) only [J_lit, J_neg, J_add, J_sub, J_mul, J_nI, J_le, J_lt, J_eq, J_in, J_nat] at w; omega⟩
    refine ⟨fun w => by simp (disch := omega) only [J_lit, J_neg, J_add, J_sub, J_mul, J_nI, J_le, J_lt, J_eq, J_in, J_nat] at w; omega, fun _ => ?_⟩
    refine ⟨fun w => by simp (disch := omega) only [J_lit, J_neg, J_add, J_sub, J_mul, J_nI, J_le, J_lt, J_eq, J_in, J_nat] at w; omega, fun _ => ?_⟩
    refine ⟨fun _ => ?_, fun w => by simp (disch := omega) only [J_lit, J_neg, J_add, J_sub, J_mul, J_nI, J_le, J_lt, J_eq, J_in, J_nat] at w; omega⟩
    refine ⟨fun _ => ?_, fun w => by simp (disch := omega) only [J_lit, J_neg, J_add, J_sub, J_mul, J_nI, J_le, J_lt, J_eq, J_in, J_nat] at w; omega⟩
    have e1 : J i + 1 = J (i + 1 : Nat) := by simp only [J_lit, J_neg, J_add, J_sub, J_mul, J_nI]; congr 1
    have e2 : J h - 0 = J h := by simp only [J_lit, J_neg, J_add, J_sub, J_mul, J_nI]; congr 1
    refine Wk_e (hq _ ⟨fun c c1 c2 c3 c4 => by rw [zu_same c1, zu_same c2], fun k hk => by simp only [zu_r, if_true]; rw [if_neg hk, if_neg (by decide)]⟩ ⟨?_, ?_, fun k hk => ?_⟩ (by rw [zu_same (by decide), zu_same (by decide)]) (by rw [zu_same (by decide), zu_same (by decide)])) e2 e1 _ _
    · rw [List.length_append, List.length_singleton]; omega
    · rw [List.length_append, List.length_singleton]
      simp only [zu_r, if_true]
      rw [if_neg (by decide), p1]; simp only [J_lit, J_neg, J_add, J_sub, J_mul, J_nI]; congr 1
    · rw [List.length_append, List.length_singleton] at hk
      rw [zu_same (by decide), getD_app hk]
      simp only [zu_r, if_true]
      by_cases e : k = l.length
      · rw [if_pos e, if_pos e]; exact hw
      · rw [if_neg e, if_neg e]; exact p2 k (by omega)
  refine go none _ ?_
  rw [jx]; exact hb
/-- the byte is read -/
theorem st_byte (hE : E ≤ 40) (hi : i < E) (hb : S 6 i = J (b i)) (go : ∀ y6 : Option Value, zWp shM (KM (d + 2)) kX12_playing 0 Q 20 [some (.ref 0), some (.int x1), some (.int (J E)), some (.int (J h)), some (.int (J i)), some (.int (J (b i))), y6] [] S) : Wk d Q x1 E h i S := by
  intro y5 y6
  have jx : (J i).toNatClampNeg = i := by simp (disch := omega) only [J_lit, J_neg, J_add, J_sub, J_mul, J_nI, J_le, J_lt, J_eq, J_in, J_nat]; omega
  have inj : vp_in (J i) 40 := by simp (disch := omega) only [J_lit, J_neg, J_add, J_sub, J_mul, J_nI, J_le, J_lt, J_eq, J_in, J_nat]; omega
  refine zRun_wp [20] 120 ?_
  refine ⟨fun w => ?_, fun _ => ?_⟩
  · simp (disch := omega) only [J_lit, J_neg, J_add, J_sub, J_mul, J_nI, J_le, J_lt, J_eq, J_in, J_nat] at w
    omega
  refine ⟨inj, ?_⟩
  have go' : ∀ x5 : Int32, x5 = J (b i) → zWp shM (KM (d + 2)) kX12_playing 0 Q 20 [some (.ref 0), some (.int x1), some (.int (J E)), some (.int (J h)), some (.int (J i)), some (.int x5), y6] [] S := by
    intro x5 e5
    subst e5
    exact go y6
  refine go' _ ?_
  rw [jx]; exact hb
theorem nlet {z : Int} (h0 : 0 ≤ z ∧ z ≤ 255) (h : ¬ letr z) : ¬ (97 ≤ J z ∧ J z ≤ 122) := fun q => h ((let_iff h0).mp q)
theorem st_figure (hE : E ≤ 40) (hi : i < E) (hh : h ≤ 3) (hb : S 6 i = J (b i)) (hz : figr (b i)) (hq : Wk d Q x1 E h (i + 1) S) : Wk d Q x1 E h i S := by
  refine st_byte hE hi hb (fun y6 => ?_)
  refine zRun_wp [5] 120 ?_
  refine w_isLetter (d := d) ?_
  rw [bb_f (nlet (by omega) (by omega))]
  refine ⟨fun _ => ?_, fun w => absurd rfl w⟩
  refine ⟨fun _ => ?_, fun w => by simp (disch := omega) only [J_lit, J_neg, J_add, J_sub, J_mul, J_nI, J_le, J_lt, J_eq, J_in, J_nat] at w; omega⟩
  refine ⟨fun w => by simp (disch := omega) only [J_lit, J_neg, J_add, J_sub, J_mul, J_nI, J_le, J_lt, J_eq, J_in, J_nat] at w; omega, fun _ => ?_⟩
  refine ⟨fun w => by simp (disch := omega) only [J_lit, J_neg, J_add, J_sub, J_mul, J_nI, J_le, J_lt, J_eq, J_in, J_nat] at w; omega, fun _ => ?_⟩
  refine ⟨fun _ => ?_, fun w => by simp (disch := omega) only [J_lit, J_neg, J_add, J_sub, J_mul, J_nI, J_le, J_lt, J_eq, J_in, J_nat] at w; omega⟩
  refine ⟨fun _ => ?_, fun w => by simp (disch := omega) only [J_lit, J_neg, J_add, J_sub, J_mul, J_nI, J_le, J_lt, J_eq, J_in, J_nat] at w; omega⟩
  have e1 : J i + 1 = J (i + 1 : Nat) := by simp only [J_lit, J_neg, J_add, J_sub, J_mul, J_nI]; congr 1
  have e2 : J h - 0 = J h := by simp only [J_lit, J_neg, J_add, J_sub, J_mul, J_nI]; congr 1
  exact Wk_e hq e2 e1 _ _
theorem st_open (hE : E ≤ 40) (hi : i < E) (hh : h ≤ 3) (hb : S 6 i = J (b i)) (hz : b i = 91) (hq : Wk d Q x1 E (h + 1) (i + 1) (zu (zu S 21 h (J i)) 20 h 1)) : Wk d Q x1 E h i S := by
  refine st_byte hE hi hb (fun y6 => ?_)
  have hx : (J h).toNatClampNeg = h := by simp (disch := omega) only [J_lit, J_neg, J_add, J_sub, J_mul, J_nI, J_le, J_lt, J_eq, J_in, J_nat]; omega
  have hin : vp_in (J h) 4 := by simp (disch := omega) only [J_lit, J_neg, J_add, J_sub, J_mul, J_nI, J_le, J_lt, J_eq, J_in, J_nat]; omega
  refine zRun_wp [5] 120 ?_
  refine w_isLetter (d := d) ?_
  rw [bb_f (nlet (by omega) (by omega))]
  refine ⟨fun _ => ?_, fun w => absurd rfl w⟩
  rw [hz]
  refine ⟨fun w => absurd rfl w, fun _ => ?_⟩
  refine ⟨hin, hin, ?_⟩
  rw [hx]
  refine ⟨fun w => absurd w (by decide), fun _ => ?_⟩
  refine ⟨fun w => absurd w (by decide), fun _ => ?_⟩
  refine ⟨fun _ => ?_, fun w => absurd w (by decide)⟩
  refine ⟨fun _ => ?_, fun w => absurd w (by decide)⟩
  have e1 : J i + 1 = J (i + 1 : Nat) := by simp only [J_lit, J_neg, J_add, J_sub, J_mul, J_nI]; congr 1
  have e2 : J h + 1 - 0 = J (h + 1 : Nat) := by simp only [J_lit, J_neg, J_add, J_sub, J_mul, J_nI]; congr 1
  exact Wk_e hq e2 e1 _ _
theorem Jb {z k : Int} (h : 0 ≤ z ∧ z ≤ 255) (hk : 0 ≤ k ∧ k ≤ 255) : J z = J k ↔ z = k := J_eq (by omega) (by omega) (by omega) (by omega)
theorem Jcm {z : Int} (h : -1 ≤ z ∧ z ≤ 40) : J z = J (-1) ↔ z = -1 := J_eq (by omega) (by omega) (by omega) (by omega)
/-- where to behind : ; ] -/
theorem w_after (hE : E ≤ 40) (hi : i < E) (hh : h + 1 ≤ 4) (hb : S 6 i = J (b i)) (hz : b i = 58 ∨ b i = 59 ∨ b i = 93) {p v : Nat} {c q : Int} (hp : p < 40) (h1 : S 21 h = J p) (h2 : S 20 h = J v) (hv : v = 1 ∨ v = 2)
    (hc : b i = 93 → S 12 p = J c ∧ -1 ≤ c ∧ c ≤ 40) (hs : b i = 58 → v = 2 → S 13 p = J q)
    (g1 : b i = 58 → v = 2 → Q (some (.int (J (q + 1)))) S)
    (g2 : (b i = 59 ∨ (b i = 93 ∧ c = -1 ∧ v = 1)) → Q (some (.int (J (p + 1 : Nat)))) (zu S 20 h 2))
    (g3 : ((b i = 58 ∧ v = 1) ∨ (b i = 93 ∧ ¬ (c = -1 ∧ v = 1))) → Q (some (.int (J (i + 1 : Nat)))) S) : KM (d + 1) mX12_after [.ref 0, .int (J i), .int (J (h + 1 : Nat))] S Q := by
  have jx : (J i).toNatClampNeg = i := by clear hc hs g1 g2 g3 hv hz; simp (disch := omega) only [J_lit, J_neg, J_add, J_sub, J_mul, J_nI, J_le, J_lt, J_eq, J_in, J_nat]; omega
  have inj : vp_in (J i) 40 := by clear hc hs g1 g2 g3 hv hz; simp (disch := omega) only [J_lit, J_neg, J_add, J_sub, J_mul, J_nI, J_le, J_lt, J_eq, J_in, J_nat]; omega
  have hx : (J (h + 1 : Nat) - 1).toNatClampNeg = h := by clear hc hs g1 g2 g3 hv hz; simp (disch := omega) only [J_lit, J_neg, J_add, J_sub, J_mul, J_nI, J_le, J_lt, J_eq, J_in, J_nat]; omega
  have hin : vp_in (J (h + 1 : Nat) - 1) 4 := by clear hc hs g1 g2 g3 hv hz; simp (disch := omega) only [J_lit, J_neg, J_add, J_sub, J_mul, J_nI, J_le, J_lt, J_eq, J_in, J_nat]; omega
  have px : (J p).toNatClampNeg = p := by clear hc hs g1 g2 g3 hv hz; simp (disch := omega) only [J_lit, J_neg, J_add, J_sub, J_mul, J_nI, J_le, J_lt, J_eq, J_in, J_nat]; omega
  have pin : vp_in (J p) 40 := by clear hc hs g1 g2 g3 hv hz; simp (disch := omega) only [J_lit, J_neg, J_add, J_sub, J_mul, J_nI, J_le, J_lt, J_eq, J_in, J_nat]; omega
  have e2 : S 20 h = 2 ↔ v = 2 := by clear hc hs g1 g2 g3 hz; rw [h2]; simp (disch := omega) only [J_lit, J_neg, J_add, J_sub, J_mul, J_nI, J_le, J_lt, J_eq, J_in, J_nat]; omega
  have e1 : S 20 h = 1 ↔ v = 1 := by clear hc hs g1 g2 g3 hz; rw [h2]; simp (disch := omega) only [J_lit, J_neg, J_add, J_sub, J_mul, J_nI, J_le, J_lt, J_eq, J_in, J_nat]; omega
  have hpos : ¬ J (h + 1 : Nat) ≤ 0 := by clear hc hs g1 g2 g3 hv hz; simp (disch := omega) only [J_lit, J_neg, J_add, J_sub, J_mul, J_nI, J_le, J_lt, J_eq, J_in, J_nat]; omega
  have bz : 0 ≤ b i ∧ b i ≤ 255 := by clear hc hs g1 g2 g3 hv; omega
  have cz : b i = 93 → -1 ≤ c ∧ c ≤ 40 := fun w => (hc w).2
  have at93 : ∀ x : Int32, x = bb (b i = 59 ∨ (b i = 93 ∧ c = -1 ∧ v = 1)) → ¬ (b i = 58 ∧ v = 2) → zWp shM (KM d) kX12_after 1 Q 93 [some (.ref 0), some (.int (J i)), some (.int (J (h + 1 : Nat))), some (.int (J (b i))), some (.int (J p)), none] [.int x] S := by
    intro x ex nn
    refine zRun_wp [] 80 ?_
    by_cases w : b i = 59 ∨ (b i = 93 ∧ c = -1 ∧ v = 1)
    · rw [bb_t w] at ex
      subst ex
      refine ⟨fun q => absurd q (by decide), fun _ => ?_⟩
      refine ⟨hin, ?_⟩
      rw [hx]
      have w' := g2 w
      rw [← show J p + 1 = J (p + 1 : Nat) by simp only [J_lit, J_neg, J_add, J_sub, J_mul, J_nI]; congr 1] at w'
      exact w'
    · rw [bb_f w] at ex
      subst ex
      refine ⟨fun _ => ?_, fun q => absurd rfl q⟩
      have w' := g3 (by
        rcases hz with z | z | z
        · refine Or.inl ⟨z, ?_⟩
          rcases hv with hv | hv
          · exact hv
          · exact absurd ⟨z, hv⟩ nn
        · exact absurd (Or.inl z) w
        · exact Or.inr ⟨z, fun q => w (Or.inr ⟨z, q⟩)⟩)
      rw [← show J i + 1 = J (i + 1 : Nat) by simp only [J_lit, J_neg, J_add, J_sub, J_mul, J_nI]; congr 1] at w'
      exact w'
  have at25 : ∀ x4 : Int32, x4 = J p → zWp shM (KM d) kX12_after 1 Q 25 [some (.ref 0), some (.int (J i)), some (.int (J (h + 1 : Nat))), some (.int (J (b i))), some (.int x4), none] [] S := by
    intro x4 e4
    subst e4
    have at53 : ¬ (b i = 58 ∧ v = 2) → zWp shM (KM d) kX12_after 1 Q 53 [some (.ref 0), some (.int (J i)), some (.int (J (h + 1 : Nat))), some (.int (J (b i))), some (.int (J p)), none] [] S := by
      intro nn
      refine zRun_wp [93] 80 ?_
      refine ⟨fun w => ?_, fun w => ?_⟩ <;> rw [J_lit, Jb bz (by decide)] at w
      · exact at93 _ (bb_t (Or.inl w)).symm nn
      refine ⟨fun w2 => ?_, fun w2 => ?_⟩ <;> rw [J_lit, Jb bz (by decide)] at w2
      · exact at93 _ (bb_f (fun q => by rcases q with q | q; exact w q; exact w2 q.1)).symm nn
      obtain ⟨c1, c2, c3⟩ := hc w2
      refine ⟨pin, ?_⟩
      refine ⟨fun w3 => ?_, fun w3 => ?_⟩ <;> rw [px, c1, show (-1 : Int32) = J (-1) from rfl, Jcm ⟨c2, c3⟩] at w3
      · exact at93 _ (bb_f (fun q => by rcases q with q | q; exact w q; exact w3 q.2.1)).symm nn
      refine ⟨hin, ?_⟩
      refine ⟨fun w4 => ?_, fun w4 => ?_⟩ <;> rw [hx, e1] at w4
      · exact at93 _ (bb_f (fun q => by rcases q with q | q; exact w q; exact w4 q.2.2)).symm nn
      · exact at93 _ (bb_t (Or.inr ⟨w2, w3, w4⟩)).symm nn
    refine zRun_wp [53] 80 ?_
    refine ⟨fun w => ?_, fun w => ?_⟩ <;> rw [J_lit, Jb bz (by decide)] at w
    · exact at53 (fun q => w q.1)
    refine ⟨hin, ?_⟩
    refine ⟨fun w2 => ?_, fun w2 => ?_⟩ <;> rw [hx, e2] at w2
    · exact at53 (fun q => w2 q.2)
    refine ⟨pin, ?_⟩
    rw [px, hs w w2]
    have w' := g1 w w2
    rw [← show J q + 1 = J (q + 1) by simp only [J_lit, J_neg, J_add, J_sub, J_mul, J_nI]] at w'
    exact w'
  have at7 : ∀ x3 : Int32, x3 = J (b i) → zWp shM (KM d) kX12_after 1 Q 7 [some (.ref 0), some (.int (J i)), some (.int (J (h + 1 : Nat))), some (.int x3), none, none] [] S := by
    intro x3 e3
    subst e3
    refine zRun_wp [25] 80 ?_
    refine ⟨fun w => absurd w hpos, fun _ => ?_⟩
    refine ⟨hin, ?_⟩
    refine at25 _ ?_
    rw [hx]; exact h1
  refine eX12_after (zRun_wp [7] 60 ?_)
  refine ⟨inj, ?_⟩
  refine at7 _ ?_
  rw [jx]; exact hb
/-- behind after -/
theorem st_to {t : Nat} {x : Int32} (ex : x = J t) (ht : t ≤ 100) (hi : i < 40) (hh : h + 1 ≤ 4) (hz : b i = 58 ∨ b i = 59 ∨ b i = 93) {S2 : zS} (hq : Wk d Q x1 E (if b i = 93 ∧ t = i + 1 then h else h + 1) t S2) (y6 : Option Value) : zWp shM (KM (d + 2)) kX12_playing 0 Q 124 [some (.ref 0), some (.int x1), some (.int (J E)), some (.int (J (h + 1 : Nat))), some (.int (J i)), some (.int (J (b i))), y6] [.int x] S2 := by
  subst ex
  have fin : ∀ x : Int32, x = J (if b i = 93 ∧ t = i + 1 then 1 else 0) → ∀ y : Option Value, zWp shM (KM (d + 2)) kX12_playing 0 Q 148 [some (.ref 0), some (.int x1), some (.int (J E)), some (.int (J (h + 1 : Nat))), some (.int (J i)), some (.int (J (b i))), some (.int (J t))] [.int x, .int (J (h + 1 : Nat))] S2 := by
    intro x ex y
    subst ex
    refine zRun_wp [5] 60 ?_
    have : J (h + 1 : Nat) - J (if b i = 93 ∧ t = i + 1 then 1 else 0) = J ((if b i = 93 ∧ t = i + 1 then h else h + 1 : Nat) : Int) := by
      simp only [J_lit, J_neg, J_add, J_sub, J_mul, J_nI]; congr 1; split <;> omega
    exact Wk_e hq this rfl _ _
  refine zRun_wp [148] 60 ?_
  refine ⟨fun w => ?_, fun w => ?_⟩ <;> simp (disch := omega) only [J_lit, J_neg, J_add, J_sub, J_mul, J_nI, J_le, J_lt, J_eq, J_in, J_nat] at w
  · exact fin _ (by rw [if_neg (fun q => w q.1)]; rfl) none
  refine ⟨fun w2 => ?_, fun w2 => ?_⟩ <;> simp (disch := omega) only [J_lit, J_neg, J_add, J_sub, J_mul, J_nI, J_le, J_lt, J_eq, J_in, J_nat] at w2
  · exact fin _ (by rw [if_neg (fun q => by omega)]; rfl) none
  · exact fin _ (by rw [if_pos ⟨w, by omega⟩]; rfl) none
/-- : ; ] -/
theorem st_sign (hE : E ≤ 40) (hi : i < E) (hh : h + 1 ≤ 4) (hb : S 6 i = J (b i)) (hz : b i = 58 ∨ b i = 59 ∨ b i = 93) {p v : Nat} {c q : Int} (hp : p < 40) (h1 : S 21 h = J p) (h2 : S 20 h = J v) (hv : v = 1 ∨ v = 2)
    (hc : b i = 93 → S 12 p = J c ∧ -1 ≤ c ∧ c ≤ 40) (hs : b i = 58 → v = 2 → S 13 p = J q ∧ 0 ≤ q ∧ q ≤ 40) (hpi : p < i)
    (g1 : b i = 58 → v = 2 → Wk d Q x1 E (h + 1) (q.toNat + 1) S)
    (g2 : (b i = 59 ∨ (b i = 93 ∧ c = -1 ∧ v = 1)) → Wk d Q x1 E (h + 1) (p + 1) (zu S 20 h 2))
    (g3 : b i = 58 → v = 1 → Wk d Q x1 E (h + 1) (i + 1) S)
    (g4 : b i = 93 → ¬ (c = -1 ∧ v = 1) → Wk d Q x1 E h (i + 1) S) : Wk d Q x1 E (h + 1) i S := by
  have bz : 0 ≤ b i ∧ b i ≤ 255 := by clear hc hs g1 g2 g3 g4 hv; omega
  have nl : ¬ letr (b i) := by clear hc hs g1 g2 g3 g4 hv; omega
  have n91 : ¬ b i = 91 := by clear hc hs g1 g2 g3 g4 hv; omega
  have i40 : i < 40 := by clear hc hs g1 g2 g3 g4 hv hz; omega
  refine st_byte hE hi hb (fun y6 => ?_)
  refine zRun_wp [110, 124] 120 ?_
  refine w_isLetter (d := d) ?_
  rw [bb_f (nlet bz nl)]
  refine ⟨fun _ => ?_, fun w => absurd rfl w⟩
  refine ⟨fun _ => ?_, fun w => absurd ((Jb (k := 91) bz (by decide)).mp w) n91⟩
  have at110 : zWp shM (KM (d + 2)) kX12_playing 0 Q 110 [some (.ref 0), some (.int x1), some (.int (J E)), some (.int (J (h + 1 : Nat))), some (.int (J i)), some (.int (J (b i))), y6] [] S := by
    refine zRun_wp [124] 60 ?_
    refine w_after (d := d + 1) hE hi hh hb hz hp h1 h2 hv hc (fun a b => (hs a b).1) (fun a e => ?_) (fun a => ?_) (fun a => ?_)
    · obtain ⟨-, q1, q2⟩ := hs a e
      refine st_to (t := q.toNat + 1) (by congr 1; clear hc hs g1 g2 g3 g4 hv hz; omega) (by clear hc hs g1 g2 g3 g4 hv hz; omega) i40 hh hz ?_ _
      rw [if_neg (fun w => absurd (a.symm.trans w.1) (by decide))]
      exact g1 a e
    · refine st_to (t := p + 1) rfl (by clear hc hs g1 g2 g3 g4 hv hz a; omega) i40 hh hz ?_ _
      rw [if_neg (fun w => by have := w.2; clear hc hs g1 g2 g3 g4 hv hz a w; omega)]
      exact g2 a
    · refine st_to (t := i + 1) rfl (by clear hc hs g1 g2 g3 g4 hv hz a; omega) i40 hh hz ?_ _
      rcases a with a | a
      · rw [if_neg (fun w => absurd (a.1.symm.trans w.1) (by decide))]
        exact g3 a.1 a.2
      · rw [if_pos ⟨a.1, rfl⟩]
        exact g4 a.1 a.2
  refine ⟨fun _ => at110, fun w1 => ?_⟩
  refine ⟨fun _ => at110, fun w2 => ?_⟩
  refine ⟨fun w3 => ?_, fun _ => at110⟩
  rw [J_lit, Jb bz (by decide)] at w1 w2 w3
  rcases hz with z | z | z
  · exact absurd z w1
  · exact absurd z w2
  · exact absurd z w3
end msteps
