/-! what each asking answers -/
def plc : List En → Nat → Nat
  | (p, _, _) :: t, j => if t.length = j then p else plc t j
  | [], _ => 0
theorem GrE_plc {S : zS} : ∀ {l : List En}, GrE S l → ∀ j, j < l.length → S 14 j = J (plc l j) := by
  intro l
  induction l with
  | nil => intro _ j hj; exact absurd hj (Nat.not_lt_zero j)
  | cons x t ih =>
    obtain ⟨p, c, q⟩ := x
    intro h j hj
    unfold plc
    split
    · rename_i e; rw [← e]; exact h.1
    · rename_i e; exact ih h.2.2 j (by rw [List.length_cons] at hj; omega)
theorem MoE_plc {S : zS} : ∀ {l : List En}, MoE S l → ∀ j, j < l.length → S 10 j = J (plc l j) := by
  intro l
  induction l with
  | nil => intro _ j hj; exact absurd hj (Nat.not_lt_zero j)
  | cons x t ih =>
    obtain ⟨p, c, q⟩ := x
    intro h j hj
    unfold plc
    split
    · rename_i e; rw [← e]; exact h.1.1
    · rename_i e; exact ih h.2 j (by rw [List.length_cons] at hj; omega)
section values
variable (b : Nat → Nat → Int) (n : Nat → Nat) (dd : Nat)
abbrev frB : Nat := fre (b 1) (n 1)
abbrev acB : Nat := acc (b 1) (n 1)
abbrev stB : List En := (gst (b 1) (acc (b 1) (n 1))).1
abbrev odB : List Nat := if fre (b 1) (n 1) = 0 then od (b 1) (n 1) else []
abbrev rmB : Nat := if fre (b 1) (n 1) = 0 then rm (b 1) (n 1) else 0
abbrev scB : Nat := if fre (b 1) (n 1) = 0 then sct (b 1) (n 1) else 0
abbrev dpB : Nat := if fre (b 1) (n 1) = 0 then dpt (b 1) (n 1) else 0
def vFault (t w : Int) : Int := if ¬ ((0 ≤ t ∧ t ≤ 1) ∧ 0 ≤ w ∧ w ≤ 2) then -2 else if t = 0 then (if w = 0 ∨ rfp (b 0) (n 0) = -1 then rfp (b 0) (n 0) else 0) else if frB b n = 0 then -1 else if w = 0 then acB b n else if w = 1 then frB b n else (stB b n).length
def vWithin (j : Int) : Int := if ¬ (0 ≤ j ∧ j ≤ 2) then -2 else if frB b n = 0 ∨ ((stB b n).length : Int) ≤ j then -1 else plc (stB b n) j.toNat
def vBar (i : Int) : Int := if 0 ≤ i ∧ i < nB b n then nu (gB b n) i.toNat else -2
def vAlike (i j : Int) : Int := if 0 ≤ i ∧ i ≤ 24 ∧ 0 ≤ j ∧ j ≤ 24 then al (gB b n) (nB b n) i.toNat j.toNat else -2
def vAgain (i j : Int) : Int := if ¬ ((0 ≤ i ∧ i ≤ nB b n) ∧ 0 ≤ j ∧ j ≤ nB b n) then -2 else if j ≤ i then -3 else 1 + (al (gB b n) (nB b n) i.toNat j.toNat / (j.toNat - i.toNat) : Nat)
def vPlays (i : Int) : Int := if ¬ (-1 ≤ i ∧ i ≤ 639) then -2 else if i = -1 then (odB b n).length else if i < (odB b n).length then ((odB b n).getD i.toNat 0 : Nat) else -1
def cntL (p : Nat) : List Nat → Nat → Nat
  | _, 0 => 0
  | l, k + 1 => cntL p l k + (if l.getD k 0 = p then 1 else 0)
def vOften (p : Int) : Int := if 0 ≤ p ∧ p < rmB b n then cntL p.toNat (odB b n) (odB b n).length else -2
def vScore (w : Int) : Int := if ¬ (0 ≤ w ∧ w ≤ 2) then -2 else if w = 0 then rmB b n else if w = 1 then scB b n else dpB b n
/-- the first so many are as the run's -/
def fsl : Nat → Nat
  | 0 => 0
  | k + 1 => if fsl k < k then fsl k else if gB b n k = sgc (b 1) (n 1) ((odB b n).getD k 0) then k + 1 else k
def vFirst : Int := if fsl b n (Nat.min (nB b n) (odB b n).length) < Nat.min (nB b n) (odB b n).length then fsl b n (Nat.min (nB b n) (odB b n).length) else if nB b n = (odB b n).length then -1 else (Nat.min (nB b n) (odB b n).length : Nat)
def vSame : Int := if vFirst b n = -1 then 1 else 0
def vSpan (e i j w : Int) : Int := if ¬ ((0 ≤ e ∧ e ≤ 3) ∧ (0 ≤ i ∧ i ≤ nB b n) ∧ (0 ≤ j ∧ j ≤ nB b n) ∧ 0 ≤ w ∧ w ≤ 1) then -2 else if j ≤ i then -3 else if w = 0 then (co (gB b n) e.toNat i.toNat (j.toNat - i.toNat) / 1000 : Nat) else (co (gB b n) e.toNat i.toNat (j.toNat - i.toNat) % 1000 : Nat)
noncomputable def vFound (w : Int) : Int := if ¬ (0 ≤ w ∧ w ≤ 3) then -2 else if w = 0 then ((fnd (gB b n) (nB b n) dd).1 / 1000 : Nat) else if w = 1 then ((fnd (gB b n) (nB b n) dd).1 % 1000 : Nat) else if w = 2 then (fnd (gB b n) (nB b n) dd).2.1 else (prB b n dd).length
noncomputable def vShown (i : Int) : Int := if ¬ (0 ≤ i ∧ i ≤ 59) then -2 else if i < (prB b n dd).length then ((prB b n dd).getD i.toNat 0 : Nat) else -1
def vMend (w : Int) : Int := if ¬ (0 ≤ w ∧ w ≤ 2) then -2 else if (md (gB b n) (nB b n) dd (nB b n)).1 = -1 ∨ w = 0 then (md (gB b n) (nB b n) dd (nB b n)).1 else if w = 1 then ((md (gB b n) (nB b n) dd (nB b n)).2 / 1000 : Nat) else ((md (gB b n) (nB b n) dd (nB b n)).2 % 1000 : Nat)
noncomputable def vCount (lt : Int32) (w : Int) : Int32 := if w = 0 then J (n 0 + n 1 : Nat) else if w = 1 then J (nB b n) else if w = 2 then J (un (gB b n) (nB b n)) else if w = 3 then J dd else if w = 4 then J (odB b n).length else if w = 5 then J (rmB b n) else if w = 6 then J ((fnd (gB b n) (nB b n) dd).1 / 1000 : Nat) else if w = 7 then J ((fnd (gB b n) (nB b n) dd).1 % 1000 : Nat) else if w = 8 then lt else -2
end values
section cq
variable {d : Nat} {S : zS} {Q : Option Value → zS → Prop} {b : Nat → Nat → Int} {n : Nat → Nat} {dd : Nat}
theorem fre_rng {c : Nat → Int} {m : Nat} : fre c m ≤ 5 := by
  unfold fre
  have := rsn_le c (acc c m)
  split
  · omega
  · split <;> omega
theorem OrC_len {l : List Nat} (h : OrC S l) : l.length ≤ 640 := h.1
theorem stB_len : (gst (b 1) (acc (b 1) (n 1))).1.length ≤ 3 := gst_len _ (acc_spec (b 1) (n 1)).2.1
theorem v_fault (h : CI S b n dd) {t w : Int} (t1 : -2147483648 ≤ t) (t2 : t ≤ 2147483647) (w1 : -2147483648 ≤ w) (w2 : w ≤ 2147483647) (hq : ∀ S', CK S S' → CI S' b n dd → Q (some (.int (J (vFault b n t w)))) S') : KC (d + 6) mX11_fault [.ref 0, .int (J t), .int (J w)] S Q := by
  have fr := fre_rng (c := b 1) (m := n 1)
  have al := (acc_spec (b 1) (n 1)).1
  have sl := stB_len (b := b) (n := n)
  have n1 := h.1.1.2.1
  have bad : ¬ ((0 ≤ t ∧ t ≤ 1) ∧ 0 ≤ w ∧ w ≤ 2) → Q (some (.int (-2))) S := fun q => by
    have := hq S CK_rfl h
    unfold vFault at this
    rw [if_pos q] at this
    exact this
  refine eX11_fault (zRun_wp [40] 60 ?_)
  refine v_isText ?_
  refine ⟨fun q => ?_, fun q => ?_⟩ <;> rw [bb_0] at q <;> simp (disch := omega) only [J_lit, J_neg, J_add, J_sub, J_mul, J_nI, J_le, J_lt, J_eq, J_in, J_nat] at q
  · exact bad (by omega)
  refine ⟨fun q2 => ?_, fun q2 => ?_⟩ <;> simp (disch := omega) only [J_lit, J_neg, J_add, J_sub, J_mul, J_nI, J_le, J_lt, J_eq, J_in, J_nat] at q2
  · exact bad (by omega)
  refine ⟨fun q3 => ?_, fun q3 => ?_⟩ <;> simp (disch := omega) only [J_lit, J_neg, J_add, J_sub, J_mul, J_nI, J_le, J_lt, J_eq, J_in, J_nat] at q3
  rotate_left
  · exact bad (by omega)
  have ok : ¬ ¬ ((0 ≤ t ∧ t ≤ 1) ∧ 0 ≤ w ∧ w ≤ 2) := by omega
  unfold vFault at hq
  rw [if_neg ok] at hq
  refine ⟨fun q4 => ?_, fun q4 => ?_⟩ <;> simp (disch := omega) only [J_lit, J_neg, J_add, J_sub, J_mul, J_nI, J_le, J_lt, J_eq, J_in, J_nat] at q4
  · -- the score
    rw [if_neg q4] at hq
    have t1 : t = 1 := by omega
    refine v_freshScore (d := d) h (fun S1 c1 i1 f1 _ _ => ?_)
    obtain ⟨s1, s2, s3, -⟩ := i1.2.2.2.1 f1
    have fin : ∀ x3 : Int32, x3 = J (if fre (b 1) (n 1) = 0 then -1 else (acc (b 1) (n 1) : Int)) → zWp shC (KC (d + 5)) kX11_fault 1 Q 40 [some (.ref 0), some (.int (J t)), some (.int (J w)), none] [.int x3] S1 := by
      intro x3 e3
      have hq1 := hq S1 c1 i1
      refine zRun_wp [] 60 ?_
      by_cases f : fre (b 1) (n 1) = 0
      · rw [if_pos f] at e3
        subst e3
        rw [if_pos f] at hq1
        exact ⟨fun _ => hq1, fun q => absurd rfl q⟩
      · rw [if_neg f] at e3
        subst e3
        rw [if_neg f] at hq1
        refine ⟨fun q => ?_, fun _ => ?_⟩
        · rw [show (-1 : Int32) = J (-1) from rfl] at q
          simp (disch := omega) only [J_lit, J_neg, J_add, J_sub, J_mul, J_nI, J_le, J_lt, J_eq, J_in, J_nat] at q
          omega
        refine ⟨fun q => ?_, fun q => ?_⟩ <;> simp (disch := omega) only [J_lit, J_neg, J_add, J_sub, J_mul, J_nI, J_le, J_lt, J_eq, J_in, J_nat] at q
        rotate_left
        · rw [if_pos q] at hq1; exact hq1
        rw [if_neg q] at hq1
        refine ⟨fun _ => ?_, fun q => by simp (disch := omega) only [J_lit, J_neg, J_add, J_sub, J_mul, J_nI, J_le, J_lt, J_eq, J_in, J_nat] at q; omega⟩
        refine ⟨fun q => ?_, fun q => ?_⟩ <;> simp (disch := omega) only [J_lit, J_neg, J_add, J_sub, J_mul, J_nI, J_le, J_lt, J_eq, J_in, J_nat] at q
        · rw [if_neg q] at hq1
          rw [← s3] at hq1
          exact hq1
        · rw [if_pos q] at hq1
          rw [← s2] at hq1
          exact hq1
    exact fin _ s1
  · rw [if_pos q4] at hq
    subst q4
    refine v_freshRun (d := d + 2) h (fun S1 c1 i1 f1 _ _ => ?_)
    obtain ⟨r1, r2, r3, r4, r5⟩ := i1.2.2.1 f1
    have rr := rfp_rng (b 0) (n 0)
    have n0 := h.1.1.1
    have fin : ∀ x3 : Int32, x3 = J (rfp (b 0) (n 0)) → zWp shC (KC (d + 5)) kX11_fault 1 Q 40 [some (.ref 0), some (.int (J 0)), some (.int (J w)), none] [.int x3] S1 := by
      intro x3 e3
      subst e3
      have hq1 := hq S1 c1 i1
      refine zRun_wp [] 60 ?_
      refine ⟨fun q => ?_, fun q => ?_⟩ <;> rw [show (-1 : Int32) = J (-1) from rfl] at q <;> simp (disch := omega) only [J_lit, J_neg, J_add, J_sub, J_mul, J_nI, J_le, J_lt, J_eq, J_in, J_nat] at q
      · rw [if_pos (Or.inr q)] at hq1; exact hq1
      refine ⟨fun q2 => ?_, fun q2 => ?_⟩ <;> simp (disch := omega) only [J_lit, J_neg, J_add, J_sub, J_mul, J_nI, J_le, J_lt, J_eq, J_in, J_nat] at q2
      · rw [if_neg (by omega)] at hq1
        refine ⟨fun q => absurd rfl q, fun _ => ?_⟩
        exact hq1
      · rw [if_pos (Or.inl q2)] at hq1; exact hq1
    exact fin _ r5
theorem v_within (h : CI S b n dd) {j : Int} (j1 : -2147483648 ≤ j) (j2 : j ≤ 2147483647) (hq : ∀ S', CK S S' → CI S' b n dd → Q (some (.int (J (vWithin b n j)))) S') : KC (d + 6) mX11_within [.ref 0, .int (J j)] S Q := by
  have al := (acc_spec (b 1) (n 1)).1
  have sl := stB_len (b := b) (n := n)
  have n1 := h.1.1.2.1
  have bad : ¬ (0 ≤ j ∧ j ≤ 2) → Q (some (.int (-2))) S := fun q => by
    have := hq S CK_rfl h
    unfold vWithin at this
    rw [if_pos q] at this
    exact this
  refine eX11_within (zRun_wp [] 60 ?_)
  refine ⟨fun q => ?_, fun q => ?_⟩ <;> simp (disch := omega) only [J_lit, J_neg, J_add, J_sub, J_mul, J_nI, J_le, J_lt, J_eq, J_in, J_nat] at q
  · exact bad (by omega)
  refine ⟨fun q2 => ?_, fun q2 => ?_⟩ <;> simp (disch := omega) only [J_lit, J_neg, J_add, J_sub, J_mul, J_nI, J_le, J_lt, J_eq, J_in, J_nat] at q2
  rotate_left
  · exact bad (by omega)
  refine v_freshScore (d := d) h (fun S1 c1 i1 f1 _ _ => ?_)
  obtain ⟨s1, s2, s3, s4, -⟩ := i1.2.2.2.1 f1
  have hq1 := hq S1 c1 i1
  unfold vWithin at hq1
  rw [if_neg (by omega)] at hq1
  by_cases f : fre (b 1) (n 1) = 0
  · rw [if_pos f] at s1
    rw [if_pos (Or.inl f)] at hq1
    exact ⟨fun _ => hq1, fun q => absurd s1 q⟩
  · rw [if_neg f] at s1
    refine ⟨fun q => ?_, fun _ => ?_⟩
    · rw [s1, show (-1 : Int32) = J (-1) from rfl] at q
      simp (disch := omega) only [J_lit, J_neg, J_add, J_sub, J_mul, J_nI, J_le, J_lt, J_eq, J_in, J_nat] at q
      omega
    refine ⟨fun q3 => ?_, fun q3 => ?_⟩ <;> rw [s3] at q3 <;> simp (disch := omega) only [J_lit, J_neg, J_add, J_sub, J_mul, J_nI, J_le, J_lt, J_eq, J_in, J_nat] at q3
    · rw [if_neg (fun w => by
        rcases w with w | w
        · exact f w
        · have w' : ((gst (b 1) (acc (b 1) (n 1))).1.length : Int) ≤ j := w
          omega)] at hq1
      have ix : (J j).toNatClampNeg = j.toNat := by simp (disch := omega) only [J_lit, J_neg, J_add, J_sub, J_mul, J_nI, J_le, J_lt, J_eq, J_in, J_nat]
      refine ⟨by simp (disch := omega) only [J_lit, J_neg, J_add, J_sub, J_mul, J_nI, J_le, J_lt, J_eq, J_in, J_nat]; omega, ?_⟩
      rw [ix, GrE_plc s4 j.toNat (by omega)]
      exact hq1
    · rw [if_pos (Or.inr (by show ((gst (b 1) (acc (b 1) (n 1))).1.length : Int) ≤ j; omega))] at hq1
      exact hq1
end cq
