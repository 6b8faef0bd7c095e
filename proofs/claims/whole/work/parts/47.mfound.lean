/-! the model: what is found -/
def FK (S S' : zS) : Prop := (∀ c, c ≠ 0 → S' c = S c) ∧ ∀ i, i < 38 ∨ 41 < i → S' 0 i = S 0 i
theorem FK_refl (S : zS) : FK S S := ⟨fun _ _ => rfl, fun _ _ => rfl⟩
theorem FK_trans {S S1 S2 : zS} (a : FK S S1) (b : FK S1 S2) : FK S S2 := ⟨fun c h => (b.1 c h).trans (a.1 c h), fun i h => (b.2 i h).trans (a.2 i h)⟩
def MJ (S : zS) (s : FS) : Prop := S 0 M_foundCost = J s.1 ∧ S 0 M_foundHow = J s.2.1 ∧ (s.2.1 ≠ 0 → S 0 M_foundA = J s.2.2.1 ∧ S 0 M_foundB = J s.2.2.2)
section mfound
variable {d : Nat} {S : zS} {Q : Option Value → zS → Prop} {m : Nat} {h : Nat → Int}
theorem w_costOf {dd i j : Nat} {x y : Int32} (ex : x = J i) (ey : y = J j) (hi : i ≤ 24) (hj : j ≤ 24) (hd : S 0 M_depth = J dd) (hdd : dd ≤ 3) (hC : S A_cost (625 * dd + 25 * i + j) = J (co h dd i (j - i))) (hq : Q (some (.int (J (co h dd i (j - i))))) S) : KM (d + 1) mX12_costOf [.ref 0, .int x, .int y] S Q := by
  subst ex ey
  have e : 625 * S 0 8 + 25 * J i + J j = J (625 * dd + 25 * i + j : Nat) := by rw [show S 0 8 = J dd from hd]; simp only [J_lit, J_neg, J_add, J_sub, J_mul, J_nI]; congr 1
  have go : vp_in (625 * S 0 8 + 25 * J i + J j) 2500 ∧ Q (some (.int (S 22 (625 * S 0 8 + 25 * J i + J j).toNatClampNeg))) S := by
    rw [e]
    have pin : vp_in (J (625 * dd + 25 * i + j : Nat)) 2500 := by simp (disch := omega) only [J_lit, J_neg, J_add, J_sub, J_mul, J_nI, J_le, J_lt, J_eq, J_in, J_nat]; omega
    have pix : (J (625 * dd + 25 * i + j : Nat)).toNatClampNeg = 625 * dd + 25 * i + j := by simp (disch := omega) only [J_lit, J_neg, J_add, J_sub, J_mul, J_nI, J_le, J_lt, J_eq, J_in, J_nat]; omega
    rw [pix, show S 22 (625 * dd + 25 * i + j) = _ from hC]
    exact ⟨pin, hq⟩
  refine eX12_costOf (zRun_wp [] 60 ?_)
  exact go
theorem w_offersFound {s : FS} {x k a b : Nat} {x1 x2 x3 x4 : Int32} (e1 : x1 = J x) (e2 : x2 = J k) (e3 : x3 = J a) (e4 : x4 = J b) (hx : x ≤ 1000000) (hs1 : s.1 ≤ 1000000) (hs : MJ S s) (hq : ∀ S', FK S S' → MJ S' (ofr s x k a b) → Q none S') : KM (d + 1) mX12_offersFound [.ref 0, .int x1, .int x2, .int x3, .int x4] S Q := by
  subst e1 e2 e3 e4
  have s0 : S 0 38 = J s.1 := hs.1
  refine eX12_offersFound (zRun_wp [] 60 ?_)
  refine ⟨fun k1 => ?_, fun k1 => ?_⟩ <;> rw [s0] at k1 <;> simp (disch := omega) only [J_lit, J_neg, J_add, J_sub, J_mul, J_nI, J_le, J_lt, J_eq, J_in, J_nat] at k1
  · refine hq S (FK_refl S) ?_
    unfold ofr
    rw [if_neg (by omega)]
    exact hs
  · refine ⟨rfl, fun e => absurd e (by decide), rfl, fun e => absurd e (by decide), rfl, fun e => absurd e (by decide), rfl, fun e => absurd e (by decide), ?_⟩
    refine hq _ ⟨fun c hc => ?_, fun i hi => ?_⟩ ?_
    · rw [zu_same hc, zu_same hc, zu_same hc, zu_same hc]
    · simp only [zu_r, A_forms, A_sizes, A_items, A_moved, M_latest, A_run, A_score, A_typed, M_depth, M_bars, A_bar, A_number, M_unlike, M_place, M_reason, M_open, A_opens, A_stages, A_colon, A_semi, A_shut, M_percent, M_bang, M_dollar, M_printed, M_signs, M_deepest, A_which, A_bytesOf, A_order, M_many, A_like, A_played, M_plays, A_passes, A_from, A_cost, A_how, M_foundCost, M_foundHow, M_foundA, M_foundB, A_out, M_shown, A_waits, M_high, M_mendWhich, M_mendCost, if_true]
      rw [if_neg (by omega), if_neg (by omega), if_neg (by omega), if_neg (by omega)]
    · unfold ofr
      rw [if_pos (by omega)]
      refine ⟨?_, ?_, fun _ => ⟨?_, ?_⟩⟩ <;> simp [zu_r, M_foundCost, M_foundHow, M_foundA, M_foundB]
end mfound
