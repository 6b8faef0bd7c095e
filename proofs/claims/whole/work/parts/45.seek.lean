/-! the class's Jumps -/
def JOk (S : zS) (cj : Nat) (s : FS) : Prop := S cj 0 = J (cv s.1) ∧ S cj 1 = J s.2.1 ∧ S cj 2 = J s.2.2.1 ∧ S cj 3 = J s.2.2.2
def jsp : List (Nat × Nat × Nat × Nat × Nat) := [(24, 20, 21, 22, 23), (32, 28, 29, 30, 31)]
theorem jsp_x {cj c c1 c2 c3 : Nat} (h : (cj, c, c1, c2, c3) ∈ jsp) : (c, c1, c2, c3) ∈ sps ∧ cj = c + 4 ∧ c1 = c + 1 ∧ c2 = c + 2 ∧ c3 = c + 3 := by
  simp only [jsp, List.mem_cons, Prod.mk.injEq, List.not_mem_nil, or_false] at h
  rcases h with ⟨rfl, rfl, rfl, rfl, rfl⟩ | ⟨rfl, rfl, rfl, rfl, rfl⟩ <;> exact ⟨by decide, by decide, by decide, by decide, by decide⟩
section seek
variable {d : Nat} {S : zS} {Q : Option Value → zS → Prop} {cj c c1 c2 c3 m : Nat} {h : Nat → Int}
theorem v_offer (hj : cj = 24 ∨ cj = 32) {s : FS} {x k a b : Nat} (hm : m ≤ 24) (hs : JOk S cj s) (hf : FOk m s) (hx : x % 1000 < 200) (hx2 : x ≤ 100000) (hq : ∀ S', (∀ c', c' ≠ cj → S' c' = S c') → JOk S' cj (ofr s x k a b) → Q none S') : KC (d + 1) mX2_offer [.ref cj, .int (J (cv x)), .int (J k), .int (J a), .int (J b)] S Q := by
  obtain ⟨s0, s1, s2, s3⟩ := id hs
  obtain ⟨f1, f2, -⟩ := hf
  have l1 : cv x ≤ 40000 := by unfold cv; omega
  have l2 : cv s.1 ≤ 40000 := by unfold cv; omega
  have lt := cv_lt (a := x) (b := s.1) (by omega) (by omega)
  rcases hj with rfl | rfl
  all_goals
    refine eX2_offer (zRun_wp [] 60 ?_)
    refine ⟨fun k1 => ?_, fun k1 => ?_⟩ <;> rw [s0] at k1 <;> simp (disch := omega) only [J_lit, J_neg, J_add, J_sub, J_mul, J_nI, J_le, J_lt, J_eq, J_in, J_nat] at k1
    · refine hq S (fun _ _ => rfl) ?_
      unfold ofr
      rw [if_neg (fun q => by have := lt.mpr q; omega)]
      exact hs
    · refine ⟨rfl, fun e => absurd e (by decide), rfl, fun e => absurd e (by decide), rfl, fun e => absurd e (by decide), rfl, fun e => absurd e (by decide), ?_⟩
      refine hq _ (fun c' hc => ?_) ?_
      · rw [zu_same hc, zu_same hc, zu_same hc, zu_same hc]
      · unfold ofr
        rw [if_pos (lt.mp (by omega))]
        refine ⟨?_, ?_, ?_, ?_⟩ <;> simp [zu_r]
end seek
