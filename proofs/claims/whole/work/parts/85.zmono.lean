/-! a weaker end -/
theorem zin_Q {sh : List zD} {K : zKT} {rt : Nat} {Q Q' : Option Value → zS → Prop} {X : zXT} {pc : Nat} {ins : Instr} {nx : Nat} {k : Int32} {a b c : Nat} {ls : zLs} {st : List Value} {S : zS} (hQ : ∀ r S, Q r S → Q' r S) (h : zin sh K rt Q X pc ins nx k a b c ls st S) : zin sh K rt Q' X pc ins nx k a b c ls st S := by
  cases ins
  case ireturn =>
    unfold zin at h ⊢
    dsimp only at h ⊢
    split at h
    · split at h
      · exact hQ _ _ h
      · exact ⟨h.1, hQ _ _ h.2⟩
      · exact h
    · exact h
  case lreturn =>
    unfold zin at h ⊢
    dsimp only at h ⊢
    split at h
    · split at h
      · exact hQ _ _ h
      · exact h
    · exact h
  case areturn =>
    unfold zin at h ⊢
    dsimp only at h ⊢
    split at h
    · split at h
      · exact hQ _ _ h
      · exact h
    · exact h
  case return_ =>
    unfold zin at h ⊢
    dsimp only at h ⊢
    split at h
    · split at h
      · exact hQ _ _ h
      · exact h
    · exact h
  all_goals exact h
theorem zWp_Q {sh : List zD} {K : zKT} {C : zC} {rt : Nat} {Q Q' : Option Value → zS → Prop} (hQ : ∀ r S, Q r S → Q' r S) {pc : Nat} {ls : zLs} {st : List Value} {S : zS} (h : zWp sh K C rt Q pc ls st S) : zWp sh K C rt Q' pc ls st S := by
  refine h (zWp sh K C rt Q') (fun Y pc ls st S hY hs => zWp_of hY ?_)
  unfold zstp at hs ⊢
  split at hs
  · exact zin_Q hQ hs
  · exact hs
theorem zK_Q {Ms : List zMI} {sh : List zD} {d μ : Nat} {vs : List Value} {S : zS} {Q Q' : Option Value → zS → Prop} (h : zK Ms sh d μ vs S Q) (hQ : ∀ r S, Q r S → Q' r S) : zK Ms sh d μ vs S Q' := by
  cases d with
  | zero => exact h
  | succ d =>
    unfold zK at h ⊢
    split at h
    · exact ⟨h.1, zWp_Q hQ h.2⟩
    · exact h
