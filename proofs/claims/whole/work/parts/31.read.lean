section texts3
variable {d : Nat} {SC SM : zS} {b : Nat → Nat → Int} {n : Nat → Nat}
/-- how many of the first m items may come behind a text of a bytes with room for cap -/
def cam (it : Nat → Int32) (cap a m : Nat) : Nat → Nat
  | 0 => 0
  | f + 1 => if cam it cap a m f = f ∧ f < m ∧ a + f < cap ∧ (0 ≤ it f ∧ it f ≤ 255) then f + 1 else cam it cap a m f
/-- the model's read behind its tests -/
theorem w_readloop {Q : Option Value → zS → Prop} {x y : Int32} {t o oa cap A s c ci : Nat} (hm : (x, t, o, oa, cap, A) ∈ txs) (hs : (y, s, c, ci) ∈ shs) {a m : Nat} (ha : a ≤ cap) (hm60 : m ≤ 60) (k : Nat) (hk : k ≤ m) (hka : a + k ≤ cap)
    (hby : ∀ j, j < k → 0 ≤ SM A_items (60 * s + j) ∧ SM A_items (60 * s + j) ≤ 255) (hstop : k = m ∨ a + k = cap ∨ ¬ (0 ≤ SM A_items (60 * s + k) ∧ SM A_items (60 * s + k) ≤ 255))
    (hsz : SM A_sizes s = J m) (hty : SM A_typed t = J a)
    (hq : ∀ M', (∀ c, c ≠ A → c ≠ A_typed → M' c = SM c) → (∀ t', t' ≠ t → M' A_typed t' = SM A_typed t') → M' A_typed t = J (a + k : Nat) → (∀ j, j < a → M' A j = SM A j) → (∀ j, j < k → M' A (a + j) = SM A_items (60 * s + j)) → Q (some (.int (J k))) M') :
    ∀ (r i : Nat) (x3 : Int32) (M : zS), i + r = k → x3 = J i → (∀ c, c ≠ A → c ≠ A_typed → M c = SM c) → (∀ t', t' ≠ t → M A_typed t' = SM A_typed t') → M A_typed t = J (a + i : Nat) → (∀ j, j < a → M A j = SM A j) → (∀ j, j < i → M A (a + j) = SM A_items (60 * s + j)) → zWp shM (KM (d + 3)) kX12_read 1 Q 34 [some (.ref 0), some (.int x), some (.int y), some (.int x3)] [] M := by
  obtain ⟨hx, ht2, -, -, ecap, eA, -, x01, hin, ex⟩ := txs_x hm
  obtain ⟨hy, hs4, -, -, -, -, -, hiny, ey⟩ := shs_x hs
  intro r
  induction r with
  | zero =>
    intro i x3 M hi e3 q1 q2 q3 q4 q5
    subst e3
    have ei : i = k := by omega
    subst ei
    refine zRun_wp [34] 80 ?_
    have e2 : M 2 (Int32.toNatClampNeg y) = J m := by rw [hy, q1 2 (by omega) (by decide)]; exact hsz
    refine ⟨hiny, fun c1 => ?_, fun c1 => ?_⟩ <;> rw [e2] at c1 <;> simp (disch := omega) only [J_lit, J_neg, J_add, J_sub, J_mul, J_nI, J_le, J_lt, J_eq, J_in, J_nat] at c1
    · exact hq M q1 q2 q3 q4 q5
    · have hi2 : vp_in (60 * y + J i) 240 := by rw [ey]; simp (disch := omega) only [J_lit, J_neg, J_add, J_sub, J_mul, J_nI, J_le, J_lt, J_eq, J_in, J_nat]; omega
      have hix : (60 * y + J i).toNatClampNeg = 60 * s + i := by rw [ey]; simp (disch := omega) only [J_lit, J_neg, J_add, J_sub, J_mul, J_nI, J_le, J_lt, J_eq, J_in, J_nat]; omega
      refine ⟨hi2, ?_⟩
      rw [hix, show M 3 = SM 3 from q1 3 (by omega) (by decide)]
      obtain ⟨z, ez, z1, z2⟩ := J_of (SM 3 (60 * s + i))
      have bz : (0 ≤ SM A_items (60 * s + i) ∧ SM A_items (60 * s + i) ≤ 255) ↔ (0 ≤ z ∧ z ≤ 255) := by
        rw [show SM A_items (60 * s + i) = J z from ez]
        simp (disch := omega) only [J_lit, J_neg, J_add, J_sub, J_mul, J_nI, J_le, J_lt, J_eq, J_in, J_nat]
      refine w_type ez z1 z2 hm (n := a + i) hka q3 (fun _ => ?_) (fun _ _ => ?_) (fun e1 e2 => ?_)
      · exact ⟨fun _ => hq M q1 q2 q3 q4 q5, fun e => absurd (by decide) e⟩
      · exact ⟨fun _ => hq M q1 q2 q3 q4 q5, fun e => absurd (by decide) e⟩
      · rcases hstop with e | e | e
        · omega
        · omega
        · exact absurd (bz.mpr e1) e
  | succ r ih =>
    intro i x3 M hi e3 q1 q2 q3 q4 q5
    subst e3
    refine zRun_wp [34] 80 ?_
    have e2 : M 2 (Int32.toNatClampNeg y) = J m := by rw [hy, q1 2 (by omega) (by decide)]; exact hsz
    refine ⟨hiny, fun c1 => ?_, fun c1 => ?_⟩ <;> rw [e2] at c1 <;> simp (disch := omega) only [J_lit, J_neg, J_add, J_sub, J_mul, J_nI, J_le, J_lt, J_eq, J_in, J_nat] at c1
    · omega
    · have hi2 : vp_in (60 * y + J i) 240 := by rw [ey]; simp (disch := omega) only [J_lit, J_neg, J_add, J_sub, J_mul, J_nI, J_le, J_lt, J_eq, J_in, J_nat]; omega
      have hix : (60 * y + J i).toNatClampNeg = 60 * s + i := by rw [ey]; simp (disch := omega) only [J_lit, J_neg, J_add, J_sub, J_mul, J_nI, J_le, J_lt, J_eq, J_in, J_nat]; omega
      refine ⟨hi2, ?_⟩
      rw [hix, show M 3 = SM 3 from q1 3 (by omega) (by decide)]
      obtain ⟨z, ez, z1, z2⟩ := J_of (SM 3 (60 * s + i))
      have bz : 0 ≤ z ∧ z ≤ 255 := by
        have := hby i (by omega)
        rw [show SM A_items (60 * s + i) = J z from ez] at this
        simp (disch := omega) only [J_lit, J_neg, J_add, J_sub, J_mul, J_nI, J_le, J_lt, J_eq, J_in, J_nat] at this
        exact this
      refine w_type ez z1 z2 hm (n := a + i) (by omega) q3 (fun e => absurd bz e) (fun _ e => absurd e (by omega)) (fun _ _ => ?_)
      refine ⟨fun c2 => ?_, fun _ => ?_⟩
      · simp (disch := omega) only [J_lit, J_neg, J_add, J_sub, J_mul, J_nI, J_le, J_lt, J_eq, J_in, J_nat] at c2
        omega
      · refine ih (i + 1) _ _ (by omega) (by simp only [J_lit, J_neg, J_add, J_sub, J_mul, J_nI]; congr 1) (fun c' e1 e2 => ?_) (fun t' e => ?_) ?_ (fun j hj => ?_) (fun j hj => ?_)
        · rw [zu_same e2, zu_same e1]; exact q1 c' e1 e2
        · simp only [zu_r, if_true]; rw [if_neg e, if_neg (by show ¬ (7 = A); omega)]; exact q2 t' e
        · simp only [zu_r, if_true]; rfl
        · rw [zu_same (by show A ≠ 7; omega)]; simp only [zu_r, if_true]; rw [if_neg (by omega)]; exact q4 j hj
        · rw [zu_same (by show A ≠ 7; omega)]; simp only [zu_r, if_true]
          by_cases e : j = i
          · rw [if_pos (by omega), e]
          · rw [if_neg (by omega)]; exact q5 j (by omega)
end texts3
