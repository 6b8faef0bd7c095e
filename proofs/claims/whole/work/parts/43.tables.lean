def MOk (S : zS) (h : Nat → Int) (d i j : Nat) : Prop := S A_cost (625 * d + 25 * i + j) = J (co h d i (j - i)) ∧ ∃ w : Nat, S A_how (625 * d + 25 * i + j) = J w ∧ HowOk h d i (j - i) w
def MDn (S : zS) (h : Nat → Int) (m dd len i : Nat) : Prop := ∀ d' i' j', d' ≤ 3 → i' < j' → j' ≤ m → (d' < dd ∨ (d' = dd ∧ (j' - i' < len ∨ (j' - i' = len ∧ i' < i)))) → MOk S h d' i' j'
section tables
variable {d : Nat} {S : zS} {Q : Option Value → zS → Prop} {m : Nat} {h : Nat → Int}
set_option maxHeartbeats 1000000 in
theorem w_tables (hm : m ≤ 24) (hS : S 0 M_many = J m) (hL : ∀ a b, a ≤ 24 → b ≤ 24 → S A_like (25 * a + b) = J (al h m a b))
    (hq : ∀ S', (∀ c, c ≠ A_cost → c ≠ A_how → S' c = S c) → (∀ d' i' j', d' ≤ 3 → i' < j' → j' ≤ m → MOk S' h d' i' j') → Q none S') : KM (d + 3) mX12_tables [.ref 0] S Q := by
  have ds : ∀ (r dd : Nat) (x1 : Int32) (S' : zS) (j2 j3 : Option Value), dd + r = 4 → x1 = J dd → (∀ c, c ≠ A_cost → c ≠ A_how → S' c = S c) → MDn S' h m dd 0 0 → zWp shM (KM (d + 2)) kX12_tables 0 Q 2 [some (.ref 0), some (.int x1), j2, j3] [] S' := by
    intro r
    induction r with
    | zero =>
      intro dd x1 S' j2 j3 hr e1 k1 hD
      subst e1
      refine zRun_wp [2, 9, 19] 80 ?_
      refine ⟨fun _ => hq S' k1 (fun d' i' j' a1 a2 a3 => hD d' i' j' a1 a2 a3 (Or.inl (by omega))), fun c1 => ?_⟩
      simp (disch := omega) only [J_lit, J_neg, J_add, J_sub, J_mul, J_nI, J_le, J_lt, J_eq, J_in, J_nat] at c1
      omega
    | succ r ihD =>
      intro dd x1 S' j2 j3 hr e1 k1 hD
      subst e1
      have ls : ∀ (r len : Nat) (x2 : Int32) (S' : zS) (j3 : Option Value), len + r = m + 1 → 1 ≤ len → x2 = J len → (∀ c, c ≠ A_cost → c ≠ A_how → S' c = S c) → MDn S' h m dd len 0 → zWp shM (KM (d + 2)) kX12_tables 0 Q 9 [some (.ref 0), some (.int (J dd)), some (.int x2), j3] [] S' := by
        intro r
        induction r with
        | zero =>
          intro len x2 S' j3 hr2 hl e2 k1 hD
          subst e2
          refine zRun_wp [2, 9, 19] 80 ?_
          refine ⟨fun _ => ?_, fun c1 => ?_⟩
          · exact ihD (dd + 1) _ S' _ _ (by omega) (by simp only [J_lit, J_neg, J_add, J_sub, J_mul, J_nI]; congr 1) k1 (fun d' i' j' a1 a2 a3 a4 => hD d' i' j' a1 a2 a3 (by omega))
          · rw [show S' 0 30 = J m by rw [k1 0 (by decide) (by decide)]; exact hS] at c1
            simp (disch := omega) only [J_lit, J_neg, J_add, J_sub, J_mul, J_nI, J_le, J_lt, J_eq, J_in, J_nat] at c1
            omega
        | succ r ihL =>
          intro len x2 S' j3 hr2 hl e2 k1 hD
          subst e2
          have is : ∀ (r i : Nat) (x3 : Int32) (S' : zS), i + r = m + 1 - len → x3 = J i → (∀ c, c ≠ A_cost → c ≠ A_how → S' c = S c) → MDn S' h m dd len i → zWp shM (KM (d + 2)) kX12_tables 0 Q 19 [some (.ref 0), some (.int (J dd)), some (.int (J len)), some (.int x3)] [] S' := by
            intro r
            induction r with
            | zero =>
              intro i x3 S' hr3 e3 k1 hD
              subst e3
              refine zRun_wp [2, 9, 19] 80 ?_
              refine ⟨fun _ => ?_, fun c1 => ?_⟩
              · exact ihL (len + 1) _ S' _ (by omega) (by omega) (by simp only [J_lit, J_neg, J_add, J_sub, J_mul, J_nI]; congr 1) k1 (fun d' i' j' a1 a2 a3 a4 => hD d' i' j' a1 a2 a3 (by omega))
              · rw [show S' 0 30 = J m by rw [k1 0 (by decide) (by decide)]; exact hS] at c1
                simp (disch := omega) only [J_lit, J_neg, J_add, J_sub, J_mul, J_nI, J_le, J_lt, J_eq, J_in, J_nat] at c1
                omega
            | succ r ihI =>
              intro i x3 S' hr3 e3 k1 hD
              subst e3
              have spk : ∀ {Q' : Option Value → zS → Prop} (x : Int32), x = J (i + len : Nat) → (∀ S2 w, St S' S2 (625 * dd + 25 * i + (i + len)) (co h dd i (i + len - i)) w → HowOk h dd i (i + len - i) w → Q' none S2) → KM (d + 2) mX12_spans [.ref 0, .int (J dd), .int (J i), .int x] S' Q' := by
                intro Q' x ex hk
                subst ex
                refine w_spans hm (by omega) (by omega) (by omega) (fun a b b1 b2 => ?_) (fun i' j' b1 b2 b3 b4 => ?_) (fun h0 i' j' b1 b2 b3 => ?_) hk
                · rw [k1 A_like (by decide) (by decide)]; exact hL a b b1 b2
                · exact (hD dd i' j' (by omega) b1 (by omega) (Or.inr ⟨rfl, Or.inl (by omega)⟩)).1
                · exact (hD (dd - 1) i' j' (by omega) b1 (by omega) (Or.inl (by omega))).1
              refine zRun_wp [2, 9, 19] 80 ?_
              refine ⟨fun c1 => ?_, fun _ => ?_⟩
              · rw [show S' 0 30 = J m by rw [k1 0 (by decide) (by decide)]; exact hS] at c1
                simp (disch := omega) only [J_lit, J_neg, J_add, J_sub, J_mul, J_nI, J_le, J_lt, J_eq, J_in, J_nat] at c1
                omega
              refine spk _ (by simp only [J_lit, J_neg, J_add, J_sub, J_mul, J_nI]; congr 1) (fun S2 w hs hw => ?_)
              refine ihI (i + 1) _ S2 (by omega) (by simp only [J_lit, J_neg, J_add, J_sub, J_mul, J_nI]; congr 1) (fun c a1 a2 => ?_) (fun d' i' j' a1 a2 a3 a4 => ?_)
              · rw [hs.1 c a1 a2]; exact k1 c a1 a2
              · by_cases e : 625 * d' + 25 * i' + j' = 625 * dd + 25 * i + (i + len)
                · have e1 : d' = dd := by omega
                  have e2 : i' = i := by omega
                  have e3 : j' = i + len := by omega
                  subst e1 e2 e3
                  exact ⟨hs.2.2.1, w, hs.2.2.2, hw⟩
                · have old := hD d' i' j' a1 a2 a3 (by omega)
                  obtain ⟨b1, b2⟩ := hs.2.1 _ e
                  unfold MOk at old ⊢
                  rw [show S2 A_cost (625 * d' + 25 * i' + j') = _ from b1, show S2 A_how (625 * d' + 25 * i' + j') = _ from b2]
                  exact old
          refine zRun_wp [2, 9, 19] 80 ?_
          refine ⟨fun c1 => ?_, fun _ => ?_⟩
          · rw [show S' 0 30 = J m by rw [k1 0 (by decide) (by decide)]; exact hS] at c1
            simp (disch := omega) only [J_lit, J_neg, J_add, J_sub, J_mul, J_nI, J_le, J_lt, J_eq, J_in, J_nat] at c1
            omega
          · exact is (m + 1 - len) 0 _ S' (by omega) rfl k1 hD
      refine zRun_wp [2, 9, 19] 80 ?_
      refine ⟨fun c1 => ?_, fun _ => ?_⟩
      · simp (disch := omega) only [J_lit, J_neg, J_add, J_sub, J_mul, J_nI, J_le, J_lt, J_eq, J_in, J_nat] at c1; omega
      · exact ls m 1 _ S' _ (by omega) (by omega) rfl k1 (fun d' i' j' a1 a2 a3 a4 => hD d' i' j' a1 a2 a3 (by omega))
  refine eX12_tables (zRun_wp [2, 9, 19] 80 ?_)
  exact ds 4 0 _ S _ _ (by omega) rfl (fun _ _ _ => rfl) (fun d' i' j' a1 a2 a3 a4 => by omega)
end tables
