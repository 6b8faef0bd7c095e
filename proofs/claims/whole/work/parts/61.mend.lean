/-! which bar had better not be -/
def mc (g : Nat → Int) (N dd : Nat) (k : Nat) : FS := fnd (fun t => g (skI k t)) (N - 1) dd
def md (g : Nat → Int) (N dd : Nat) : Nat → Int × Nat
  | 0 => (-1, 9999999)
  | K + 1 => if (mc g N dd K).1 < (md g N dd K).2 then ((K : Int), (mc g N dd K).1) else md g N dd K
theorem md_s (g : Nat → Int) (N dd K : Nat) : md g N dd (K + 1) = if (mc g N dd K).1 < (md g N dd K).2 then ((K : Int), (mc g N dd K).1) else md g N dd K := rfl
theorem mc_ok {g : Nat → Int} {N dd k : Nat} (hN : N ≤ 24) : FOk (N - 1) (mc g N dd k) := fa2_ok (by omega) _
theorem mc_like {g : Nat → Int} {N dd k : Nat} (hk : 1 ≤ k) (e : g k = g (k - 1)) : mc g N dd k = mc g N dd (k - 1) := by
  unfold mc
  congr 1
  funext t
  unfold skI
  by_cases c : t = k - 1
  · subst c
    rw [if_neg (by omega), if_pos (by omega), show k - 1 + 1 = k by omega, e]
  · by_cases q : k ≤ t
    · rw [if_pos (by omega), if_pos (by omega)]
    · rw [if_neg (by omega), if_neg (by omega)]
theorem md_inv {g : Nat → Int} {N dd : Nat} (hN : N ≤ 24) : ∀ K, ((md g N dd K).2 % 1000 < 200 ∧ (md g N dd K).2 ≤ 24000 ∧ 0 ≤ (md g N dd K).1 ∧ (md g N dd K).1 < K ∧ (md g N dd K).2 ≤ (mc g N dd (K - 1)).1) ∨ (K = 0 ∧ md g N dd K = (-1, 9999999)) := by
  intro K
  induction K with
  | zero => exact Or.inr ⟨rfl, rfl⟩
  | succ K ih =>
    left
    obtain ⟨f1, f2, -⟩ := mc_ok (g := g) (dd := dd) (k := K) hN
    rw [md_s]
    rcases ih with ⟨i1, i2, i3, i4, -⟩ | ⟨i0, i1⟩
    · split
      · refine ⟨by simp only; omega, by simp only; omega, by simp only; omega, by simp only; omega, ?_⟩
        rw [Nat.add_sub_cancel]; exact Nat.le_refl _
      · exact ⟨i1, i2, i3, by omega, by rw [Nat.add_sub_cancel]; omega⟩
    · rw [i1, if_pos (by show _ < 9999999; omega)]
      refine ⟨by simp only; omega, by simp only; omega, by simp only; omega, by simp only; omega, ?_⟩
      rw [Nat.add_sub_cancel]; exact Nat.le_refl _
theorem md_skip {g : Nat → Int} {N dd K : Nat} (hN : N ≤ 24) (hk : 1 ≤ K) (e : g K = g (K - 1)) : md g N dd (K + 1) = md g N dd K := by
  rw [md_s, mc_like hk e, if_neg]
  rcases md_inv (g := g) (dd := dd) hN K with ⟨-, -, -, -, i⟩ | ⟨i, -⟩ <;> omega
theorem csk {k N : Nat} (h : k < N) : cs (k : Int) N = N - 1 := by unfold cs; rw [if_pos (by omega)]
section mend
variable {d : Nat} {S : zS} {Q : Option Value → zS → Prop} {N : Nat} {g : Nat → Int}
/-- the class's Mending -/
def MdC (S : zS) (s : Int × Nat) : Prop := S 27 2 = J s.1 ∧ S 27 3 = J (if s.1 = -1 then 0 else (cv s.2 : Int))
def MdK (S S' : zS) : Prop := ∀ c, c < 27 ∨ 32 < c → S' c = S c
set_option maxHeartbeats 2000000 in
theorem v_mendSeek {dd : Nat} (hN : N ≤ 24) (hS : S 7 1 = J N) (hg : ∀ k, k < N → S 8 k = J (g k) ∧ vcode (g k)) (hW : SpOk S 20 21 22 g N) (hC : ∀ d' i' j', d' ≤ 3 → i' < j' → j' ≤ N → CoOk S 23 g d' i' j') (hd : dd ≤ 3)
    (hq : ∀ S', MdK S S' → MdC S' (md g N dd N) → Q none S') : KC (d + 5) mX3_seek [.ref 27, .ref 7, .ref 20, .int (J dd)] S Q := by
  have loop : ∀ (r k : Nat) (x4 : Int32) (S' : zS), k + r = N → x4 = J k → MdK S S' → MdC S' (md g N dd k) → zWp shC (KC (d + 4)) kX3_seek 0 Q 13 [some (.ref 27), some (.ref 7), some (.ref 20), some (.int (J dd)), some (.int x4)] [] S' := by
    intro r
    induction r with
    | zero =>
      intro k x4 S' hr e4 kk hm
      subst e4
      have ek : k = N := by omega
      subst ek
      have s1 : S' 7 1 = J k := by rw [kk 7 (by omega)]; exact hS
      refine zRun_wp [13, 49] 80 ?_
      refine ⟨fun _ => hq S' kk hm, fun q => ?_⟩
      rw [s1] at q
      simp (disch := omega) only [J_lit, J_neg, J_add, J_sub, J_mul, J_nI, J_le, J_lt, J_eq, J_in, J_nat] at q
      omega
    | succ r ih =>
      intro k x4 S' hr e4 kk hm
      subst e4
      have s1 : S' 7 1 = J N := by rw [kk 7 (by omega)]; exact hS
      have gg : ∀ j, j < N → S' 8 j = J (g j) ∧ vcode (g j) := fun j hj => by rw [kk 8 (by omega)]; exact hg j hj
      have gr : ∀ j, j < N → 0 ≤ g j ∧ g j ≤ 100000 := fun j hj => by have := vcode_rng (hg j hj).2; omega
      have next : ∀ S2, MdK S S2 → MdC S2 (md g N dd (k + 1)) → zWp shC (KC (d + 4)) kX3_seek 0 Q 13 [some (.ref 27), some (.ref 7), some (.ref 20), some (.int (J dd)), some (.int (J k + 1))] [] S2 := fun S2 a b => ih (k + 1) _ S2 (by omega) (by simp only [J_lit, J_neg, J_add, J_sub, J_mul, J_nI]; congr 1) a b
      have body : zWp shC (KC (d + 4)) kX3_seek 0 Q 49 [some (.ref 27), some (.ref 7), some (.ref 20), some (.int (J dd)), some (.int (J k))] [] S' := by
        refine zRun_wp [13, 104] 80 ?_
        refine v_spTake (c := 28) (c1 := 29) (c2 := 30) (c3 := 31) (w := (k : Int)) (by decide) hN (by omega) s1 (fun j hj => ⟨(gg j hj).1, gr j hj⟩) (fun S1 a1 a2 a3 a4 => ?_)
        rw [csk (by omega)] at a2 a3 a4
        have so : SpOk S1 28 29 30 (fun t => g (skI k t)) (N - 1) := ⟨by omega, a2, a3, a4⟩
        have k1 : MdK S S1 := fun c hc => by rw [a1 c (by omega) (by omega) (by omega)]; exact kk c hc
        refine v_settleW (hw := g) (mw := N) (w := k) (h := fun t => g (skI k t)) (m := N - 1) (SpOk_keep hW (k1 20 (by omega)) (k1 21 (by omega)) (k1 22 (by omega))) (by omega) rfl (fun _ => rfl) (fun d' i' j' p1 p2 p3 => ?_) so hd (fun S2 b1 b2 => ?_)
        · have := hC d' i' j' p1 p2 p3
          unfold CoOk at this ⊢
          rw [k1 23 (by omega)]; exact this
        have k2 : MdK S S2 := fun c hc => by rw [b1 c (by omega)]; exact k1 c hc
        refine v_seek (cj := 32) (c := 28) (c1 := 29) (c2 := 30) (c3 := 31) (h := fun t => g (skI k t)) (m := N - 1) (by decide) (SpOk_keep so (b1 28 (by decide)) (b1 29 (by decide)) (b1 30 (by decide))) (fun i j p1 p2 => b2 dd i j (Nat.le_refl _) p1 p2) hd (fun S3 c1 c2 => ?_)
        have k3 : MdK S S3 := fun c hc => by rw [c1 c (by omega)]; exact k2 c hc
        have c2' : S3 32 0 = J (cv (mc g N dd k).1) := c2.1
        obtain ⟨m1, m2⟩ := hm
        have e27 : S3 27 = S' 27 := by rw [c1 27 (by decide), b1 27 (by decide), a1 27 (by decide) (by decide) (by decide)]
        have m1' : S3 27 2 = J (md g N dd k).1 := by rw [e27]; exact m1
        have m2' : S3 27 3 = J (if (md g N dd k).1 = -1 then 0 else (cv (md g N dd k).2 : Int)) := by rw [e27]; exact m2
        obtain ⟨f1, f2, -⟩ := mc_ok (g := g) (dd := dd) (k := k) hN
        have ms := md_s g N dd k
        have take : (mc g N dd k).1 < (md g N dd k).2 → zWp shC (KC (d + 4)) kX3_seek 0 Q 104 [some (.ref 27), some (.ref 7), some (.ref 20), some (.int (J dd)), some (.int (J k))] [] S3 := by
          intro lt
          rw [if_pos lt] at ms
          refine zRun_wp [13] 80 ?_
          refine ⟨rfl, fun e => absurd e (by decide), rfl, fun e => absurd e (by decide), ?_⟩
          refine next _ (fun c hc => by rw [zu_same (by omega), zu_same (by omega)]; exact k3 c hc) ?_
          rw [ms]
          refine ⟨?_, ?_⟩
          · simp only [zu_r, if_true]
            rw [if_neg (by decide)]
          · simp only [zu_r, if_true]
            rw [if_neg (by decide), c2', if_neg (by omega)]
        rcases md_inv (g := g) (dd := dd) hN k with ⟨i1, i2, i3, i4, -⟩ | ⟨i0, i1⟩
        · rw [if_neg (by omega)] at m2'
          have lt := cv_lt (a := (mc g N dd k).1) (b := (md g N dd k).2) (by omega) (by omega)
          have q1 : cv (mc g N dd k).1 ≤ 40000 := by unfold cv; omega
          have q2 : cv (md g N dd k).2 ≤ 40000 := by unfold cv; omega
          refine ⟨fun q => ?_, fun _ => ?_⟩
          · rw [m1', show (-1 : Int32) = J (-1) from rfl] at q
            simp (disch := omega) only [J_lit, J_neg, J_add, J_sub, J_mul, J_nI, J_le, J_lt, J_eq, J_in, J_nat] at q
            omega
          refine ⟨fun q => ?_, fun q => ?_⟩ <;> rw [c2', m2'] at q <;> simp (disch := omega) only [J_lit, J_neg, J_add, J_sub, J_mul, J_nI, J_le, J_lt, J_eq, J_in, J_nat] at q
          · refine next S3 k3 ?_
            rw [ms, if_neg (fun w => by have := lt.mpr w; omega)]
            exact ⟨m1', by rw [if_neg (by omega)]; exact m2'⟩
          · exact take (lt.mp (by omega))
        · refine ⟨fun _ => take (by rw [i1]; show _ < 9999999; omega), fun q => ?_⟩
          rw [m1', i1] at q
          exact absurd rfl q
      refine zRun_wp [13, 49] 80 ?_
      refine ⟨fun q => ?_, fun _ => ?_⟩
      · rw [s1] at q
        simp (disch := omega) only [J_lit, J_neg, J_add, J_sub, J_mul, J_nI, J_le, J_lt, J_eq, J_in, J_nat] at q
        omega
      refine ⟨fun _ => body, fun q => ?_⟩
      simp (disch := omega) only [J_lit, J_neg, J_add, J_sub, J_mul, J_nI, J_le, J_lt, J_eq, J_in, J_nat] at q
      have i1 : (J k).toNatClampNeg = k := by simp (disch := omega) only [J_lit, J_neg, J_add, J_sub, J_mul, J_nI, J_le, J_lt, J_eq, J_in, J_nat]; omega
      have i2 : (J k - 1).toNatClampNeg = k - 1 := by simp (disch := omega) only [J_lit, J_neg, J_add, J_sub, J_mul, J_nI, J_le, J_lt, J_eq, J_in, J_nat]; omega
      have n1 : vp_in (J k) 24 := by simp (disch := omega) only [J_lit, J_neg, J_add, J_sub, J_mul, J_nI, J_le, J_lt, J_eq, J_in, J_nat]; omega
      have n2 : vp_in (J k - 1) 24 := by simp (disch := omega) only [J_lit, J_neg, J_add, J_sub, J_mul, J_nI, J_le, J_lt, J_eq, J_in, J_nat]; omega
      refine ⟨n1, n2, ?_⟩
      refine ⟨fun _ => body, fun e => ?_⟩
      rw [i1, i2, (gg k (by omega)).1, (gg (k - 1) (by omega)).1] at e
      have r1 := gr k (by omega)
      have r2 := gr (k - 1) (by omega)
      simp (disch := omega) only [J_lit, J_neg, J_add, J_sub, J_mul, J_nI, J_le, J_lt, J_eq, J_in, J_nat] at e
      refine next S' kk ?_
      rw [md_skip hN (by omega) e]
      exact hm
  refine eX3_seek (zRun_wp [13] 80 ?_)
  refine ⟨rfl, fun e => absurd e (by decide), rfl, fun e => absurd e (by decide), ?_⟩
  refine loop N 0 _ _ (by omega) rfl (fun c hc => by rw [zu_same (by omega), zu_same (by omega)]) ⟨?_, ?_⟩
  · simp only [zu_r, if_true]
    rw [if_neg (by decide)]
    rfl
  · simp only [zu_r, if_true]
    rfl
end mend
