section mopens
variable {d : Nat} {S : zS} {Q : Option Value → zS → Prop} {m : Nat} {g : Nat → Int}
theorem dec625 {dd i j : Nat} (hd : dd ≤ 3) (hi : i ≤ 24) (hj : j ≤ 24) : J (625 * dd + 25 * i + j : Nat) / 625 = J dd ∧ J (625 * dd + 25 * i + j : Nat) / 25 - J (625 * dd + 25 * i + j : Nat) / 25 / 25 * 25 = J i ∧ J (625 * dd + 25 * i + j : Nat) - J (625 * dd + 25 * i + j : Nat) / 25 * 25 = J j := by
  refine ⟨?_, ?_, ?_⟩
  · rw [show (625 : Int32) = J 625 from rfl, J_div (by omega) (by omega) (by omega) (by omega)]
    congr 1; omega
  · rw [show (25 : Int32) = J 25 from rfl, J_div (by omega) (by omega) (by omega) (by omega), J_rem (by omega) (by omega) (by omega) (by omega)]
    congr 1; omega
  · rw [show (25 : Int32) = J 25 from rfl, J_rem (by omega) (by omega) (by omega) (by omega)]
    congr 1; omega
theorem dec1000 {w : Nat} (hw : w ≤ 4000) : J w / 1000 = J (w / 1000 : Nat) ∧ (J w - J w / 1000 * 1000) / 30 = J (w % 1000 / 30 : Nat) ∧ J w - J w / 30 * 30 = J (w % 30 : Nat) := by
  refine ⟨?_, ?_, ?_⟩
  · rw [show (1000 : Int32) = J 1000 from rfl, J_div (by omega) (by omega) (by omega) (by omega)]
    congr 1
  · rw [show (1000 : Int32) = J 1000 from rfl, J_rem (by omega) (by omega) (by omega) (by omega), show (30 : Int32) = J 30 from rfl, J_div (by omega) (by omega) (by omega) (by omega)]
    congr 1
  · rw [show (30 : Int32) = J 30 from rfl, J_rem (by omega) (by omega) (by omega) (by omega)]
    congr 1
set_option maxHeartbeats 4000000 in
theorem w_opensSpan {dd i n : Nat} {t : List It} {l : List Nat} {x : Int32} (ex : x = J (enc (.inr (dd, i, n)))) (hm : m ≤ 24) (hit : okI m (.inr (dd, i, n))) (hM : MOk S g dd i (i + n)) (hb : ∀ k, k < m → S A_bar k = J (phi (g k)) ∧ vcode (g k))
    (hw : WP S m t) (ht : t.length + 7 ≤ 120) (ho : OutOk S l) (hl : l.length + (pf g (fun i => bw (g i)) dd i n).length ≤ 120)
    (hq : ∀ (S' : zS) (p : List It) (l' : List Nat), SK S S' → WP S' m (p ++ t) → OutOk S' (l ++ l') → l' ++ txt g (fun i => bw (g i)) p = pf g (fun i => bw (g i)) dd i n → wsum p < 3 * n - 1 → Q none S') : KM (d + 3) mX12_opensSpan [.ref 0, .int x] S Q := by
  subst ex
  obtain ⟨hd, hn, hj⟩ := hit
  obtain ⟨-, w, hw1, hw2⟩ := hM
  rw [show i + n - i = n by omega] at hw2
  have hwl : w ≤ 4000 := by
    rcases hw2 with ⟨-, rfl⟩ | ⟨-, hw2⟩
    · omega
    · rcases hw2 with ⟨k, k1, k2, -, rfl, -⟩ | ⟨-, -, rfl, -⟩ | ⟨a, b, e, -, rfl, -⟩
      · omega
      · omega
      · have := e.2.2.2.1
        have := e.2.2.1
        omega
  obtain ⟨D1, D2, D3⟩ := dec625 (dd := dd) (i := i) (j := i + n) hd (by omega) (by omega)
  obtain ⟨E1, E2, E3⟩ := dec1000 hwl
  have inn : vp_in (J (625 * dd + 25 * i + (i + n) : Nat)) 2500 := by simp (disch := omega) only [J_lit, J_neg, J_add, J_sub, J_mul, J_nI, J_le, J_lt, J_eq, J_in, J_nat]; omega
  have ix : (J (625 * dd + 25 * i + (i + n) : Nat)).toNatClampNeg = 625 * dd + 25 * i + (i + n) := by simp (disch := omega) only [J_lit, J_neg, J_add, J_sub, J_mul, J_nI, J_le, J_lt, J_eq, J_in, J_nat]; omega
  show KM (d + 3) mX12_opensSpan [.ref 0, .int (J (625 * dd + 25 * i + (i + n) : Nat))] S Q
  have start : ∀ (x2 x3 x4 x5 x6 x7 : Int32), x2 = J dd → x3 = J i → x4 = J (i + n : Nat) → x5 = J (w / 1000 : Nat) → x6 = J (w % 1000 / 30 : Nat) → x7 = J (w % 30 : Nat) → zWp shM (KM (d + 2)) kX12_opensSpan 0 Q 58 [some (.ref 0), some (.int (J (625 * dd + 25 * i + (i + n) : Nat))), some (.int x2), some (.int x3), some (.int x4), some (.int x5), some (.int x6), some (.int x7)] [] S := by
    intro x2 x3 x4 x5 x6 x7 q2 q3 q4 q5 q6 q7
    subst q2 q3 q4 q5 q6 q7
    have hw3 := hw2
    refine zRun_wp [] 160 ?_
    rcases hw2 with ⟨n1, rfl⟩ | ⟨n2, hw2⟩
    · subst n1
      refine ⟨fun q => absurd rfl q, fun _ => ?_⟩
      rw [pf_1] at hl hq
      refine w_tellsBar rfl (by omega) (hb i (by omega)).2 (hb i (by omega)).1 hl ho hw (fun S' k1 k2 k3 => ?_)
      exact hq S' [] _ k1 k2 k3 (by simp [txt]) (by simp [wsum])
    rcases hw2 with ⟨k, k1, k2, -, rfl, -⟩ | ⟨r, -, rfl, -⟩ | ⟨a, b, ⟨e1, e2, e3, e4, -⟩, -, rfl, -⟩
    · have ep := pf_split (bb := fun i => bw (g i)) (by omega) k1 k2 hw3
      rw [show (1000 + 30 * k) / 1000 = 1 by omega, show (1000 + 30 * k) % 1000 / 30 = k by omega]
      refine ⟨fun _ => ?_, fun q => absurd q (by decide)⟩
      refine ⟨fun q => absurd rfl q, fun _ => ?_⟩
      refine w_laterSpan (dd := dd) (i := i + k) (n := n - k) rfl (by simp only [J_lit, J_neg, J_add, J_sub, J_mul, J_nI]; congr 1) (by congr 2; omega) hm ⟨hd, by omega, by omega⟩ (by omega) hw (fun S1 a1 a2 a3 => ?_)
      refine w_laterSpan (dd := dd) (i := i) (n := k) rfl rfl (by simp only [J_lit, J_neg, J_add, J_sub, J_mul, J_nI]; congr 1) hm ⟨hd, by omega, by omega⟩ (by simp only [List.length_cons]; omega) a2 (fun S2 b1 b2 b3 => ?_)
      refine hq S2 [.inr (dd, i, k), .inr (dd, i + k, n - k)] [] (SK_tr a1 b1) b2 (by rw [List.append_nil]; exact b3 _ (a3 _ ho)) ?_ ?_
      · rw [ep]; simp [txt]
      · simp only [wsum, wei]; omega
    · have ep := pf_rep (bb := fun i => bw (g i)) (by omega) n2 hw3
      obtain ⟨r1, r2, -⟩ := r
      rw [show (2000 + 30 * (n / 2)) / 1000 = 2 by omega, show (2000 + 30 * (n / 2)) % 1000 / 30 = n / 2 by omega]
      refine ⟨fun _ => ?_, fun q => absurd q (by decide)⟩
      refine ⟨fun _ => ?_, fun q => absurd q (by decide)⟩
      refine ⟨fun q => absurd rfl q, fun _ => ?_⟩
      refine w_later (it := .inl 93) rfl ⟨by omega, by omega⟩ (by omega) hw (fun S1 a1 a2 a3 => ?_)
      refine w_laterSpan (dd := dd - 1) (i := i) (n := n / 2) (by simp only [J_lit, J_neg, J_add, J_sub, J_mul, J_nI]; congr 1; omega) rfl (by simp only [J_lit, J_neg, J_add, J_sub, J_mul, J_nI]; congr 1) hm ⟨by omega, by omega, by omega⟩ (by simp only [List.length_cons]; omega) a2 (fun S2 b1 b2 b3 => ?_)
      refine w_later (it := .inl 91) rfl ⟨by omega, by omega⟩ (by simp only [List.length_cons]; omega) b2 (fun S3 c1 c2 c3 => ?_)
      refine hq S3 [.inl 91, .inr (dd - 1, i, n / 2), .inl 93] [] (SK_tr (SK_tr a1 b1) c1) c2 (by rw [List.append_nil]; exact c3 _ (b3 _ (a3 _ ho))) ?_ ?_
      · rw [ep]; simp [txt]
      · simp only [wsum, wei]; omega
    · have ep := pf_end (bb := fun i => bw (g i)) (by omega) e2 e3 e4 hw3
      have m1 : (3000 + 30 * a + b) % 1000 = 30 * a + b := by omega
      have m2 : (30 * a + b) / 30 = a := by omega
      rw [show (3000 + 30 * a + b) / 1000 = 3 by omega, m1, m2, show (3000 + 30 * a + b) % 30 = b by omega]
      refine ⟨fun _ => ?_, fun q => absurd q (by decide)⟩
      refine ⟨fun _ => ?_, fun q => absurd q (by decide)⟩
      refine ⟨fun _ => ?_, fun q => absurd q (by decide)⟩
      refine w_later (it := .inl 93) rfl ⟨by omega, by omega⟩ (by omega) hw (fun S1 a1 a2 a3 => ?_)
      refine w_laterSpan (dd := dd - 1) (i := i + 2 * a + b) (n := n - 2 * a - b) (by simp only [J_lit, J_neg, J_add, J_sub, J_mul, J_nI]; congr 1; omega) (by simp only [J_lit, J_neg, J_add, J_sub, J_mul, J_nI]; congr 1; omega) (by congr 2; omega) hm ⟨by omega, by omega, by omega⟩ (by simp only [List.length_cons]; omega) a2 (fun S2 b1 b2 b3 => ?_)
      refine w_later (it := .inl 59) rfl ⟨by omega, by omega⟩ (by simp only [List.length_cons]; omega) b2 (fun S3 c1 c2 c3 => ?_)
      refine w_laterSpan (dd := dd - 1) (i := i + a) (n := b) (by simp only [J_lit, J_neg, J_add, J_sub, J_mul, J_nI]; congr 1; omega) (by simp only [J_lit, J_neg, J_add, J_sub, J_mul, J_nI]; congr 1) (by simp only [J_lit, J_neg, J_add, J_sub, J_mul, J_nI]; congr 1) hm ⟨by omega, by omega, by omega⟩ (by simp only [List.length_cons]; omega) c2 (fun S4 d1 d2 d3 => ?_)
      refine w_later (it := .inl 58) rfl ⟨by omega, by omega⟩ (by simp only [List.length_cons]; omega) d2 (fun S5 f1 f2 f3 => ?_)
      refine w_laterSpan (dd := dd - 1) (i := i) (n := a) (by simp only [J_lit, J_neg, J_add, J_sub, J_mul, J_nI]; congr 1; omega) rfl (by simp only [J_lit, J_neg, J_add, J_sub, J_mul, J_nI]; congr 1) hm ⟨by omega, by omega, by omega⟩ (by simp only [List.length_cons]; omega) f2 (fun S6 g1 g2 g3 => ?_)
      refine w_later (it := .inl 91) rfl ⟨by omega, by omega⟩ (by simp only [List.length_cons]; omega) g2 (fun S7 h1 h2 h3 => ?_)
      refine hq S7 [.inl 91, .inr (dd - 1, i, a), .inl 58, .inr (dd - 1, i + a, b), .inl 59, .inr (dd - 1, i + 2 * a + b, n - 2 * a - b), .inl 93] [] (SK_tr (SK_tr (SK_tr (SK_tr (SK_tr (SK_tr a1 b1) c1) d1) f1) g1) h1) h2 (by rw [List.append_nil]; exact h3 _ (g3 _ (f3 _ (d3 _ (c3 _ (b3 _ (a3 _ ho))))))) ?_ ?_
      · rw [ep]; simp [txt]
      · simp only [wsum, wei]; omega
  refine eX12_opensSpan (zRun_wp [58] 160 ?_)
  refine ⟨by decide, by decide, by decide, by decide, inn, by decide, inn, by decide, by decide, inn, by decide, ?_⟩
  rw [← hw1] at E1 E2 E3
  refine start _ _ _ _ _ _ D1 D2 D3 ?_ ?_ ?_
  · rw [ix]; exact E1
  · rw [ix]; exact E2
  · rw [ix]; exact E3
end mopens
