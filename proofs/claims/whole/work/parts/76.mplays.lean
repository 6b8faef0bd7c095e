theorem Gs_eq {s : Gs} {x y z : Int} {l : List En} (e0 : s.1 = l) (e1 : s.2.1 = x) (e2 : s.2.2.1 = y) (e3 : s.2.2.2 = z) : s = (l, x, y, z) := by
  obtain ⟨a, p, q, r⟩ := s
  dsimp only at e0 e1 e2 e3
  rw [e0, e1, e2, e3]
section mplays
variable {d : Nat} {S : zS} {Q : Option Value → zS → Prop} {b : Nat → Int} {n : Nat} {T : zS}
theorem w_playing {B E : Nat} {x y : Int32} (ex : x = J B) (ey : y = J E) (hBE : B ≤ E) (hE : E ≤ n) (hn : n ≤ 40) (hA : Acc b n) (hT6 : ∀ k, k < n → T 6 k = J (b k)) (hT15 : ∀ k, k < n → letr (b k) → T 15 k = J (rm b k)) (hT12 : ∀ k, k < n → b k = 93 → ∀ p c q t, (gst b k).1 = (p, c, q) :: t → T 12 p = J c ∧ T 13 p = J q)
    (e : gst b B = gst b E) (e0 : (gst b B).1 = []) {l : List Nat} (kT : PK T S) (hp : PlO S l) (hl : l.length + (seg b B E).length ≤ 640) (hq : ∀ S', PK T S' → PlO S' (l ++ seg b B E) → Q none S') : KM (d + 3) mX12_playing [.ref 0, .int x, .int y] S Q := by
  subst ex ey
  refine eX12_playing (zRun_wp [5] 60 ?_)
  refine walk (d := d) hE hn hA hT6 hT15 hT12 E (Nat.le_refl _) B hBE e S l 0 (by rw [e0]; rfl) kT hp hl (fun S' k1 k2 _ => ?_) _ _
  intro y5 y6
  refine zRun_wp [] 60 ?_
  refine ⟨fun _ => hq S' k1 k2, fun w => ?_⟩
  exact absurd (Int32.le_refl _) w
set_option maxHeartbeats 1000000 in
theorem w_playsAll (hn : n ≤ 40) (hb : ∀ k, k < n → 0 ≤ b k ∧ b k ≤ 255) (hS : S A_typed 1 = J n) (hT : ∀ k, k < n → S A_score k = J (b k)) (hF : MoF S b n)
    (hq : ∀ S', PK S S' → PlO S' (if fre b n = 0 then od b n else []) → Q none S') : KM (d + 4) mX12_playsAll [.ref 0] S Q := by
  obtain ⟨f1, f2, f3, f4, f5, f6, f7, f8⟩ := hF
  have fl : fre b n ≤ 5 := by
    unfold fre
    have := rsn_le b (acc b n)
    split
    · omega
    · split <;> omega
  have k0 : PK S (zu S 0 33 0) := ⟨fun c c1 _ _ _ => zu_same c1, fun k hk => by simp only [zu_r, if_true]; rw [if_neg hk]⟩
  have p0 : PlO (zu S 0 33 0) [] := ⟨by simp, by simp only [zu_r, if_true]; rfl, fun k hk => absurd hk (Nat.not_lt_zero k)⟩
  have inn : vp_in (1 : Int32) 2 := by rw [J_lit]; simp (disch := omega) only [J_lit, J_neg, J_add, J_sub, J_mul, J_nI, J_le, J_lt, J_eq, J_in, J_nat]; omega
  have ix : (1 : Int32).toNatClampNeg = 1 := rfl
  have ty : ∀ S', PK S S' → S' 7 1 = J n := fun S' k => by rw [k.1 7 (by decide) (by decide) (by decide) (by decide)]; exact hS
  have r14 : (zu S 0 33 0) 0 14 = J (if fre b n = 0 then -1 else (fre b n : Int)) := by
    simp only [zu_r, if_true]; rw [if_neg (by decide)]; exact f2
  have go : fre b n = 0 → n ≠ 0 → zWp shM (KM (d + 3)) kX12_playsAll 0 Q 23 [some (.ref 0)] [] (zu S 0 33 0) := by
    intro f n0
    rw [if_pos f] at hq
    obtain ⟨m1, m2, m3, m4, m5, m6, m7, m8, m9, m10⟩ := f8 f
    have an : acc b n = n := by
      obtain ⟨s1, s2, s3⟩ := acc_spec b n
      by_cases w : acc b n < n
      · have := s3 w
        unfold fre at f
        rw [if_pos w] at f
        omega
      · omega
    have hA : Acc b n := by
      have := (acc_spec b n).2.1
      rw [an] at this
      exact this
    have me : mayEnd b n := by
      unfold fre at f
      rw [if_neg (by omega)] at f
      by_cases w : n = 0 ∨ mayEnd b n
      · rcases w with w | w
        · exact absurd w n0
        · exact w
      · rw [if_neg w] at f
        omega
    obtain ⟨e1, -, e3⟩ := me
    have b640 := od_640 hn n (Nat.le_refl _) hA
    obtain ⟨K1, K2, K3⟩ := MK_all n hA
    have mr : -1 ≤ (gst b n).2.1 ∧ (gst b n).2.1 ≤ 40 ∧ -1 ≤ (gst b n).2.2.1 ∧ (gst b n).2.2.1 ≤ 40 := by
      rcases K1 with k1 | ⟨P, k1, k1', -⟩ <;> rcases K2 with k2 | ⟨B, k2, k2', -⟩ <;> omega
    have v22 : ∀ S', PK S S' → S' 0 22 = J (gst b n).2.2.1 := fun S' k => by rw [k.2 22 (by decide)]; exact m3
    have v21 : ∀ S', PK S S' → S' 0 21 = J (gst b n).2.1 := fun S' k => by rw [k.2 21 (by decide)]; exact m2
    have v23 : ∀ S', PK S S' → S' 0 23 = J (gst b n).2.2.2 := fun S' k => by rw [k.2 23 (by decide)]; exact m4
    have play := fun {B E : Nat} {S' : zS} {Q' : Option Value → zS → Prop} {x y : Int32} {l : List Nat} (ex : x = J B) (ey : y = J E) (hBE : B ≤ E) (hE : E ≤ n) (e : gst b B = gst b E) (e0 : (gst b B).1 = []) (kT : PK S S') (hp : PlO S' l) (hl : l.length + (seg b B E).length ≤ 640) (k : ∀ S2, PK S S2 → PlO S2 (l ++ seg b B E) → Q' none S2) => w_playing (d := d) (S := S') (Q := Q') (T := S) ex ey hBE hE hn hA hT (fun k a c => m9 k a c) (fun k a c => m8 k a c) e e0 kT hp hl k
    have g0 : gst b 0 = ([], -1, -1, -1) := rfl
    have s0 : ∀ j, seg b 0 j = od b j := fun j => rfl
    refine zRun_wp [] 80 ?_
    by_cases bg : (gst b n).2.2.1 = -1
    · -- no jump
      have dl : (gst b n).2.2.2 = -1 := by
        rcases K3 with w | ⟨D, -, -, -, w, -⟩
        · exact w
        · exact absurd bg w
      have pc : (gst b n).2.1 = -1 := by
        rcases e3 with w | w
        · exact w.1
        · exact absurd dl w
      have gn : gst b 0 = gst b n := by
        rw [g0]
        exact (Gs_eq e1 pc bg dl).symm
      refine ⟨fun w => ?_, fun _ => ?_⟩
      · rw [v22 _ k0, bg] at w
        exact absurd rfl w
      refine ⟨inn, ?_⟩
      refine play (B := 0) (E := n) rfl (by rw [ix]; exact ty _ k0) (by omega) (Nat.le_refl _) gn rfl k0 p0 (by rw [s0, List.length_nil]; omega) (fun S2 k1 k2 => ?_)
      rw [s0] at k2
      exact hq S2 k1 k2
    · rcases K2 with w | ⟨B, b1, b2, b3, b4, b5, b6⟩
      · exact absurd w bg
      have dln : (gst b n).2.2.2 ≠ -1 := by
        rcases e3 with w | w
        · exact absurd w.2 bg
        · exact w
      rcases K3 with w | ⟨D, d1, d2, d3, -, d5, d6⟩
      · exact absurd w dln
      subst d2
      have odB : od b (B + 1) = od b B := od_oth (by omega) (by omega) (by omega) (by omega)
      have bgD : (gst b D).2.2.1 = (B : Int) := by rw [d6]; exact b1
      have odD : od b D = od b B ++ seg b (B + 1) D := by
        rw [od_seg (show B + 1 ≤ D by omega), odB]
      refine ⟨fun _ => ?_, fun w => ?_⟩
      rotate_left
      · rw [v22 _ k0, show (-1 : Int32) = J (-1) from rfl] at w
        simp (disch := omega) only [J_lit, J_neg, J_add, J_sub, J_mul, J_nI, J_le, J_lt, J_eq, J_in, J_nat] at w
        exact absurd w bg
      by_cases pc : (gst b (D + 1)).2.1 = -1
      · have pcD : (gst b D).2.1 = -1 := by rw [d6]; exact pc
        have odn : od b (D + 1) = od b D ++ od b B := by
          rw [od_dol d3 bgD (by omega) (Or.inl pcD), if_pos pcD, List.drop_zero, od_seg (show B ≤ D by omega), List.take_left]
        have tot : od b (D + 1) = od b B ++ (seg b (B + 1) D ++ od b B) := by rw [odn, odD, List.append_assoc]
        rw [tot] at hq b640
        simp only [List.length_append] at b640
        rw [pc] at b5
        refine ⟨fun w => ?_, fun _ => ?_⟩
        · rw [v21 _ k0, pc] at w
          exact absurd rfl w
        refine play (B := 0) (E := B) rfl (by rw [v22 _ k0, b1]) (by omega) (by omega) (by rw [g0, b5]) rfl k0 p0 (by rw [s0, List.length_nil]; omega) (fun S2 k1 k2 => ?_)
        rw [s0, List.nil_append] at k2
        refine play (B := B + 1) (E := D) (by rw [v22 _ k1, b1]; simp only [J_lit, J_neg, J_add, J_sub, J_mul, J_nI]; congr 1) (by rw [v23 _ k1, d1]) (by omega) (by omega) (by rw [b6, d6]) (by rw [b6]) k1 k2 (by omega) (fun S3 k3 k4 => ?_)
        refine play (B := 0) (E := B) rfl (by rw [v22 _ k3, b1]) (by omega) (by omega) (by rw [g0, b5]) rfl k3 k4 (by rw [s0]; simp only [List.length_append]; omega) (fun S4 k5 k6 => ?_)
        rw [s0, List.append_assoc] at k6
        exact hq S4 k5 k6
      · rcases K1 with w | ⟨P, p1, p2, p3, p4, p5⟩
        · exact absurd w pc
        have pcD : (gst b D).2.1 = (P : Int) := by rw [d6]; exact p1
        have odP : od b (P + 1) = od b P := od_oth (by omega) (by omega) (by omega) (by omega)
        have odB' : od b B = od b P ++ seg b (P + 1) B := by
          rw [od_seg (show P + 1 ≤ B by omega), odP]
        have odn : od b (D + 1) = od b D ++ seg b (P + 1) B := by
          rw [od_dol d3 bgD (by omega) (Or.inr (by rw [pcD, Int.toNat_natCast]; omega)), if_neg (by omega), pcD, Int.toNat_natCast, od_cut (by omega) (by omega)]
          unfold seg; rw [odP]
        have tot : od b (D + 1) = od b P ++ (seg b (P + 1) B ++ (seg b (B + 1) D ++ seg b (P + 1) B)) := by rw [odn, odD, odB']; simp only [List.append_assoc]
        rw [tot] at hq b640
        simp only [List.length_append] at b640
        refine ⟨fun _ => ?_, fun w => ?_⟩
        rotate_left
        · rw [v21 _ k0, show (-1 : Int32) = J (-1) from rfl] at w
          simp (disch := omega) only [J_lit, J_neg, J_add, J_sub, J_mul, J_nI, J_le, J_lt, J_eq, J_in, J_nat] at w
          exact absurd w pc
        refine play (B := 0) (E := P) rfl (by rw [v21 _ k0, p1]) (by omega) (by omega) (by rw [g0, p4]) rfl k0 p0 (by rw [s0, List.length_nil]; omega) (fun S2 k1 k2 => ?_)
        rw [s0, List.nil_append] at k2
        refine play (B := P + 1) (E := B) (by rw [v21 _ k1, p1]; simp only [J_lit, J_neg, J_add, J_sub, J_mul, J_nI]; congr 1) (by rw [v22 _ k1, b1]) (by omega) (by omega) (by rw [p5, b5]) (by rw [p5]) k1 k2 (by omega) (fun S3 k3 k4 => ?_)
        refine play (B := B + 1) (E := D) (by rw [v22 _ k3, b1]; simp only [J_lit, J_neg, J_add, J_sub, J_mul, J_nI]; congr 1) (by rw [v23 _ k3, d1]) (by omega) (by omega) (by rw [b6, d6]) (by rw [b6]) k3 k4 (by simp only [List.length_append]; omega) (fun S4 k5 k6 => ?_)
        refine play (B := P + 1) (E := B) (by rw [v21 _ k5, p1]; simp only [J_lit, J_neg, J_add, J_sub, J_mul, J_nI]; congr 1) (by rw [v22 _ k5, b1]) (by omega) (by omega) (by rw [p5, b5]) (by rw [p5]) k5 k6 (by simp only [List.length_append]; omega) (fun S5 k7 k8 => ?_)
        simp only [List.append_assoc] at k8
        exact hq S5 k7 k8
  refine eX12_playsAll (zRun_wp [23] 80 ?_)
  refine ⟨rfl, fun e => absurd e (by decide), ?_⟩
  by_cases f : fre b n = 0
  · rw [if_pos f] at r14
    refine ⟨fun w => absurd r14 w, fun _ => ?_⟩
    refine ⟨inn, ?_⟩
    refine ⟨fun w => ?_, fun w => ?_⟩ <;> rw [ix, ty _ k0] at w <;> simp (disch := omega) only [J_lit, J_neg, J_add, J_sub, J_mul, J_nI, J_le, J_lt, J_eq, J_in, J_nat] at w
    · exact go f (by omega)
    · have n0 : n = 0 := by omega
      refine hq _ k0 ?_
      rw [if_pos f, n0]
      exact p0
  · rw [if_neg f] at r14 hq
    refine ⟨fun _ => hq _ k0 p0, fun w => ?_⟩
    rw [r14, show (-1 : Int32) = J (-1) from rfl] at w
    simp (disch := omega) only [J_lit, J_neg, J_add, J_sub, J_mul, J_nI, J_le, J_lt, J_eq, J_in, J_nat] at w
    omega
end mplays
