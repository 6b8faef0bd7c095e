/-! how many bars from i on are like those from j on -/
def alf (h : Nat → Int) (m : Nat) : Nat → Nat → Nat → Nat
  | 0, _, _ => 0
  | f + 1, i, j => if i < m ∧ j < m ∧ h i = h j then 1 + alf h m f (i + 1) (j + 1) else 0
def al (h : Nat → Int) (m i j : Nat) : Nat := alf h m m i j
theorem alf_more (h : Nat → Int) (m : Nat) : ∀ f i j, m ≤ i + f → alf h m (f + 1) i j = alf h m f i j := by
  intro f
  induction f with
  | zero =>
    intro i j hf
    unfold alf
    rw [if_neg (by omega)]
  | succ f ih =>
    intro i j hf
    rw [show alf h m (f + 1 + 1) i j = if i < m ∧ j < m ∧ h i = h j then 1 + alf h m (f + 1) (i + 1) (j + 1) else 0 from rfl, show alf h m (f + 1) i j = if i < m ∧ j < m ∧ h i = h j then 1 + alf h m f (i + 1) (j + 1) else 0 from rfl, ih (i + 1) (j + 1) (by omega)]
theorem al_s (h : Nat → Int) (m i j : Nat) : al h m i j = if i < m ∧ j < m ∧ h i = h j then 1 + al h m (i + 1) (j + 1) else 0 := by
  unfold al
  cases m with
  | zero => rw [if_neg (by omega)]; rfl
  | succ m =>
    rw [show alf h (m + 1) (m + 1) i j = if i < m + 1 ∧ j < m + 1 ∧ h i = h j then 1 + alf h (m + 1) m (i + 1) (j + 1) else 0 from rfl, alf_more h (m + 1) m (i + 1) (j + 1) (by omega)]
theorem al_le (h : Nat → Int) (m : Nat) : ∀ r i j, m - i ≤ r → al h m i j ≤ m - i ∧ al h m i j ≤ m - j := by
  intro r
  induction r with
  | zero =>
    intro i j hr
    rw [al_s, if_neg (by omega)]
    omega
  | succ r ih =>
    intro i j hr
    rw [al_s]
    split
    · have := ih (i + 1) (j + 1) (by omega); omega
    · omega
theorem al_lei (h : Nat → Int) (m i j : Nat) : al h m i j ≤ m - i ∧ al h m i j ≤ m - j := al_le h m _ i j (Nat.le_refl _)
theorem al_ge (h : Nat → Int) (m : Nat) : ∀ a i j, a ≤ al h m i j ↔ ∀ t, t < a → i + t < m ∧ j + t < m ∧ h (i + t) = h (j + t) := by
  intro a
  induction a with
  | zero => intro i j; exact ⟨fun _ t ht => absurd ht (by omega), fun _ => Nat.zero_le _⟩
  | succ a ih =>
    intro i j
    rw [al_s]
    constructor
    · intro q t ht
      split at q
      · rename_i c
        cases t with
        | zero => exact c
        | succ t =>
          have := (ih (i + 1) (j + 1)).mp (by omega) t (by omega)
          rw [show i + (t + 1) = i + 1 + t by omega, show j + (t + 1) = j + 1 + t by omega]
          exact this
      · omega
    · intro q
      rw [if_pos (show i < m ∧ j < m ∧ h i = h j from q 0 (by omega))]
      have := (ih (i + 1) (j + 1)).mpr (fun t ht => by
        have := q (t + 1) (by omega)
        rw [show i + (t + 1) = i + 1 + t by omega, show j + (t + 1) = j + 1 + t by omega] at this
        exact this)
      omega
theorem al_congr {h h' : Nat → Int} {m : Nat} (e : ∀ i j, i < m → j < m → (h i = h j ↔ h' i = h' j)) : ∀ i j, al h m i j = al h' m i j := by
  have : ∀ r i j, m - i ≤ r → al h m i j = al h' m i j := by
    intro r
    induction r with
    | zero => intro i j hr; rw [al_s, al_s h', if_neg (by omega), if_neg (by omega)]
    | succ r ih =>
      intro i j hr
      rw [al_s, al_s h', ih (i + 1) (j + 1) (by omega)]
      by_cases c : i < m ∧ j < m ∧ h i = h j
      · rw [if_pos c, if_pos ⟨c.1, c.2.1, (e i j c.1 c.2.1).mp c.2.2⟩]
      · rw [if_neg c, if_neg (fun q => c ⟨q.1, q.2.1, (e i j q.1 q.2.1).mpr q.2.2⟩)]
  intro i j
  exact this _ i j (Nat.le_refl _)
/-- the bars but for one (w, -1: none): how many of the first k, and which is the k-th -/
def cs (w : Int) (k : Nat) : Nat := if 0 ≤ w ∧ w < k then k - 1 else k
def skI (w : Int) (k : Nat) : Nat := if 0 ≤ w ∧ w ≤ k then k + 1 else k
theorem cs_le (w : Int) (k : Nat) : cs w k ≤ k := by unfold cs; split <;> omega
theorem cs_same {w : Int} {k : Nat} (h : (k : Int) = w) : cs w (k + 1) = cs w k := by
  unfold cs
  rw [if_pos (by omega), if_neg (by omega)]
  omega
theorem cs_next {w : Int} {k : Nat} (h : ¬ (k : Int) = w) : cs w (k + 1) = cs w k + 1 ∧ skI w (cs w k) = k := by
  unfold cs skI
  by_cases c : 0 ≤ w ∧ w < k
  · rw [if_pos (by omega), if_pos c, if_pos (by omega)]; omega
  · rw [if_neg (by omega), if_neg c, if_neg (by omega)]; omega
theorem skI_lt {w : Int} {k N : Nat} (h : k < cs w N) : skI w k < N := by
  unfold cs at h
  unfold skI
  split at h <;> split <;> omega
def sps : List (Nat × Nat × Nat × Nat) := [(20, 21, 22, 23), (28, 29, 30, 31)]
theorem sps_x {c c1 c2 c3 : Nat} (h : (c, c1, c2, c3) ∈ sps) : c1 = c + 1 ∧ c2 = c + 2 ∧ c3 = c + 3 ∧ 20 ≤ c ∧ c ≤ 28 := by
  simp only [sps, List.mem_cons, Prod.mk.injEq, List.not_mem_nil, or_false] at h
  rcases h with ⟨rfl, rfl, rfl, rfl⟩ | ⟨rfl, rfl, rfl, rfl⟩ <;> decide
section alike
variable {d : Nat} {S : zS} {Q : Option Value → zS → Prop}
set_option maxHeartbeats 2000000 in
/-- the class's Spans take the bars, but for one -/
theorem v_spTake {c c1 c2 c3 N : Nat} {g : Nat → Int} {w : Int} (hc : (c, c1, c2, c3) ∈ sps) (hN : N ≤ 24) (hw : -1 ≤ w ∧ w ≤ 24) (hS : S 7 1 = J N) (hg : ∀ k, k < N → S 8 k = J (g k) ∧ 0 ≤ g k ∧ g k ≤ 100000)
    (h : ∀ S', (∀ c', c' ≠ c → c' ≠ c1 → c' ≠ c2 → S' c' = S c') → S' c 1 = J (cs w N) → (∀ k, k < cs w N → S' c1 k = J (g (skI w k))) → (∀ i j, i ≤ cs w N → j ≤ cs w N → S' c2 (25 * i + j) = J (al (fun k => g (skI w k)) (cs w N) i j)) → Q none S') : KC (d + 1) mX9_take [.ref c, .ref 7, .int (J w)] S Q := by
  obtain ⟨k1, k2, k3, k4, k5⟩ := sps_x hc
  have hm := cs_le w N
  -- the table
  have rows : ∀ (r : Nat) (x3 : Int32) (j4 j5 : Option Value) (S' : zS), r ≤ cs w N + 1 → x3 = J ((r : Int) - 1) → (∀ c', c' ≠ c → c' ≠ c1 → c' ≠ c2 → S' c' = S c') → S' c 1 = J (cs w N) → (∀ k, k < cs w N → S' c1 k = J (g (skI w k))) → (∀ i j, r ≤ i → i ≤ cs w N → j ≤ cs w N → S' c2 (25 * i + j) = J (al (fun k => g (skI w k)) (cs w N) i j)) → zWp shC (KC d) kX9_take 0 Q 68 [some (.ref c), some (.ref 7), some (.int (J w)), some (.int x3), j4, j5] [] S' := by
    intro r
    induction r with
    | zero =>
      intro x3 j4 j5 S' hr e3 q1 q2 q3 q4
      subst e3
      have hq := h S' q1 q2 q3 (fun i j a1 a2 => q4 i j (by omega) a1 a2)
      simp only [sps, List.mem_cons, Prod.mk.injEq, List.not_mem_nil, or_false] at hc
      rcases hc with ⟨rfl, rfl, rfl, rfl⟩ | ⟨rfl, rfl, rfl, rfl⟩
      all_goals
        refine zRun_wp [68, 78] 80 ?_
        refine ⟨fun _ => hq, fun c1 => ?_⟩
        simp (disch := omega) only [J_lit, J_neg, J_add, J_sub, J_mul, J_nI, J_le, J_lt, J_eq, J_in, J_nat] at c1
        omega
    | succ i ih =>
      intro x3 j4 j5 S' hr e3 q1 q2 q3 q4
      have e3 : x3 = J i := by rw [e3]; congr 1; omega
      subst e3
      have cols : ∀ (r : Nat) (x4 : Int32) (j5 : Option Value) (S2 : zS), r ≤ cs w N + 1 → x4 = J ((r : Int) - 1) → (∀ c', c' ≠ c → c' ≠ c1 → c' ≠ c2 → S2 c' = S c') → S2 c 1 = J (cs w N) → (∀ k, k < cs w N → S2 c1 k = J (g (skI w k))) → (∀ i' j, i + 1 ≤ i' → i' ≤ cs w N → j ≤ cs w N → S2 c2 (25 * i' + j) = J (al (fun k => g (skI w k)) (cs w N) i' j)) → (∀ j, r ≤ j → j ≤ cs w N → S2 c2 (25 * i + j) = J (al (fun k => g (skI w k)) (cs w N) i j)) → zWp shC (KC d) kX9_take 0 Q 78 [some (.ref c), some (.ref 7), some (.int (J w)), some (.int (J i)), some (.int x4), j5] [] S2 := by
        intro r
        induction r with
        | zero =>
          intro x4 j5 S2 hr4 e4 p1 p2 p3 p4 p5
          subst e4
          have hq := fun (x3 : Int32) (j4 j5 : Option Value) (e : x3 = J ((i : Int) - 1)) => ih x3 j4 j5 S2 (by omega) e p1 p2 p3 (fun i' j a1 a2 a3 => by
            by_cases ei : i' = i
            · rw [ei]; exact p5 j (by omega) a3
            · exact p4 i' j (by omega) a2 a3)
          simp only [sps, List.mem_cons, Prod.mk.injEq, List.not_mem_nil, or_false] at hc
          rcases hc with ⟨rfl, rfl, rfl, rfl⟩ | ⟨rfl, rfl, rfl, rfl⟩
          all_goals
            refine zRun_wp [68, 78] 80 ?_
            refine ⟨fun _ => ?_, fun c1 => ?_⟩
            · refine hq _ _ _ ?_
              simp only [J_lit, J_neg, J_add, J_sub, J_mul, J_nI]; congr 1
            · simp (disch := omega) only [J_lit, J_neg, J_add, J_sub, J_mul, J_nI, J_le, J_lt, J_eq, J_in, J_nat] at c1
              omega
        | succ j ihj =>
          intro x4 j5 S2 hr4 e4 p1 p2 p3 p4 p5
          have e4 : x4 = J j := by rw [e4]; congr 1; omega
          subst e4
          have ix : (J i * 25 + J j).toNatClampNeg = 25 * i + j := by simp (disch := omega) only [J_lit, J_neg, J_add, J_sub, J_mul, J_nI, J_le, J_lt, J_eq, J_in, J_nat]; omega
          have iin : vp_in (J i * 25 + J j) 625 := by simp (disch := omega) only [J_lit, J_neg, J_add, J_sub, J_mul, J_nI, J_le, J_lt, J_eq, J_in, J_nat]; omega
          -- the item is written, whatever it is
          have next : ∀ (v : Int32) (j5 : Option Value), v = J (al (fun k => g (skI w k)) (cs w N) i j) → zWp shC (KC d) kX9_take 0 Q 78 [some (.ref c), some (.ref 7), some (.int (J w)), some (.int (J i)), some (.int (J j + -1)), j5] [] (zu S2 c2 (25 * i + j) v) := by
            intro v j5 hv
            refine ihj _ _ _ (by omega) (by simp only [J_lit, J_neg, J_add, J_sub, J_mul, J_nI]; congr 1) (fun c' a1 a2 a3 => ?_) ?_ (fun k hk => ?_) (fun i' j' a1 a2 a3 => ?_) (fun j' a1 a2 => ?_)
            · rw [zu_same a3]; exact p1 c' a1 a2 a3
            · rw [zu_same (by omega)]; exact p2
            · rw [zu_same (by omega)]; exact p3 k hk
            · simp only [zu_r, if_true]; rw [if_neg (by omega)]; exact p4 i' j' a1 a2 a3
            · simp only [zu_r, if_true]
              by_cases ej : j' = j
              · rw [if_pos (by omega), ej]; exact hv
              · rw [if_neg (by omega)]; exact p5 j' (by omega) a2
          have zero : ¬ (i < cs w N ∧ j < cs w N ∧ g (skI w i) = g (skI w j)) → (0 : Int32) = J (al (fun k => g (skI w k)) (cs w N) i j) := by
            intro q
            rw [al_s, if_neg q]; rfl
          have one : i < cs w N → j < cs w N → g (skI w i) = g (skI w j) → vp_in ((J i + 1) * 25 + J j + 1) 625 ∧ (1 : Int32) + S2 c2 ((J i + 1) * 25 + J j + 1).toNatClampNeg = J (al (fun k => g (skI w k)) (cs w N) i j) := by
            intro a1 a2 a3
            have ix2 : ((J i + 1) * 25 + J j + 1).toNatClampNeg = 25 * (i + 1) + (j + 1) := by simp (disch := omega) only [J_lit, J_neg, J_add, J_sub, J_mul, J_nI, J_le, J_lt, J_eq, J_in, J_nat]; omega
            refine ⟨by simp (disch := omega) only [J_lit, J_neg, J_add, J_sub, J_mul, J_nI, J_le, J_lt, J_eq, J_in, J_nat]; omega, ?_⟩
            rw [ix2, p4 (i + 1) (j + 1) (by omega) (by omega) (by omega), al_s _ _ i j, if_pos ⟨a1, a2, a3⟩]
            simp only [J_lit, J_neg, J_add, J_sub, J_mul, J_nI]; congr 1
          have cmp : i < cs w N → j < cs w N → (S2 c1 (J i).toNatClampNeg = S2 c1 (J j).toNatClampNeg ↔ g (skI w i) = g (skI w j)) ∧ vp_in (J i) 24 ∧ vp_in (J j) 24 := by
            intro a1 a2
            have ei : (J i).toNatClampNeg = i := by simp (disch := omega) only [J_lit, J_neg, J_add, J_sub, J_mul, J_nI, J_le, J_lt, J_eq, J_in, J_nat]; omega
            have ej : (J j).toNatClampNeg = j := by simp (disch := omega) only [J_lit, J_neg, J_add, J_sub, J_mul, J_nI, J_le, J_lt, J_eq, J_in, J_nat]; omega
            have g1 := hg (skI w i) (skI_lt a1)
            have g2 := hg (skI w j) (skI_lt a2)
            refine ⟨?_, ?_, ?_⟩
            · rw [ei, ej, p3 i a1, p3 j a2]
              simp (disch := omega) only [J_lit, J_neg, J_add, J_sub, J_mul, J_nI, J_le, J_lt, J_eq, J_in, J_nat]
            · simp (disch := omega) only [J_lit, J_neg, J_add, J_sub, J_mul, J_nI, J_le, J_lt, J_eq, J_in, J_nat]; omega
            · simp (disch := omega) only [J_lit, J_neg, J_add, J_sub, J_mul, J_nI, J_le, J_lt, J_eq, J_in, J_nat]; omega
          simp only [sps, List.mem_cons, Prod.mk.injEq, List.not_mem_nil, or_false] at hc
          rcases hc with ⟨rfl, rfl, rfl, rfl⟩ | ⟨rfl, rfl, rfl, rfl⟩
          all_goals
            refine zRun_wp [68, 78] 80 ?_
            refine ⟨fun c1 => ?_, fun _ => ?_⟩
            · simp (disch := omega) only [J_lit, J_neg, J_add, J_sub, J_mul, J_nI, J_le, J_lt, J_eq, J_in, J_nat] at c1; omega
            refine ⟨fun c1 => ?_, fun c1 => ?_⟩ <;> rw [p2] at c1 <;> simp (disch := omega) only [J_lit, J_neg, J_add, J_sub, J_mul, J_nI, J_le, J_lt, J_eq, J_in, J_nat] at c1
            · refine ⟨fun _ => ?_, fun q => absurd rfl q⟩
              refine ⟨iin, ?_⟩
              rw [ix]
              exact next _ _ (zero (by omega))
            refine ⟨fun c2 => ?_, fun c2 => ?_⟩ <;> rw [p2] at c2 <;> simp (disch := omega) only [J_lit, J_neg, J_add, J_sub, J_mul, J_nI, J_le, J_lt, J_eq, J_in, J_nat] at c2
            · refine ⟨fun _ => ?_, fun q => absurd rfl q⟩
              refine ⟨iin, ?_⟩
              rw [ix]
              exact next _ _ (zero (by omega))
            obtain ⟨cm, vi, vj⟩ := cmp (by omega) (by omega)
            refine ⟨vi, vj, fun c3 => ?_, fun c3 => ?_⟩ <;> rw [cm] at c3
            · refine ⟨fun _ => ?_, fun q => absurd rfl q⟩
              refine ⟨iin, ?_⟩
              rw [ix]
              exact next _ _ (zero (fun q => c3 q.2.2))
            · refine ⟨fun q => absurd q (by decide), fun _ => ?_⟩
              obtain ⟨o1, o2⟩ := one (by omega) (by omega) c3
              refine ⟨o1, iin, ?_⟩
              rw [ix]
              exact next _ _ o2
      have start : ∀ (x4 : Int32) (j5 : Option Value), x4 = J (cs w N) → zWp shC (KC d) kX9_take 0 Q 78 [some (.ref c), some (.ref 7), some (.int (J w)), some (.int (J i)), some (.int x4), j5] [] S' := fun x4 j5 e => cols (cs w N + 1) x4 j5 S' (by omega) (by rw [e]; congr 1; omega) q1 q2 q3 (fun i' j a1 a2 a3 => q4 i' j a1 a2 a3) (fun j a1 a2 => by omega)
      simp only [sps, List.mem_cons, Prod.mk.injEq, List.not_mem_nil, or_false] at hc
      rcases hc with ⟨rfl, rfl, rfl, rfl⟩ | ⟨rfl, rfl, rfl, rfl⟩
      all_goals
        refine zRun_wp [68, 78] 80 ?_
        refine ⟨fun c1 => ?_, fun _ => ?_⟩
        · simp (disch := omega) only [J_lit, J_neg, J_add, J_sub, J_mul, J_nI, J_le, J_lt, J_eq, J_in, J_nat] at c1; omega
        · exact start _ _ q2
  -- the bars
  have bars : ∀ (r i : Nat) (x3 : Int32) (S' : zS), i + r = N → x3 = J i → (∀ c', c' ≠ c → c' ≠ c1 → c' ≠ c2 → S' c' = S c') → S' c 1 = J (cs w i) → (∀ k, k < cs w i → S' c1 k = J (g (skI w k))) → zWp shC (KC d) kX9_take 0 Q 7 [some (.ref c), some (.ref 7), some (.int (J w)), some (.int x3), none, none] [] S' := by
    intro r
    induction r with
    | zero =>
      intro i x3 S' hi e3 q1 q2 q3
      subst e3
      have ei : i = N := by omega
      subst ei
      have hq := fun (x3 : Int32) (e : x3 = J (cs w i)) => rows (cs w i + 1) x3 none none S' (by omega) (by rw [e]; congr 1; omega) q1 q2 q3 (fun i' j a1 a2 _ => by omega)
      have e7 : S' 7 1 = J i := by rw [q1 7 (by omega) (by omega) (by omega)]; exact hS
      simp only [sps, List.mem_cons, Prod.mk.injEq, List.not_mem_nil, or_false] at hc
      rcases hc with ⟨rfl, rfl, rfl, rfl⟩ | ⟨rfl, rfl, rfl, rfl⟩
      all_goals
        refine zRun_wp [7, 68] 80 ?_
        refine ⟨fun _ => hq _ q2, fun c1 => ?_⟩
        rw [e7] at c1
        exact absurd (Int32.le_refl _) c1
    | succ r ih =>
      intro i x3 S' hi e3 q1 q2 q3
      subst e3
      have hcsi := cs_le w i
      have e7 : S' 7 1 = J N := by rw [q1 7 (by omega) (by omega) (by omega)]; exact hS
      have e8 : S' 8 i = J (g i) := by rw [q1 8 (by omega) (by omega) (by omega)]; exact (hg i (by omega)).1
      have iin : vp_in (J i) 24 := by simp (disch := omega) only [J_lit, J_neg, J_add, J_sub, J_mul, J_nI, J_le, J_lt, J_eq, J_in, J_nat]; omega
      have iix : (J i).toNatClampNeg = i := by simp (disch := omega) only [J_lit, J_neg, J_add, J_sub, J_mul, J_nI, J_le, J_lt, J_eq, J_in, J_nat]; omega
      have cin : vp_in (J (cs w i)) 24 := by simp (disch := omega) only [J_lit, J_neg, J_add, J_sub, J_mul, J_nI, J_le, J_lt, J_eq, J_in, J_nat]; omega
      have cix : (J (cs w i)).toNatClampNeg = cs w i := by simp (disch := omega) only [J_lit, J_neg, J_add, J_sub, J_mul, J_nI, J_le, J_lt, J_eq, J_in, J_nat]; omega
      have skip : (i : Int) = w → zWp shC (KC d) kX9_take 0 Q 7 [some (.ref c), some (.ref 7), some (.int (J w)), some (.int (J i + 1)), none, none] [] S' := by
        intro e
        have := cs_same e
        exact ih (i + 1) _ _ (by omega) (by simp only [J_lit, J_neg, J_add, J_sub, J_mul, J_nI]; congr 1) q1 (by rw [this]; exact q2) (by rw [this]; exact q3)
      have put : ¬ (i : Int) = w → zWp shC (KC d) kX9_take 0 Q 7 [some (.ref c), some (.ref 7), some (.int (J w)), some (.int (J i + 1)), none, none] [] (zu (zu S' c1 (cs w i) (J (g i))) c 1 (J (cs w i) + 1)) := by
        intro e
        obtain ⟨a1, a2⟩ := cs_next e
        refine ih (i + 1) _ _ (by omega) (by simp only [J_lit, J_neg, J_add, J_sub, J_mul, J_nI]; congr 1) (fun c' b1 b2 b3 => ?_) ?_ (fun k hk => ?_)
        · rw [zu_same b1, zu_same b2]; exact q1 c' b1 b2 b3
        · simp only [zu_r, if_true]; rw [a1]; simp only [J_lit, J_neg, J_add, J_sub, J_mul, J_nI]; rfl
        · rw [zu_same (by omega)]
          simp only [zu_r, if_true]
          by_cases ek : k = cs w i
          · rw [if_pos ek, ek, a2]
          · rw [if_neg ek]; exact q3 k (by omega)
      simp only [sps, List.mem_cons, Prod.mk.injEq, List.not_mem_nil, or_false] at hc
      rcases hc with ⟨rfl, rfl, rfl, rfl⟩ | ⟨rfl, rfl, rfl, rfl⟩
      all_goals
        refine zRun_wp [7, 68] 80 ?_
        refine ⟨fun c1 => ?_, fun _ => ?_⟩
        · rw [e7] at c1; simp (disch := omega) only [J_lit, J_neg, J_add, J_sub, J_mul, J_nI, J_le, J_lt, J_eq, J_in, J_nat] at c1; omega
        refine ⟨fun c1 => ?_, fun c1 => ?_⟩ <;> simp (disch := omega) only [J_lit, J_neg, J_add, J_sub, J_mul, J_nI, J_le, J_lt, J_eq, J_in, J_nat] at c1
        · exact skip c1
        refine ⟨fun c2 => ?_, fun _ => ?_⟩
        · rw [q2] at c2; simp (disch := omega) only [J_lit, J_neg, J_add, J_sub, J_mul, J_nI, J_le, J_lt, J_eq, J_in, J_nat] at c2; omega
        refine ⟨iin, ?_, rfl, fun e => absurd e (by decide), ?_⟩
        · rw [q2]; exact cin
        · rw [q2, cix, iix, e8, zu_same (by omega), q2]
          exact put c1
  have start := bars N 0 0 (zu S c 1 0) (by omega) rfl (fun c' a1 _ _ => zu_same a1) (by simp only [zu_r, if_true]; unfold cs; rw [if_neg (by omega)]; rfl) (fun k hk => by unfold cs at hk; rw [if_neg (by omega)] at hk; omega)
  simp only [sps, List.mem_cons, Prod.mk.injEq, List.not_mem_nil, or_false] at hc
  rcases hc with ⟨rfl, rfl, rfl, rfl⟩ | ⟨rfl, rfl, rfl, rfl⟩
  all_goals
    refine eX9_take (zRun_wp [7, 68] 80 ?_)
    exact ⟨rfl, fun e => absurd e (by decide), start⟩
end alike
