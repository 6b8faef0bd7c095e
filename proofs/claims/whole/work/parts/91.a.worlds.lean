/-! the constructors' worlds -/
def SC0 : zS := fun c k => match c with
  | 0 => (match k with | 8 => 2 | 10 => 1 | 11 => 1 | 12 => 1 | 13 => 1 | 14 => 1 | _ => 0)
  | 6 => (match k with | 3 => -1 | _ => 0)
  | 10 => (match k with | 5 => -1 | _ => 0)
  | 13 => (match k with | 4 => 1 | _ => 0)
  | 27 => (match k with | 2 => -1 | _ => 0)
  | 34 => (match k with | 1 => 1 | _ => 0)
  | 36 => (match k with | 1 => 1 | _ => 0)
  | 38 => (match k with | 1 => 1 | _ => 0)
  | 40 => (match k with | 1 => 1 | _ => 0)
  | _ => 0
def SM0 : zS := fun c => match c with
  | 0 => (fun k => match k with | 8 => 2 | _ => 0)
  | 1 => upd (upd (upd (upd (fun _ => 0) 0 (-1)) 1 (-1)) 2 (-1)) 3 (-1)
  | _ => fun _ => 0
def zfr (ad : Nat → Nat) (S : zS) (c : Nat) : Nat → List (Option Nat) → List Value
  | _, [] => []
  | k, o :: t => zfv ad S c k o :: zfr ad S c (k + 1) t
def zcr (ad : Nat → Nat) (cA : Nat → ClassId) (S : zS) (c : Nat) (d : zD) : va_E := match d with
  | .inl n => .inl (cA c, n, .inl (S c))
  | .inr (.inl rs) => .inl (cA c, rs.length, .inr (.inr (.inr (.inr (fun k => (zn rs k).map ad)))))
  | .inr (.inr (ci, fs)) => .inr (ci, zfr ad S c 0 fs)
def zwr (ad : Nat → Nat) (cA : Nat → ClassId) (S : zS) : Nat → List zD → va_W
  | _, [] => []
  | c, d :: t => (ad c, zcr ad cA S c d) :: zwr ad cA S (c + 1) t
def zyr (cA : Nat → ClassId) (nm : Nat → String) : Nat → List zD → List (ClassId × FieldType)
  | _, [] => []
  | c, d :: t => (cA c, zet nm c d) :: zyr cA nm (c + 1) t
theorem zfr_eq {ad : Nat → Nat} {S : zS} {c : Nat} (fs : List (Option Nat)) : ∀ k, zfr ad S c k fs = fs.mapIdx (fun i => zfv ad S c (k + i)) := by
  induction fs with
  | nil => intro k; rfl
  | cons o t ih =>
    intro k
    rw [List.mapIdx_cons, zfr, ih (k + 1)]
    congr 1
    congr 1
    funext i
    rw [Nat.add_assoc, Nat.add_comm 1 i]
theorem zcr_eq {ad : Nat → Nat} {cA : Nat → ClassId} {S : zS} {c : Nat} {d : zD} : zcr ad cA S c d = zce ad cA S c d := by
  unfold zcr zce
  split
  · rfl
  · rfl
  · rw [zfr_eq]; simp only [Nat.zero_add]
theorem zwr_eq {ad : Nat → Nat} {cA : Nat → ClassId} {S : zS} (sh : List zD) : ∀ c, zwr ad cA S c sh = sh.mapIdx (fun i d => (ad (c + i), zce ad cA S (c + i) d)) := by
  induction sh with
  | nil => intro k; rfl
  | cons o t ih =>
    intro k
    rw [List.mapIdx_cons, zwr, ih (k + 1), zcr_eq]
    congr 1
    congr 1
    funext i d
    rw [Nat.add_assoc, Nat.add_comm 1 i]
theorem zws_r {ad : Nat → Nat} {cA : Nat → ClassId} {S : zS} {sh : List zD} : zws ad cA sh S = zwr ad cA S 0 sh := by
  rw [zwr_eq]; simp only [zws, Nat.zero_add]
theorem zyr_eq {cA : Nat → ClassId} {nm : Nat → String} (sh : List zD) : ∀ c, zyr cA nm c sh = sh.mapIdx (fun i d => (cA (c + i), zet nm (c + i) d)) := by
  induction sh with
  | nil => intro k; rfl
  | cons o t ih =>
    intro k
    rw [List.mapIdx_cons, zyr, ih (k + 1)]
    congr 1
    congr 1
    funext i d
    rw [Nat.add_assoc, Nat.add_comm 1 i]
theorem zty_r {cA : Nat → ClassId} {nm : Nat → String} {sh : List zD} : zty cA nm sh = zyr cA nm 0 sh := by
  rw [zyr_eq]; simp only [zty, Nat.zero_add]
def nmA : Nat → String := fun c => match c with | 1 => RX10 | _ => RX8
theorem RR0 : RR SC0 SM0 := by
  refine ⟨fun _ _ => 0, fun _ => 0, 2, ⟨⟨⟨by decide, by decide, fun k hk => absurd hk (Nat.not_lt_zero k), fun k hk => absurd hk (Nat.not_lt_zero k)⟩, by decide, fun k hk => absurd hk (Nat.not_lt_zero k), by decide, fun k hk => absurd hk (Nat.not_lt_zero k)⟩, ⟨by decide, by decide⟩, fun w => absurd w (by decide), fun w => absurd w (by decide), fun w => absurd w (by decide), fun w => absurd w (by decide), fun w => absurd w (by decide)⟩, ⟨⟨⟨by decide, by decide, fun k hk => absurd hk (Nat.not_lt_zero k), fun k hk => absurd hk (Nat.not_lt_zero k)⟩, by decide, fun k hk => absurd hk (Nat.not_lt_zero k), by decide, fun k hk => absurd hk (Nat.not_lt_zero k)⟩, by decide, by decide⟩, by decide, ?_⟩
  intro x s c ci hm
  simp only [shs, List.mem_cons, List.not_mem_nil, or_false, Prod.mk.injEq] at hm
  rcases hm with ⟨-, rfl, rfl, rfl⟩ | ⟨-, rfl, rfl, rfl⟩ | ⟨-, rfl, rfl, rfl⟩ | ⟨-, rfl, rfl, rfl⟩ <;> exact Or.inl ⟨by decide, by decide⟩
set_option maxHeartbeats 1000000 in
set_option maxRecDepth 100000 in
theorem wX11 {D : va_G} {A : Nat → Prop} {h0 : Nat} {t : State} (h : akX11 D A h0 t) : ∃ (ad : Nat → Nat) (cA : Nat → ClassId), ad 0 = h0 ∧ va_P D zcl (zws ad cA shC SC0) t.heap ∧ va_K D zcl (zty cA nmA shC) t ∧ va_D A (zws ad cA shC SC0) := by
  obtain ⟨q1, c1, q2, q3, c4, q5, q6, c7, q8, q9, q10, c11, q12, c13, q14, q15, q16, c17, q18, q19, c20, q21, c22, q23, q24, c25, q26, c27, q28, c29, q30, q31, c32, q33, c34, q35, c36, q37, q38, q39, c40, q41, q42, q43, c44, q45, c46, q47, c48, q49, q50, c50, q51, q52, c53, q54, q55, c56, q57, q58, c59, q60, q61, c62, hP, hK, hD⟩ := h
  have e1 : va_up (va_up (fun _ => none) 0 (some q2)) 1 (some q5) = fun k => (zn [2, 4] k).map (fun k => (zn [h0, q1, q2, q3, q5, q6, q8, q9, q10, q12, q14, q15, q16, q18, q19, q21, q23, q24, q26, q28, q30, q31, q33, q35, q37, q38, q39, q41, q42, q43, q45, q47, q49, q50, q51, q52, q54, q55, q57, q58, q60, q61] k).getD 0) := by funext k; match k with | 0 => rfl | 1 => rfl | k + 2 => rfl
  have e2 : va_up (va_up (va_up (va_up (fun _ => none) 0 (some q51)) 1 (some q54)) 2 (some q57)) 3 (some q60) = fun k => (zn [34, 36, 38, 40] k).map (fun k => (zn [h0, q1, q2, q3, q5, q6, q8, q9, q10, q12, q14, q15, q16, q18, q19, q21, q23, q24, q26, q28, q30, q31, q33, q35, q37, q38, q39, q41, q42, q43, q45, q47, q49, q50, q51, q52, q54, q55, q57, q58, q60, q61] k).getD 0) := by funext k; match k with | 0 => rfl | 1 => rfl | 2 => rfl | 3 => rfl | k + 4 => rfl
  rw [e1, e2] at hP hD
  refine ⟨fun k => (zn [h0, q1, q2, q3, q5, q6, q8, q9, q10, q12, q14, q15, q16, q18, q19, q21, q23, q24, q26, q28, q30, q31, q33, q35, q37, q38, q39, q41, q42, q43, q45, q47, q49, q50, q51, q52, q54, q55, q57, q58, q60, q61] k).getD 0, fun k => (zn [c4, c1, c4, c4, c4, c7, c4, c4, c11, c13, c4, c4, c17, c4, c20, c22, c4, c25, c27, c29, c4, c32, c34, c36, c4, c4, c40, c4, c4, c44, c46, c48, c4, c50, c4, c53, c4, c56, c4, c59, c4, c62] k).getD c1, rfl, ?_, ?_, ?_⟩
  · rw [zws_r]; exact hP
  · rw [zty_r]; exact hK.sub [1, 0, 1, 1, 1, 2, 1, 1, 3, 4, 1, 1, 5, 1, 6, 7, 1, 8, 9, 10, 1, 11, 12, 13, 1, 1, 14, 1, 1, 15, 16, 17, 1, 18, 1, 19, 1, 20, 1, 21, 1, 22] rfl
  · rw [zws_r]; exact hD
set_option maxHeartbeats 1000000 in
set_option maxRecDepth 100000 in
theorem wX12 {D : va_G} {A : Nat → Prop} {h0 : Nat} {t : State} (h : akX12 D A h0 t) : ∃ (ad : Nat → Nat) (cA : Nat → ClassId), ad 0 = h0 ∧ va_P D zcl (zws ad cA shM SM0) t.heap ∧ va_K D zcl (zty cA nmA shM) t ∧ va_D A (zws ad cA shM SM0) := by
  obtain ⟨q1, c1, q2, c2, q3, c3, q4, c4, q5, c5, q6, c6, q7, c7, q8, c8, q9, c9, q10, c10, q11, c11, q12, c12, q13, c13, q14, c14, q15, c15, q16, c16, q17, c17, q18, c18, q19, c19, q20, c20, q21, c21, q22, c22, q23, c23, q24, c24, q25, c25, hP, hK, hD⟩ := h
  refine ⟨fun k => (zn [h0, q1, q2, q3, q4, q5, q6, q7, q8, q9, q10, q11, q12, q13, q14, q15, q16, q17, q18, q19, q20, q21, q22, q23, q24, q25] k).getD 0, fun k => (zn [c2, c1, c2, c3, c4, c5, c6, c7, c8, c9, c10, c11, c12, c13, c14, c15, c16, c17, c18, c19, c20, c21, c22, c23, c24, c25] k).getD c1, rfl, ?_, ?_, ?_⟩
  · rw [zws_r]; exact hP
  · rw [zty_r]; exact hK.sub [1, 0, 1, 2, 3, 4, 5, 6, 7, 8, 9, 10, 11, 12, 13, 14, 15, 16, 17, 18, 19, 20, 21, 22, 23, 24] rfl
  · rw [zws_r]; exact hD
