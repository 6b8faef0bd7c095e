/-! the small methods of both -/
abbrev KM (d : Nat) : zKT := zK zMs shM d
abbrev KC (d : Nat) : zKT := zK zMs shC d
def bb (P : Prop) [Decidable P] : Int32 := if P then 1 else 0
theorem bb_0 {P : Prop} [Decidable P] : bb P = 0 ↔ ¬ P := by
  unfold bb
  split <;> rename_i h <;> simp [h]
theorem bb_01 {P : Prop} [Decidable P] : bb P = 0 ∨ bb P = 1 := by
  unfold bb
  split
  · exact Or.inr rfl
  · exact Or.inl rfl
theorem bb_t {P : Prop} [Decidable P] (h : P) : bb P = 1 := if_pos h
theorem bb_f {P : Prop} [Decidable P] (h : ¬ P) : bb P = 0 := if_neg h
theorem bb_c {P Q : Prop} [Decidable P] [Decidable Q] (h : P ↔ Q) : bb P = bb Q := by
  unfold bb; simp [h]
theorem w64_lt (a b : Int32) : a.toInt64 < b.toInt64 ↔ a < b := by
  rw [Int64.lt_iff_toInt_lt, Int32.lt_iff_toInt_lt, Int32.toInt_toInt64, Int32.toInt_toInt64]
theorem w64_le (a b : Int32) : a.toInt64 ≤ b.toInt64 ↔ a ≤ b := by
  rw [Int64.le_iff_toInt_le, Int32.le_iff_toInt_le, Int32.toInt_toInt64, Int32.toInt_toInt64]
theorem lc_lt (x y : Int64) : lg_cmp x y < 0 ↔ x < y := by
  have h1 := lg_cmp_ge x y
  rw [Int32.le_iff_toInt_le] at h1
  rw [Int32.lt_iff_toInt_lt, Int64.lt_iff_toInt_lt]
  rw [Int64.le_iff_toInt_le] at h1
  have e : (0 : Int32).toInt = 0 := rfl
  rw [e] at h1 ⊢
  omega
theorem lc_gt (x y : Int64) : 0 < lg_cmp x y ↔ y < x := by
  unfold lg_cmp
  split
  · rename_i h
    exact ⟨fun _ => h, fun _ => by decide⟩
  · rename_i h
    split
    · exact ⟨fun q => absurd q (by decide), fun q => absurd q h⟩
    · exact ⟨fun q => absurd q (by decide), fun q => absurd q h⟩
section small
variable {sh : List zD} {d : Nat} {S : zS} {Q : Option Value → zS → Prop}
theorem w_in {v lo hi : Int64} (h : Q (some (.int (bb (lo ≤ v ∧ v ≤ hi)))) S) : zK zMs sh (d + 1) mX12_in [.long v, .long lo, .long hi] S Q := by
  refine eX12_in (zRun_wp [] 50 ?_)
  refine ⟨fun h1 => ?_, fun h1 => ?_⟩
  · refine ⟨Or.inl rfl, ?_⟩
    rw [lc_lt] at h1
    rwa [bb_f (fun q => absurd q.1 (Int64.not_le.mpr h1))] at h
  · rw [lc_lt] at h1
    refine ⟨fun h2 => ?_, fun h2 => ?_⟩
    · refine ⟨Or.inl rfl, ?_⟩
      rw [lc_gt] at h2
      rwa [bb_f (fun q => absurd q.2 (Int64.not_le.mpr h2))] at h
    · refine ⟨Or.inr rfl, ?_⟩
      rw [lc_gt] at h2
      rwa [bb_t ⟨Int64.not_lt.mp h1, Int64.not_lt.mp h2⟩] at h
theorem w_inI {v lo hi : Int32} (h : Q (some (.int (bb (lo ≤ v ∧ v ≤ hi)))) S) : zK zMs sh (d + 1) mX12_in [.long v.toInt64, .long lo.toInt64, .long hi.toInt64] S Q := by
  refine w_in ?_
  rwa [bb_c (by rw [w64_le, w64_le])]
theorem w_isTwo {x : Int32} (h : Q (some (.int (bb (0 ≤ x ∧ x ≤ 1)))) S) : zK zMs sh (d + 2) mX12_isTwo [.int x] S Q := by
  refine eX12_isTwo (zRun_wp [] 50 ?_)
  refine w_inI ?_
  exact ⟨bb_01, h⟩
theorem w_isSheet {x : Int32} (h : Q (some (.int (bb (0 ≤ x ∧ x ≤ 3)))) S) : zK zMs sh (d + 2) mX12_isSheet [.int x] S Q := by
  refine eX12_isSheet (zRun_wp [] 50 ?_)
  refine w_inI ?_
  exact ⟨bb_01, h⟩
theorem w_isLetter {x : Int32} (h : Q (some (.int (bb (97 ≤ x ∧ x ≤ 122)))) S) : zK zMs sh (d + 2) mX12_isLetter [.int x] S Q := by
  refine eX12_isLetter (zRun_wp [] 50 ?_)
  refine w_inI ?_
  exact ⟨bb_01, h⟩
theorem w_isFigure {x : Int32} (h : Q (some (.int (bb (48 ≤ x ∧ x ≤ 57)))) S) : zK zMs sh (d + 2) mX12_isFigure [.int x] S Q := by
  refine eX12_isFigure (zRun_wp [] 50 ?_)
  refine w_inI ?_
  exact ⟨bb_01, h⟩
theorem w_lesser {x y : Int32} (h : Q (some (.int (if x < y then x else y))) S) : zK zMs sh (d + 1) mX12_lesser [.int x, .int y] S Q := by
  refine eX12_lesser (zRun_wp [] 50 ?_)
  refine ⟨fun h1 => ?_, fun h1 => ?_⟩
  · rwa [if_neg (Int32.not_lt.mpr h1)] at h
  · rwa [if_pos (Int32.not_le.mp h1)] at h
theorem w_greater {x y : Int32} (h : Q (some (.int (if y < x then x else y))) S) : zK zMs sh (d + 1) mX12_greater [.int x, .int y] S Q := by
  refine eX12_greater (zRun_wp [] 50 ?_)
  refine ⟨fun h1 => ?_, fun h1 => ?_⟩
  · rwa [if_neg (Int32.not_lt.mpr h1)] at h
  · rwa [if_pos (Int32.not_le.mp h1)] at h
/-- the seven signs -/
def sgn (x : Int32) : Prop := x = 91 ∨ x = 93 ∨ x = 58 ∨ x = 59 ∨ x = 33 ∨ x = 37 ∨ x = 36
theorem w_isSignM {x : Int32} (h : ∀ r, (r = 0 ∨ r = 1) → (r = 0 ↔ ¬ sgn x) → Q (some (.int r)) S) : zK zMs sh (d + 1) mX12_isSign [.int x] S Q := by
  refine eX12_isSign (zRun_wp [] 50 ?_)
  have yes : sgn x → Q (some (.int 1)) S := fun q => h 1 (Or.inr rfl) ⟨fun e => absurd e (by decide), fun e => absurd q e⟩
  refine ⟨fun h1 => ⟨Or.inr rfl, yes (Or.inl h1)⟩, fun h1 => ?_⟩
  refine ⟨fun h2 => ⟨Or.inr rfl, yes (Or.inr (Or.inl h2))⟩, fun h2 => ?_⟩
  refine ⟨fun h3 => ⟨Or.inr rfl, yes (Or.inr (Or.inr (Or.inl h3)))⟩, fun h3 => ?_⟩
  refine ⟨fun h4 => ⟨Or.inr rfl, yes (Or.inr (Or.inr (Or.inr (Or.inl h4))))⟩, fun h4 => ?_⟩
  refine ⟨fun h5 => ⟨Or.inr rfl, yes (Or.inr (Or.inr (Or.inr (Or.inr (Or.inl h5)))))⟩, fun h5 => ?_⟩
  refine ⟨fun h6 => ⟨Or.inr rfl, yes (Or.inr (Or.inr (Or.inr (Or.inr (Or.inr (Or.inl h6))))))⟩, fun h6 => ?_⟩
  refine ⟨fun h7 => ?_, fun h7 => ?_⟩
  · refine ⟨Or.inl rfl, h 0 (Or.inl rfl) ⟨fun _ q => ?_, fun _ => rfl⟩⟩
    rcases q with q | q | q | q | q | q | q
    · exact h1 q
    · exact h2 q
    · exact h3 q
    · exact h4 q
    · exact h5 q
    · exact h6 q
    · exact h7 q
  · exact ⟨Or.inr rfl, yes (Or.inr (Or.inr (Or.inr (Or.inr (Or.inr (Or.inr h7))))))⟩
theorem w_isSignC {x : Int32} (h : ∀ r, (r = 0 ∨ r = 1) → (r = 0 ↔ ¬ sgn x) → Q (some (.int r)) S) : zK zMs sh (d + 1) mX1_isSign [.int x] S Q := by
  refine eX1_isSign (zRun_wp [] 50 ?_)
  have yes : sgn x → Q (some (.int 1)) S := fun q => h 1 (Or.inr rfl) ⟨fun e => absurd e (by decide), fun e => absurd q e⟩
  refine ⟨fun h1 => ⟨Or.inr rfl, yes (by simp [sgn, h1])⟩, fun h1 => ?_⟩
  refine ⟨fun h2 => ⟨Or.inr rfl, yes (by simp [sgn, h2])⟩, fun h2 => ?_⟩
  refine ⟨fun h3 => ⟨Or.inr rfl, yes (by simp [sgn, h3])⟩, fun h3 => ?_⟩
  refine ⟨fun h4 => ⟨Or.inr rfl, yes (by simp [sgn, h4])⟩, fun h4 => ?_⟩
  refine ⟨fun h5 => ⟨Or.inr rfl, yes (by simp [sgn, h5])⟩, fun h5 => ?_⟩
  refine ⟨fun h6 => ⟨Or.inr rfl, yes (by simp [sgn, h6])⟩, fun h6 => ?_⟩
  refine ⟨fun h7 => ?_, fun h7 => ?_⟩
  · refine ⟨Or.inl rfl, h 0 (Or.inl rfl) ⟨fun _ q => ?_, fun _ => rfl⟩⟩
    rcases q with q | q | q | q | q | q | q <;> contradiction
  · exact ⟨Or.inr rfl, yes (by simp [sgn, h7])⟩
theorem w_finds {x : Int32} (h : Q (some (.int (-10 - x))) (zu S 0 M_latest x)) : KM (d + 1) mX12_finds [.ref 0, .int x] S Q := by
  refine eX12_finds (zRun_wp [] 50 ?_)
  exact ⟨rfl, fun e => absurd e (by decide), h⟩
/-- what a form keeps of an int -/
def cutv (f v : Int32) : Int32 := if f = 0 then v.toInt8.toInt32 else if f = 1 then v.toInt16.toInt32 else v
theorem w_cut {f v : Int32} (h : Q (some (.int (cutv f v))) S) : zK zMs sh (d + 1) mX12_cut [.int f, .int v] S Q := by
  refine eX12_cut (zRun_wp [] 50 ?_)
  unfold cutv at h
  refine ⟨fun h1 => ?_, fun h1 => ?_⟩
  · rw [if_neg h1] at h
    refine ⟨fun h2 => ?_, fun h2 => ?_⟩
    · rwa [if_neg h2] at h
    · rwa [if_pos h2] at h
  · rwa [if_pos h1] at h
-- the class
theorem v_isText {x : Int32} (h : Q (some (.int (bb (0 ≤ x ∧ x < 2)))) S) : zK zMs sh (d + 1) mX11_isText [.int x] S Q := by
  refine eX11_isText (zRun_wp [] 50 ?_)
  refine ⟨fun h1 => ?_, fun h1 => ?_⟩
  · exact ⟨Or.inl rfl, by rwa [bb_f (fun q => absurd q.1 (Int32.not_le.mpr h1))] at h⟩
  · refine ⟨fun h2 => ?_, fun h2 => ?_⟩
    · exact ⟨Or.inl rfl, by rwa [bb_f (fun q => absurd q.2 (Int32.not_lt.mpr h2))] at h⟩
    · exact ⟨Or.inr rfl, by rwa [bb_t ⟨Int32.not_lt.mp h1, Int32.not_le.mp h2⟩] at h⟩
theorem v_isByte {x : Int32} (h : Q (some (.int (bb (0 ≤ x ∧ x ≤ 255)))) S) : zK zMs sh (d + 1) mX11_isByte [.int x] S Q := by
  refine eX11_isByte (zRun_wp [] 50 ?_)
  refine ⟨fun h1 => ?_, fun h1 => ?_⟩
  · exact ⟨Or.inl rfl, by rwa [bb_f (fun q => absurd q.1 (Int32.not_le.mpr h1))] at h⟩
  · refine ⟨fun h2 => ?_, fun h2 => ?_⟩
    · exact ⟨Or.inl rfl, by rwa [bb_f (fun q => absurd q.2 (Int32.not_le.mpr h2))] at h⟩
    · exact ⟨Or.inr rfl, by rwa [bb_t ⟨Int32.not_lt.mp h1, Int32.not_lt.mp h2⟩] at h⟩
theorem v_isDepth {x : Int32} (h : Q (some (.int (bb (0 ≤ x ∧ x ≤ 3)))) S) : zK zMs sh (d + 1) mX11_isDepth [.int x] S Q := by
  refine eX11_isDepth (zRun_wp [] 50 ?_)
  refine ⟨fun h1 => ?_, fun h1 => ?_⟩
  · exact ⟨Or.inl rfl, by rwa [bb_f (fun q => absurd q.1 (Int32.not_le.mpr h1))] at h⟩
  · refine ⟨fun h2 => ?_, fun h2 => ?_⟩
    · exact ⟨Or.inl rfl, by rwa [bb_f (fun q => absurd q.2 (Int32.not_le.mpr h2))] at h⟩
    · exact ⟨Or.inr rfl, by rwa [bb_t ⟨Int32.not_lt.mp h1, Int32.not_lt.mp h2⟩] at h⟩
theorem v_isSheet {x : Int32} (h : Q (some (.int (bb (0 ≤ x ∧ x < 4)))) S) : zK zMs sh (d + 1) mX11_isSheet [.int x] S Q := by
  refine eX11_isSheet (zRun_wp [] 50 ?_)
  refine ⟨fun h1 => ?_, fun h1 => ?_⟩
  · exact ⟨Or.inl rfl, by rwa [bb_f (fun q => absurd q.1 (Int32.not_le.mpr h1))] at h⟩
  · refine ⟨fun h2 => ?_, fun h2 => ?_⟩
    · exact ⟨Or.inl rfl, by rwa [bb_f (fun q => absurd q.2 (Int32.not_lt.mpr h2))] at h⟩
    · exact ⟨Or.inr rfl, by rwa [bb_t ⟨Int32.not_lt.mp h1, Int32.not_le.mp h2⟩] at h⟩
theorem v_isForm {x : Int32} (h : Q (some (.int (bb (0 ≤ x ∧ x < 3)))) S) : zK zMs sh (d + 1) mX11_isForm [.int x] S Q := by
  refine eX11_isForm (zRun_wp [] 50 ?_)
  refine ⟨fun h1 => ?_, fun h1 => ?_⟩
  · exact ⟨Or.inl rfl, by rwa [bb_f (fun q => absurd q.1 (Int32.not_le.mpr h1))] at h⟩
  · refine ⟨fun h2 => ?_, fun h2 => ?_⟩
    · exact ⟨Or.inl rfl, by rwa [bb_f (fun q => absurd q.2 (Int32.not_lt.mpr h2))] at h⟩
    · exact ⟨Or.inr rfl, by rwa [bb_t ⟨Int32.not_lt.mp h1, Int32.not_le.mp h2⟩] at h⟩
theorem v_isLetter {x : Int32} (h : Q (some (.int (bb (97 ≤ x ∧ x ≤ 122)))) S) : zK zMs sh (d + 1) mX11_isLetter [.int x] S Q := by
  refine eX11_isLetter (zRun_wp [] 50 ?_)
  refine ⟨fun h1 => ?_, fun h1 => ?_⟩
  · exact ⟨Or.inl rfl, by rwa [bb_f (fun q => absurd q.1 (Int32.not_le.mpr h1))] at h⟩
  · refine ⟨fun h2 => ?_, fun h2 => ?_⟩
    · exact ⟨Or.inl rfl, by rwa [bb_f (fun q => absurd q.2 (Int32.not_le.mpr h2))] at h⟩
    · exact ⟨Or.inr rfl, by rwa [bb_t ⟨Int32.not_lt.mp h1, Int32.not_lt.mp h2⟩] at h⟩
theorem v_isFigure {x : Int32} (h : Q (some (.int (bb (48 ≤ x ∧ x ≤ 57)))) S) : zK zMs sh (d + 1) mX11_isFigure [.int x] S Q := by
  refine eX11_isFigure (zRun_wp [] 50 ?_)
  refine ⟨fun h1 => ?_, fun h1 => ?_⟩
  · exact ⟨Or.inl rfl, by rwa [bb_f (fun q => absurd q.1 (Int32.not_le.mpr h1))] at h⟩
  · refine ⟨fun h2 => ?_, fun h2 => ?_⟩
    · exact ⟨Or.inl rfl, by rwa [bb_f (fun q => absurd q.2 (Int32.not_le.mpr h2))] at h⟩
    · exact ⟨Or.inr rfl, by rwa [bb_t ⟨Int32.not_lt.mp h1, Int32.not_lt.mp h2⟩] at h⟩
theorem v_barsOf {z : Int} (h1 : 0 ≤ z) (h2 : z ≤ 2147483647) (h : Q (some (.int (J (z / 256)))) S) : zK zMs sh (d + 1) mX11_barsOf [.int (J z)] S Q := by
  refine eX11_barsOf (zRun_wp [] 50 ?_)
  refine ⟨by decide, ?_⟩
  rwa [← J_div h1 h2 (by omega) (by omega)] at h
theorem v_signsOf {z : Int} (h1 : 0 ≤ z) (h2 : z ≤ 2147483647) (h : Q (some (.int (J (z % 256)))) S) : zK zMs sh (d + 1) mX11_signsOf [.int (J z)] S Q := by
  refine eX11_signsOf (zRun_wp [] 50 ?_)
  refine ⟨by decide, ?_⟩
  rwa [← J_rem h1 h2 (by omega) (by omega)] at h
theorem v_finding {x : Int32} (h : Q (some (.int (-10 - x))) (zu S 0 9 x)) : KC (d + 1) mX11_finding [.ref 0, .int x] S Q := by
  refine eX11_finding (zRun_wp [] 50 ?_)
  exact ⟨rfl, fun e => absurd e (by decide), h⟩
theorem v_noteChange0 (h : Q none (zu (zu (zu (zu S 0 10 1) 0 12 1) 0 13 1) 0 14 1)) : KC (d + 1) mX11_noteChange [.ref 0, .int 0] S Q := by
  refine eX11_noteChange (zRun_wp [] 50 ?_)
  refine ⟨fun _ => ?_, fun e => absurd e (by decide)⟩
  exact ⟨rfl, fun _ => Or.inr rfl, rfl, fun _ => Or.inr rfl, rfl, fun _ => Or.inr rfl, rfl, fun _ => Or.inr rfl, h⟩
theorem v_noteChange1 (h : Q none (zu S 0 11 1)) : KC (d + 1) mX11_noteChange [.ref 0, .int 1] S Q := by
  refine eX11_noteChange (zRun_wp [] 50 ?_)
  refine ⟨fun e => absurd rfl e, fun _ => ?_⟩
  exact ⟨rfl, fun _ => Or.inr rfl, h⟩
end small
