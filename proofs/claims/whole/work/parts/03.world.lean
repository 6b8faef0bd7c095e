/-! the small machine's heap as a world of the kit -/
def zv (ad : Nat → Nat) : Value → Value
  | .ref k => .ref (ad k)
  | v => v
def zfv (ad : Nat → Nat) (S : zS) (c k : Nat) (o : Option Nat) : Value := match o with
  | none => .int (S c k)
  | some r => .ref (ad r)
def zce (ad : Nat → Nat) (cA : Nat → ClassId) (S : zS) (c : Nat) (d : zD) : va_E := match d with
  | .inl n => .inl (cA c, n, .inl (S c))
  | .inr (.inl rs) => .inl (cA c, rs.length, .inr (.inr (.inr (.inr (fun k => (zn rs k).map ad)))))
  | .inr (.inr (ci, fs)) => .inr (ci, fs.mapIdx (zfv ad S c))
def zws (ad : Nat → Nat) (cA : Nat → ClassId) (sh : List zD) (S : zS) : va_W := sh.mapIdx (fun c d => (ad c, zce ad cA S c d))
def zet (nm : Nat → String) (c : Nat) (d : zD) : FieldType := match d with
  | .inr (.inl _) => .object (nm c)
  | _ => .int
def zty (cA : Nat → ClassId) (nm : Nat → String) (sh : List zD) : List (ClassId × FieldType) := sh.mapIdx (fun c d => (cA c, zet nm c d))
def zll (ad : Nat → Nat) : Nat → zLs → List (Nat × Value)
  | _, [] => []
  | i, none :: t => zll ad (i + 1) t
  | i, some v :: t => (i, zv ad v) :: zll ad (i + 1) t
theorem zws_at {ad : Nat → Nat} {cA : Nat → ClassId} {sh : List zD} {S : zS} {c : Nat} {d : zD} (h : sh[c]? = some d) : (zws ad cA sh S)[c]? = some (ad c, zce ad cA S c d) := by
  simp [zws, h]
theorem zty_at {cA : Nat → ClassId} {nm : Nat → String} {sh : List zD} {c : Nat} {d : zD} (h : sh[c]? = some d) : (zty cA nm sh)[c]? = some (cA c, zet nm c d) := by
  simp only [zty, List.getElem?_mapIdx, h, Option.map_some]
theorem zws_D {ad : Nat → Nat} {cA : Nat → ClassId} {sh : List zD} {S S' : zS} {A : Nat → Prop} (h : va_D A (zws ad cA sh S)) : va_D A (zws ad cA sh S') := by
  obtain ⟨h1, h2⟩ := h
  have key : ∀ (k : Nat) (q : Nat × va_E), (zws ad cA sh S')[k]? = some q → ∃ q', (zws ad cA sh S)[k]? = some q' ∧ q'.1 = q.1 := by
    intro k q hq
    simp only [zws, List.getElem?_mapIdx, Option.map_eq_some_iff] at hq
    obtain ⟨d, hd, rfl⟩ := hq
    exact ⟨_, zws_at hd, rfl⟩
  refine ⟨fun i j p q hp hq e => ?_, fun k q hq => ?_⟩
  · obtain ⟨p', a1, a2⟩ := key i p hp
    obtain ⟨q', b1, b2⟩ := key j q hq
    exact h1 i j p' q' a1 b1 (by rw [a2, b2, e])
  · obtain ⟨q', b1, b2⟩ := key k q hq
    rw [← b2]
    exact h2 k q' b1
/-- behind a write of cell c the world is that of the new table, if all other cells read the same -/
theorem zws_set {ad : Nat → Nat} {cA : Nat → ClassId} {sh : List zD} {S S' : zS} {c : Nat} {d : zD} {x : va_E} (h : sh[c]? = some d) (hx : x = zce ad cA S' c d) (ho : ∀ c', c' ≠ c → S' c' = S c') : (zws ad cA sh S).set c (ad c, x) = zws ad cA sh S' := by
  have hce : ∀ (c' : Nat) (d' : zD), c' ≠ c → zce ad cA S c' d' = zce ad cA S' c' d' := by
    intro c' d' hc
    have := ho c' hc
    unfold zce zfv
    split <;> simp [this]
  apply List.ext_getElem?
  intro i
  have hlt : c < sh.length := (List.getElem?_eq_some_iff.mp h).1
  by_cases hi : c = i
  · subst hi
    rw [List.getElem?_set_self (by simpa [zws] using hlt), zws_at h, hx]
  · rw [List.getElem?_set_ne hi]
    simp only [zws, List.getElem?_mapIdx]
    congr 1
    funext d'
    rw [hce i d' (fun e => hi e.symm)]
theorem zu_same {S : zS} {c k : Nat} {v : Int32} {c' : Nat} (h : c' ≠ c) : zu S c k v c' = S c' := by simp [zu, h]
theorem zu_self {S : zS} {c k : Nat} {v : Int32} : zu S c k v c = upd (S c) k v := by simp [zu]
theorem zcp_same {S : zS} {c0 c1 sp dp n : Nat} {c' : Nat} (h : c' ≠ c1) : zcp S c0 c1 sp dp n c' = S c' := by simp [zcp, h]
theorem zcp_self {S : zS} {c0 c1 sp dp n : Nat} : zcp S c0 c1 sp dp n c1 = va_cpy (S c0) (S c1) sp dp n := by simp [zcp]
theorem zfs_set {ad : Nat → Nat} {S : zS} {c k : Nat} {fs : List (Option Nat)} {v : Int32} (h : fs[k]? = some none) : (fs.mapIdx (zfv ad S c)).set k (.int v) = fs.mapIdx (zfv ad (zu S c k v) c) := by
  apply List.ext_getElem?
  intro i
  have hlt : k < fs.length := (List.getElem?_eq_some_iff.mp h).1
  by_cases hi : k = i
  · subst hi
    rw [List.getElem?_set_self (by simpa using hlt)]
    simp [h, zfv, zu_self, upd]
  · rw [List.getElem?_set_ne hi]
    simp only [List.getElem?_mapIdx]
    congr 1
    funext o
    cases o with
    | none =>
      have hi' : ¬ i = k := fun e => hi e.symm
      simp [zfv, zu_self, upd, hi']
    | some r => rfl
theorem zll_has {ls : Array Slot} {nL : Nat} {l l' : List (Nat × Value)} (h : lv_has ls nL l) (hs : ∀ q ∈ l', q ∈ l) : lv_has ls nL l' := ⟨h.1, h.2.1, fun q hq => h.2.2 q (hs q hq)⟩
theorem zll_ge {ad : Nat → Nat} {ls : zLs} : ∀ {i : Nat} {q : Nat × Value}, q ∈ zll ad i ls → i ≤ q.1 := by
  induction ls with
  | nil => intro i q h; simp [zll] at h
  | cons a t ih =>
    intro i q h
    cases a with
    | none => have := ih (i := i + 1) (by simpa [zll] using h); omega
    | some v =>
      simp only [zll, List.mem_cons] at h
      rcases h with rfl | h
      · exact Nat.le_refl _
      · have := ih h; omega
theorem zgl_spec {ad : Nat → Nat} {f : Value → Prop} {ls : zLs} : ∀ {n i : Nat}, zgl ls n f → ∃ v, f v ∧ (i + n, zv ad v) ∈ zll ad i ls := by
  induction ls with
  | nil => intro n i h; exact h.elim
  | cons a t ih =>
    intro n i h
    cases n with
    | zero => cases a with
      | none => exact h.elim
      | some v => exact ⟨v, h, by simp [zll]⟩
    | succ n =>
      have h' : zgl t n f := h
      obtain ⟨v, hv, hm⟩ := ih (i := i + 1) h'
      refine ⟨v, hv, ?_⟩
      have e : i + 1 + n = i + (n + 1) := by omega
      rw [e] at hm
      cases a with
      | none => simpa [zll] using hm
      | some w => simp [zll, hm]
theorem zkl_cases (a : Option Value) : zkl a = a ∧ (∀ x, a ≠ some (.long x)) ∨ zkl a = none := by
  cases a with
  | none => exact Or.inl ⟨rfl, fun x h => by cases h⟩
  | some v => cases v <;> first | exact Or.inr rfl | exact Or.inl ⟨rfl, fun x h => by cases h⟩
/-- the locals never hold a double -/
def znod (ls : zLs) : Prop := ∀ a ∈ ls, ∀ x, a ≠ some (.double x)
theorem zcat2 {ad : Nat → Nat} {v : Value} (hd : ∀ x, v ≠ .double x) (h : (zv ad v).category = 2) : ∃ x, v = .long x := by
  cases v <;> simp_all [zv, Value.category]
theorem zsl_spec {ad : Nat → Nat} {v : Value} {ls : zLs} (hc : ∀ x, v ≠ .double x) : ∀ {n i : Nat} {f : zLs → Prop}, znod ls → zsl ls n v f → ∃ ls2, f ls2 ∧ znod ls2 ∧ n < ls.length ∧ ls2.length = ls.length ∧ ∀ q ∈ zll ad i ls2, q = (i + n, zv ad v) ∨ (q ∈ zll ad i ls ∧ q.1 ≠ i + n ∧ ¬ (q.1 + 1 = i + n ∧ q.2.category = 2)) := by
  induction ls with
  | nil => intro n i f _ h; rcases n with _ | _ | n <;> exact h.elim
  | cons a t ih =>
    intro n i f hnd h
    rcases n with _ | _ | n
    · refine ⟨some v :: t, h, ?_, by simp, by simp, ?_⟩
      · intro b hb x
        rcases List.mem_cons.mp hb with rfl | hb
        · exact fun e => hc x (Option.some.inj e)
        · exact hnd b (List.mem_cons_of_mem _ hb) x
      · intro q hq
        simp only [zll, List.mem_cons] at hq
        rcases hq with rfl | hq
        · exact Or.inl rfl
        · have hge := zll_ge hq
          refine Or.inr ⟨?_, by omega, fun e => by omega⟩
          cases a <;> simp [zll, hq]
    · cases t with
      | nil => exact h.elim
      | cons b t =>
        refine ⟨zkl a :: some v :: t, h, ?_, by simp, by simp, ?_⟩
        · intro z hz x
          rcases List.mem_cons.mp hz with rfl | hz
          · rcases zkl_cases a with ⟨e, -⟩ | e
            · rw [e]; exact hnd a List.mem_cons_self x
            · rw [e]; exact fun h => by cases h
          · rcases List.mem_cons.mp hz with rfl | hz
            · exact fun e => hc x (Option.some.inj e)
            · exact hnd z (List.mem_cons_of_mem _ (List.mem_cons_of_mem _ hz)) x
        · intro q hq
          have hrest : q ∈ zll ad (i + 1) (some v :: t) → q = (i + (0 + 1), zv ad v) ∨ (q ∈ zll ad i (a :: b :: t) ∧ q.1 ≠ i + (0 + 1) ∧ ¬ (q.1 + 1 = i + (0 + 1) ∧ q.2.category = 2)) := by
            intro hr
            simp only [zll, List.mem_cons] at hr
            rcases hr with rfl | hr
            · exact Or.inl rfl
            · have hge := zll_ge hr
              refine Or.inr ⟨?_, by omega, fun e => by omega⟩
              clear hq ih
              cases a <;> cases b <;> simp [zll, hr]
          rcases zkl_cases a with ⟨e, hnl⟩ | e
          · rw [e] at hq
            cases a with
            | none => exact hrest (by simpa [zll] using hq)
            | some w =>
              rw [zll, List.mem_cons] at hq
              rcases hq with rfl | hq
              · refine Or.inr ⟨by simp [zll], by simp, ?_⟩
                rintro ⟨-, h2⟩
                obtain ⟨x, rfl⟩ := zcat2 (fun x e => hnd (some w) List.mem_cons_self x (by rw [e])) h2
                exact hnl x rfl
              · exact hrest hq
          · rw [e] at hq
            exact hrest (by simpa [zll] using hq)
    · have h' : zsl t (n + 1) v (fun t' => f (a :: t')) := by
        cases t with
        | nil => cases a <;> exact h
        | cons b t => cases a <;> exact h
      obtain ⟨ls2, g1, g2, g3, g4, g5⟩ := ih (i := i + 1) (fun b hb => hnd b (List.mem_cons_of_mem _ hb)) h'
      refine ⟨a :: ls2, g1, ?_, by simp; omega, by simp [g4], ?_⟩
      · intro b hb x
        rcases List.mem_cons.mp hb with rfl | hb
        · exact hnd b List.mem_cons_self x
        · exact g2 b hb x
      · intro q hq
        have hrest : q ∈ zll ad (i + 1) ls2 → q = (i + (n + 1 + 1), zv ad v) ∨ (q ∈ zll ad i (a :: t) ∧ q.1 ≠ i + (n + 1 + 1) ∧ ¬ (q.1 + 1 = i + (n + 1 + 1) ∧ q.2.category = 2)) := by
          intro hq
          rcases g5 q hq with rfl | ⟨m1, m2, m3⟩
          · exact Or.inl (by congr 1; omega)
          · refine Or.inr ⟨?_, by omega, fun e => m3 ⟨by omega, e.2⟩⟩
            cases a <;> simp [zll, m1]
        cases a with
        | none => exact hrest (by simpa [zll] using hq)
        | some w =>
          simp only [zll, List.mem_cons] at hq
          rcases hq with rfl | hq
          · exact Or.inr ⟨by simp [zll], by simp, fun e => by have := e.1; simp at this⟩
          · exact hrest hq
