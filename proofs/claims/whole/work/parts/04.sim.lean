/-! the small machine's steps are the machine's -/
theorem zsl2_spec {ad : Nat → Nat} {v : Value} {ls : zLs} (hc : ∀ x, v ≠ .double x) : ∀ {n i : Nat} {f : zLs → Prop}, znod ls → zsl2 ls n v f → ∃ ls2, f ls2 ∧ znod ls2 ∧ n + 1 < ls.length ∧ ls2.length = ls.length ∧ ∀ q ∈ zll ad i ls2, q = (i + n, zv ad v) ∨ (q ∈ zll ad i ls ∧ q.1 ≠ i + n ∧ q.1 ≠ i + n + 1 ∧ ¬ (q.1 + 1 = i + n ∧ q.2.category = 2)) := by
  induction ls with
  | nil => intro n i f _ h; rcases n with _ | _ | n <;> exact h.elim
  | cons a t ih =>
    intro n i f hnd h
    rcases n with _ | _ | n
    · cases t with
      | nil => exact h.elim
      | cons b t =>
        refine ⟨some v :: none :: t, h, ?_, by simp, by simp, ?_⟩
        · intro z hz x
          rcases List.mem_cons.mp hz with rfl | hz
          · exact fun e => hc x (Option.some.inj e)
          · rcases List.mem_cons.mp hz with rfl | hz
            · exact fun e => by cases e
            · exact hnd z (List.mem_cons_of_mem _ (List.mem_cons_of_mem _ hz)) x
        · intro q hq
          simp only [zll, List.mem_cons] at hq
          rcases hq with rfl | hq
          · exact Or.inl rfl
          · have hge := zll_ge hq
            refine Or.inr ⟨?_, by omega, by omega, fun e => by omega⟩
            clear ih
            cases a <;> cases b <;> simp [zll, hq]
    · cases t with
      | nil => exact h.elim
      | cons b t =>
        cases t with
        | nil => exact h.elim
        | cons b2 t =>
          refine ⟨zkl a :: some v :: none :: t, h, ?_, by simp, by simp, ?_⟩
          · intro z hz x
            rcases List.mem_cons.mp hz with rfl | hz
            · rcases zkl_cases a with ⟨e, -⟩ | e
              · rw [e]; exact hnd a List.mem_cons_self x
              · rw [e]; exact fun h => by cases h
            · rcases List.mem_cons.mp hz with rfl | hz
              · exact fun e => hc x (Option.some.inj e)
              · rcases List.mem_cons.mp hz with rfl | hz
                · exact fun e => by cases e
                · exact hnd z (List.mem_cons_of_mem _ (List.mem_cons_of_mem _ (List.mem_cons_of_mem _ hz))) x
          · intro q hq
            have hrest : q ∈ zll ad (i + 1) (some v :: none :: t) → q = (i + (0 + 1), zv ad v) ∨ (q ∈ zll ad i (a :: b :: b2 :: t) ∧ q.1 ≠ i + (0 + 1) ∧ q.1 ≠ i + (0 + 1) + 1 ∧ ¬ (q.1 + 1 = i + (0 + 1) ∧ q.2.category = 2)) := by
              intro hr
              simp only [zll, List.mem_cons] at hr
              rcases hr with rfl | hr
              · exact Or.inl rfl
              · have hge := zll_ge hr
                refine Or.inr ⟨?_, by omega, by omega, fun e => by omega⟩
                clear hq ih
                cases a <;> cases b <;> cases b2 <;> simp [zll, hr]
            rcases zkl_cases a with ⟨e, hnl⟩ | e
            · rw [e] at hq
              cases a with
              | none => exact hrest (by simpa [zll] using hq)
              | some w =>
                rw [zll, List.mem_cons] at hq
                rcases hq with rfl | hq
                · refine Or.inr ⟨by simp [zll], by simp, by simp; omega, ?_⟩
                  rintro ⟨-, h2⟩
                  obtain ⟨x, rfl⟩ := zcat2 (fun x e => hnd (some w) List.mem_cons_self x (by rw [e])) h2
                  exact hnl x rfl
                · exact hrest hq
            · rw [e] at hq
              exact hrest (by simpa [zll] using hq)
    · have h' : zsl2 t (n + 1) v (fun t' => f (a :: t')) := by
        cases t with
        | nil => cases a <;> exact h
        | cons b t => cases t <;> cases a <;> exact h
      obtain ⟨ls2, g1, g2, g3, g4, g5⟩ := ih (i := i + 1) (fun b hb => hnd b (List.mem_cons_of_mem _ hb)) h'
      refine ⟨a :: ls2, g1, ?_, by simp; omega, by simp [g4], ?_⟩
      · intro b hb x
        rcases List.mem_cons.mp hb with rfl | hb
        · exact hnd b List.mem_cons_self x
        · exact g2 b hb x
      · intro q hq
        have hrest : q ∈ zll ad (i + 1) ls2 → q = (i + (n + 1 + 1), zv ad v) ∨ (q ∈ zll ad i (a :: t) ∧ q.1 ≠ i + (n + 1 + 1) ∧ q.1 ≠ i + (n + 1 + 1) + 1 ∧ ¬ (q.1 + 1 = i + (n + 1 + 1) ∧ q.2.category = 2)) := by
          intro hr
          rcases g5 q hr with rfl | ⟨m1, m2, m4, m3⟩
          · exact Or.inl (by congr 1; omega)
          · refine Or.inr ⟨?_, by omega, by omega, fun e => m3 ⟨by omega, e.2⟩⟩
            cases a <;> simp [zll, m1]
        cases a with
        | none => exact hrest (by simpa [zll] using hq)
        | some w =>
          simp only [zll, List.mem_cons] at hq
          rcases hq with rfl | hq
          · exact Or.inr ⟨by simp [zll], by simp, by simp; omega, fun e => by have := e.1; simp at this⟩
          · exact hrest hq
theorem zpI_spec {st : List Value} {f : Int32 → List Value → Prop} (h : zpI st f) : ∃ x r, st = .int x :: r ∧ f x r := by
  unfold zpI at h
  split at h
  · exact ⟨_, _, rfl, h⟩
  · exact h.elim
theorem zpL_spec {st : List Value} {f : Int64 → List Value → Prop} (h : zpL st f) : ∃ x r, st = .long x :: r ∧ f x r := by
  unfold zpL at h
  split at h
  · exact ⟨_, _, rfl, h⟩
  · exact h.elim
theorem zpR_spec {st : List Value} {f : Nat → List Value → Prop} (h : zpR st f) : ∃ x r, st = .ref x :: r ∧ f x r := by
  unfold zpR at h
  split at h
  · exact ⟨_, _, rfl, h⟩
  · exact h.elim
theorem zvI_spec {v : Value} {f : Int32 → Prop} (h : zvI v f) : ∃ x, v = .int x ∧ f x := by
  unfold zvI at h
  split at h
  · exact ⟨_, rfl, h⟩
  · exact h.elim
theorem zvL_spec {v : Value} {f : Int64 → Prop} (h : zvL v f) : ∃ x, v = .long x ∧ f x := by
  unfold zvL at h
  split at h
  · exact ⟨_, rfl, h⟩
  · exact h.elim
theorem zvA_spec {v : Value} {f : Value → Prop} (h : zvA v f) : f v ∧ ((∃ x, v = .ref x) ∨ v = .null) := by
  unfold zvA at h
  split at h
  · exact ⟨h, Or.inl ⟨_, rfl⟩⟩
  · exact ⟨h, Or.inr rfl⟩
  · exact h.elim
theorem zpop_spec {f : List Value → List Value → Prop} : ∀ {n : Nat} {st acc : List Value}, zpop n st acc f → ∃ as r, st = as.reverse ++ r ∧ as.length = n ∧ f (as ++ acc) r := by
  intro n
  induction n with
  | zero => intro st acc h; exact ⟨[], st, rfl, rfl, h⟩
  | succ n ih =>
    intro st acc h
    cases st with
    | nil => exact h.elim
    | cons v st =>
      obtain ⟨as, r, e1, e2, e3⟩ := ih (st := st) (acc := v :: acc) h
      exact ⟨as ++ [v], r, by simp [e1], by simp [e2], by simpa using e3⟩
theorem zobj_spec {sh : List zD} {o : Nat} {f : Nat → List (Option Nat) → Prop} (h : zobj sh o f) : ∃ ci fs, sh[o]? = some (.inr (.inr (ci, fs))) ∧ f ci fs := by
  unfold zobj at h
  rw [zn_eq] at h
  split at h
  · exact ⟨_, _, by assumption, h⟩
  · exact h.elim
theorem zarr_spec {sh : List zD} {o : Nat} {f : Nat → Prop} (h : zarr sh o f) : ∃ n, sh[o]? = some (.inl n) ∧ f n := by
  unfold zarr at h
  rw [zn_eq] at h
  split at h
  · exact ⟨_, by assumption, h⟩
  · exact h.elim
theorem zrow_spec {sh : List zD} {o : Nat} {f : List Nat → Prop} (h : zrow sh o f) : ∃ rs, sh[o]? = some (.inr (.inl rs)) ∧ f rs := by
  unfold zrow at h
  rw [zn_eq] at h
  split at h
  · exact ⟨_, by assumption, h⟩
  · exact h.elim
theorem zbif {c : Bool} {P : Prop} (h : bif c then P else False) : c = true ∧ P := by
  cases c with
  | true => exact ⟨rfl, h⟩
  | false => exact h.elim
theorem zv_cat (ad : Nat → Nat) (v : Value) : (zv ad v).category = v.category := by cases v <;> rfl
theorem zv_cats (ad : Nat → Nat) (st : List Value) : ((st.map (zv ad)).map fun v => v.category).sum = (st.map fun v => v.category).sum := by
  induction st with
  | nil => rfl
  | cons v t ih => simp only [List.map_cons, List.sum_cons, zv_cat, ih]
def zX (p : Program) (l : Launch) (e : Env) (R : Room) (s : State) (m : MethodId) (args : Array Value) (below : List Frame) (meth : Method) (c : Code) (Qw : State → Prop) (mL : Nat) (D : va_G) (cl : List vw_C) (ad : Nat → Nat) (cA : Nat → ClassId) (sh : List zD) (A : Nat → Prop) : zXT := fun pc ls st S =>
  ∀ (H : Heap) (locs : List Loc) (ls' : Array Slot), va_P D cl (zws ad cA sh S) H → va_S A s.heap H locs → ls.length ≤ mL → znod ls → lv_has ls' mL (zll ad 0 ls) → W p l e R s m args below meth c H locs 0 0 Qw (F0 m pc ls' (st.map (zv ad)))
/-- a method's answer, by the kind of its return type -/
def zQc (rt : Nat) (D : va_G) (cl : List vw_C) (ad : Nat → Nat) (cA : Nat → ClassId) (sh : List zD) (A : Nat → Prop) (Q : Option Value → zS → Prop) : Array Value → State → Outcome → State → Prop := match rt with
  | 0 => va_Qv (S := zS) (fun u => Q none u) (fun u t => va_P D cl (zws ad cA sh u) t.heap) A
  | 3 => va_Ql (S := zS) (fun r u => Q (some (.long r)) u) (fun u t => va_P D cl (zws ad cA sh u) t.heap) A
  | 4 => va_Qr (S := zS × Nat) (fun u => Q (some (.ref u.2)) u.1) (fun u a t => a = ad u.2 ∧ va_P D cl (zws ad cA sh u.1) t.heap) A
  | _ => va_Qi (S := zS) (fun r u => Q (some (.int r)) u) (fun u t => va_P D cl (zws ad cA sh u) t.heap) A
abbrev zNT : Type := List (String × Nat × MethodName × String)
def zPre (D : va_G) (cl : List vw_C) (ad : Nat → Nat) (cA : Nat → ClassId) (nm : Nat → String) (sh : List zD) (ns : zNT) (S : zS) (sz : Nat) (U : State) : Prop :=
  U.heap.size = sz ∧ va_P D cl (zws ad cA sh S) U.heap ∧ va_K D cl (zty cA nm sh) U ∧ va_D (fun _ => True) (zws ad cA sh S) ∧ ∀ q ∈ ns, va_Nw (.methodLinkNest q.1 q.2.1 q.2.2.1 q.2.2.2) U
/-- the contract of a method at values vs and a table S -/
def zMet (l : Launch) (D : va_G) (cl : List vw_C) (ad : Nat → Nat) (cA : Nat → ClassId) (nm : Nat → String) (sh : List zD) (ns : zNT) (T : List Cond) (rm : Room) (mi : zMI) (vs : List Value) (S : zS) (Q : Option Value → zS → Prop) : Prop :=
  ∀ sz : Nat, Met l mi.1 (Cond.code mi.1 mi.2.1 mi.2.2.1 mi.2.2.2.1 :: T) rm (va_Pc (vs.map (zv ad)) (zPre D cl ad cA nm sh ns S sz)) (zQc mi.2.2.2.2.1 D cl ad cA sh (va_A (zws ad cA sh S) sz) Q) 0 0 (va_A (zws ad cA sh S) sz)
theorem zPre_blind {D : va_G} {cl : List vw_C} {ad : Nat → Nat} {cA : Nat → ClassId} {nm : Nat → String} {sh : List zD} {ns : zNT} {S : zS} {sz : Nat} {vs : List Value} : FrameBlind (va_Pc vs (zPre D cl ad cA nm sh ns S sz)) := by
  intro a U g mk q
  obtain ⟨q0, q1, q2, q3, q4, q5⟩ := q
  exact ⟨q0, q1, q2, va_K.moved (u := U) (U := U.calling g mk a) (Vm.Alike.refl U.vm) q3, q4, fun x hx => va_Nw.same rfl rfl (q5 x hx)⟩
section ZS1
variable {p : Program} {l : Launch} {e : Env} {R : Room} {s : State} {m : MethodId} {args : Array Value} {below : List Frame} {meth : Method} {c : Code} {Qw : State → Prop} {mL : Nat} {D : va_G} {cl : List vw_C} {ad : Nat → Nat} {cA : Nat → ClassId} {nm : Nat → String} {sh : List zD} {A : Nat → Prop} {ns : zNT}
theorem zA1 {S : zS} {H : Heap} {locs : List Loc} (hD : ∀ S, va_D A (zws ad cA sh S)) (hA : ∀ q, s.heap.size ≤ q → A q) (hS : va_S A s.heap H locs) : ∀ q, va_A (zws ad cA sh S) H.size q → A q := by
  intro q h
  rcases h with ⟨k, e, h⟩ | h
  · exact (hD S).2 k _ h
  · exact hA q (Nat.le_trans hS.1 h)
theorem zcont {rt pc : Nat} {ls : zLs} {ls' : Array Slot} {st0 r : List Value} {S : zS} {H : Heap} {locs : List Loc} {Q : Option Value → zS → Prop} {a : Array Value}
    (hD : ∀ S, va_D A (zws ad cA sh S)) (hA : ∀ q, s.heap.size ≤ q → A q) (hS : va_S A s.heap H locs) (hlen : ls.length ≤ mL) (hnd : znod ls) (hL : lv_has ls' mL (zll ad 0 ls))
    (hr : va_Run p l e R s m args below meth c H locs 0 0 0 0 (F0 m pc ls' st0) (r.map (zv ad)) (zQc rt D cl ad cA sh (va_A (zws ad cA sh S) H.size) Q a) (va_A (zws ad cA sh S) H.size))
    (hc : ∀ rv S', Q rv S' → zX p l e R s m args below meth c Qw mL D cl ad cA sh A (pc + 3) ls (zpush rv r) S') :
    W p l e R s m args below meth c H locs 0 0 Qw (F0 m pc ls' st0) := by
  have hf := zA1 (S := S) hD hA hS
  unfold zQc at hr
  split at hr
  · refine va_callv hr hS (fun q _ h => hf q h) hf (fun u t H1 locs1 ht hvm hw hB hz hk hS1 => ?_)
    exact hc none u hw H1 locs1 ls' (by rw [← ht]; exact hB) hS1 hlen hnd hL
  · refine va_calll hr hS (fun q _ h => hf q h) hf (fun x u t H1 locs1 ht hvm hw hB hz hk hS1 => ?_)
    exact hc (some (.long x)) u hw H1 locs1 ls' (by rw [← ht]; exact hB) hS1 hlen hnd hL
  · refine va_callr hr hS (fun q _ h => hf q h) hf (fun u x t H1 locs1 ht hvm hw hB hz hk hS1 => ?_)
    obtain ⟨e1, hB⟩ := hB
    subst e1
    exact hc (some (.ref u.2)) u.1 hw H1 locs1 ls' (by rw [← ht]; exact hB) hS1 hlen hnd hL
  · refine va_calli hr hS (fun q _ h => hf q h) hf (fun x u t H1 locs1 ht hvm hw hB hz hk hS1 => ?_)
    exact hc (some (.int x)) u hw H1 locs1 ls' (by rw [← ht]; exact hB) hS1 hlen hnd hL
end ZS1
