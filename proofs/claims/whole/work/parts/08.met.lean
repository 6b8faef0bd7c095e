theorem zvs_spec {ad : Nat → Nat} : ∀ {vs : List Value} {n i : Nat}, zvs vs n = true → (lg_sl (vs.map (zv ad))).length ≤ n ∧ (zen vs n).length = n ∧ znod (zen vs n) ∧ ∀ q ∈ zll ad i (zen vs n), q ∈ lv_args i (vs.map (zv ad)) := by
  have zrep : ∀ (n i : Nat), zll ad i (List.replicate n none) = [] := by
    intro n
    induction n with
    | zero => intro i; rfl
    | succ n ih => intro i; rw [List.replicate_succ, zll]; exact ih _
  intro vs
  induction vs with
  | nil =>
    intro n i _
    refine ⟨by simp [lg_sl], by simp [zen], ?_, ?_⟩
    · intro a ha x
      simp only [zen] at ha
      rw [List.eq_of_mem_replicate ha]
      exact fun e => by cases e
    · intro q hq
      simp only [zen, zrep] at hq
      cases hq
  | cons v t ih =>
    intro n i h
    have one : ∀ w : Value, (∀ x, w ≠ .long x) → (∀ x, w ≠ .double x) → ∀ n', zvs t n' = true → (lg_sl ((w :: t).map (zv ad))).length ≤ n' + 1 ∧ (some w :: zen t n').length = n' + 1 ∧ znod (some w :: zen t n') ∧ ∀ q ∈ zll ad i (some w :: zen t n'), q ∈ lv_args i ((w :: t).map (zv ad)) := by
      intro w h1 h2 n' ht
      obtain ⟨a1, a2, a3, a4⟩ := ih (i := i + 1) ht
      have hc : ¬ (zv ad w).category = 2 := by
        intro e
        obtain ⟨x, e⟩ := zcat2 (fun x e => h2 x e) e
        exact h1 x e
      refine ⟨?_, by simp [a2], ?_, ?_⟩
      · simp only [lg_sl, List.map_cons, List.flatMap_cons, hc, if_false, List.length_append, List.length_cons, List.length_nil] at a1 ⊢
        omega
      · intro a ha x
        rcases List.mem_cons.mp ha with rfl | ha
        · exact fun e => h2 x (Option.some.inj e)
        · exact a3 a ha x
      · intro q hq
        simp only [zll, List.mem_cons] at hq
        simp only [List.map_cons, lv_args, hc, if_false, List.mem_cons]
        exact hq.imp id (fun h => a4 q h)
    cases v with
    | int x => cases n with
      | zero => cases h
      | succ n => exact one (.int x) (fun _ e => by cases e) (fun _ e => by cases e) n h
    | ref x => cases n with
      | zero => cases h
      | succ n => exact one (.ref x) (fun _ e => by cases e) (fun _ e => by cases e) n h
    | null => cases n with
      | zero => cases h
      | succ n => exact one .null (fun _ e => by cases e) (fun _ e => by cases e) n h
    | long x =>
      rcases n with _ | _ | n
      · cases h
      · cases h
      · obtain ⟨a1, a2, a3, a4⟩ := ih (n := n) (i := i + 2) h
        have hc : (zv ad (.long x)).category = 2 := rfl
        refine ⟨?_, by simp [zen, a2], ?_, ?_⟩
        · simp only [lg_sl, List.map_cons, List.flatMap_cons, hc, if_true, List.length_append, List.length_cons, List.length_nil] at a1 ⊢
          omega
        · intro a ha y
          simp only [zen, Nat.add_sub_cancel] at ha
          rcases List.mem_cons.mp ha with rfl | ha
          · exact fun e => by cases e
          · rcases List.mem_cons.mp ha with rfl | ha
            · exact fun e => by cases e
            · exact a3 a ha y
        · intro q hq
          simp only [zen, Nat.add_sub_cancel, zll, List.mem_cons] at hq
          simp only [List.map_cons, lv_args, hc, if_true, List.mem_cons]
          exact hq.imp id (fun h => a4 q h)
    | float x => cases n <;> cases h
    | double x => cases n <;> cases h
    | retAddr x => cases n <;> cases h
theorem zlk_mem : ∀ {l : List zI} {pc : Nat} {x : zI}, zlk l pc = some x → x ∈ l ∧ x.1 = pc := by
  intro l
  induction l with
  | nil => intro pc x h; cases h
  | cons a t ih =>
    intro pc x h
    unfold zlk at h
    cases hb : Nat.beq a.1 pc with
    | true =>
      rw [hb] at h
      cases h
      exact ⟨List.mem_cons_self, zbq hb⟩
    | false =>
      rw [hb] at h
      obtain ⟨h1, h2⟩ := ih h
      exact ⟨List.mem_cons_of_mem _ h1, h2⟩
theorem zat_mem {C : zC} {pc : Nat} {x : zI} (h : zat C pc = some x) : (∃ ch ∈ C, x ∈ ch) ∧ x.1 = pc := by
  unfold zat at h
  split at h
  · cases h
  · rename_i l hl
    rw [zn_eq] at hl
    obtain ⟨h1, h2⟩ := zlk_mem h
    exact ⟨⟨l, List.mem_of_getElem? hl, h1⟩, h2⟩
def zokx (cl : List vw_C) (T : List Cond) (ns : zNT) (Ms : List zMI) (y : MethodName) (bs : ByteArray) (x : zI) : Bool :=
  decide (decode bs x.1 = .ok (x.2.1, x.2.2.1 - x.1)) && zok1 cl T ns Ms y.cls x.1 x.2.1 x.2.2.1 x.2.2.2.1 x.2.2.2.2.1 x.2.2.2.2.2.1 x.2.2.2.2.2.2.1 x.2.2.2.2.2.2.2
def zCok (cl : List vw_C) (T : List Cond) (ns : zNT) (Ms : List zMI) (mi : zMI) : Prop := ∀ ch ∈ mi.2.2.2.2.2.2.2, ∀ x ∈ ch, zokx cl T ns Ms mi.1 mi.2.1 x = true
set_option maxHeartbeats 4000000 in
/-- what the small machine comes to, the machine comes to -/
theorem zmet_all {l : Launch} {D : va_G} {cl : List vw_C} {ad : Nat → Nat} {cA : Nat → ClassId} {nm : Nat → String} {sh : List zD} {ns : zNT} {T : List Cond} {Ms : List zMI}
    (hT : zTok cl T) (hMs : ∀ μ mi, zn Ms μ = some mi → zMok cl T mi) (hCs : ∀ μ mi, zn Ms μ = some mi → zCok cl T ns Ms mi) :
    ∀ (d μ : Nat) (mi : zMI) (vs : List Value) (S : zS) (Q : Option Value → zS → Prop), zn Ms μ = some mi → zK Ms sh d μ vs S Q → zMet l D cl ad cA nm sh ns T (zRm d) mi vs S Q := by
  intro d
  induction d with
  | zero => intro μ mi vs S Q _ h; exact h.elim
  | succ d ih =>
    intro μ mi vs S Q hmi h sz
    have hMi := hMs μ mi hmi
    have hCi := hCs μ mi hmi
    obtain ⟨y, bs, mL, ret, rt, na, kd, C⟩ := mi
    obtain ⟨hvs, h⟩ : zvs vs mL = true ∧ zWp sh (zK Ms sh d) C rt Q 0 (zen vs mL) [] S := by
      unfold zK at h
      rw [hmi] at h
      exact h
    obtain ⟨v1, v2, v3, v4⟩ := zvs_spec (ad := ad) (i := 0) hvs
    refine Met.ofW (cc := bs) (maxL := mL) (ret := ret) hMi.2.2.2.2.2.2.2.2.1 rfl ?_
    intro p e s m args below meth c s₁ B hml hv
    obtain ⟨rfl, hsz, hP, hK, hD0, hns⟩ := hv
    have hts := atoms_spec (ws := Cond.code y bs mL ret :: T) B.pre
    have hown : s.vm.findClass y.cls = some m.cls := findClass_of_methodNamed B.named
    subst hsz
    have hD := hD0.self (sz := s.heap.size)
    have hA : ∀ q : Nat, s.heap.size ≤ q → va_A (zws ad cA sh S) s.heap.size q := fun q h => Or.inr h
    have hDS : ∀ S', va_D (va_A (zws ad cA sh S) s.heap.size) (zws ad cA sh S') := fun S' => zws_D hD
    have hl := lv_entry (vs.map (zv ad)) (n := mL) v1
    rw [lg_entry_eq]
    have key := h (zX p l e (headSpec (Cond.code y bs mL ret :: T) (zRm (d + 1))).room s m (vs.map (zv ad)).toArray below meth c (MQ below (zQc rt D cl ad cA sh (va_A (zws ad cA sh S) s.heap.size) Q) (vs.map (zv ad)).toArray s 0 0 (va_A (zws ad cA sh S) s.heap.size)) mL D cl ad cA sh (va_A (zws ad cA sh S) s.heap.size)) (by
      intro Y pc ls st S' hY hst
      unfold zstp at hst
      split at hst
      · rename_i pc0 ins nx k a b c3 hh hat
        obtain ⟨⟨ch, hch, hxx⟩, hpc⟩ := zat_mem hat
        dsimp only at hpc
        subst hpc
        obtain ⟨o1, o2⟩ := zand (hCi ch hch _ hxx)
        exact zin_sim (own := y.cls) (ret := ret) (T := T) (d := d) B.exec B.bytes hml hown hts hK hDS hA hns hT hMs ⟨Nat.le_refl _, Nat.le_refl _⟩ (fun μ mi vs S Q h1 h2 => ih μ mi vs S Q h1 h2) B.returns hMi.2.2.2.2.2.2.2.2.2 B.notSynchronized hY o2 (of_decide_eq_true o1) hst
      · exact hst.elim)
    exact key s.heap [] _ hP va_S.rf (by omega) v3 (zll_has hl v4)
