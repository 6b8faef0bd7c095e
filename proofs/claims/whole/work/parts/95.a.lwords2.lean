/-! the law's start -/
theorem lw_hm {w : Cond} (i : Nat) (h : tables_1[i]? = some w) : w ∈ lw_tbl := List.mem_append_right _ (List.mem_of_getElem? h)
set_option maxRecDepth 100000 in
theorem lw_i11 : Cond.instantiable RX11 15 ∈ lw_tbl := by decide +kernel
set_option maxRecDepth 100000 in
theorem lw_i12 : Cond.instantiable RX12 48 ∈ lw_tbl := by decide +kernel
set_option maxRecDepth 100000 in
theorem lw_n11 : Cond.initialized RX11 ∈ lw_tbl := by decide +kernel
set_option maxRecDepth 100000 in
theorem lw_n12 : Cond.initialized RX12 ∈ lw_tbl := by decide +kernel
set_option maxRecDepth 100000 in
theorem lw_l7 : Cond.classLink R_law 7 RX11 ∈ lw_tbl := by decide +kernel
set_option maxRecDepth 100000 in
theorem lw_l10 : Cond.classLink R_law 10 RX12 ∈ lw_tbl := by decide +kernel
set_option maxRecDepth 100000 in
theorem lw_l9 : Cond.methodLink R_law 9 yX11_init ∈ lw_tbl := by decide +kernel
set_option maxRecDepth 100000 in
theorem lw_l12 : Cond.methodLink R_law 12 yX12_init ∈ lw_tbl := by decide +kernel
set_option maxRecDepth 100000 in
theorem lw_m11 : Cond.instanceMethod yX11_init ∈ lw_tbl := by decide +kernel
set_option maxRecDepth 100000 in
theorem lw_m12 : Cond.instanceMethod yX12_init ∈ lw_tbl := by decide +kernel
set_option maxRecDepth 100000 in
theorem lw_inst : ∀ q ∈ zcl, Cond.instantiable q.1 q.2.2 ∈ lw_tbl := by decide +kernel
set_option maxRecDepth 100000 in
theorem lw_zns : ∀ q ∈ zns, Cond.methodLinkNest q.1 q.2.1 q.2.2.1 q.2.2.2 ∈ lw_tbl := by decide +kernel
set_option maxRecDepth 100000 in
theorem lw_cns : ∀ q ∈ cns, Cond.methodLinkNest q.1 q.2.1 q.2.2.1 q.2.2.2 ∈ lw_tbl := by decide +kernel
set_option maxRecDepth 100000 in
theorem lw_ao10 : Cond.arrayOver (.object RX10) ∈ lw_tbl := by decide +kernel
set_option maxRecDepth 100000 in
theorem lw_ao8 : Cond.arrayOver (.object RX8) ∈ lw_tbl := by decide +kernel
theorem lw_g11 : GoodIn lw_tbl (Cond.code yX11_init cX11_init 1 none :: cT) := fun w h => by
  have h : w ∈ cT := (List.mem_cons.mp h).elim (fun e => e ▸ cme2 (i := 0) rfl) id
  exact ⟨cT_sub w h, good_of_word (cT_good w h)⟩
theorem lw_g12 : GoodIn lw_tbl (Cond.code yX12_init cX12_init 2 none :: mT) := fun w h => by
  have h : w ∈ mT := (List.mem_cons.mp h).elim (fun e => e ▸ List.mem_append_left _ (List.mem_of_getElem? (i := 0) rfl)) id
  exact ⟨mT_sub w h, good_of_word (mT_good w h)⟩
theorem lw_uws : ∀ q ∈ zcl, ∀ w ∈ u_ws q.1 q.2.1 q.2.2, w ∈ lw_tbl := List.forall_mem_cons.mpr ⟨uX0_sub, List.forall_mem_cons.mpr ⟨uX1_sub, List.forall_mem_cons.mpr ⟨uX2_sub, List.forall_mem_cons.mpr ⟨uX3_sub, List.forall_mem_cons.mpr ⟨uX4_sub, List.forall_mem_cons.mpr ⟨uX5_sub, List.forall_mem_cons.mpr ⟨uX6_sub, List.forall_mem_cons.mpr ⟨uX7_sub, List.forall_mem_cons.mpr ⟨uX8_sub, List.forall_mem_cons.mpr ⟨uX9_sub, List.forall_mem_cons.mpr ⟨uX10_sub, List.forall_mem_cons.mpr ⟨uX11_sub, List.forall_mem_cons.mpr ⟨uX12_sub, fun _ h => absurd h List.not_mem_nil⟩⟩⟩⟩⟩⟩⟩⟩⟩⟩⟩⟩⟩
theorem lw_D {s : State} {args : Array Value} (c0 : ClassId) (hts : ∀ w ∈ lw_tbl, w.before args s = true) : ∃ D : va_G, va_K D zcl [] s := by
  have h : ∀ k : Nat, ∃ x : ClassId × (Nat → Nat), ∀ q : vw_C, zcl[k]? = some q → u_Kn s q.1 q.2.1 q.2.2 x.1 x.2 := by
    intro k
    cases hk : zcl[k]? with
    | none => exact ⟨(c0, fun _ => 0), fun q hq => by cases hq⟩
    | some q0 =>
      have hm : q0 ∈ zcl := List.mem_of_getElem? hk
      obtain ⟨cC, iS, hK⟩ := u_known hts (lw_uws q0 hm) (hts _ (lw_inst q0 hm))
      exact ⟨(cC, iS), fun q hq => by cases hq; exact hK⟩
  obtain ⟨f, hf⟩ := Classical.axiomOfChoice h
  exact ⟨(fun k => (f k).1, fun k => (f k).2), fun k q hq => hf k q hq, fun k q h => by simp at h⟩
theorem lw_lt {D : va_G} {ad : Nat → Nat} {cA : Nat → ClassId} {sh : List zD} {S : zS} {H : Heap} (h : va_P D zcl (zws ad cA sh S) H) : ∀ i, i < sh.length → ad i < H.size := fun i hi => (h i _ (zws_at (List.getElem?_eq_getElem hi))).lt
theorem lw_ne {A : Nat → Prop} {ad : Nat → Nat} {cA : Nat → ClassId} {sh : List zD} {S : zS} {q2 : Nat} {x : va_E} (h : va_D A (zws ad cA sh S ++ [(q2, x)])) : ∀ i, i < sh.length → ad i ≠ q2 := by
  intro i hi e
  have hl : (zws ad cA sh S).length = sh.length := by simp [zws]
  have h1 : (zws ad cA sh S ++ [(q2, x)])[i]? = some (ad i, zce ad cA S i sh[i]) := by
    rw [List.getElem?_append_left (by omega)]
    exact zws_at (List.getElem?_eq_getElem hi)
  have h2 : (zws ad cA sh S ++ [(q2, x)])[sh.length]? = some (q2, x) := by
    rw [List.getElem?_append_right (by omega), hl, Nat.sub_self]; rfl
  have h3 := h.1 _ _ _ _ h1 h2 e
  omega
theorem lw_dr {A : Nat → Prop} {ws : va_W} {q2 : Nat} {x : va_E} (h : va_D A (ws ++ [(q2, x)])) : va_D A [(q2, x)] := by
  refine ⟨fun i j p q h1 h2 _ => ?_, fun k q hk => ?_⟩
  · have a := (List.getElem?_eq_some_iff.mp h1).1
    have b := (List.getElem?_eq_some_iff.mp h2).1
    simp only [List.length_cons, List.length_nil] at a b
    omega
  · have a := (List.getElem?_eq_some_iff.mp hk).1
    simp only [List.length_cons, List.length_nil] at a
    have ek : k = 0 := by omega
    subst ek
    cases hk
    exact h.2 ws.length _ (by rw [List.getElem?_append_right (Nat.le_refl _), Nat.sub_self]; rfl)
theorem lw_pl {D : va_G} {ws : va_W} {q2 : Nat × va_E} {H : Heap} (h : va_P D zcl (ws ++ [q2]) H) : va_P D zcl ws H := fun k q hk => h k q (by rw [List.getElem?_append_left (List.getElem?_eq_some_iff.mp hk).1]; exact hk)
theorem lw_pr {D : va_G} {ws : va_W} {q2 : Nat × va_E} {H : Heap} (h : va_P D zcl (ws ++ [q2]) H) : va_P D zcl [q2] H := fun k q hk => by
  have a := (List.getElem?_eq_some_iff.mp hk).1
  simp only [List.length_cons, List.length_nil] at a
  have ek : k = 0 := by omega
  subst ek
  exact h ws.length q (by rw [List.getElem?_append_right (Nat.le_refl _), Nat.sub_self]; exact hk)
theorem lw_va1 {q2 sz q : Nat} {x : va_E} (h : va_A [(q2, x)] sz q) : q = q2 ∨ sz ≤ q := by
  rcases h with ⟨k, e, h⟩ | h
  · have a := (List.getElem?_eq_some_iff.mp h).1
    simp only [List.length_cons, List.length_nil] at a
    have ek : k = 0 := by omega
    subst ek
    cases h
    exact Or.inl rfl
  · exact Or.inr h
theorem lw_apart {ad ad' : Nat → Nat} {cA' : Nat → ClassId} {sh sh' : List zD} {S' : zS} {q2 sz : Nat} {x : va_E} (hlt : ∀ i, i < sh.length → ad i < sz) (hne : ∀ i, i < sh.length → ad i ≠ q2) (hD : va_D (va_A [(q2, x)] sz) (zws ad' cA' sh' S')) : ∀ i j, i < sh.length → j < sh'.length → ad i ≠ ad' j := by
  intro i j hi hj e
  have h := lw_va1 (hD.2 j _ (zws_at (List.getElem?_eq_getElem hj)))
  have h1 := hlt i hi
  have h2 := hne i hi
  dsimp only at h
  omega
theorem lw_kept {D : va_G} {ad : Nat → Nat} {cA : Nat → ClassId} {sh : List zD} {S : zS} {H H1 : Heap} {q2 : Nat} {x : va_E} (hP : va_P D zcl (zws ad cA sh S) H) (hlt : ∀ i, i < sh.length → ad i < H.size) (hne : ∀ i, i < sh.length → ad i ≠ q2) (hk : ∀ q : Nat, q < H.size → ¬ va_A [(q2, x)] H.size q → H1[q]? = H[q]?) : va_P D zcl (zws ad cA sh S) H1 := by
  intro k q hq
  have h := hP k q hq
  refine h.kept (hk q.1 h.lt ?_)
  simp only [zws, List.getElem?_mapIdx, Option.map_eq_some_iff] at hq
  obtain ⟨d, hd1, rfl⟩ := hq
  have hi := (List.getElem?_eq_some_iff.mp hd1).1
  intro h2
  have h3 := lw_va1 h2
  have h4 := hlt k hi
  have h5 := hne k hi
  dsimp only at h3
  omega
