def R_law : String := "ScoreFormsLaw"
/-! the law's calls -/
theorem lw_keep {D : va_G} {ad ad' : Nat → Nat} {cA cA' : Nat → ClassId} {sh sh' : List zD} {S S' : zS} {H H1 : Heap} (hP : va_P D zcl (zws ad cA sh S) H) (hd : ∀ i j, i < sh.length → j < sh'.length → ad i ≠ ad' j) (hk : ∀ q : Nat, q < H.size → ¬ va_A (zws ad' cA' sh' S') H.size q → H1[q]? = H[q]?) : va_P D zcl (zws ad cA sh S) H1 := by
  intro k q hq
  have h := hP k q hq
  have hlt : q.1 < H.size := h.lt
  refine h.kept (hk q.1 hlt ?_)
  intro h2
  rcases h2 with ⟨j, e, hj⟩ | h2
  · simp only [zws, List.getElem?_mapIdx, Option.map_eq_some_iff] at hq hj
    obtain ⟨d, hd1, rfl⟩ := hq
    obtain ⟨d', hd2, e2⟩ := hj
    have e3 : ad' j = ad k := congrArg Prod.fst e2
    exact hd k j (List.getElem?_eq_some_iff.mp hd1).1 (List.getElem?_eq_some_iff.mp hd2).1 e3.symm
  · exact absurd h2 (Nat.not_le.mpr hlt)
theorem lw_run {p : Program} {l : Launch} {e : Env} {s : State} {m : MethodId} {below : List Frame} {meth : Method} {c : Code} {b : Nat} {D : va_G} {ad : Nat → Nat} {cA : Nat → ClassId} {nm : Nat → String} {sh : List zD} {A : Nat → Prop} {S : zS} {H : Heap} {locs : List Loc} {cells slots pc i μ ci : Nat} {mi : zMI} {fs : List (Option Nat)} {as rest : List Value} {ls : Array Slot} {Q : Option Value → zS → Prop}
    (hx : p.tables.exec = Jvm.exec) (hb : c.code = code) (hml : c.maxLocals = 4) (hown : s.vm.findClass R_law = some m.cls) (hts : ∀ w ∈ lw_tbl, w.before #[Value.ref b] s = true) (hK : va_K D zcl (zty cA nm sh) s) (hP : va_P D zcl (zws ad cA sh S) H) (hD : ∀ S, va_D A (zws ad cA sh S)) (hns : ∀ q ∈ zns, va_Nw (.methodLinkNest q.1 q.2.1 q.2.2.1 q.2.2.2) s)
    (hm : zn zMs μ = some mi) (hz : zK zMs sh 72 μ (.ref 0 :: as) S Q) (hci : mi.2.2.2.2.2.2.1 = ci + 1) (hsh : sh[0]? = some (.inr (.inr (ci, fs)))) (hlen : as.length = mi.2.2.2.2.2.1) (hlk : Cond.methodLink R_law i mi.1 ∈ lw_tbl) (has : as.map (zv ad) = as) (hmL : mi.2.2.1 ≤ 40) (hroom : 2 * (F0 m pc ls (as.reverse ++ .ref (ad 0) :: rest)).monitorRoom + (rest.map fun v => v.category).sum ≤ 8) (hls : ls.size = 4) (hf : cells ≤ 600000 ∧ slots ≤ 7302250) (hdg : decode code pc = .ok (.invokevirtual i, 3)) :
    va_Run p l e room_1 s m #[Value.ref b] below meth c H locs cells slots 0 0 (F0 m pc ls (as.reverse ++ .ref (ad 0) :: rest)) rest (zQc mi.2.2.2.2.1 D zcl ad cA sh (va_A (zws ad cA sh S) H.size) Q ((Value.ref (ad 0) :: as).toArray)) (va_A (zws ad cA sh S) H.size) := by
  have hmet := zmet (l := l) (D := D) (ad := ad) (cA := cA) (nm := nm) hm hz H.size
  obtain ⟨m1, m2, m3, m4, m5, m6, m7, m8, m9, m10⟩ := zMs_ok μ mi hm
  obtain ⟨k1, k2, F, N, k3⟩ := m5 ci hci
  obtain ⟨t1, t2, t3⟩ := zT_ok
  have hw : ∀ w ∈ zT, w.before #[Value.ref b] s = true := fun w h => hts w (zT_sub w h)
  have hG : GoodIn lw_tbl (Cond.code mi.1 mi.2.1 mi.2.2.1 mi.2.2.2.1 :: zT) := fun w h => by
    have h : w ∈ zT := (List.mem_cons.mp h).elim (fun e => e ▸ m1) id
    exact ⟨zT_sub w h, good_of_word (t3 w h)⟩
  have cb : CallB room_1 s #[Value.ref b] R_law i mi.1 mi.2.1 mi.2.2.1 mi.2.2.2.1 (Cond.code mi.1 mi.2.1 mi.2.2.1 mi.2.2.2.1 :: zT) (zRm 72) 0 0 mi.2.2.2.2.2.1 :=
    callB_of _ hts hG rfl rfl rfl (hw _ m2) (hts _ hlk) ⟨m6, m7, m8⟩ ⟨by show 72 + 1 ≤ 2048; decide, by show 8 + (mi.2.2.1 + 11) + 60 * 72 ≤ 84000; omega⟩
  have hcw : CallW room_1 s #[Value.ref b] R_law mi.1.cls i mi.1 mi.2.1 mi.2.2.1 mi.2.2.2.1 (Cond.code mi.1 mi.2.1 mi.2.2.1 mi.2.2.2.1 :: zT) (zRm 72) 0 0 mi.2.2.2.2.2.1 := ⟨cb, hw _ k1, hw _ k2⟩
  have hrecv : ∃ cell : Cell, H[ad 0]? = some cell ∧ cell.vm.isStatics = false ∧ s.vm.findClass mi.1.cls = some cell.cls := va_recv hK hP k3 (zws_at hsh)
  have has2 : (Value.ref 0 :: as).map (zv ad) = .ref (ad 0) :: as := by rw [List.map_cons, has]; rfl
  rw [has2] at hmet
  exact va_runV (b := ad 0) (As := as) (rest := rest) (nL := 4) ⟨hx, hb, hml, hown, hts⟩ hmet hcw ⟨zPre_blind, hrecv, fun U hU hW => ⟨rfl, zpreU hK hP hD hns U hU hW⟩⟩ rfl hlen hls rfl hroom hdg hf
