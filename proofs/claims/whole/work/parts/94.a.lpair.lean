def lw_P (b : Addr) (xs : List Int32) (args : Array Value) (s : State) : Prop := args = #[.ref b] ∧ s.IntsAt b xs ∧ xs.length ≤ 3072 ∧ (Jvm.Cond.and given_1 narrow_1).before args s = true
def lw_Q (_ : Array Value) (s : State) (o : Outcome) (t : State) : Prop := o = .returned (some (.int 1)) ∧ Framed s o t [] 600000 7302250
def lw_Z (below : List Frame) (a : Array Value) (s : State) : State → Prop := fun t => ∃ o, t.status = .running ∧ Ended t below o ∧ lw_Q a s o t
/-- the law's own end, with 1 on the stack, nothing written that was there before, its room as the claim has it -/
theorem lw_ret {p : Program} {l : Launch} {e : Env} {s : State} {m : MethodId} {below : List Frame} {meth : Method} {c : Code} {b : Nat} (hx : p.tables.exec = Jvm.exec) (hb : c.code = code) (hr : meth.sig.returnType = ret) (hlocks : meth.locks = false) {pc : Nat} {H : Heap} {ls : Array Slot} (hdg : decode code pc = .ok (.ireturn, 1)) : W p l e room_1 s m #[Value.ref b] below meth c H [] 600000 7302250 (lw_Z below #[Value.ref b] s) (F0 m pc ls [.int 1]) := by
  intro T hT X
  obtain ⟨fs, hret, hrun, hended, hW, hframe⟩ := X.leave (v := some (.int 1)) (hlocks := hlocks) (fun h => by rw [hr] at h; cases h)
  have hmeth' : T.vm.method? m = some meth := X.method'
  refine ⟨T.setFrames fs, ?_, .returned (some (.int 1)), hrun, hended, rfl, ⟨_, rfl⟩, hW, hframe⟩
  jvm_step X.here [X.here.top, hx, hb, hdg, hmeth', hr, ret, narrow_b1]
  (try refine ⟨rfl, ?_⟩); (try refine ⟨rfl, ?_⟩)
  first | (intro acts; rw [hret _ acts rfl rfl rfl]) | rw [hret _ _ rfl rfl rfl]
  exact Steps.refl _
/-- what holds at the law's entry: the machine, the code, the tables' words (any of lw_tbl by 'hts w (by decide +kernel)'), the script of L ints xs at the cell b, what the Statement gives of the start (any of its parts by flat_of_before) -/
def lw_At (p : Program) (s : State) (m : MethodId) (meth : Method) (c : Code) (b L : Nat) (xs : Nat → Int32) : Prop :=
  p.tables.exec = Jvm.exec ∧ c.code = code ∧ meth.sig.returnType = ret ∧ c.maxLocals = 4 ∧ s.vm.findClass R_law = some m.cls ∧ (∀ w ∈ lw_tbl, w.before #[Value.ref b] s = true) ∧ va_X b L xs s s.heap ∧ b < s.heap.size ∧ meth.locks = false ∧ (Jvm.Cond.and given_1 narrow_1).before #[Value.ref b] s = true
/-! a call of the law: class, model -/
def lw_B (D : va_G) (s : State) (adC adM : Nat → Nat) (cAC cAM : Nat → ClassId) : Prop := va_K D zcl (zty cAC nmA shC) s ∧ va_K D zcl (zty cAM nmA shM) s ∧ (∀ S, va_D (fun q : Nat => s.heap.size ≤ q) (zws adC cAC shC S)) ∧ (∀ S, va_D (fun q : Nat => s.heap.size ≤ q) (zws adM cAM shM S)) ∧ (∀ i j, i < shC.length → j < shM.length → adC i ≠ adM j) ∧ ∀ q ∈ zns, va_Nw (.methodLinkNest q.1 q.2.1 q.2.2.1 q.2.2.2) s
def lw_V (D : va_G) (adC adM : Nat → Nat) (cAC cAM : Nat → ClassId) (SC SM : zS) (H : Heap) : Prop := va_P D zcl (zws adC cAC shC SC) H ∧ va_P D zcl (zws adM cAM shM SM) H
section lawcalls
variable {p : Program} {l : Launch} {e : Env} {s : State} {m : MethodId} {below : List Frame} {meth : Method} {c : Code} {b L : Nat} {xs : Nat → Int32} {D : va_G} {adC adM : Nat → Nat} {cAC cAM : Nat → ClassId} {SC SM : zS} {H : Heap} {locs : List Loc} {cells slots pc i μ : Nat} {mi : zMI} {as rest : List Value} {ls : Array Slot} {Q : Option Value → zS → Prop} {Z : State → Prop}
theorem lw_ciC (C0 : lw_At p s m meth c b L xs) (hB : lw_B D s adC adM cAC cAM) (hV : lw_V D adC adM cAC cAM SC SM H) (hS : va_S (fun q : Nat => s.heap.size ≤ q) s.heap H locs)
    (hm : zn zMs μ = some mi) (hz : zK zMs shC 72 μ (.ref 0 :: as) SC Q) (hci : mi.2.2.2.2.2.2.1 = 12) (hrt : mi.2.2.2.2.1 = 1) (hlen : as.length = mi.2.2.2.2.2.1) (hlk : Cond.methodLink R_law i mi.1 ∈ lw_tbl) (has : as.map (zv adC) = as) (hmL : mi.2.2.1 ≤ 40) (hroom : 2 * (F0 m pc ls (as.reverse ++ .ref (adC 0) :: rest)).monitorRoom + (rest.map fun v => v.category).sum ≤ 8) (hls : ls.size = 4) (hf : cells ≤ 600000 ∧ slots ≤ 7302250) (hdg : decode code pc = .ok (.invokevirtual i, 3))
    (k : ∀ (r : Int32) (S' : zS) (H : Heap) (locs : List Loc), Q (some (.int r)) S' → lw_V D adC adM cAC cAM S' SM H → va_S (fun q : Nat => s.heap.size ≤ q) s.heap H locs → W p l e room_1 s m #[Value.ref b] below meth c H locs cells slots Z (F0 m (pc + 3) ls (.int r :: rest))) :
    W p l e room_1 s m #[Value.ref b] below meth c H locs cells slots Z (F0 m pc ls (as.reverse ++ .ref (adC 0) :: rest)) := by
  obtain ⟨hx, hb, hr, hml, hown, hts, hX, hbl, hlocks, hgv⟩ := C0
  obtain ⟨b1, b2, b3, b4, b5, b6⟩ := hB
  have h := lw_run (l := l) (e := e) (below := below) (meth := meth) (locs := locs) hx hb hml hown hts b1 hV.1 b3 b6 hm hz hci rfl hlen hlk has hmL hroom hls hf hdg
  rw [hrt] at h
  unfold zQc at h
  have hf := zA1 (A := fun q : Nat => s.heap.size ≤ q) (S := SC) (s := s) b3 (fun _ h => h) hS
  exact va_calli (A0 := fun q : Nat => s.heap.size ≤ q) h hS (fun q _ h => hf q h) hf (fun r u t H1 locs1 ht hvm hw hB hz hk hS1 => k r u H1 locs1 hw ⟨by rw [← ht]; exact hB, lw_keep hV.2 (fun i j h1 h2 => (b5 j i h2 h1).symm) hk⟩ hS1)
theorem lw_ciM (C0 : lw_At p s m meth c b L xs) (hB : lw_B D s adC adM cAC cAM) (hV : lw_V D adC adM cAC cAM SC SM H) (hS : va_S (fun q : Nat => s.heap.size ≤ q) s.heap H locs)
    (hm : zn zMs μ = some mi) (hz : zK zMs shM 72 μ (.ref 0 :: as) SM Q) (hci : mi.2.2.2.2.2.2.1 = 13) (hrt : mi.2.2.2.2.1 = 1) (hlen : as.length = mi.2.2.2.2.2.1) (hlk : Cond.methodLink R_law i mi.1 ∈ lw_tbl) (has : as.map (zv adM) = as) (hmL : mi.2.2.1 ≤ 40) (hroom : 2 * (F0 m pc ls (as.reverse ++ .ref (adM 0) :: rest)).monitorRoom + (rest.map fun v => v.category).sum ≤ 8) (hls : ls.size = 4) (hf : cells ≤ 600000 ∧ slots ≤ 7302250) (hdg : decode code pc = .ok (.invokevirtual i, 3))
    (k : ∀ (r : Int32) (S' : zS) (H : Heap) (locs : List Loc), Q (some (.int r)) S' → lw_V D adC adM cAC cAM SC S' H → va_S (fun q : Nat => s.heap.size ≤ q) s.heap H locs → W p l e room_1 s m #[Value.ref b] below meth c H locs cells slots Z (F0 m (pc + 3) ls (.int r :: rest))) :
    W p l e room_1 s m #[Value.ref b] below meth c H locs cells slots Z (F0 m pc ls (as.reverse ++ .ref (adM 0) :: rest)) := by
  obtain ⟨hx, hb, hr, hml, hown, hts, hX, hbl, hlocks, hgv⟩ := C0
  obtain ⟨b1, b2, b3, b4, b5, b6⟩ := hB
  have h := lw_run (l := l) (e := e) (below := below) (meth := meth) (locs := locs) hx hb hml hown hts b2 hV.2 b4 b6 hm hz hci rfl hlen hlk has hmL hroom hls hf hdg
  rw [hrt] at h
  unfold zQc at h
  have hf := zA1 (A := fun q : Nat => s.heap.size ≤ q) (S := SM) (s := s) b4 (fun _ h => h) hS
  exact va_calli (A0 := fun q : Nat => s.heap.size ≤ q) h hS (fun q _ h => hf q h) hf (fun r u t H1 locs1 ht hvm hw hB hz hk hS1 => k r u H1 locs1 hw ⟨lw_keep hV.1 b5 hk, by rw [← ht]; exact hB⟩ hS1)
theorem lw_clC (C0 : lw_At p s m meth c b L xs) (hB : lw_B D s adC adM cAC cAM) (hV : lw_V D adC adM cAC cAM SC SM H) (hS : va_S (fun q : Nat => s.heap.size ≤ q) s.heap H locs)
    (hm : zn zMs μ = some mi) (hz : zK zMs shC 72 μ (.ref 0 :: as) SC Q) (hci : mi.2.2.2.2.2.2.1 = 12) (hrt : mi.2.2.2.2.1 = 3) (hlen : as.length = mi.2.2.2.2.2.1) (hlk : Cond.methodLink R_law i mi.1 ∈ lw_tbl) (has : as.map (zv adC) = as) (hmL : mi.2.2.1 ≤ 40) (hroom : 2 * (F0 m pc ls (as.reverse ++ .ref (adC 0) :: rest)).monitorRoom + (rest.map fun v => v.category).sum ≤ 8) (hls : ls.size = 4) (hf : cells ≤ 600000 ∧ slots ≤ 7302250) (hdg : decode code pc = .ok (.invokevirtual i, 3))
    (k : ∀ (r : Int64) (S' : zS) (H : Heap) (locs : List Loc), Q (some (.long r)) S' → lw_V D adC adM cAC cAM S' SM H → va_S (fun q : Nat => s.heap.size ≤ q) s.heap H locs → W p l e room_1 s m #[Value.ref b] below meth c H locs cells slots Z (F0 m (pc + 3) ls (.long r :: rest))) :
    W p l e room_1 s m #[Value.ref b] below meth c H locs cells slots Z (F0 m pc ls (as.reverse ++ .ref (adC 0) :: rest)) := by
  obtain ⟨hx, hb, hr, hml, hown, hts, hX, hbl, hlocks, hgv⟩ := C0
  obtain ⟨b1, b2, b3, b4, b5, b6⟩ := hB
  have h := lw_run (l := l) (e := e) (below := below) (meth := meth) (locs := locs) hx hb hml hown hts b1 hV.1 b3 b6 hm hz hci rfl hlen hlk has hmL hroom hls hf hdg
  rw [hrt] at h
  unfold zQc at h
  have hf := zA1 (A := fun q : Nat => s.heap.size ≤ q) (S := SC) (s := s) b3 (fun _ h => h) hS
  exact va_calll (A0 := fun q : Nat => s.heap.size ≤ q) h hS (fun q _ h => hf q h) hf (fun r u t H1 locs1 ht hvm hw hB hz hk hS1 => k r u H1 locs1 hw ⟨by rw [← ht]; exact hB, lw_keep hV.2 (fun i j h1 h2 => (b5 j i h2 h1).symm) hk⟩ hS1)
theorem lw_clM (C0 : lw_At p s m meth c b L xs) (hB : lw_B D s adC adM cAC cAM) (hV : lw_V D adC adM cAC cAM SC SM H) (hS : va_S (fun q : Nat => s.heap.size ≤ q) s.heap H locs)
    (hm : zn zMs μ = some mi) (hz : zK zMs shM 72 μ (.ref 0 :: as) SM Q) (hci : mi.2.2.2.2.2.2.1 = 13) (hrt : mi.2.2.2.2.1 = 3) (hlen : as.length = mi.2.2.2.2.2.1) (hlk : Cond.methodLink R_law i mi.1 ∈ lw_tbl) (has : as.map (zv adM) = as) (hmL : mi.2.2.1 ≤ 40) (hroom : 2 * (F0 m pc ls (as.reverse ++ .ref (adM 0) :: rest)).monitorRoom + (rest.map fun v => v.category).sum ≤ 8) (hls : ls.size = 4) (hf : cells ≤ 600000 ∧ slots ≤ 7302250) (hdg : decode code pc = .ok (.invokevirtual i, 3))
    (k : ∀ (r : Int64) (S' : zS) (H : Heap) (locs : List Loc), Q (some (.long r)) S' → lw_V D adC adM cAC cAM SC S' H → va_S (fun q : Nat => s.heap.size ≤ q) s.heap H locs → W p l e room_1 s m #[Value.ref b] below meth c H locs cells slots Z (F0 m (pc + 3) ls (.long r :: rest))) :
    W p l e room_1 s m #[Value.ref b] below meth c H locs cells slots Z (F0 m pc ls (as.reverse ++ .ref (adM 0) :: rest)) := by
  obtain ⟨hx, hb, hr, hml, hown, hts, hX, hbl, hlocks, hgv⟩ := C0
  obtain ⟨b1, b2, b3, b4, b5, b6⟩ := hB
  have h := lw_run (l := l) (e := e) (below := below) (meth := meth) (locs := locs) hx hb hml hown hts b2 hV.2 b4 b6 hm hz hci rfl hlen hlk has hmL hroom hls hf hdg
  rw [hrt] at h
  unfold zQc at h
  have hf := zA1 (A := fun q : Nat => s.heap.size ≤ q) (S := SM) (s := s) b4 (fun _ h => h) hS
  exact va_calll (A0 := fun q : Nat => s.heap.size ≤ q) h hS (fun q _ h => hf q h) hf (fun r u t H1 locs1 ht hvm hw hB hz hk hS1 => k r u H1 locs1 hw ⟨lw_keep hV.1 b5 hk, by rw [← ht]; exact hB⟩ hS1)
end lawcalls
