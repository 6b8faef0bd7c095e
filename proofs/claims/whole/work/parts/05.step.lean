/-! the check of a row of code, and: a checked row's step is the machine's -/
def zpos (pc : Nat) (o : Int) : Bool := decide (0 ≤ (pc : Int) + o)
def zok1 (cl : List vw_C) (T : List Cond) (ns : zNT) (Ms : List zMI) (own : String) (pc : Nat) (ins : Instr) (nx : Nat) (k : Int32) (a b c h : Nat) : Bool := match ins with
  | .iconst n => Nat.beq nx (pc + 1) && decide (Int32.ofInt n = k)
  | .bipush n => Nat.beq nx (pc + 2) && decide ((Int8.ofInt n).toInt32 = k)
  | .sipush n => Nat.beq nx (pc + 3) && decide ((Int16.ofInt n).toInt32 = k)
  | .ldc i => Nat.beq nx (pc + 2) && decide (zn T h = some (Cond.constant own i k))
  | .ldc_w i => Nat.beq nx (pc + 3) && decide (zn T h = some (Cond.constant own i k))
  | .lconst n => Nat.beq nx (pc + 1) && decide (Int64.ofNat (n : Nat) = k.toInt64)
  | .ldc2_w i => Nat.beq nx (pc + 3) && decide (zn T h = some (Cond.constantLong own i k.toInt64))
  | .iload _ => Nat.beq nx (pc + 2)
  | .lload _ => Nat.beq nx (pc + 2)
  | .aload _ => Nat.beq nx (pc + 2)
  | .istore _ => Nat.beq nx (pc + 2)
  | .lstore _ => Nat.beq nx (pc + 2)
  | .astore _ => Nat.beq nx (pc + 2)
  | .iinc _ n => Nat.beq nx (pc + 3) && decide (Int32.ofInt n = k)
  | .goto o => Nat.beq nx (pc + 3) && decide ((pc : Int) + o = (a : Int))
  | .ifCond _ o => Nat.beq nx (pc + 3) && decide ((pc : Int) + o = (a : Int))
  | .if_icmp _ o => Nat.beq nx (pc + 3) && decide ((pc : Int) + o = (a : Int))
  | .ifnull o => Nat.beq nx (pc + 3) && decide ((pc : Int) + o = (a : Int))
  | .tableswitch df lo hi offs => zpos pc df && (offs.toList.all (zpos pc) && decide ((offs.toList.length : Int) = hi - lo + 1))
  | .lookupswitch df ps => zpos pc df && (ps.toList.all (fun q => zpos pc q.2) && (ps.toList.zip (ps.toList.drop 1)).all (fun (a, next) => a.1 < next.1))
  | .getfield i => Nat.beq nx (pc + 3) && (match zn cl a with
    | some (C, F, N) => decide (b < N) && (decide ((F b).1 = C) && decide (zn T h = some (Cond.fieldLink own i C (F b).2.1 (F b).2.2.1)))
    | none => false)
  | .putfield i => Nat.beq nx (pc + 3) && (match zn cl a with
    | some (C, F, N) => decide (b < N) && (decide ((F b).1 = C) && (decide (zn T h = some (Cond.fieldLink own i C (F b).2.1 (F b).2.2.1)) && (decide ((F b).2.2.2 = false) && decide ((F b).2.2.1 = "Z" ∧ k = 1 ∨ (F b).2.2.1 = "I"))))
    | none => false)
  | .invokevirtual i => Nat.beq nx (pc + 3) && (match zn Ms a with
    | some mi => decide (mi.2.2.2.2.2.1 = b) && (decide (mi.2.2.2.2.2.2.1 = c + 1) && decide (zn T h = some (Cond.methodLink own i mi.1)))
    | none => false)
  | .invokestatic i => Nat.beq nx (pc + 3) && (match c with
    | 0 => (match zn Ms a with
      | some mi => decide (mi.2.2.2.2.2.1 = b) && (decide (mi.2.2.2.2.2.2.1 = 0) && (decide (zn T h = some (Cond.methodLink own i mi.1)) || (match zn ns (h - 100000) with
        | some (o, j, y, _) => decide (o = own) && (decide (j = i) && decide (y = mi.1))
        | none => false)))
      | none => false)
    | 1 => decide (zn T h = some (Cond.methodLink own i Lib.Math.max.name))
    | 2 => decide (zn T h = some (Cond.methodLink own i Lib.Math.min.name))
    | _ => decide (zn T h = some (Cond.methodLink own i arraycopyName)))
  | _ => Nat.beq nx (pc + 1)
/-- what all classes and the natives need of the words -/
def zTok (cl : List vw_C) (T : List Cond) : Prop :=
  (∀ (ci : Nat) (C : String) (F : u_T) (N : Nat), cl[ci]? = some (C, F, N) → (∀ w ∈ u_ws C F N, w ∈ T) ∧ (∃ ty : Nat → FieldType, ∀ k, k < N → parseFieldDescriptor (F k).2.2.1 = some (ty k)) ∧ ∀ a, a < N → ∀ b, b < N → a ≠ b → (F a).2.1 ≠ (F b).2.1) ∧
  (∀ w ∈ ([.static Lib.Math.max.name, .initialized "java/lang/Math", .code Lib.Math.max.name Lib.Math.max.code 2 (some .int), .static Lib.Math.min.name, .code Lib.Math.min.name Lib.Math.min.code 2 (some .int), .native arraycopyName, .static arraycopyName, .initialized "java/lang/System"] : List Cond), w ∈ T) ∧ ∀ w ∈ T, goodWord w = true
/-- what a method's name needs of the words -/
def zMok (cl : List vw_C) (T : List Cond) (mi : zMI) : Prop :=
  Cond.code mi.1 mi.2.1 mi.2.2.1 mi.2.2.2.1 ∈ T ∧ Cond.initialized mi.1.cls ∈ T ∧ mi.2.2.1 ≤ 40 ∧
  (mi.2.2.2.2.2.2.1 = 0 → Cond.static mi.1 ∈ T) ∧ (∀ ci, mi.2.2.2.2.2.2.1 = ci + 1 → Cond.instanceMethod mi.1 ∈ T ∧ Cond.selects mi.1.cls mi.1 mi.1 ∈ T ∧ ∃ F N, cl[ci]? = some (mi.1.cls, F, N)) ∧
  mi.1.cls ≠ "java/lang/invoke/MethodHandle" ∧ mi.1.cls ≠ "java/lang/invoke/VarHandle" ∧ (parseMethodDescriptor mi.1.desc).map (fun d => d.parameters.length) = some mi.2.2.2.2.2.1 ∧ plainName mi.1.cls = true ∧
  (match mi.2.2.2.2.1 with
  | 0 => mi.2.2.2.1 = none
  | 1 => mi.2.2.2.1 = some .int
  | 2 => mi.2.2.2.1 = some .boolean
  | 3 => mi.2.2.2.1 = some .long
  | _ => ∃ C, mi.2.2.2.1 = some (.object C))
def zRm (d : Nat) : Room := { frames := d, cells := 0, slots := 0, locals := 60 * d }
section ZS2
variable {p : Program} {l : Launch} {e : Env} {R : Room} {s : State} {m : MethodId} {args : Array Value} {below : List Frame} {meth : Method} {c : Code} {Qw : State → Prop} {mL : Nat} {D : va_G} {cl : List vw_C} {ad : Nat → Nat} {cA : Nat → ClassId} {nm : Nat → String} {sh : List zD} {A : Nat → Prop} {ns : zNT}
variable {cc : ByteArray} {own : String} {T : List Cond} {y0 : Cond} {d : Nat}
theorem zgood {w0 : Cond} {ws : List Cond} (hT : ∀ w ∈ T, goodWord w = true) (h : ∀ w ∈ ws, w ∈ T) : GoodIn (w0 :: T) ws := fun w hw => ⟨List.mem_cons_of_mem _ (h w hw), good_of_word (hT w (h w hw))⟩
theorem zpreU {H : Heap} {S : zS} (hK : va_K D cl (zty cA nm sh) s) (hP : va_P D cl (zws ad cA sh S) H) (hD : ∀ S, va_D A (zws ad cA sh S)) (hns : ∀ q ∈ ns, va_Nw (.methodLinkNest q.1 q.2.1 q.2.2.1 q.2.2.2) s) :
    ∀ U : State, U.heap = H → s.WarmedH U.vm → zPre D cl ad cA nm sh ns S H.size U := fun U hU hW =>
  ⟨by rw [hU], by rw [hU]; exact hP, va_K.moved hW.alike hK, (hD S).weaken (fun _ _ _ _ => trivial), fun q hq => va_Nw.warmM hW (hns q hq)⟩
theorem zroom {m : MethodId} {pc : Nat} {ls : Array Slot} {st r : List Value} (h : zfit r = true) : 2 * (F0 m pc ls st).monitorRoom + (((r.map (zv ad))).map fun v => v.category).sum ≤ 8 := lv_room (by rw [zv_cats]; exact Nat.le_of_ble_eq_true h)
/-- a call of an instance method -/
theorem zinvV {K : zKT} {Y : zXT} {pc i : Nat} {mi : zMI} {ls : zLs} {as r : List Value} {o ci : Nat} {fs : List (Option Nat)} {S : zS} {Q : Option Value → zS → Prop}
    (hx : p.tables.exec = Jvm.exec) (hb : c.code = cc) (hml : c.maxLocals = mL) (hown : s.vm.findClass own = some m.cls) (hts : ∀ w ∈ y0 :: T, w.before args s = true) (hK : va_K D cl (zty cA nm sh) s) (hD : ∀ S, va_D A (zws ad cA sh S)) (hA : ∀ q, s.heap.size ≤ q → A q) (hns : ∀ q ∈ ns, va_Nw (.methodLinkNest q.1 q.2.1 q.2.2.1 q.2.2.2) s)
    (hT : zTok cl T) (hM : zMok cl T mi) (hR : d + 1 ≤ R.frames ∧ 60 * (d + 1) ≤ R.locals)
    (hci : mi.2.2.2.2.2.2.1 = ci + 1) (hsh : sh[o]? = some (.inr (.inr (ci, fs)))) (hlen : as.length = mi.2.2.2.2.2.1) (hlk : Cond.methodLink own i mi.1 ∈ T) (hfit : zfit r = true)
    (hmet : zMet l D cl ad cA nm sh ns T (zRm d) mi (.ref o :: as) S Q) (hdg : decode cc pc = .ok (.invokevirtual i, 3))
    (hc : ∀ rv S', Q rv S' → zX p l e R s m args below meth c Qw mL D cl ad cA sh A (pc + 3) ls (zpush rv r) S') :
    zX p l e R s m args below meth c Qw mL D cl ad cA sh A pc ls (as.reverse ++ .ref o :: r) S := by
  intro H locs ls' hP hS hll hnd hL
  obtain ⟨m1, m2, m3, m4, m5, m6, m7, m8, m9, m10⟩ := hM
  obtain ⟨k1, k2, F, N, k3⟩ := m5 ci hci
  obtain ⟨t1, t2, t3⟩ := hT
  have hw : ∀ w ∈ T, w.before args s = true := fun w h => hts w (List.mem_cons_of_mem _ h)
  have hG : GoodIn (y0 :: T) (Cond.code mi.1 mi.2.1 mi.2.2.1 mi.2.2.2.1 :: T) := zgood t3 (fun w h => (List.mem_cons.mp h).elim (fun e => e ▸ m1) id)
  have cb : CallB R s args own i mi.1 mi.2.1 mi.2.2.1 mi.2.2.2.1 (Cond.code mi.1 mi.2.1 mi.2.2.1 mi.2.2.2.1 :: T) (zRm d) 0 0 mi.2.2.2.2.2.1 :=
    callB_of _ hts hG rfl rfl rfl (hw _ m2) (hw _ hlk) ⟨m6, m7, m8⟩ ⟨by show d + 1 ≤ R.frames; exact hR.1, by show 8 + (mi.2.2.1 + 11) + 60 * d ≤ R.locals; omega⟩
  have hcw : CallW R s args own mi.1.cls i mi.1 mi.2.1 mi.2.2.1 mi.2.2.2.1 (Cond.code mi.1 mi.2.1 mi.2.2.1 mi.2.2.2.1 :: T) (zRm d) 0 0 mi.2.2.2.2.2.1 := ⟨cb, hw _ k1, hw _ k2⟩
  have hrecv : ∃ cell : Cell, H[ad o]? = some cell ∧ cell.vm.isStatics = false ∧ s.vm.findClass mi.1.cls = some cell.cls := va_recv hK hP k3 (zws_at hsh)
  refine zcont (S := S) (r := r) hD hA hS hll hnd hL (va_runV (b := ad o) (As := as.map (zv ad)) (rest := r.map (zv ad)) (nL := mL) ⟨hx, hb, hml, hown, hts⟩ (hmet H.size) hcw ⟨zPre_blind, hrecv, fun U hU hW => ⟨rfl, zpreU hK hP hD hns U hU hW⟩⟩ rfl (by simp [hlen]) hL.1 (by simp [zv]) (zroom hfit) hdg ⟨Nat.zero_le _, Nat.zero_le _⟩) hc
/-- a call of a static method -/
theorem zinvS {K : zKT} {Y : zXT} {pc i : Nat} {mi : zMI} {ls : zLs} {as r : List Value} {S : zS} {Q : Option Value → zS → Prop}
    (hx : p.tables.exec = Jvm.exec) (hb : c.code = cc) (hml : c.maxLocals = mL) (hown : s.vm.findClass own = some m.cls) (hts : ∀ w ∈ y0 :: T, w.before args s = true) (hK : va_K D cl (zty cA nm sh) s) (hD : ∀ S, va_D A (zws ad cA sh S)) (hA : ∀ q, s.heap.size ≤ q → A q) (hns : ∀ q ∈ ns, va_Nw (.methodLinkNest q.1 q.2.1 q.2.2.1 q.2.2.2) s)
    (hT : zTok cl T) (hM : zMok cl T mi) (hR : d + 1 ≤ R.frames ∧ 60 * (d + 1) ≤ R.locals)
    (hci : mi.2.2.2.2.2.2.1 = 0) (hlen : as.length = mi.2.2.2.2.2.1) (hlk : Cond.methodLink own i mi.1 ∈ T ∨ ∃ hst, (own, i, mi.1, hst) ∈ ns) (hfit : zfit r = true)
    (hmet : zMet l D cl ad cA nm sh ns T (zRm d) mi as S Q) (hdg : decode cc pc = .ok (.invokestatic i, 3))
    (hc : ∀ rv S', Q rv S' → zX p l e R s m args below meth c Qw mL D cl ad cA sh A (pc + 3) ls (zpush rv r) S') :
    zX p l e R s m args below meth c Qw mL D cl ad cA sh A pc ls (as.reverse ++ r) S := by
  intro H locs ls' hP hS hll hnd hL
  obtain ⟨m1, m2, m3, m4, m5, m6, m7, m8, m9, m10⟩ := hM
  obtain ⟨t1, t2, t3⟩ := hT
  have hw : ∀ w ∈ T, w.before args s = true := fun w h => hts w (List.mem_cons_of_mem _ h)
  have hG : GoodIn (y0 :: T) (Cond.code mi.1 mi.2.1 mi.2.2.1 mi.2.2.2.1 :: T) := zgood t3 (fun w h => (List.mem_cons.mp h).elim (fun e => e ▸ m1) id)
  have hR' : (zRm d).frames + 1 ≤ R.frames ∧ 8 + (mi.2.2.1 + 11) + (zRm d).locals ≤ R.locals := ⟨by show d + 1 ≤ R.frames; exact hR.1, by show 8 + (mi.2.2.1 + 11) + 60 * d ≤ R.locals; omega⟩
  rcases hlk with hlk | ⟨hst, hlk⟩
  · have cb : CallB R s args own i mi.1 mi.2.1 mi.2.2.1 mi.2.2.2.1 (Cond.code mi.1 mi.2.1 mi.2.2.1 mi.2.2.2.1 :: T) (zRm d) 0 0 mi.2.2.2.2.2.1 :=
      callB_of _ hts hG rfl rfl rfl (hw _ m2) (hw _ hlk) ⟨m6, m7, m8⟩ hR'
    refine zcont (S := S) (r := r) hD hA hS hll hnd hL (va_runS (As := as.map (zv ad)) (rest := r.map (zv ad)) (nL := mL) ⟨hx, hb, hml, hown, hts⟩ (hmet H.size) ⟨cb, hw _ (m4 hci)⟩ ⟨zPre_blind, fun U hU hW => ⟨rfl, zpreU hK hP hD hns U hU hW⟩⟩ rfl (by simp [hlen]) hL.1 (by simp) (zroom hfit) hdg ⟨Nat.zero_le _, Nat.zero_le _⟩) hc
  · have cb : va_CN R s args own i mi.1 hst mi.2.1 mi.2.2.1 mi.2.2.2.1 (Cond.code mi.1 mi.2.1 mi.2.2.1 mi.2.2.2.1 :: T) (zRm d) 0 0 mi.2.2.2.2.2.1 :=
      va_cnB _ hts hG rfl rfl rfl (hns _ hlk) (hw _ m2) ⟨m6, m7, m8⟩ hR'
    refine zcont (S := S) (r := r) hD hA hS hll hnd hL (va_runSN (As := as.map (zv ad)) (rest := r.map (zv ad)) (nL := mL) ⟨hx, hb, hml, hown, hts⟩ (hmet H.size) ⟨cb, hw _ (m4 hci), trivial⟩ ⟨zPre_blind, fun U hU hW => ⟨rfl, zpreU hK hP hD hns U hU hW⟩⟩ rfl (by simp [hlen]) hL.1 (by simp) (zroom hfit) hdg ⟨Nat.zero_le _, Nat.zero_le _⟩) hc
end ZS2
