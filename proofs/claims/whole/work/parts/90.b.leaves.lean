theorem dX10_init_0 : decode cX10_init 0 = .ok (.aload_n 0, 1) := by decide +kernel
theorem dX10_init_1 : decode cX10_init 1 = .ok (.invokespecial 1, 3) := by decide +kernel
theorem dX10_init_4 : decode cX10_init 4 = .ok (.aload_n 0, 1) := by decide +kernel
theorem dX10_init_5 : decode cX10_init 5 = .ok (.iconst 0, 1) := by decide +kernel
theorem dX10_init_6 : decode cX10_init 6 = .ok (.putfield 7, 3) := by decide +kernel
theorem dX10_init_9 : decode cX10_init 9 = .ok (.aload_n 0, 1) := by decide +kernel
theorem dX10_init_10 : decode cX10_init 10 = .ok (.iload_n 1, 1) := by decide +kernel
theorem dX10_init_11 : decode cX10_init 11 = .ok (.iconst 0, 1) := by decide +kernel
theorem dX10_init_12 : decode cX10_init 12 = .ok (.invokestatic 13, 3) := by decide +kernel
theorem dX10_init_15 : decode cX10_init 15 = .ok (.newarray .int, 2) := by decide +kernel
theorem dX10_init_17 : decode cX10_init 17 = .ok (.putfield 19, 3) := by decide +kernel
theorem dX10_init_20 : decode cX10_init 20 = .ok (.return_, 1) := by decide +kernel
def akX10_24 (D : va_G) (A : Nat → Prop) (h0 : Nat) (t : State) : Prop := ∃ (q1 : Nat) (c1 : ClassId), va_P D zcl [(h0, .inr (10, [.ref q1, .int 0])), (q1, .inl (c1, 24, .inl (fun _ => 0)))] t.heap ∧ va_K D zcl [(c1, .int)] t ∧ va_D A [(h0, .inr (10, [.ref q1, .int 0])), (q1, .inl (c1, 24, .inl (fun _ => 0)))]
set_option maxHeartbeats 4000000 in
set_option maxRecDepth 100000 in
theorem kX10_24 (l : Launch) (D : va_G) (h0 sz : Nat) : Met l yX10_init (Cond.code yX10_init cX10_init 2 none :: cT) { frames := 1, cells := 1, slots := 24, locals := 40 } (va_Pc [.ref h0, .int 24] (cPre D [(h0, .inr (10, [.null, .int 0]))] sz)) (va_Qv (S := Unit) (fun _ => True) (fun _ t => akX10_24 D (va_A [(h0, .inr (10, [.null, .int 0]))] sz) h0 t) (va_A [(h0, .inr (10, [.null, .int 0]))] sz)) 1 24 (va_A [(h0, .inr (10, [.null, .int 0]))] sz) := by
  refine Met.ofW (cc := cX10_init) (maxL := 2) (ret := none) (by decide) rfl ?_
  intro p e s m args below meth c s₁ B hml hv
  obtain ⟨rfl, hsz, hP, hK, hD0, hns, ha10, ha8⟩ := hv
  have hx := B.exec
  have hb := B.bytes
  have hr := B.returns
  have hts := atoms_spec (ws := Cond.code yX10_init cX10_init 2 none :: cT) B.pre
  have hown : s.vm.findClass RX10 = some m.cls := findClass_of_methodNamed B.named
  have hlocks := B.notSynchronized
  have hin : meth.name = "<init>" := (name_of_methodNamed B.named B.method).1
  subst hsz
  have hD := hD0.self (sz := s.heap.size)
  generalize hAe : va_A [(h0, .inr (10, [.null, .int 0]))] s.heap.size = A at hD ⊢
  have hA : ∀ q : Nat, s.heap.size ≤ q → A q := fun q h => by rw [← hAe]; exact Or.inr h
  have hS : va_S A s.heap s.heap [] := va_S.rf
  have hP : va_P D zcl [(h0, .inr (10, [.null, .int 0]))] s.heap := hP
  have hl := lv_entry ([.ref h0, .int 24]) (n := 2) (Nat.le_of_ble_eq_true rfl)
  rw [lg_entry_eq]
  generalize (lg_sl ([.ref h0, .int 24]) ++ List.replicate (2 - (lg_sl ([.ref h0, .int 24])).length) Slot.unset).toArray = ls at hl ⊢
  have hl : lv_has ls 2 [(0, .ref h0), (1, .int 24)] := hl
  refine lv_aload_n hx hb dX10_init_0 rfl (lv_at hl 0 rfl) ?_
  refine W.objInit hx hb hown (hts (Cond.methodLink RX10 1 objectInit) (cme (i := 46) rfl)) (hts (Cond.instanceMethod objectInit) (cme (i := 2) rfl)) (hts (Cond.code objectInit ⟨#[0xb1]⟩ 1 none) (cme (i := 3) rfl)) rfl (by rw [hml]; exact hl.1) rfl dX10_init_1 (Nat.le_of_ble_eq_true rfl) (Nat.le_of_ble_eq_true rfl) ?_
  refine W.eq (g2 := F0 m 4 ls []) rfl ?_
  refine lv_aload_n hx hb dX10_init_4 rfl (lv_at hl 0 rfl) ?_
  refine lv_iconst (v := 0) hx hb dX10_init_5 (by decide) ?_
  refine va_put (ci := 10) (v := .int 0) (ty := .int) (C := RX10) (T := TX10) (N := 2) hx hb hts cin_X10 tyX10 tyX10_ok nmX10 hown hK hP hD hS 0 rfl rfl 1 (by decide) (hts (Cond.fieldLink RX10 7 "ScoreForms$Text" "size" "I") (cme (i := 47) rfl)) (fun _ h9 => h9) rfl (by decide +kernel) rfl rfl (Nat.le_of_ble_eq_true rfl) dX10_init_6 (fun H locs hP hD hS => ?_)
  have hP : va_P D zcl [(h0, .inr (10, [.null, .int 0]))] H := hP
  have hD : va_D A [(h0, .inr (10, [.null, .int 0]))] := hD
  refine lv_aload_n hx hb dX10_init_9 rfl (lv_at hl 0 rfl) ?_
  refine lv_iload_n hx hb dX10_init_10 rfl (lv_at hl 1 rfl) ?_
  refine lv_iconst (v := 0) hx hb dX10_init_11 (by decide) ?_
  refine va_mmax hx hb (by rw [hml]; exact hl.1.symm) hown (hts (Cond.methodLink RX10 13 Lib.Math.max.name) (cme (i := 48) rfl)) (hts (Cond.static Lib.Math.max.name) (cme (i := 49) rfl)) (hts (Cond.initialized "java/lang/Math") (cme (i := 50) rfl)) (hts (Cond.code Lib.Math.max.name Lib.Math.max.code 2 (some .int)) (cme (i := 51) rfl)) (Nat.le_of_ble_eq_true rfl) (Nat.le_of_ble_eq_true rfl) (Nat.le_of_ble_eq_true rfl) (Nat.le_of_ble_eq_true rfl) dX10_init_12 ?_
  refine va_newa (N' := 24) (ty := .int) (a0 := (24, .inl (fun _ => 0))) hx hb (hts (Cond.arrayClass .int) (cme (i := 52) rfl)) rfl hK hP hD hS hA (fun _ => rfl) (by decide) (by decide) (by decide) (Nat.le_of_ble_eq_true rfl) (Nat.le_of_ble_eq_true rfl) dX10_init_15 (fun q1 c1 H hK hP hD hS => ?_)
  have hK : va_K D zcl [(c1, .int)] s := hK
  have hP : va_P D zcl [(h0, .inr (10, [.null, .int 0])), (q1, .inl (c1, 24, .inl (fun _ => 0)))] H := hP
  have hD : va_D A [(h0, .inr (10, [.null, .int 0])), (q1, .inl (c1, 24, .inl (fun _ => 0)))] := hD
  refine W.widen (k := 1) (n := 24) (Nat.le_of_ble_eq_true rfl) (Nat.le_of_ble_eq_true rfl) ?_
  refine va_putF (ci := 10) (v := .ref q1) (ty := .array .int) (C := RX10) (T := TX10) (N := 2) hx hb hts cin_X10 tyX10 tyX10_ok nmX10 hown hK hP hD hS 0 rfl rfl 0 (by decide) (hts (Cond.fieldLink RX10 19 "ScoreForms$Text" "bytes" "[I") (cme (i := 53) rfl)) (fun _ h9 => h9) rfl hin rfl (by decide +kernel) rfl rfl (Nat.le_of_ble_eq_true rfl) dX10_init_17 (fun H locs hP hD hS => ?_)
  have hP : va_P D zcl [(h0, .inr (10, [.ref q1, .int 0])), (q1, .inl (c1, 24, .inl (fun _ => 0)))] H := hP
  have hD : va_D A [(h0, .inr (10, [.ref q1, .int 0])), (q1, .inl (c1, 24, .inl (fun _ => 0)))] := hD
  exact W.vret hx hb hr (fun t ht hW => ⟨⟨(), rfl, trivial, q1, c1, by rw [ht]; exact hP, va_K.moved hW.alike hK, hD⟩, hS.F ht⟩) hS.2.2 dX10_init_20
