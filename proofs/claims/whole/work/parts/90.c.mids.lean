theorem dX6_init_0 : decode cX6_init 0 = .ok (.aload_n 0, 1) := by decide +kernel
theorem dX6_init_1 : decode cX6_init 1 = .ok (.invokespecial 3, 3) := by decide +kernel
theorem dX6_init_4 : decode cX6_init 4 = .ok (.aload_n 0, 1) := by decide +kernel
theorem dX6_init_5 : decode cX6_init 5 = .ok (.new 9, 3) := by decide +kernel
theorem dX6_init_8 : decode cX6_init 8 = .ok (.dup, 1) := by decide +kernel
theorem dX6_init_9 : decode cX6_init 9 = .ok (.bipush 24, 2) := by decide +kernel
theorem dX6_init_11 : decode cX6_init 11 = .ok (.invokespecial 11, 3) := by decide +kernel
theorem dX6_init_14 : decode cX6_init 14 = .ok (.putfield 14, 3) := by decide +kernel
theorem dX6_init_17 : decode cX6_init 17 = .ok (.aload_n 0, 1) := by decide +kernel
theorem dX6_init_18 : decode cX6_init 18 = .ok (.bipush 24, 2) := by decide +kernel
theorem dX6_init_20 : decode cX6_init 20 = .ok (.newarray .int, 2) := by decide +kernel
theorem dX6_init_22 : decode cX6_init 22 = .ok (.putfield 20, 3) := by decide +kernel
theorem dX6_init_25 : decode cX6_init 25 = .ok (.aload_n 0, 1) := by decide +kernel
theorem dX6_init_26 : decode cX6_init 26 = .ok (.iconst 0, 1) := by decide +kernel
theorem dX6_init_27 : decode cX6_init 27 = .ok (.putfield 24, 3) := by decide +kernel
theorem dX6_init_30 : decode cX6_init 30 = .ok (.aload_n 0, 1) := by decide +kernel
theorem dX6_init_31 : decode cX6_init 31 = .ok (.iconst (-1), 1) := by decide +kernel
theorem dX6_init_32 : decode cX6_init 32 = .ok (.putfield 28, 3) := by decide +kernel
theorem dX6_init_35 : decode cX6_init 35 = .ok (.return_, 1) := by decide +kernel
def akX6 (D : va_G) (A : Nat → Prop) (h0 : Nat) (t : State) : Prop := ∃ (q1 : Nat) (q2 : Nat) (c3 : ClassId) (q4 : Nat) (c4 : ClassId), va_P D zcl [(h0, .inr (6, [.ref q1, .ref q4, .int 0, .int (-1)])), (q1, .inr (0, [.ref q2, .int 0])), (q2, .inl (c3, 24, .inl (fun _ => 0))), (q4, .inl (c4, 24, .inl (fun _ => 0)))] t.heap ∧ va_K D zcl [(c3, .int), (c4, .int)] t ∧ va_D A [(h0, .inr (6, [.ref q1, .ref q4, .int 0, .int (-1)])), (q1, .inr (0, [.ref q2, .int 0])), (q2, .inl (c3, 24, .inl (fun _ => 0))), (q4, .inl (c4, 24, .inl (fun _ => 0)))]
set_option maxHeartbeats 4000000 in
set_option maxRecDepth 100000 in
theorem kX6 (l : Launch) (D : va_G) (h0 sz : Nat) : Met l yX6_init (Cond.code yX6_init cX6_init 1 none :: cT) { frames := 2, cells := 3, slots := 50, locals := 100 } (va_Pc [.ref h0] (cPre D [(h0, .inr (6, [.null, .null, .int 0, .int 0]))] sz)) (va_Qv (S := Unit) (fun _ => True) (fun _ t => akX6 D (va_A [(h0, .inr (6, [.null, .null, .int 0, .int 0]))] sz) h0 t) (va_A [(h0, .inr (6, [.null, .null, .int 0, .int 0]))] sz)) 3 50 (va_A [(h0, .inr (6, [.null, .null, .int 0, .int 0]))] sz) := by
  refine Met.ofW (cc := cX6_init) (maxL := 1) (ret := none) (by decide) rfl ?_
  intro p e s m args below meth c s₁ B hml hv
  obtain ⟨rfl, hsz, hP, hK, hD0, hns, ha10, ha8⟩ := hv
  have hx := B.exec
  have hb := B.bytes
  have hr := B.returns
  have hts := atoms_spec (ws := Cond.code yX6_init cX6_init 1 none :: cT) B.pre
  have hown : s.vm.findClass RX6 = some m.cls := findClass_of_methodNamed B.named
  have hlocks := B.notSynchronized
  have hin : meth.name = "<init>" := (name_of_methodNamed B.named B.method).1
  subst hsz
  have hD := hD0.self (sz := s.heap.size)
  generalize hAe : va_A [(h0, .inr (6, [.null, .null, .int 0, .int 0]))] s.heap.size = A at hD ⊢
  have hA : ∀ q : Nat, s.heap.size ≤ q → A q := fun q h => by rw [← hAe]; exact Or.inr h
  have hS : va_S A s.heap s.heap [] := va_S.rf
  have hP : va_P D zcl [(h0, .inr (6, [.null, .null, .int 0, .int 0]))] s.heap := hP
  have hl := lv_entry ([.ref h0]) (n := 1) (Nat.le_of_ble_eq_true rfl)
  rw [lg_entry_eq]
  generalize (lg_sl ([.ref h0]) ++ List.replicate (1 - (lg_sl ([.ref h0])).length) Slot.unset).toArray = ls at hl ⊢
  have hl : lv_has ls 1 [(0, .ref h0)] := hl
  refine lv_aload_n hx hb dX6_init_0 rfl (lv_at hl 0 rfl) ?_
  refine W.objInit hx hb hown (hts (Cond.methodLink RX6 3 objectInit) (cme (i := 56) rfl)) (hts (Cond.instanceMethod objectInit) (cme (i := 2) rfl)) (hts (Cond.code objectInit ⟨#[0xb1]⟩ 1 none) (cme (i := 3) rfl)) rfl (by rw [hml]; exact hl.1) rfl dX6_init_1 (Nat.le_of_ble_eq_true rfl) (Nat.le_of_ble_eq_true rfl) ?_
  refine W.eq (g2 := F0 m 4 ls []) rfl ?_
  refine lv_aload_n hx hb dX6_init_4 rfl (lv_at hl 0 rfl) ?_
  refine va_new (ci := 0) (fs := [.null, .int 0]) (C := RX0) (T := TX0) (N := 2) hx hb hts cin_X0 tyX0 tyX0_ok hown (hts (Cond.classLink RX6 9 RX0) (cme (i := 57) rfl)) (hts (Cond.instantiable RX0 2) (cme (i := 58) rfl)) (hts (Cond.initialized RX0) (cme (i := 59) rfl)) hK hP hD hS hA rfl (fun j hj => by match j, hj with | 0, _ => rfl | 1, _ => rfl | j + 2, h => omega) (Nat.le_of_ble_eq_true rfl) (Nat.le_of_ble_eq_true rfl) dX6_init_5 (fun q1 H hP hD hS => ?_)
  have hP : va_P D zcl [(h0, .inr (6, [.null, .null, .int 0, .int 0])), (q1, .inr (0, [.null, .int 0]))] H := hP
  have hD : va_D A [(h0, .inr (6, [.null, .null, .int 0, .int 0])), (q1, .inr (0, [.null, .int 0]))] := hD
  refine W.widen (k := 1) (n := 2) (Nat.le_of_ble_eq_true rfl) (Nat.le_of_ble_eq_true rfl) ?_
  refine lv_dup hx hb dX6_init_8 rfl ?_
  refine lv_bipush (v := 24) hx hb dX6_init_9 (by decide) ?_
  have hPc := hP.sub (ws' := [(q1, .inr (0, [.null, .int 0]))]) [1] rfl
  have hDc := hD.sub (ws' := [(q1, .inr (0, [.null, .int 0]))]) [1] (by decide) rfl
  have hKc := hK.sub (tys' := []) [] rfl
  have hFc := va_free (wc := [(q1, .inr (0, [.null, .int 0]))]) hD hS hA [1] rfl
  refine va_callv (va_runI (As := [.int 24]) (rest := [.ref q1, .ref h0]) ⟨hx, hb, hml, hown, hts⟩ (kX0_24 l D q1 H.size) (cwI 1 hts (cgood (cme2 (i := 66) rfl)) rfl rfl rfl (hts (Cond.initialized RX0) (cme (i := 59) rfl)) (hts (Cond.methodLink RX6 11 yX0_init) (cme (i := 64) rfl)) (hts (Cond.instanceMethod yX0_init) (cme (i := 65) rfl)) rfl (by decide +kernel) ⟨Nat.le_of_ble_eq_true rfl, Nat.le_of_ble_eq_true rfl⟩) ⟨cPre_blind, fun U hU hW => ⟨rfl, cPre_U hKc hPc hDc hns ha10 ha8 U hU hW⟩⟩ rfl rfl hl.1 rfl (lv_room (Nat.le_of_ble_eq_true rfl)) dX6_init_11 ⟨Nat.le_of_ble_eq_true rfl, Nat.le_of_ble_eq_true rfl⟩) hS (fun q _ h => hFc q h) hFc (fun u t H1 locs ht hvm _ hB hz1 hk1 hS => ?_)
  obtain ⟨q2, c3, hP1, hK1, hD1⟩ := hB
  rw [ht] at hP1
  have hK1 := va_K.moved hvm.symm hK1
  obtain ⟨hP, hD⟩ := va_join (wr := [(h0, .inr (6, [.null, .null, .int 0, .int 0]))]) (w1 := [(q1, .inr (0, [.ref q2, .int 0])), (q2, .inl (c3, 24, .inl (fun _ => 0)))]) hP hD [1] [0] rfl rfl (by decide) (by decide) hk1 hFc hP1 hD1
  have hK := (hK.sub (tys' := []) [] rfl).app hK1
  generalize H1 = H at hP hS ⊢
  have hP : va_P D zcl [(h0, .inr (6, [.null, .null, .int 0, .int 0])), (q1, .inr (0, [.ref q2, .int 0])), (q2, .inl (c3, 24, .inl (fun _ => 0)))] H := hP
  have hD : va_D A [(h0, .inr (6, [.null, .null, .int 0, .int 0])), (q1, .inr (0, [.ref q2, .int 0])), (q2, .inl (c3, 24, .inl (fun _ => 0)))] := hD
  have hK : va_K D zcl [(c3, .int)] s := hK
  refine W.widen (k := 2) (n := 26) (Nat.le_of_ble_eq_true rfl) (Nat.le_of_ble_eq_true rfl) ?_
  refine va_putF (ci := 6) (v := .ref q1) (ty := .object "ScoreForms$Bars") (C := RX6) (T := TX6) (N := 4) hx hb hts cin_X6 tyX6 tyX6_ok nmX6 hown hK hP hD hS 0 rfl rfl 0 (by decide) (hts (Cond.fieldLink RX6 14 "ScoreForms$Run" "bars" "LScoreForms$Bars;") (cme (i := 60) rfl)) (fun _ h9 => h9) rfl hin rfl (by decide +kernel) rfl rfl (Nat.le_of_ble_eq_true rfl) dX6_init_14 (fun H locs hP hD hS => ?_)
  have hP : va_P D zcl [(h0, .inr (6, [.ref q1, .null, .int 0, .int 0])), (q1, .inr (0, [.ref q2, .int 0])), (q2, .inl (c3, 24, .inl (fun _ => 0)))] H := hP
  have hD : va_D A [(h0, .inr (6, [.ref q1, .null, .int 0, .int 0])), (q1, .inr (0, [.ref q2, .int 0])), (q2, .inl (c3, 24, .inl (fun _ => 0)))] := hD
  refine lv_aload_n hx hb dX6_init_17 rfl (lv_at hl 0 rfl) ?_
  refine lv_bipush (v := 24) hx hb dX6_init_18 (by decide) ?_
  refine va_newa (atype := .int) (N' := 24) (ty := .int) (a0 := (24, .inl (fun _ => 0))) hx hb (hts (Cond.arrayClass .int) (cme (i := 52) rfl)) rfl hK hP hD hS hA (fun _ => rfl) (by decide) (by decide) (Nat.le_of_ble_eq_true rfl) (Nat.le_of_ble_eq_true rfl) (Nat.le_of_ble_eq_true rfl) dX6_init_20 (fun q4 c4 H hK hP hD hS => ?_)
  have hK : va_K D zcl [(c3, .int), (c4, .int)] s := hK
  have hP : va_P D zcl [(h0, .inr (6, [.ref q1, .null, .int 0, .int 0])), (q1, .inr (0, [.ref q2, .int 0])), (q2, .inl (c3, 24, .inl (fun _ => 0))), (q4, .inl (c4, 24, .inl (fun _ => 0)))] H := hP
  have hD : va_D A [(h0, .inr (6, [.ref q1, .null, .int 0, .int 0])), (q1, .inr (0, [.ref q2, .int 0])), (q2, .inl (c3, 24, .inl (fun _ => 0))), (q4, .inl (c4, 24, .inl (fun _ => 0)))] := hD
  refine W.widen (k := 3) (n := 50) (Nat.le_of_ble_eq_true rfl) (Nat.le_of_ble_eq_true rfl) ?_
  refine va_putF (ci := 6) (v := .ref q4) (ty := .array .int) (C := RX6) (T := TX6) (N := 4) hx hb hts cin_X6 tyX6 tyX6_ok nmX6 hown hK hP hD hS 0 rfl rfl 1 (by decide) (hts (Cond.fieldLink RX6 20 "ScoreForms$Run" "numbers" "[I") (cme (i := 61) rfl)) (fun _ h9 => h9) rfl hin rfl (by decide +kernel) rfl rfl (Nat.le_of_ble_eq_true rfl) dX6_init_22 (fun H locs hP hD hS => ?_)
  have hP : va_P D zcl [(h0, .inr (6, [.ref q1, .ref q4, .int 0, .int 0])), (q1, .inr (0, [.ref q2, .int 0])), (q2, .inl (c3, 24, .inl (fun _ => 0))), (q4, .inl (c4, 24, .inl (fun _ => 0)))] H := hP
  have hD : va_D A [(h0, .inr (6, [.ref q1, .ref q4, .int 0, .int 0])), (q1, .inr (0, [.ref q2, .int 0])), (q2, .inl (c3, 24, .inl (fun _ => 0))), (q4, .inl (c4, 24, .inl (fun _ => 0)))] := hD
  refine lv_aload_n hx hb dX6_init_25 rfl (lv_at hl 0 rfl) ?_
  refine lv_iconst (v := 0) hx hb dX6_init_26 (by decide) ?_
  refine va_put (ci := 6) (v := .int 0) (ty := .int) (C := RX6) (T := TX6) (N := 4) hx hb hts cin_X6 tyX6 tyX6_ok nmX6 hown hK hP hD hS 0 rfl rfl 2 (by decide) (hts (Cond.fieldLink RX6 24 "ScoreForms$Run" "unlike" "I") (cme (i := 62) rfl)) (fun _ h9 => h9) rfl (by decide +kernel) rfl rfl (Nat.le_of_ble_eq_true rfl) dX6_init_27 (fun H locs hP hD hS => ?_)
  have hP : va_P D zcl [(h0, .inr (6, [.ref q1, .ref q4, .int 0, .int 0])), (q1, .inr (0, [.ref q2, .int 0])), (q2, .inl (c3, 24, .inl (fun _ => 0))), (q4, .inl (c4, 24, .inl (fun _ => 0)))] H := hP
  have hD : va_D A [(h0, .inr (6, [.ref q1, .ref q4, .int 0, .int 0])), (q1, .inr (0, [.ref q2, .int 0])), (q2, .inl (c3, 24, .inl (fun _ => 0))), (q4, .inl (c4, 24, .inl (fun _ => 0)))] := hD
  refine lv_aload_n hx hb dX6_init_30 rfl (lv_at hl 0 rfl) ?_
  refine lv_iconst (v := (-1)) hx hb dX6_init_31 (by decide) ?_
  refine va_put (ci := 6) (v := .int (-1)) (ty := .int) (C := RX6) (T := TX6) (N := 4) hx hb hts cin_X6 tyX6 tyX6_ok nmX6 hown hK hP hD hS 0 rfl rfl 3 (by decide) (hts (Cond.fieldLink RX6 28 "ScoreForms$Run" "faultPlace" "I") (cme (i := 63) rfl)) (fun _ h9 => h9) rfl (by decide +kernel) rfl rfl (Nat.le_of_ble_eq_true rfl) dX6_init_32 (fun H locs hP hD hS => ?_)
  have hP : va_P D zcl [(h0, .inr (6, [.ref q1, .ref q4, .int 0, .int (-1)])), (q1, .inr (0, [.ref q2, .int 0])), (q2, .inl (c3, 24, .inl (fun _ => 0))), (q4, .inl (c4, 24, .inl (fun _ => 0)))] H := hP
  have hD : va_D A [(h0, .inr (6, [.ref q1, .ref q4, .int 0, .int (-1)])), (q1, .inr (0, [.ref q2, .int 0])), (q2, .inl (c3, 24, .inl (fun _ => 0))), (q4, .inl (c4, 24, .inl (fun _ => 0)))] := hD
  exact W.vret hx hb hr (fun t ht hW => ⟨⟨(), rfl, trivial, q1, q2, c3, q4, c4, by rw [ht]; exact hP, va_K.moved hW.alike hK, hD⟩, hS.F ht⟩) hS.2.2 dX6_init_35
theorem dX7_init_0 : decode cX7_init 0 = .ok (.aload_n 0, 1) := by decide +kernel
theorem dX7_init_1 : decode cX7_init 1 = .ok (.invokespecial 3, 3) := by decide +kernel
theorem dX7_init_4 : decode cX7_init 4 = .ok (.aload_n 0, 1) := by decide +kernel
theorem dX7_init_5 : decode cX7_init 5 = .ok (.new 9, 3) := by decide +kernel
theorem dX7_init_8 : decode cX7_init 8 = .ok (.dup, 1) := by decide +kernel
theorem dX7_init_9 : decode cX7_init 9 = .ok (.bipush 40, 2) := by decide +kernel
theorem dX7_init_11 : decode cX7_init 11 = .ok (.invokespecial 11, 3) := by decide +kernel
theorem dX7_init_14 : decode cX7_init 14 = .ok (.putfield 14, 3) := by decide +kernel
theorem dX7_init_17 : decode cX7_init 17 = .ok (.aload_n 0, 1) := by decide +kernel
theorem dX7_init_18 : decode cX7_init 18 = .ok (.new 20, 3) := by decide +kernel
theorem dX7_init_21 : decode cX7_init 21 = .ok (.dup, 1) := by decide +kernel
theorem dX7_init_22 : decode cX7_init 22 = .ok (.invokespecial 22, 3) := by decide +kernel
theorem dX7_init_25 : decode cX7_init 25 = .ok (.putfield 23, 3) := by decide +kernel
theorem dX7_init_28 : decode cX7_init 28 = .ok (.aload_n 0, 1) := by decide +kernel
theorem dX7_init_29 : decode cX7_init 29 = .ok (.new 27, 3) := by decide +kernel
theorem dX7_init_32 : decode cX7_init 32 = .ok (.dup, 1) := by decide +kernel
theorem dX7_init_33 : decode cX7_init 33 = .ok (.invokespecial 29, 3) := by decide +kernel
theorem dX7_init_36 : decode cX7_init 36 = .ok (.putfield 30, 3) := by decide +kernel
theorem dX7_init_39 : decode cX7_init 39 = .ok (.aload_n 0, 1) := by decide +kernel
theorem dX7_init_40 : decode cX7_init 40 = .ok (.iconst 0, 1) := by decide +kernel
theorem dX7_init_41 : decode cX7_init 41 = .ok (.putfield 34, 3) := by decide +kernel
theorem dX7_init_44 : decode cX7_init 44 = .ok (.aload_n 0, 1) := by decide +kernel
theorem dX7_init_45 : decode cX7_init 45 = .ok (.iconst 0, 1) := by decide +kernel
theorem dX7_init_46 : decode cX7_init 46 = .ok (.putfield 38, 3) := by decide +kernel
theorem dX7_init_49 : decode cX7_init 49 = .ok (.aload_n 0, 1) := by decide +kernel
theorem dX7_init_50 : decode cX7_init 50 = .ok (.iconst (-1), 1) := by decide +kernel
theorem dX7_init_51 : decode cX7_init 51 = .ok (.putfield 41, 3) := by decide +kernel
theorem dX7_init_54 : decode cX7_init 54 = .ok (.aload_n 0, 1) := by decide +kernel
theorem dX7_init_55 : decode cX7_init 55 = .ok (.iconst 0, 1) := by decide +kernel
theorem dX7_init_56 : decode cX7_init 56 = .ok (.putfield 44, 3) := by decide +kernel
theorem dX7_init_59 : decode cX7_init 59 = .ok (.return_, 1) := by decide +kernel
def akX7 (D : va_G) (A : Nat → Prop) (h0 : Nat) (t : State) : Prop := ∃ (q1 : Nat) (q2 : Nat) (c3 : ClassId) (q4 : Nat) (q5 : Nat) (c6 : ClassId) (q7 : Nat) (c8 : ClassId) (q9 : Nat) (q10 : Nat) (c11 : ClassId) (q12 : Nat) (c13 : ClassId) (q14 : Nat) (c15 : ClassId), va_P D zcl [(h0, .inr (7, [.ref q1, .ref q4, .ref q9, .int 0, .int 0, .int (-1), .int 0])), (q1, .inr (0, [.ref q2, .int 0])), (q2, .inl (c3, 40, .inl (fun _ => 0))), (q4, .inr (1, [.ref q5, .ref q7, .int 0, .int 0, .int 1, .int 0])), (q5, .inl (c6, 3, .inl (fun _ => 0))), (q7, .inl (c8, 3, .inl (fun _ => 0))), (q9, .inr (4, [.ref q10, .int 0, .ref q12, .ref q14, .int 0, .int 0, .int 0])), (q10, .inl (c11, 640, .inl (fun _ => 0))), (q12, .inl (c13, 3, .inl (fun _ => 0))), (q14, .inl (c15, 3, .inl (fun _ => 0)))] t.heap ∧ va_K D zcl [(c3, .int), (c6, .int), (c8, .int), (c11, .int), (c13, .int), (c15, .int)] t ∧ va_D A [(h0, .inr (7, [.ref q1, .ref q4, .ref q9, .int 0, .int 0, .int (-1), .int 0])), (q1, .inr (0, [.ref q2, .int 0])), (q2, .inl (c3, 40, .inl (fun _ => 0))), (q4, .inr (1, [.ref q5, .ref q7, .int 0, .int 0, .int 1, .int 0])), (q5, .inl (c6, 3, .inl (fun _ => 0))), (q7, .inl (c8, 3, .inl (fun _ => 0))), (q9, .inr (4, [.ref q10, .int 0, .ref q12, .ref q14, .int 0, .int 0, .int 0])), (q10, .inl (c11, 640, .inl (fun _ => 0))), (q12, .inl (c13, 3, .inl (fun _ => 0))), (q14, .inl (c15, 3, .inl (fun _ => 0)))]
set_option maxHeartbeats 4000000 in
set_option maxRecDepth 100000 in
theorem kX7 (l : Launch) (D : va_G) (h0 sz : Nat) : Met l yX7_init (Cond.code yX7_init cX7_init 1 none :: cT) { frames := 2, cells := 9, slots := 707, locals := 100 } (va_Pc [.ref h0] (cPre D [(h0, .inr (7, [.null, .null, .null, .int 0, .int 0, .int 0, .int 0]))] sz)) (va_Qv (S := Unit) (fun _ => True) (fun _ t => akX7 D (va_A [(h0, .inr (7, [.null, .null, .null, .int 0, .int 0, .int 0, .int 0]))] sz) h0 t) (va_A [(h0, .inr (7, [.null, .null, .null, .int 0, .int 0, .int 0, .int 0]))] sz)) 9 707 (va_A [(h0, .inr (7, [.null, .null, .null, .int 0, .int 0, .int 0, .int 0]))] sz) := by
  refine Met.ofW (cc := cX7_init) (maxL := 1) (ret := none) (by decide) rfl ?_
  intro p e s m args below meth c s₁ B hml hv
  obtain ⟨rfl, hsz, hP, hK, hD0, hns, ha10, ha8⟩ := hv
  have hx := B.exec
  have hb := B.bytes
  have hr := B.returns
  have hts := atoms_spec (ws := Cond.code yX7_init cX7_init 1 none :: cT) B.pre
  have hown : s.vm.findClass RX7 = some m.cls := findClass_of_methodNamed B.named
  have hlocks := B.notSynchronized
  have hin : meth.name = "<init>" := (name_of_methodNamed B.named B.method).1
  subst hsz
  have hD := hD0.self (sz := s.heap.size)
  generalize hAe : va_A [(h0, .inr (7, [.null, .null, .null, .int 0, .int 0, .int 0, .int 0]))] s.heap.size = A at hD ⊢
  have hA : ∀ q : Nat, s.heap.size ≤ q → A q := fun q h => by rw [← hAe]; exact Or.inr h
  have hS : va_S A s.heap s.heap [] := va_S.rf
  have hP : va_P D zcl [(h0, .inr (7, [.null, .null, .null, .int 0, .int 0, .int 0, .int 0]))] s.heap := hP
  have hl := lv_entry ([.ref h0]) (n := 1) (Nat.le_of_ble_eq_true rfl)
  rw [lg_entry_eq]
  generalize (lg_sl ([.ref h0]) ++ List.replicate (1 - (lg_sl ([.ref h0])).length) Slot.unset).toArray = ls at hl ⊢
  have hl : lv_has ls 1 [(0, .ref h0)] := hl
  refine lv_aload_n hx hb dX7_init_0 rfl (lv_at hl 0 rfl) ?_
  refine W.objInit hx hb hown (hts (Cond.methodLink RX7 3 objectInit) (cme (i := 73) rfl)) (hts (Cond.instanceMethod objectInit) (cme (i := 2) rfl)) (hts (Cond.code objectInit ⟨#[0xb1]⟩ 1 none) (cme (i := 3) rfl)) rfl (by rw [hml]; exact hl.1) rfl dX7_init_1 (Nat.le_of_ble_eq_true rfl) (Nat.le_of_ble_eq_true rfl) ?_
  refine W.eq (g2 := F0 m 4 ls []) rfl ?_
  refine lv_aload_n hx hb dX7_init_4 rfl (lv_at hl 0 rfl) ?_
  refine va_new (ci := 0) (fs := [.null, .int 0]) (C := RX0) (T := TX0) (N := 2) hx hb hts cin_X0 tyX0 tyX0_ok hown (hts (Cond.classLink RX7 9 RX0) (cme (i := 74) rfl)) (hts (Cond.instantiable RX0 2) (cme (i := 58) rfl)) (hts (Cond.initialized RX0) (cme (i := 59) rfl)) hK hP hD hS hA rfl (fun j hj => by match j, hj with | 0, _ => rfl | 1, _ => rfl | j + 2, h => omega) (Nat.le_of_ble_eq_true rfl) (Nat.le_of_ble_eq_true rfl) dX7_init_5 (fun q1 H hP hD hS => ?_)
  have hP : va_P D zcl [(h0, .inr (7, [.null, .null, .null, .int 0, .int 0, .int 0, .int 0])), (q1, .inr (0, [.null, .int 0]))] H := hP
  have hD : va_D A [(h0, .inr (7, [.null, .null, .null, .int 0, .int 0, .int 0, .int 0])), (q1, .inr (0, [.null, .int 0]))] := hD
  refine W.widen (k := 1) (n := 2) (Nat.le_of_ble_eq_true rfl) (Nat.le_of_ble_eq_true rfl) ?_
  refine lv_dup hx hb dX7_init_8 rfl ?_
  refine lv_bipush (v := 40) hx hb dX7_init_9 (by decide) ?_
  have hPc := hP.sub (ws' := [(q1, .inr (0, [.null, .int 0]))]) [1] rfl
  have hDc := hD.sub (ws' := [(q1, .inr (0, [.null, .int 0]))]) [1] (by decide) rfl
  have hKc := hK.sub (tys' := []) [] rfl
  have hFc := va_free (wc := [(q1, .inr (0, [.null, .int 0]))]) hD hS hA [1] rfl
  refine va_callv (va_runI (As := [.int 40]) (rest := [.ref q1, .ref h0]) ⟨hx, hb, hml, hown, hts⟩ (kX0_40 l D q1 H.size) (cwI 1 hts (cgood (cme2 (i := 66) rfl)) rfl rfl rfl (hts (Cond.initialized RX0) (cme (i := 59) rfl)) (hts (Cond.methodLink RX7 11 yX0_init) (cme (i := 88) rfl)) (hts (Cond.instanceMethod yX0_init) (cme (i := 65) rfl)) rfl (by decide +kernel) ⟨Nat.le_of_ble_eq_true rfl, Nat.le_of_ble_eq_true rfl⟩) ⟨cPre_blind, fun U hU hW => ⟨rfl, cPre_U hKc hPc hDc hns ha10 ha8 U hU hW⟩⟩ rfl rfl hl.1 rfl (lv_room (Nat.le_of_ble_eq_true rfl)) dX7_init_11 ⟨Nat.le_of_ble_eq_true rfl, Nat.le_of_ble_eq_true rfl⟩) hS (fun q _ h => hFc q h) hFc (fun u t H1 locs ht hvm _ hB hz1 hk1 hS => ?_)
  obtain ⟨q2, c3, hP1, hK1, hD1⟩ := hB
  rw [ht] at hP1
  have hK1 := va_K.moved hvm.symm hK1
  obtain ⟨hP, hD⟩ := va_join (wr := [(h0, .inr (7, [.null, .null, .null, .int 0, .int 0, .int 0, .int 0]))]) (w1 := [(q1, .inr (0, [.ref q2, .int 0])), (q2, .inl (c3, 40, .inl (fun _ => 0)))]) hP hD [1] [0] rfl rfl (by decide) (by decide) hk1 hFc hP1 hD1
  have hK := (hK.sub (tys' := []) [] rfl).app hK1
  generalize H1 = H at hP hS ⊢
  have hP : va_P D zcl [(h0, .inr (7, [.null, .null, .null, .int 0, .int 0, .int 0, .int 0])), (q1, .inr (0, [.ref q2, .int 0])), (q2, .inl (c3, 40, .inl (fun _ => 0)))] H := hP
  have hD : va_D A [(h0, .inr (7, [.null, .null, .null, .int 0, .int 0, .int 0, .int 0])), (q1, .inr (0, [.ref q2, .int 0])), (q2, .inl (c3, 40, .inl (fun _ => 0)))] := hD
  have hK : va_K D zcl [(c3, .int)] s := hK
  refine W.widen (k := 2) (n := 42) (Nat.le_of_ble_eq_true rfl) (Nat.le_of_ble_eq_true rfl) ?_
  refine va_putF (ci := 7) (v := .ref q1) (ty := .object "ScoreForms$Bars") (C := RX7) (T := TX7) (N := 7) hx hb hts cin_X7 tyX7 tyX7_ok nmX7 hown hK hP hD hS 0 rfl rfl 0 (by decide) (hts (Cond.fieldLink RX7 14 "ScoreForms$Score" "printed" "LScoreForms$Bars;") (cme (i := 75) rfl)) (fun _ h9 => h9) rfl hin rfl (by decide +kernel) rfl rfl (Nat.le_of_ble_eq_true rfl) dX7_init_14 (fun H locs hP hD hS => ?_)
  have hP : va_P D zcl [(h0, .inr (7, [.ref q1, .null, .null, .int 0, .int 0, .int 0, .int 0])), (q1, .inr (0, [.ref q2, .int 0])), (q2, .inl (c3, 40, .inl (fun _ => 0)))] H := hP
  have hD : va_D A [(h0, .inr (7, [.ref q1, .null, .null, .int 0, .int 0, .int 0, .int 0])), (q1, .inr (0, [.ref q2, .int 0])), (q2, .inl (c3, 40, .inl (fun _ => 0)))] := hD
  refine lv_aload_n hx hb dX7_init_17 rfl (lv_at hl 0 rfl) ?_
  refine va_new (ci := 1) (fs := [.null, .null, .int 0, .int 0, .int 0, .int 0]) (C := RX1) (T := TX1) (N := 6) hx hb hts cin_X1 tyX1 tyX1_ok hown (hts (Cond.classLink RX7 20 RX1) (cme (i := 76) rfl)) (hts (Cond.instantiable RX1 6) (cme (i := 77) rfl)) (hts (Cond.initialized RX1) (cme (i := 78) rfl)) hK hP hD hS hA rfl (fun j hj => by match j, hj with | 0, _ => rfl | 1, _ => rfl | 2, _ => rfl | 3, _ => rfl | 4, _ => rfl | 5, _ => rfl | j + 6, h => omega) (Nat.le_of_ble_eq_true rfl) (Nat.le_of_ble_eq_true rfl) dX7_init_18 (fun q4 H hP hD hS => ?_)
  have hP : va_P D zcl [(h0, .inr (7, [.ref q1, .null, .null, .int 0, .int 0, .int 0, .int 0])), (q1, .inr (0, [.ref q2, .int 0])), (q2, .inl (c3, 40, .inl (fun _ => 0))), (q4, .inr (1, [.null, .null, .int 0, .int 0, .int 0, .int 0]))] H := hP
  have hD : va_D A [(h0, .inr (7, [.ref q1, .null, .null, .int 0, .int 0, .int 0, .int 0])), (q1, .inr (0, [.ref q2, .int 0])), (q2, .inl (c3, 40, .inl (fun _ => 0))), (q4, .inr (1, [.null, .null, .int 0, .int 0, .int 0, .int 0]))] := hD
  refine W.widen (k := 3) (n := 48) (Nat.le_of_ble_eq_true rfl) (Nat.le_of_ble_eq_true rfl) ?_
  refine lv_dup hx hb dX7_init_21 rfl ?_
  have hPc := hP.sub (ws' := [(q4, .inr (1, [.null, .null, .int 0, .int 0, .int 0, .int 0]))]) [3] rfl
  have hDc := hD.sub (ws' := [(q4, .inr (1, [.null, .null, .int 0, .int 0, .int 0, .int 0]))]) [3] (by decide) rfl
  have hKc := hK.sub (tys' := []) [] rfl
  have hFc := va_free (wc := [(q4, .inr (1, [.null, .null, .int 0, .int 0, .int 0, .int 0]))]) hD hS hA [3] rfl
  refine va_callv (va_runIN (As := []) (rest := [.ref q4, .ref h0]) ⟨hx, hb, hml, hown, hts⟩ (kX1 l D q4 H.size) ⟨va_cnB 0 hts (cgood (cme2 (i := 90) rfl)) rfl rfl rfl (hns _ (List.mem_of_getElem? (i := 2) rfl)) (hts (Cond.initialized RX1) (cme (i := 78) rfl)) (by decide +kernel) ⟨Nat.le_of_ble_eq_true rfl, Nat.le_of_ble_eq_true rfl⟩, rfl, (hts (Cond.instanceMethod yX1_init) (cme (i := 89) rfl))⟩ ⟨cPre_blind, fun U hU hW => ⟨rfl, cPre_U hKc hPc hDc hns ha10 ha8 U hU hW⟩⟩ rfl rfl hl.1 rfl (lv_room (Nat.le_of_ble_eq_true rfl)) dX7_init_22 ⟨Nat.le_of_ble_eq_true rfl, Nat.le_of_ble_eq_true rfl⟩) hS (fun q _ h => hFc q h) hFc (fun u t H1 locs ht hvm _ hB hz1 hk1 hS => ?_)
  obtain ⟨q5, c6, q7, c8, hP1, hK1, hD1⟩ := hB
  rw [ht] at hP1
  have hK1 := va_K.moved hvm.symm hK1
  obtain ⟨hP, hD⟩ := va_join (wr := [(h0, .inr (7, [.ref q1, .null, .null, .int 0, .int 0, .int 0, .int 0])), (q1, .inr (0, [.ref q2, .int 0])), (q2, .inl (c3, 40, .inl (fun _ => 0)))]) (w1 := [(q4, .inr (1, [.ref q5, .ref q7, .int 0, .int 0, .int 1, .int 0])), (q5, .inl (c6, 3, .inl (fun _ => 0))), (q7, .inl (c8, 3, .inl (fun _ => 0)))]) hP hD [3] [0, 1, 2] rfl rfl (by decide) (by decide) hk1 hFc hP1 hD1
  have hK := (hK.sub (tys' := [(c3, .int)]) [0] rfl).app hK1
  generalize H1 = H at hP hS ⊢
  have hP : va_P D zcl [(h0, .inr (7, [.ref q1, .null, .null, .int 0, .int 0, .int 0, .int 0])), (q1, .inr (0, [.ref q2, .int 0])), (q2, .inl (c3, 40, .inl (fun _ => 0))), (q4, .inr (1, [.ref q5, .ref q7, .int 0, .int 0, .int 1, .int 0])), (q5, .inl (c6, 3, .inl (fun _ => 0))), (q7, .inl (c8, 3, .inl (fun _ => 0)))] H := hP
  have hD : va_D A [(h0, .inr (7, [.ref q1, .null, .null, .int 0, .int 0, .int 0, .int 0])), (q1, .inr (0, [.ref q2, .int 0])), (q2, .inl (c3, 40, .inl (fun _ => 0))), (q4, .inr (1, [.ref q5, .ref q7, .int 0, .int 0, .int 1, .int 0])), (q5, .inl (c6, 3, .inl (fun _ => 0))), (q7, .inl (c8, 3, .inl (fun _ => 0)))] := hD
  have hK : va_K D zcl [(c3, .int), (c6, .int), (c8, .int)] s := hK
  refine W.widen (k := 5) (n := 54) (Nat.le_of_ble_eq_true rfl) (Nat.le_of_ble_eq_true rfl) ?_
  refine va_putF (ci := 7) (v := .ref q4) (ty := .object "ScoreForms$Grammar") (C := RX7) (T := TX7) (N := 7) hx hb hts cin_X7 tyX7 tyX7_ok nmX7 hown hK hP hD hS 0 rfl rfl 1 (by decide) (hts (Cond.fieldLink RX7 23 "ScoreForms$Score" "grammar" "LScoreForms$Grammar;") (cme (i := 79) rfl)) (fun _ h9 => h9) rfl hin rfl (by decide +kernel) rfl rfl (Nat.le_of_ble_eq_true rfl) dX7_init_25 (fun H locs hP hD hS => ?_)
  have hP : va_P D zcl [(h0, .inr (7, [.ref q1, .ref q4, .null, .int 0, .int 0, .int 0, .int 0])), (q1, .inr (0, [.ref q2, .int 0])), (q2, .inl (c3, 40, .inl (fun _ => 0))), (q4, .inr (1, [.ref q5, .ref q7, .int 0, .int 0, .int 1, .int 0])), (q5, .inl (c6, 3, .inl (fun _ => 0))), (q7, .inl (c8, 3, .inl (fun _ => 0)))] H := hP
  have hD : va_D A [(h0, .inr (7, [.ref q1, .ref q4, .null, .int 0, .int 0, .int 0, .int 0])), (q1, .inr (0, [.ref q2, .int 0])), (q2, .inl (c3, 40, .inl (fun _ => 0))), (q4, .inr (1, [.ref q5, .ref q7, .int 0, .int 0, .int 1, .int 0])), (q5, .inl (c6, 3, .inl (fun _ => 0))), (q7, .inl (c8, 3, .inl (fun _ => 0)))] := hD
  refine lv_aload_n hx hb dX7_init_28 rfl (lv_at hl 0 rfl) ?_
  refine va_new (ci := 4) (fs := [.null, .int 0, .null, .null, .int 0, .int 0, .int 0]) (C := RX4) (T := TX4) (N := 7) hx hb hts cin_X4 tyX4 tyX4_ok hown (hts (Cond.classLink RX7 27 RX4) (cme (i := 80) rfl)) (hts (Cond.instantiable RX4 7) (cme (i := 81) rfl)) (hts (Cond.initialized RX4) (cme (i := 82) rfl)) hK hP hD hS hA rfl (fun j hj => by match j, hj with | 0, _ => rfl | 1, _ => rfl | 2, _ => rfl | 3, _ => rfl | 4, _ => rfl | 5, _ => rfl | 6, _ => rfl | j + 7, h => omega) (Nat.le_of_ble_eq_true rfl) (Nat.le_of_ble_eq_true rfl) dX7_init_29 (fun q9 H hP hD hS => ?_)
  have hP : va_P D zcl [(h0, .inr (7, [.ref q1, .ref q4, .null, .int 0, .int 0, .int 0, .int 0])), (q1, .inr (0, [.ref q2, .int 0])), (q2, .inl (c3, 40, .inl (fun _ => 0))), (q4, .inr (1, [.ref q5, .ref q7, .int 0, .int 0, .int 1, .int 0])), (q5, .inl (c6, 3, .inl (fun _ => 0))), (q7, .inl (c8, 3, .inl (fun _ => 0))), (q9, .inr (4, [.null, .int 0, .null, .null, .int 0, .int 0, .int 0]))] H := hP
  have hD : va_D A [(h0, .inr (7, [.ref q1, .ref q4, .null, .int 0, .int 0, .int 0, .int 0])), (q1, .inr (0, [.ref q2, .int 0])), (q2, .inl (c3, 40, .inl (fun _ => 0))), (q4, .inr (1, [.ref q5, .ref q7, .int 0, .int 0, .int 1, .int 0])), (q5, .inl (c6, 3, .inl (fun _ => 0))), (q7, .inl (c8, 3, .inl (fun _ => 0))), (q9, .inr (4, [.null, .int 0, .null, .null, .int 0, .int 0, .int 0]))] := hD
  refine W.widen (k := 6) (n := 61) (Nat.le_of_ble_eq_true rfl) (Nat.le_of_ble_eq_true rfl) ?_
  refine lv_dup hx hb dX7_init_32 rfl ?_
  have hPc := hP.sub (ws' := [(q9, .inr (4, [.null, .int 0, .null, .null, .int 0, .int 0, .int 0]))]) [6] rfl
  have hDc := hD.sub (ws' := [(q9, .inr (4, [.null, .int 0, .null, .null, .int 0, .int 0, .int 0]))]) [6] (by decide) rfl
  have hKc := hK.sub (tys' := []) [] rfl
  have hFc := va_free (wc := [(q9, .inr (4, [.null, .int 0, .null, .null, .int 0, .int 0, .int 0]))]) hD hS hA [6] rfl
  refine va_callv (va_runIN (As := []) (rest := [.ref q9, .ref h0]) ⟨hx, hb, hml, hown, hts⟩ (kX4 l D q9 H.size) ⟨va_cnB 0 hts (cgood (cme2 (i := 99) rfl)) rfl rfl rfl (hns _ (List.mem_of_getElem? (i := 3) rfl)) (hts (Cond.initialized RX4) (cme (i := 82) rfl)) (by decide +kernel) ⟨Nat.le_of_ble_eq_true rfl, Nat.le_of_ble_eq_true rfl⟩, rfl, (hts (Cond.instanceMethod yX4_init) (cme (i := 98) rfl))⟩ ⟨cPre_blind, fun U hU hW => ⟨rfl, cPre_U hKc hPc hDc hns ha10 ha8 U hU hW⟩⟩ rfl rfl hl.1 rfl (lv_room (Nat.le_of_ble_eq_true rfl)) dX7_init_33 ⟨Nat.le_of_ble_eq_true rfl, Nat.le_of_ble_eq_true rfl⟩) hS (fun q _ h => hFc q h) hFc (fun u t H1 locs ht hvm _ hB hz1 hk1 hS => ?_)
  obtain ⟨q10, c11, q12, c13, q14, c15, hP1, hK1, hD1⟩ := hB
  rw [ht] at hP1
  have hK1 := va_K.moved hvm.symm hK1
  obtain ⟨hP, hD⟩ := va_join (wr := [(h0, .inr (7, [.ref q1, .ref q4, .null, .int 0, .int 0, .int 0, .int 0])), (q1, .inr (0, [.ref q2, .int 0])), (q2, .inl (c3, 40, .inl (fun _ => 0))), (q4, .inr (1, [.ref q5, .ref q7, .int 0, .int 0, .int 1, .int 0])), (q5, .inl (c6, 3, .inl (fun _ => 0))), (q7, .inl (c8, 3, .inl (fun _ => 0)))]) (w1 := [(q9, .inr (4, [.ref q10, .int 0, .ref q12, .ref q14, .int 0, .int 0, .int 0])), (q10, .inl (c11, 640, .inl (fun _ => 0))), (q12, .inl (c13, 3, .inl (fun _ => 0))), (q14, .inl (c15, 3, .inl (fun _ => 0)))]) hP hD [6] [0, 1, 2, 3, 4, 5] rfl rfl (by decide) (by decide) hk1 hFc hP1 hD1
  have hK := (hK.sub (tys' := [(c3, .int), (c6, .int), (c8, .int)]) [0, 1, 2] rfl).app hK1
  generalize H1 = H at hP hS ⊢
  have hP : va_P D zcl [(h0, .inr (7, [.ref q1, .ref q4, .null, .int 0, .int 0, .int 0, .int 0])), (q1, .inr (0, [.ref q2, .int 0])), (q2, .inl (c3, 40, .inl (fun _ => 0))), (q4, .inr (1, [.ref q5, .ref q7, .int 0, .int 0, .int 1, .int 0])), (q5, .inl (c6, 3, .inl (fun _ => 0))), (q7, .inl (c8, 3, .inl (fun _ => 0))), (q9, .inr (4, [.ref q10, .int 0, .ref q12, .ref q14, .int 0, .int 0, .int 0])), (q10, .inl (c11, 640, .inl (fun _ => 0))), (q12, .inl (c13, 3, .inl (fun _ => 0))), (q14, .inl (c15, 3, .inl (fun _ => 0)))] H := hP
  have hD : va_D A [(h0, .inr (7, [.ref q1, .ref q4, .null, .int 0, .int 0, .int 0, .int 0])), (q1, .inr (0, [.ref q2, .int 0])), (q2, .inl (c3, 40, .inl (fun _ => 0))), (q4, .inr (1, [.ref q5, .ref q7, .int 0, .int 0, .int 1, .int 0])), (q5, .inl (c6, 3, .inl (fun _ => 0))), (q7, .inl (c8, 3, .inl (fun _ => 0))), (q9, .inr (4, [.ref q10, .int 0, .ref q12, .ref q14, .int 0, .int 0, .int 0])), (q10, .inl (c11, 640, .inl (fun _ => 0))), (q12, .inl (c13, 3, .inl (fun _ => 0))), (q14, .inl (c15, 3, .inl (fun _ => 0)))] := hD
  have hK : va_K D zcl [(c3, .int), (c6, .int), (c8, .int), (c11, .int), (c13, .int), (c15, .int)] s := hK
  refine W.widen (k := 9) (n := 707) (Nat.le_of_ble_eq_true rfl) (Nat.le_of_ble_eq_true rfl) ?_
  refine va_putF (ci := 7) (v := .ref q9) (ty := .object "ScoreForms$Player") (C := RX7) (T := TX7) (N := 7) hx hb hts cin_X7 tyX7 tyX7_ok nmX7 hown hK hP hD hS 0 rfl rfl 2 (by decide) (hts (Cond.fieldLink RX7 30 "ScoreForms$Score" "player" "LScoreForms$Player;") (cme (i := 83) rfl)) (fun _ h9 => h9) rfl hin rfl (by decide +kernel) rfl rfl (Nat.le_of_ble_eq_true rfl) dX7_init_36 (fun H locs hP hD hS => ?_)
  have hP : va_P D zcl [(h0, .inr (7, [.ref q1, .ref q4, .ref q9, .int 0, .int 0, .int 0, .int 0])), (q1, .inr (0, [.ref q2, .int 0])), (q2, .inl (c3, 40, .inl (fun _ => 0))), (q4, .inr (1, [.ref q5, .ref q7, .int 0, .int 0, .int 1, .int 0])), (q5, .inl (c6, 3, .inl (fun _ => 0))), (q7, .inl (c8, 3, .inl (fun _ => 0))), (q9, .inr (4, [.ref q10, .int 0, .ref q12, .ref q14, .int 0, .int 0, .int 0])), (q10, .inl (c11, 640, .inl (fun _ => 0))), (q12, .inl (c13, 3, .inl (fun _ => 0))), (q14, .inl (c15, 3, .inl (fun _ => 0)))] H := hP
  have hD : va_D A [(h0, .inr (7, [.ref q1, .ref q4, .ref q9, .int 0, .int 0, .int 0, .int 0])), (q1, .inr (0, [.ref q2, .int 0])), (q2, .inl (c3, 40, .inl (fun _ => 0))), (q4, .inr (1, [.ref q5, .ref q7, .int 0, .int 0, .int 1, .int 0])), (q5, .inl (c6, 3, .inl (fun _ => 0))), (q7, .inl (c8, 3, .inl (fun _ => 0))), (q9, .inr (4, [.ref q10, .int 0, .ref q12, .ref q14, .int 0, .int 0, .int 0])), (q10, .inl (c11, 640, .inl (fun _ => 0))), (q12, .inl (c13, 3, .inl (fun _ => 0))), (q14, .inl (c15, 3, .inl (fun _ => 0)))] := hD
  refine lv_aload_n hx hb dX7_init_39 rfl (lv_at hl 0 rfl) ?_
  refine lv_iconst (v := 0) hx hb dX7_init_40 (by decide) ?_
  refine va_put (ci := 7) (v := .int 0) (ty := .int) (C := RX7) (T := TX7) (N := 7) hx hb hts cin_X7 tyX7 tyX7_ok nmX7 hown hK hP hD hS 0 rfl rfl 3 (by decide) (hts (Cond.fieldLink RX7 34 "ScoreForms$Score" "signs" "I") (cme (i := 84) rfl)) (fun _ h9 => h9) rfl (by decide +kernel) rfl rfl (Nat.le_of_ble_eq_true rfl) dX7_init_41 (fun H locs hP hD hS => ?_)
  have hP : va_P D zcl [(h0, .inr (7, [.ref q1, .ref q4, .ref q9, .int 0, .int 0, .int 0, .int 0])), (q1, .inr (0, [.ref q2, .int 0])), (q2, .inl (c3, 40, .inl (fun _ => 0))), (q4, .inr (1, [.ref q5, .ref q7, .int 0, .int 0, .int 1, .int 0])), (q5, .inl (c6, 3, .inl (fun _ => 0))), (q7, .inl (c8, 3, .inl (fun _ => 0))), (q9, .inr (4, [.ref q10, .int 0, .ref q12, .ref q14, .int 0, .int 0, .int 0])), (q10, .inl (c11, 640, .inl (fun _ => 0))), (q12, .inl (c13, 3, .inl (fun _ => 0))), (q14, .inl (c15, 3, .inl (fun _ => 0)))] H := hP
  have hD : va_D A [(h0, .inr (7, [.ref q1, .ref q4, .ref q9, .int 0, .int 0, .int 0, .int 0])), (q1, .inr (0, [.ref q2, .int 0])), (q2, .inl (c3, 40, .inl (fun _ => 0))), (q4, .inr (1, [.ref q5, .ref q7, .int 0, .int 0, .int 1, .int 0])), (q5, .inl (c6, 3, .inl (fun _ => 0))), (q7, .inl (c8, 3, .inl (fun _ => 0))), (q9, .inr (4, [.ref q10, .int 0, .ref q12, .ref q14, .int 0, .int 0, .int 0])), (q10, .inl (c11, 640, .inl (fun _ => 0))), (q12, .inl (c13, 3, .inl (fun _ => 0))), (q14, .inl (c15, 3, .inl (fun _ => 0)))] := hD
  refine lv_aload_n hx hb dX7_init_44 rfl (lv_at hl 0 rfl) ?_
  refine lv_iconst (v := 0) hx hb dX7_init_45 (by decide) ?_
  refine va_put (ci := 7) (v := .int 0) (ty := .int) (C := RX7) (T := TX7) (N := 7) hx hb hts cin_X7 tyX7 tyX7_ok nmX7 hown hK hP hD hS 0 rfl rfl 4 (by decide) (hts (Cond.fieldLink RX7 38 "ScoreForms$Score" "deepest" "I") (cme (i := 85) rfl)) (fun _ h9 => h9) rfl (by decide +kernel) rfl rfl (Nat.le_of_ble_eq_true rfl) dX7_init_46 (fun H locs hP hD hS => ?_)
  have hP : va_P D zcl [(h0, .inr (7, [.ref q1, .ref q4, .ref q9, .int 0, .int 0, .int 0, .int 0])), (q1, .inr (0, [.ref q2, .int 0])), (q2, .inl (c3, 40, .inl (fun _ => 0))), (q4, .inr (1, [.ref q5, .ref q7, .int 0, .int 0, .int 1, .int 0])), (q5, .inl (c6, 3, .inl (fun _ => 0))), (q7, .inl (c8, 3, .inl (fun _ => 0))), (q9, .inr (4, [.ref q10, .int 0, .ref q12, .ref q14, .int 0, .int 0, .int 0])), (q10, .inl (c11, 640, .inl (fun _ => 0))), (q12, .inl (c13, 3, .inl (fun _ => 0))), (q14, .inl (c15, 3, .inl (fun _ => 0)))] H := hP
  have hD : va_D A [(h0, .inr (7, [.ref q1, .ref q4, .ref q9, .int 0, .int 0, .int 0, .int 0])), (q1, .inr (0, [.ref q2, .int 0])), (q2, .inl (c3, 40, .inl (fun _ => 0))), (q4, .inr (1, [.ref q5, .ref q7, .int 0, .int 0, .int 1, .int 0])), (q5, .inl (c6, 3, .inl (fun _ => 0))), (q7, .inl (c8, 3, .inl (fun _ => 0))), (q9, .inr (4, [.ref q10, .int 0, .ref q12, .ref q14, .int 0, .int 0, .int 0])), (q10, .inl (c11, 640, .inl (fun _ => 0))), (q12, .inl (c13, 3, .inl (fun _ => 0))), (q14, .inl (c15, 3, .inl (fun _ => 0)))] := hD
  refine lv_aload_n hx hb dX7_init_49 rfl (lv_at hl 0 rfl) ?_
  refine lv_iconst (v := (-1)) hx hb dX7_init_50 (by decide) ?_
  refine va_put (ci := 7) (v := .int (-1)) (ty := .int) (C := RX7) (T := TX7) (N := 7) hx hb hts cin_X7 tyX7 tyX7_ok nmX7 hown hK hP hD hS 0 rfl rfl 5 (by decide) (hts (Cond.fieldLink RX7 41 "ScoreForms$Score" "faultPlace" "I") (cme (i := 86) rfl)) (fun _ h9 => h9) rfl (by decide +kernel) rfl rfl (Nat.le_of_ble_eq_true rfl) dX7_init_51 (fun H locs hP hD hS => ?_)
  have hP : va_P D zcl [(h0, .inr (7, [.ref q1, .ref q4, .ref q9, .int 0, .int 0, .int (-1), .int 0])), (q1, .inr (0, [.ref q2, .int 0])), (q2, .inl (c3, 40, .inl (fun _ => 0))), (q4, .inr (1, [.ref q5, .ref q7, .int 0, .int 0, .int 1, .int 0])), (q5, .inl (c6, 3, .inl (fun _ => 0))), (q7, .inl (c8, 3, .inl (fun _ => 0))), (q9, .inr (4, [.ref q10, .int 0, .ref q12, .ref q14, .int 0, .int 0, .int 0])), (q10, .inl (c11, 640, .inl (fun _ => 0))), (q12, .inl (c13, 3, .inl (fun _ => 0))), (q14, .inl (c15, 3, .inl (fun _ => 0)))] H := hP
  have hD : va_D A [(h0, .inr (7, [.ref q1, .ref q4, .ref q9, .int 0, .int 0, .int (-1), .int 0])), (q1, .inr (0, [.ref q2, .int 0])), (q2, .inl (c3, 40, .inl (fun _ => 0))), (q4, .inr (1, [.ref q5, .ref q7, .int 0, .int 0, .int 1, .int 0])), (q5, .inl (c6, 3, .inl (fun _ => 0))), (q7, .inl (c8, 3, .inl (fun _ => 0))), (q9, .inr (4, [.ref q10, .int 0, .ref q12, .ref q14, .int 0, .int 0, .int 0])), (q10, .inl (c11, 640, .inl (fun _ => 0))), (q12, .inl (c13, 3, .inl (fun _ => 0))), (q14, .inl (c15, 3, .inl (fun _ => 0)))] := hD
  refine lv_aload_n hx hb dX7_init_54 rfl (lv_at hl 0 rfl) ?_
  refine lv_iconst (v := 0) hx hb dX7_init_55 (by decide) ?_
  refine va_put (ci := 7) (v := .int 0) (ty := .int) (C := RX7) (T := TX7) (N := 7) hx hb hts cin_X7 tyX7 tyX7_ok nmX7 hown hK hP hD hS 0 rfl rfl 6 (by decide) (hts (Cond.fieldLink RX7 44 "ScoreForms$Score" "faultReason" "I") (cme (i := 87) rfl)) (fun _ h9 => h9) rfl (by decide +kernel) rfl rfl (Nat.le_of_ble_eq_true rfl) dX7_init_56 (fun H locs hP hD hS => ?_)
  have hP : va_P D zcl [(h0, .inr (7, [.ref q1, .ref q4, .ref q9, .int 0, .int 0, .int (-1), .int 0])), (q1, .inr (0, [.ref q2, .int 0])), (q2, .inl (c3, 40, .inl (fun _ => 0))), (q4, .inr (1, [.ref q5, .ref q7, .int 0, .int 0, .int 1, .int 0])), (q5, .inl (c6, 3, .inl (fun _ => 0))), (q7, .inl (c8, 3, .inl (fun _ => 0))), (q9, .inr (4, [.ref q10, .int 0, .ref q12, .ref q14, .int 0, .int 0, .int 0])), (q10, .inl (c11, 640, .inl (fun _ => 0))), (q12, .inl (c13, 3, .inl (fun _ => 0))), (q14, .inl (c15, 3, .inl (fun _ => 0)))] H := hP
  have hD : va_D A [(h0, .inr (7, [.ref q1, .ref q4, .ref q9, .int 0, .int 0, .int (-1), .int 0])), (q1, .inr (0, [.ref q2, .int 0])), (q2, .inl (c3, 40, .inl (fun _ => 0))), (q4, .inr (1, [.ref q5, .ref q7, .int 0, .int 0, .int 1, .int 0])), (q5, .inl (c6, 3, .inl (fun _ => 0))), (q7, .inl (c8, 3, .inl (fun _ => 0))), (q9, .inr (4, [.ref q10, .int 0, .ref q12, .ref q14, .int 0, .int 0, .int 0])), (q10, .inl (c11, 640, .inl (fun _ => 0))), (q12, .inl (c13, 3, .inl (fun _ => 0))), (q14, .inl (c15, 3, .inl (fun _ => 0)))] := hD
  exact W.vret hx hb hr (fun t ht hW => ⟨⟨(), rfl, trivial, q1, q2, c3, q4, q5, c6, q7, c8, q9, q10, c11, q12, c13, q14, c15, by rw [ht]; exact hP, va_K.moved hW.alike hK, hD⟩, hS.F ht⟩) hS.2.2 dX7_init_59
theorem dX3_init_0 : decode cX3_init 0 = .ok (.aload_n 0, 1) := by decide +kernel
theorem dX3_init_1 : decode cX3_init 1 = .ok (.invokespecial 3, 3) := by decide +kernel
theorem dX3_init_4 : decode cX3_init 4 = .ok (.aload_n 0, 1) := by decide +kernel
theorem dX3_init_5 : decode cX3_init 5 = .ok (.new 9, 3) := by decide +kernel
theorem dX3_init_8 : decode cX3_init 8 = .ok (.dup, 1) := by decide +kernel
theorem dX3_init_9 : decode cX3_init 9 = .ok (.invokespecial 11, 3) := by decide +kernel
theorem dX3_init_12 : decode cX3_init 12 = .ok (.putfield 12, 3) := by decide +kernel
theorem dX3_init_15 : decode cX3_init 15 = .ok (.aload_n 0, 1) := by decide +kernel
theorem dX3_init_16 : decode cX3_init 16 = .ok (.new 18, 3) := by decide +kernel
theorem dX3_init_19 : decode cX3_init 19 = .ok (.dup, 1) := by decide +kernel
theorem dX3_init_20 : decode cX3_init 20 = .ok (.invokespecial 20, 3) := by decide +kernel
theorem dX3_init_23 : decode cX3_init 23 = .ok (.putfield 21, 3) := by decide +kernel
theorem dX3_init_26 : decode cX3_init 26 = .ok (.aload_n 0, 1) := by decide +kernel
theorem dX3_init_27 : decode cX3_init 27 = .ok (.iconst (-1), 1) := by decide +kernel
theorem dX3_init_28 : decode cX3_init 28 = .ok (.putfield 25, 3) := by decide +kernel
theorem dX3_init_31 : decode cX3_init 31 = .ok (.aload_n 0, 1) := by decide +kernel
theorem dX3_init_32 : decode cX3_init 32 = .ok (.iconst 0, 1) := by decide +kernel
theorem dX3_init_33 : decode cX3_init 33 = .ok (.putfield 29, 3) := by decide +kernel
theorem dX3_init_36 : decode cX3_init 36 = .ok (.return_, 1) := by decide +kernel
def akX3 (D : va_G) (A : Nat → Prop) (h0 : Nat) (t : State) : Prop := ∃ (q1 : Nat) (q2 : Nat) (c3 : ClassId) (q4 : Nat) (c5 : ClassId) (q6 : Nat) (c7 : ClassId) (q8 : Nat), va_P D zcl [(h0, .inr (3, [.ref q1, .ref q8, .int (-1), .int 0])), (q1, .inr (9, [.ref q2, .int 0, .ref q4, .ref q6])), (q2, .inl (c3, 24, .inl (fun _ => 0))), (q4, .inl (c5, 625, .inl (fun _ => 0))), (q6, .inl (c7, 2500, .inl (fun _ => 0))), (q8, .inr (2, [.int 0, .int 0, .int 0, .int 0]))] t.heap ∧ va_K D zcl [(c3, .int), (c5, .int), (c7, .int)] t ∧ va_D A [(h0, .inr (3, [.ref q1, .ref q8, .int (-1), .int 0])), (q1, .inr (9, [.ref q2, .int 0, .ref q4, .ref q6])), (q2, .inl (c3, 24, .inl (fun _ => 0))), (q4, .inl (c5, 625, .inl (fun _ => 0))), (q6, .inl (c7, 2500, .inl (fun _ => 0))), (q8, .inr (2, [.int 0, .int 0, .int 0, .int 0]))]
set_option maxHeartbeats 4000000 in
set_option maxRecDepth 100000 in
theorem kX3 (l : Launch) (D : va_G) (h0 sz : Nat) : Met l yX3_init (Cond.code yX3_init cX3_init 1 none :: cT) { frames := 2, cells := 5, slots := 3157, locals := 100 } (va_Pc [.ref h0] (cPre D [(h0, .inr (3, [.null, .null, .int 0, .int 0]))] sz)) (va_Qv (S := Unit) (fun _ => True) (fun _ t => akX3 D (va_A [(h0, .inr (3, [.null, .null, .int 0, .int 0]))] sz) h0 t) (va_A [(h0, .inr (3, [.null, .null, .int 0, .int 0]))] sz)) 5 3157 (va_A [(h0, .inr (3, [.null, .null, .int 0, .int 0]))] sz) := by
  refine Met.ofW (cc := cX3_init) (maxL := 1) (ret := none) (by decide) rfl ?_
  intro p e s m args below meth c s₁ B hml hv
  obtain ⟨rfl, hsz, hP, hK, hD0, hns, ha10, ha8⟩ := hv
  have hx := B.exec
  have hb := B.bytes
  have hr := B.returns
  have hts := atoms_spec (ws := Cond.code yX3_init cX3_init 1 none :: cT) B.pre
  have hown : s.vm.findClass RX3 = some m.cls := findClass_of_methodNamed B.named
  have hlocks := B.notSynchronized
  have hin : meth.name = "<init>" := (name_of_methodNamed B.named B.method).1
  subst hsz
  have hD := hD0.self (sz := s.heap.size)
  generalize hAe : va_A [(h0, .inr (3, [.null, .null, .int 0, .int 0]))] s.heap.size = A at hD ⊢
  have hA : ∀ q : Nat, s.heap.size ≤ q → A q := fun q h => by rw [← hAe]; exact Or.inr h
  have hS : va_S A s.heap s.heap [] := va_S.rf
  have hP : va_P D zcl [(h0, .inr (3, [.null, .null, .int 0, .int 0]))] s.heap := hP
  have hl := lv_entry ([.ref h0]) (n := 1) (Nat.le_of_ble_eq_true rfl)
  rw [lg_entry_eq]
  generalize (lg_sl ([.ref h0]) ++ List.replicate (1 - (lg_sl ([.ref h0])).length) Slot.unset).toArray = ls at hl ⊢
  have hl : lv_has ls 1 [(0, .ref h0)] := hl
  refine lv_aload_n hx hb dX3_init_0 rfl (lv_at hl 0 rfl) ?_
  refine W.objInit hx hb hown (hts (Cond.methodLink RX3 3 objectInit) (cme (i := 129) rfl)) (hts (Cond.instanceMethod objectInit) (cme (i := 2) rfl)) (hts (Cond.code objectInit ⟨#[0xb1]⟩ 1 none) (cme (i := 3) rfl)) rfl (by rw [hml]; exact hl.1) rfl dX3_init_1 (Nat.le_of_ble_eq_true rfl) (Nat.le_of_ble_eq_true rfl) ?_
  refine W.eq (g2 := F0 m 4 ls []) rfl ?_
  refine lv_aload_n hx hb dX3_init_4 rfl (lv_at hl 0 rfl) ?_
  refine va_new (ci := 9) (fs := [.null, .int 0, .null, .null]) (C := RX9) (T := TX9) (N := 4) hx hb hts cin_X9 tyX9 tyX9_ok hown (hts (Cond.classLink RX3 9 RX9) (cme (i := 130) rfl)) (hts (Cond.instantiable RX9 4) (cme (i := 17) rfl)) (hts (Cond.initialized RX9) (cme (i := 18) rfl)) hK hP hD hS hA rfl (fun j hj => by match j, hj with | 0, _ => rfl | 1, _ => rfl | 2, _ => rfl | 3, _ => rfl | j + 4, h => omega) (Nat.le_of_ble_eq_true rfl) (Nat.le_of_ble_eq_true rfl) dX3_init_5 (fun q1 H hP hD hS => ?_)
  have hP : va_P D zcl [(h0, .inr (3, [.null, .null, .int 0, .int 0])), (q1, .inr (9, [.null, .int 0, .null, .null]))] H := hP
  have hD : va_D A [(h0, .inr (3, [.null, .null, .int 0, .int 0])), (q1, .inr (9, [.null, .int 0, .null, .null]))] := hD
  refine W.widen (k := 1) (n := 4) (Nat.le_of_ble_eq_true rfl) (Nat.le_of_ble_eq_true rfl) ?_
  refine lv_dup hx hb dX3_init_8 rfl ?_
  have hPc := hP.sub (ws' := [(q1, .inr (9, [.null, .int 0, .null, .null]))]) [1] rfl
  have hDc := hD.sub (ws' := [(q1, .inr (9, [.null, .int 0, .null, .null]))]) [1] (by decide) rfl
  have hKc := hK.sub (tys' := []) [] rfl
  have hFc := va_free (wc := [(q1, .inr (9, [.null, .int 0, .null, .null]))]) hD hS hA [1] rfl
  refine va_callv (va_runIN (As := []) (rest := [.ref q1, .ref h0]) ⟨hx, hb, hml, hown, hts⟩ (kX9 l D q1 H.size) ⟨va_cnB 0 hts (cgood (cme2 (i := 109) rfl)) rfl rfl rfl (hns _ (List.mem_of_getElem? (i := 8) rfl)) (hts (Cond.initialized RX9) (cme (i := 18) rfl)) (by decide +kernel) ⟨Nat.le_of_ble_eq_true rfl, Nat.le_of_ble_eq_true rfl⟩, rfl, (hts (Cond.instanceMethod yX9_init) (cme (i := 108) rfl))⟩ ⟨cPre_blind, fun U hU hW => ⟨rfl, cPre_U hKc hPc hDc hns ha10 ha8 U hU hW⟩⟩ rfl rfl hl.1 rfl (lv_room (Nat.le_of_ble_eq_true rfl)) dX3_init_9 ⟨Nat.le_of_ble_eq_true rfl, Nat.le_of_ble_eq_true rfl⟩) hS (fun q _ h => hFc q h) hFc (fun u t H1 locs ht hvm _ hB hz1 hk1 hS => ?_)
  obtain ⟨q2, c3, q4, c5, q6, c7, hP1, hK1, hD1⟩ := hB
  rw [ht] at hP1
  have hK1 := va_K.moved hvm.symm hK1
  obtain ⟨hP, hD⟩ := va_join (wr := [(h0, .inr (3, [.null, .null, .int 0, .int 0]))]) (w1 := [(q1, .inr (9, [.ref q2, .int 0, .ref q4, .ref q6])), (q2, .inl (c3, 24, .inl (fun _ => 0))), (q4, .inl (c5, 625, .inl (fun _ => 0))), (q6, .inl (c7, 2500, .inl (fun _ => 0)))]) hP hD [1] [0] rfl rfl (by decide) (by decide) hk1 hFc hP1 hD1
  have hK := (hK.sub (tys' := []) [] rfl).app hK1
  generalize H1 = H at hP hS ⊢
  have hP : va_P D zcl [(h0, .inr (3, [.null, .null, .int 0, .int 0])), (q1, .inr (9, [.ref q2, .int 0, .ref q4, .ref q6])), (q2, .inl (c3, 24, .inl (fun _ => 0))), (q4, .inl (c5, 625, .inl (fun _ => 0))), (q6, .inl (c7, 2500, .inl (fun _ => 0)))] H := hP
  have hD : va_D A [(h0, .inr (3, [.null, .null, .int 0, .int 0])), (q1, .inr (9, [.ref q2, .int 0, .ref q4, .ref q6])), (q2, .inl (c3, 24, .inl (fun _ => 0))), (q4, .inl (c5, 625, .inl (fun _ => 0))), (q6, .inl (c7, 2500, .inl (fun _ => 0)))] := hD
  have hK : va_K D zcl [(c3, .int), (c5, .int), (c7, .int)] s := hK
  refine W.widen (k := 4) (n := 3153) (Nat.le_of_ble_eq_true rfl) (Nat.le_of_ble_eq_true rfl) ?_
  refine va_putF (ci := 3) (v := .ref q1) (ty := .object "ScoreForms$Spans") (C := RX3) (T := TX3) (N := 4) hx hb hts cin_X3 tyX3 tyX3_ok nmX3 hown hK hP hD hS 0 rfl rfl 0 (by decide) (hts (Cond.fieldLink RX3 12 "ScoreForms$Mending" "rest" "LScoreForms$Spans;") (cme (i := 131) rfl)) (fun _ h9 => h9) rfl hin rfl (by decide +kernel) rfl rfl (Nat.le_of_ble_eq_true rfl) dX3_init_12 (fun H locs hP hD hS => ?_)
  have hP : va_P D zcl [(h0, .inr (3, [.ref q1, .null, .int 0, .int 0])), (q1, .inr (9, [.ref q2, .int 0, .ref q4, .ref q6])), (q2, .inl (c3, 24, .inl (fun _ => 0))), (q4, .inl (c5, 625, .inl (fun _ => 0))), (q6, .inl (c7, 2500, .inl (fun _ => 0)))] H := hP
  have hD : va_D A [(h0, .inr (3, [.ref q1, .null, .int 0, .int 0])), (q1, .inr (9, [.ref q2, .int 0, .ref q4, .ref q6])), (q2, .inl (c3, 24, .inl (fun _ => 0))), (q4, .inl (c5, 625, .inl (fun _ => 0))), (q6, .inl (c7, 2500, .inl (fun _ => 0)))] := hD
  refine lv_aload_n hx hb dX3_init_15 rfl (lv_at hl 0 rfl) ?_
  refine va_new (ci := 2) (fs := [.int 0, .int 0, .int 0, .int 0]) (C := RX2) (T := TX2) (N := 4) hx hb hts cin_X2 tyX2 tyX2_ok hown (hts (Cond.classLink RX3 18 RX2) (cme (i := 132) rfl)) (hts (Cond.instantiable RX2 4) (cme (i := 21) rfl)) (hts (Cond.initialized RX2) (cme (i := 22) rfl)) hK hP hD hS hA rfl (fun j hj => by match j, hj with | 0, _ => rfl | 1, _ => rfl | 2, _ => rfl | 3, _ => rfl | j + 4, h => omega) (Nat.le_of_ble_eq_true rfl) (Nat.le_of_ble_eq_true rfl) dX3_init_16 (fun q8 H hP hD hS => ?_)
  have hP : va_P D zcl [(h0, .inr (3, [.ref q1, .null, .int 0, .int 0])), (q1, .inr (9, [.ref q2, .int 0, .ref q4, .ref q6])), (q2, .inl (c3, 24, .inl (fun _ => 0))), (q4, .inl (c5, 625, .inl (fun _ => 0))), (q6, .inl (c7, 2500, .inl (fun _ => 0))), (q8, .inr (2, [.int 0, .int 0, .int 0, .int 0]))] H := hP
  have hD : va_D A [(h0, .inr (3, [.ref q1, .null, .int 0, .int 0])), (q1, .inr (9, [.ref q2, .int 0, .ref q4, .ref q6])), (q2, .inl (c3, 24, .inl (fun _ => 0))), (q4, .inl (c5, 625, .inl (fun _ => 0))), (q6, .inl (c7, 2500, .inl (fun _ => 0))), (q8, .inr (2, [.int 0, .int 0, .int 0, .int 0]))] := hD
  refine W.widen (k := 5) (n := 3157) (Nat.le_of_ble_eq_true rfl) (Nat.le_of_ble_eq_true rfl) ?_
  refine lv_dup hx hb dX3_init_19 rfl ?_
  have hPc := hP.sub (ws' := [(q8, .inr (2, [.int 0, .int 0, .int 0, .int 0]))]) [5] rfl
  have hDc := hD.sub (ws' := [(q8, .inr (2, [.int 0, .int 0, .int 0, .int 0]))]) [5] (by decide) rfl
  have hKc := hK.sub (tys' := []) [] rfl
  have hFc := va_free (wc := [(q8, .inr (2, [.int 0, .int 0, .int 0, .int 0]))]) hD hS hA [5] rfl
  refine va_callv (va_runIN (As := []) (rest := [.ref q8, .ref h0]) ⟨hx, hb, hml, hown, hts⟩ (kX2 l D q8 H.size) ⟨va_cnB 0 hts (cgood (cme2 (i := 116) rfl)) rfl rfl rfl (hns _ (List.mem_of_getElem? (i := 9) rfl)) (hts (Cond.initialized RX2) (cme (i := 22) rfl)) (by decide +kernel) ⟨Nat.le_of_ble_eq_true rfl, Nat.le_of_ble_eq_true rfl⟩, rfl, (hts (Cond.instanceMethod yX2_init) (cme (i := 115) rfl))⟩ ⟨cPre_blind, fun U hU hW => ⟨rfl, cPre_U hKc hPc hDc hns ha10 ha8 U hU hW⟩⟩ rfl rfl hl.1 rfl (lv_room (Nat.le_of_ble_eq_true rfl)) dX3_init_20 ⟨Nat.le_of_ble_eq_true rfl, Nat.le_of_ble_eq_true rfl⟩) hS (fun q _ h => hFc q h) hFc (fun u t H1 locs ht hvm _ hB hz1 hk1 hS => ?_)
  obtain ⟨hP1, hK1, hD1⟩ := hB
  rw [ht] at hP1
  have hK1 := va_K.moved hvm.symm hK1
  obtain ⟨hP, hD⟩ := va_join (wr := [(h0, .inr (3, [.ref q1, .null, .int 0, .int 0])), (q1, .inr (9, [.ref q2, .int 0, .ref q4, .ref q6])), (q2, .inl (c3, 24, .inl (fun _ => 0))), (q4, .inl (c5, 625, .inl (fun _ => 0))), (q6, .inl (c7, 2500, .inl (fun _ => 0)))]) (w1 := [(q8, .inr (2, [.int 0, .int 0, .int 0, .int 0]))]) hP hD [5] [0, 1, 2, 3, 4] rfl rfl (by decide) (by decide) hk1 hFc hP1 hD1
  have hK := (hK.sub (tys' := [(c3, .int), (c5, .int), (c7, .int)]) [0, 1, 2] rfl).app hK1
  generalize H1 = H at hP hS ⊢
  have hP : va_P D zcl [(h0, .inr (3, [.ref q1, .null, .int 0, .int 0])), (q1, .inr (9, [.ref q2, .int 0, .ref q4, .ref q6])), (q2, .inl (c3, 24, .inl (fun _ => 0))), (q4, .inl (c5, 625, .inl (fun _ => 0))), (q6, .inl (c7, 2500, .inl (fun _ => 0))), (q8, .inr (2, [.int 0, .int 0, .int 0, .int 0]))] H := hP
  have hD : va_D A [(h0, .inr (3, [.ref q1, .null, .int 0, .int 0])), (q1, .inr (9, [.ref q2, .int 0, .ref q4, .ref q6])), (q2, .inl (c3, 24, .inl (fun _ => 0))), (q4, .inl (c5, 625, .inl (fun _ => 0))), (q6, .inl (c7, 2500, .inl (fun _ => 0))), (q8, .inr (2, [.int 0, .int 0, .int 0, .int 0]))] := hD
  have hK : va_K D zcl [(c3, .int), (c5, .int), (c7, .int)] s := hK
  refine W.widen (k := 5) (n := 3157) (Nat.le_of_ble_eq_true rfl) (Nat.le_of_ble_eq_true rfl) ?_
  refine va_putF (ci := 3) (v := .ref q8) (ty := .object "ScoreForms$Jumps") (C := RX3) (T := TX3) (N := 4) hx hb hts cin_X3 tyX3 tyX3_ok nmX3 hown hK hP hD hS 0 rfl rfl 1 (by decide) (hts (Cond.fieldLink RX3 21 "ScoreForms$Mending" "best" "LScoreForms$Jumps;") (cme (i := 133) rfl)) (fun _ h9 => h9) rfl hin rfl (by decide +kernel) rfl rfl (Nat.le_of_ble_eq_true rfl) dX3_init_23 (fun H locs hP hD hS => ?_)
  have hP : va_P D zcl [(h0, .inr (3, [.ref q1, .ref q8, .int 0, .int 0])), (q1, .inr (9, [.ref q2, .int 0, .ref q4, .ref q6])), (q2, .inl (c3, 24, .inl (fun _ => 0))), (q4, .inl (c5, 625, .inl (fun _ => 0))), (q6, .inl (c7, 2500, .inl (fun _ => 0))), (q8, .inr (2, [.int 0, .int 0, .int 0, .int 0]))] H := hP
  have hD : va_D A [(h0, .inr (3, [.ref q1, .ref q8, .int 0, .int 0])), (q1, .inr (9, [.ref q2, .int 0, .ref q4, .ref q6])), (q2, .inl (c3, 24, .inl (fun _ => 0))), (q4, .inl (c5, 625, .inl (fun _ => 0))), (q6, .inl (c7, 2500, .inl (fun _ => 0))), (q8, .inr (2, [.int 0, .int 0, .int 0, .int 0]))] := hD
  refine lv_aload_n hx hb dX3_init_26 rfl (lv_at hl 0 rfl) ?_
  refine lv_iconst (v := (-1)) hx hb dX3_init_27 (by decide) ?_
  refine va_put (ci := 3) (v := .int (-1)) (ty := .int) (C := RX3) (T := TX3) (N := 4) hx hb hts cin_X3 tyX3 tyX3_ok nmX3 hown hK hP hD hS 0 rfl rfl 2 (by decide) (hts (Cond.fieldLink RX3 25 "ScoreForms$Mending" "which" "I") (cme (i := 134) rfl)) (fun _ h9 => h9) rfl (by decide +kernel) rfl rfl (Nat.le_of_ble_eq_true rfl) dX3_init_28 (fun H locs hP hD hS => ?_)
  have hP : va_P D zcl [(h0, .inr (3, [.ref q1, .ref q8, .int (-1), .int 0])), (q1, .inr (9, [.ref q2, .int 0, .ref q4, .ref q6])), (q2, .inl (c3, 24, .inl (fun _ => 0))), (q4, .inl (c5, 625, .inl (fun _ => 0))), (q6, .inl (c7, 2500, .inl (fun _ => 0))), (q8, .inr (2, [.int 0, .int 0, .int 0, .int 0]))] H := hP
  have hD : va_D A [(h0, .inr (3, [.ref q1, .ref q8, .int (-1), .int 0])), (q1, .inr (9, [.ref q2, .int 0, .ref q4, .ref q6])), (q2, .inl (c3, 24, .inl (fun _ => 0))), (q4, .inl (c5, 625, .inl (fun _ => 0))), (q6, .inl (c7, 2500, .inl (fun _ => 0))), (q8, .inr (2, [.int 0, .int 0, .int 0, .int 0]))] := hD
  refine lv_aload_n hx hb dX3_init_31 rfl (lv_at hl 0 rfl) ?_
  refine lv_iconst (v := 0) hx hb dX3_init_32 (by decide) ?_
  refine va_put (ci := 3) (v := .int 0) (ty := .int) (C := RX3) (T := TX3) (N := 4) hx hb hts cin_X3 tyX3 tyX3_ok nmX3 hown hK hP hD hS 0 rfl rfl 3 (by decide) (hts (Cond.fieldLink RX3 29 "ScoreForms$Mending" "cost" "I") (cme (i := 135) rfl)) (fun _ h9 => h9) rfl (by decide +kernel) rfl rfl (Nat.le_of_ble_eq_true rfl) dX3_init_33 (fun H locs hP hD hS => ?_)
  have hP : va_P D zcl [(h0, .inr (3, [.ref q1, .ref q8, .int (-1), .int 0])), (q1, .inr (9, [.ref q2, .int 0, .ref q4, .ref q6])), (q2, .inl (c3, 24, .inl (fun _ => 0))), (q4, .inl (c5, 625, .inl (fun _ => 0))), (q6, .inl (c7, 2500, .inl (fun _ => 0))), (q8, .inr (2, [.int 0, .int 0, .int 0, .int 0]))] H := hP
  have hD : va_D A [(h0, .inr (3, [.ref q1, .ref q8, .int (-1), .int 0])), (q1, .inr (9, [.ref q2, .int 0, .ref q4, .ref q6])), (q2, .inl (c3, 24, .inl (fun _ => 0))), (q4, .inl (c5, 625, .inl (fun _ => 0))), (q6, .inl (c7, 2500, .inl (fun _ => 0))), (q8, .inr (2, [.int 0, .int 0, .int 0, .int 0]))] := hD
  exact W.vret hx hb hr (fun t ht hW => ⟨⟨(), rfl, trivial, q1, q2, c3, q4, c5, q6, c7, q8, by rw [ht]; exact hP, va_K.moved hW.alike hK, hD⟩, hS.F ht⟩) hS.2.2 dX3_init_36
