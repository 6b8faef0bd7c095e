section ZS3
variable {p : Program} {l : Launch} {e : Env} {R : Room} {s : State} {m : MethodId} {args : Array Value} {below : List Frame} {meth : Method} {c : Code} {mL : Nat} {D : va_G} {cl : List vw_C} {ad : Nat → Nat} {cA : Nat → ClassId} {nm : Nat → String} {sh : List zD} {A : Nat → Prop} {ns : zNT}
variable {cc : ByteArray} {own : String} {T : List Cond} {y0 : Cond} {d : Nat}
set_option maxHeartbeats 4000000 in
theorem zin_sim {K : zKT} {Y : zXT} {Ms : List zMI} {pc nx a b c3 hh rt : Nat} {ret : Option FieldType} {ins : Instr} {k : Int32} {ls : zLs} {st : List Value} {S : zS} {Q : Option Value → zS → Prop}
    (hx : p.tables.exec = Jvm.exec) (hb : c.code = cc) (hml : c.maxLocals = mL) (hown : s.vm.findClass own = some m.cls) (hts : ∀ w ∈ y0 :: T, w.before args s = true) (hK : va_K D cl (zty cA nm sh) s) (hD : ∀ S, va_D A (zws ad cA sh S)) (hA : ∀ q, s.heap.size ≤ q → A q) (hns : ∀ q ∈ ns, va_Nw (.methodLinkNest q.1 q.2.1 q.2.2.1 q.2.2.2) s)
    (hT : zTok cl T) (hMs : ∀ μ mi, zn Ms μ = some mi → zMok cl T mi) (hR : d + 1 ≤ R.frames ∧ 60 * (d + 1) ≤ R.locals)
    (hKs : ∀ μ mi vs S Q, zn Ms μ = some mi → K μ vs S Q → zMet l D cl ad cA nm sh ns T (zRm d) mi vs S Q)
    (hr : meth.sig.returnType = ret) (hrt : match rt with
      | 0 => ret = none
      | 1 => ret = some .int
      | 2 => ret = some .boolean
      | 3 => ret = some .long
      | _ => ∃ C, ret = some (.object C)) (hlocks : meth.locks = false)
    (hY : ∀ pc ls st S, Y pc ls st S → zX p l e R s m args below meth c (MQ below (zQc rt D cl ad cA sh A Q) args s 0 0 A) mL D cl ad cA sh A pc ls st S)
    (hok : zok1 cl T ns Ms own pc ins nx k a b c3 hh = true) (hdec : decode cc pc = .ok (ins, nx - pc))
    (h : zin sh K rt Q Y pc ins nx k a b c3 ls st S) : zX p l e R s m args below meth c (MQ below (zQc rt D cl ad cA sh A Q) args s 0 0 A) mL D cl ad cA sh A pc ls st S := by
  have hw : ∀ w ∈ T, w.before args s = true := fun w h => hts w (List.mem_cons_of_mem _ h)
  have ldI : ∀ {f : Value → Prop} {n : Nat} {ls' : Array Slot}, lv_has ls' mL (zll ad 0 ls) → zgl ls n f → ∃ v, f v ∧ ls'[n]? = some (.val (zv ad v)) := by
    intro f n ls' hL hg
    obtain ⟨v, hv, hm⟩ := zgl_spec (ad := ad) (i := 0) hg
    rw [Nat.zero_add] at hm
    exact ⟨v, hv, hL.2.2 _ hm⟩
  have stI : ∀ {v : Value} {n : Nat} {ls2 : zLs} {ls' : Array Slot}, (∀ q ∈ zll ad 0 ls2, q = (0 + n, zv ad v) ∨ (q ∈ zll ad 0 ls ∧ q.1 ≠ 0 + n ∧ ¬ (q.1 + 1 = 0 + n ∧ q.2.category = 2))) →
      lv_has ls' mL ((n, zv ad v) :: (zll ad 0 ls).filter (fun q => !(q.1 == n) && !(q.1 + 1 == n && q.2.category == 2))) → lv_has ls' mL (zll ad 0 ls2) := by
    intro v n ls2 ls' g hL
    refine zll_has hL (fun q hq => ?_)
    rcases g q hq with rfl | ⟨m1, m2, m3⟩
    · rw [Nat.zero_add]; exact List.mem_cons_self
    · refine List.mem_cons_of_mem _ (List.mem_filter.mpr ⟨m1, ?_⟩)
      rw [Nat.zero_add] at m2 m3
      simp only [Bool.and_eq_true, Bool.not_eq_true', beq_eq_false_iff_ne, ne_eq, Bool.and_eq_false_iff]
      refine ⟨m2, ?_⟩
      by_cases e1 : q.1 + 1 = n
      · exact Or.inr (fun e2 => m3 ⟨e1, e2⟩)
      · exact Or.inl e1
  have stL : ∀ {v : Value} {n : Nat} {ls2 : zLs} {ls' : Array Slot}, (∀ q ∈ zll ad 0 ls2, q = (0 + n, zv ad v) ∨ (q ∈ zll ad 0 ls ∧ q.1 ≠ 0 + n ∧ q.1 ≠ 0 + n + 1 ∧ ¬ (q.1 + 1 = 0 + n ∧ q.2.category = 2))) →
      lv_has ls' mL ((n, zv ad v) :: (zll ad 0 ls).filter (fun q => !(q.1 == n) && (!(q.1 == n + 1) && !(q.1 + 1 == n && q.2.category == 2)))) → lv_has ls' mL (zll ad 0 ls2) := by
    intro v n ls2 ls' g hL
    refine zll_has hL (fun q hq => ?_)
    rcases g q hq with rfl | ⟨m1, m2, m4, m3⟩
    · rw [Nat.zero_add]; exact List.mem_cons_self
    · refine List.mem_cons_of_mem _ (List.mem_filter.mpr ⟨m1, ?_⟩)
      rw [Nat.zero_add] at m2 m3 m4
      simp only [Bool.and_eq_true, Bool.not_eq_true', beq_eq_false_iff_ne, ne_eq, Bool.and_eq_false_iff]
      refine ⟨m2, m4, ?_⟩
      by_cases e1 : q.1 + 1 = n
      · exact Or.inr (fun e2 => m3 ⟨e1, e2⟩)
      · exact Or.inl e1
  unfold zin at h
  split at h
  · -- iconst
    obtain ⟨h1, h2⟩ := zand hok
    obtain rfl := zbq h1
    intro H locs ls' hP hS hll hnd hL
    exact lv_iconst hx hb (zdec hdec) (of_decide_eq_true h2) (hY _ _ _ _ h H locs ls' hP hS hll hnd hL)
  · -- bipush
    obtain ⟨h1, h2⟩ := zand hok
    obtain rfl := zbq h1
    intro H locs ls' hP hS hll hnd hL
    exact lv_bipush hx hb (zdec hdec) (of_decide_eq_true h2) (hY _ _ _ _ h H locs ls' hP hS hll hnd hL)
  · -- sipush
    obtain ⟨h1, h2⟩ := zand hok
    obtain rfl := zbq h1
    intro H locs ls' hP hS hll hnd hL
    exact lv_sipush hx hb (zdec hdec) (of_decide_eq_true h2) (hY _ _ _ _ h H locs ls' hP hS hll hnd hL)
  · -- ldc
    obtain ⟨h1, h2⟩ := zand hok
    obtain rfl := zbq h1
    intro H locs ls' hP hS hll hnd hL
    exact lv_ldc hx hb hown (hw _ (zmem (of_decide_eq_true h2))) (zdec hdec) (hY _ _ _ _ h H locs ls' hP hS hll hnd hL)
  · -- ldc_w
    obtain ⟨h1, h2⟩ := zand hok
    obtain rfl := zbq h1
    intro H locs ls' hP hS hll hnd hL
    exact lv_ldcw hx hb hown (hw _ (zmem (of_decide_eq_true h2))) (zdec hdec) (hY _ _ _ _ h H locs ls' hP hS hll hnd hL)
  · -- lconst
    obtain ⟨h1, h2⟩ := zand hok
    obtain rfl := zbq h1
    intro H locs ls' hP hS hll hnd hL
    exact lv_lconst hx hb (zdec hdec) (of_decide_eq_true h2) (hY _ _ _ _ h H locs ls' hP hS hll hnd hL)
  · -- ldc2_w
    obtain ⟨h1, h2⟩ := zand hok
    obtain rfl := zbq h1
    intro H locs ls' hP hS hll hnd hL
    exact lv_ldc2 hx hb hown (hw _ (zmem (of_decide_eq_true h2))) (zdec hdec) (hY _ _ _ _ h H locs ls' hP hS hll hnd hL)
  · -- aconst_null
    obtain rfl := zbq hok
    intro H locs ls' hP hS hll hnd hL
    exact lv_null hx hb (zdec hdec) (hY _ _ _ _ h H locs ls' hP hS hll hnd hL)
  · -- iload_n
    obtain rfl := zbq hok
    intro H locs ls' hP hS hll hnd hL
    obtain ⟨v, hv, hg⟩ := ldI hL h
    obtain ⟨x, rfl, hv⟩ := zvI_spec hv
    exact lv_iload_n hx hb (zdec hdec) rfl hg (hY _ _ _ _ hv H locs ls' hP hS hll hnd hL)
  · -- iload
    obtain rfl := zbq hok
    intro H locs ls' hP hS hll hnd hL
    obtain ⟨v, hv, hg⟩ := ldI hL h
    obtain ⟨x, rfl, hv⟩ := zvI_spec hv
    exact lv_iload hx hb (zdec hdec) hg (hY _ _ _ _ hv H locs ls' hP hS hll hnd hL)
  · -- lload_n
    obtain rfl := zbq hok
    intro H locs ls' hP hS hll hnd hL
    obtain ⟨v, hv, hg⟩ := ldI hL h
    obtain ⟨x, rfl, hv⟩ := zvL_spec hv
    exact lv_lload_n hx hb (zdec hdec) rfl hg (hY _ _ _ _ hv H locs ls' hP hS hll hnd hL)
  · -- lload
    obtain rfl := zbq hok
    intro H locs ls' hP hS hll hnd hL
    obtain ⟨v, hv, hg⟩ := ldI hL h
    obtain ⟨x, rfl, hv⟩ := zvL_spec hv
    exact lv_lload hx hb (zdec hdec) hg (hY _ _ _ _ hv H locs ls' hP hS hll hnd hL)
  · -- aload_n
    obtain rfl := zbq hok
    intro H locs ls' hP hS hll hnd hL
    obtain ⟨v, hv, hg⟩ := ldI hL h
    obtain ⟨hv, ⟨x, rfl⟩ | rfl⟩ := zvA_spec hv
    · exact lv_aload_n hx hb (zdec hdec) rfl hg (hY _ _ _ _ hv H locs ls' hP hS hll hnd hL)
    · exact lv_aload_nN hx hb (zdec hdec) rfl hg (hY _ _ _ _ hv H locs ls' hP hS hll hnd hL)
  · -- aload
    obtain rfl := zbq hok
    intro H locs ls' hP hS hll hnd hL
    obtain ⟨v, hv, hg⟩ := ldI hL h
    obtain ⟨hv, ⟨x, rfl⟩ | rfl⟩ := zvA_spec hv
    · exact lv_aload hx hb (zdec hdec) hg (hY _ _ _ _ hv H locs ls' hP hS hll hnd hL)
    · exact lv_aloadN hx hb (zdec hdec) hg (hY _ _ _ _ hv H locs ls' hP hS hll hnd hL)
  · -- istore_n
    obtain rfl := zbq hok
    obtain ⟨x, r, rfl, hq1⟩ := zpI_spec h
    intro H locs ls' hP hS hll hnd hL
    obtain ⟨ls2, g1, g2, g3, g4, g5⟩ := zsl_spec (ad := ad) (i := 0) (fun x e => by cases e) hnd hq1
    exact lv_istore_n hx hb (zdec hdec) rfl hL (by omega) rfl (fun ls'' hL' => hY _ _ _ _ g1 H locs ls'' hP hS (by omega) g2 (stI g5 hL'))
  · -- istore
    obtain rfl := zbq hok
    obtain ⟨x, r, rfl, hq2⟩ := zpI_spec h
    intro H locs ls' hP hS hll hnd hL
    obtain ⟨ls2, g1, g2, g3, g4, g5⟩ := zsl_spec (ad := ad) (i := 0) (fun x e => by cases e) hnd hq2
    exact lv_istore hx hb (zdec hdec) hL (by omega) rfl (fun ls'' hL' => hY _ _ _ _ g1 H locs ls'' hP hS (by omega) g2 (stI g5 hL'))
  · -- astore_n
    obtain rfl := zbq hok
    obtain ⟨x, r, rfl, hq3⟩ := zpR_spec h
    intro H locs ls' hP hS hll hnd hL
    obtain ⟨ls2, g1, g2, g3, g4, g5⟩ := zsl_spec (ad := ad) (i := 0) (fun x e => by cases e) hnd hq3
    exact lv_astore_n hx hb (zdec hdec) rfl hL (by omega) rfl (fun ls'' hL' => hY _ _ _ _ g1 H locs ls'' hP hS (by omega) g2 (stI g5 hL'))
  · -- astore
    obtain rfl := zbq hok
    obtain ⟨x, r, rfl, hq4⟩ := zpR_spec h
    intro H locs ls' hP hS hll hnd hL
    obtain ⟨ls2, g1, g2, g3, g4, g5⟩ := zsl_spec (ad := ad) (i := 0) (fun x e => by cases e) hnd hq4
    exact lv_astore hx hb (zdec hdec) hL (by omega) rfl (fun ls'' hL' => hY _ _ _ _ g1 H locs ls'' hP hS (by omega) g2 (stI g5 hL'))
  · -- lstore_n
    obtain rfl := zbq hok
    obtain ⟨x, r, rfl, hq5⟩ := zpL_spec h
    intro H locs ls' hP hS hll hnd hL
    obtain ⟨ls2, g1, g2, g3, g4, g5⟩ := zsl2_spec (ad := ad) (i := 0) (fun x e => by cases e) hnd hq5
    exact lv_lstore_n hx hb (zdec hdec) rfl hL (by omega) rfl (fun ls'' hL' => hY _ _ _ _ g1 H locs ls'' hP hS (by omega) g2 (stL g5 hL'))
  · -- lstore
    obtain rfl := zbq hok
    obtain ⟨x, r, rfl, hq6⟩ := zpL_spec h
    intro H locs ls' hP hS hll hnd hL
    obtain ⟨ls2, g1, g2, g3, g4, g5⟩ := zsl2_spec (ad := ad) (i := 0) (fun x e => by cases e) hnd hq6
    exact lv_lstore hx hb (zdec hdec) hL (by omega) rfl (fun ls'' hL' => hY _ _ _ _ g1 H locs ls'' hP hS (by omega) g2 (stL g5 hL'))
  · -- iinc
    obtain ⟨h1, h2⟩ := zand hok
    obtain rfl := zbq h1
    intro H locs ls' hP hS hll hnd hL
    obtain ⟨v, hv, hm⟩ := zgl_spec (ad := ad) (i := 0) h
    obtain ⟨x, rfl, hv⟩ := zvI_spec hv
    obtain ⟨ls2, g1, g2, g3, g4, g5⟩ := zsl_spec (ad := ad) (i := 0) (fun x e => by cases e) hnd hv
    obtain ⟨kk, hk⟩ := List.getElem?_of_mem hm
    rw [Nat.zero_add] at hk
    exact lv_iinc hx hb (zdec hdec) hL hk (by rw [of_decide_eq_true h2]) (by omega) rfl (fun ls'' hL' => hY _ _ _ _ g1 H locs ls'' hP hS (by omega) g2 (stI g5 hL'))
  · -- iadd
    obtain rfl := zbq hok
    obtain ⟨y, r, rfl, hq7⟩ := zpI_spec h
    obtain ⟨x, r, rfl, hq8⟩ := zpI_spec hq7
    intro H locs ls' hP hS hll hnd hL
    exact lv_iadd hx hb (zdec hdec) (hY _ _ _ _ hq8 H locs ls' hP hS hll hnd hL)
  · -- isub
    obtain rfl := zbq hok
    obtain ⟨y, r, rfl, hq9⟩ := zpI_spec h
    obtain ⟨x, r, rfl, hq10⟩ := zpI_spec hq9
    intro H locs ls' hP hS hll hnd hL
    exact lv_isub hx hb (zdec hdec) (hY _ _ _ _ hq10 H locs ls' hP hS hll hnd hL)
  · -- imul
    obtain rfl := zbq hok
    obtain ⟨y, r, rfl, hq11⟩ := zpI_spec h
    obtain ⟨x, r, rfl, hq12⟩ := zpI_spec hq11
    intro H locs ls' hP hS hll hnd hL
    exact lv_imul hx hb (zdec hdec) (hY _ _ _ _ hq12 H locs ls' hP hS hll hnd hL)
  · -- idiv
    obtain rfl := zbq hok
    obtain ⟨y, r, rfl, hq13⟩ := zpI_spec h
    obtain ⟨x, r, rfl, hne, hq14⟩ := zpI_spec hq13
    intro H locs ls' hP hS hll hnd hL
    exact lv_idiv hx hb (zdec hdec) hne (hY _ _ _ _ hq14 H locs ls' hP hS hll hnd hL)
  · -- irem
    obtain rfl := zbq hok
    obtain ⟨y, r, rfl, hq15⟩ := zpI_spec h
    obtain ⟨x, r, rfl, hne, hq16⟩ := zpI_spec hq15
    intro H locs ls' hP hS hll hnd hL
    exact lv_irem hx hb (zdec hdec) hne (hY _ _ _ _ hq16 H locs ls' hP hS hll hnd hL)
  · -- iand
    obtain rfl := zbq hok
    obtain ⟨y, r, rfl, hq17⟩ := zpI_spec h
    obtain ⟨x, r, rfl, hq18⟩ := zpI_spec hq17
    intro H locs ls' hP hS hll hnd hL
    exact lv_iand hx hb (zdec hdec) (hY _ _ _ _ hq18 H locs ls' hP hS hll hnd hL)
  · -- ineg
    obtain rfl := zbq hok
    obtain ⟨x, r, rfl, hq19⟩ := zpI_spec h
    intro H locs ls' hP hS hll hnd hL
    exact lv_ineg hx hb (zdec hdec) (hY _ _ _ _ hq19 H locs ls' hP hS hll hnd hL)
  · -- i2l
    obtain rfl := zbq hok
    obtain ⟨x, r, rfl, hq20⟩ := zpI_spec h
    intro H locs ls' hP hS hll hnd hL
    exact lv_i2l hx hb (zdec hdec) rfl (hY _ _ _ _ hq20 H locs ls' hP hS hll hnd hL)
  · -- i2b
    obtain rfl := zbq hok
    obtain ⟨x, r, rfl, hq21⟩ := zpI_spec h
    intro H locs ls' hP hS hll hnd hL
    exact lv_i2b hx hb (zdec hdec) rfl (hY _ _ _ _ hq21 H locs ls' hP hS hll hnd hL)
  · -- i2s
    obtain rfl := zbq hok
    obtain ⟨x, r, rfl, hq22⟩ := zpI_spec h
    intro H locs ls' hP hS hll hnd hL
    exact lv_i2s hx hb (zdec hdec) rfl (hY _ _ _ _ hq22 H locs ls' hP hS hll hnd hL)
  · -- ladd
    obtain rfl := zbq hok
    obtain ⟨y, r, rfl, hq23⟩ := zpL_spec h
    obtain ⟨x, r, rfl, hq24⟩ := zpL_spec hq23
    intro H locs ls' hP hS hll hnd hL
    exact lv_ladd hx hb (zdec hdec) (hY _ _ _ _ hq24 H locs ls' hP hS hll hnd hL)
  · -- lmul
    obtain rfl := zbq hok
    obtain ⟨y, r, rfl, hq25⟩ := zpL_spec h
    obtain ⟨x, r, rfl, hq26⟩ := zpL_spec hq25
    intro H locs ls' hP hS hll hnd hL
    exact lv_lmul hx hb (zdec hdec) (hY _ _ _ _ hq26 H locs ls' hP hS hll hnd hL)
  · -- lcmp
    obtain rfl := zbq hok
    obtain ⟨y, r, rfl, hq27⟩ := zpL_spec h
    obtain ⟨x, r, rfl, hq28⟩ := zpL_spec hq27
    intro H locs ls' hP hS hll hnd hL
    exact W.lcmp hx hb (zdec hdec) (hY _ _ _ _ hq28 H locs ls' hP hS hll hnd hL)
  · -- dup
    obtain rfl := zbq hok
    split at h
    · intro H locs ls' hP hS hll hnd hL
      exact lv_dup hx hb (zdec hdec) rfl (hY _ _ _ _ h H locs ls' hP hS hll hnd hL)
    · intro H locs ls' hP hS hll hnd hL
      exact lv_dup hx hb (zdec hdec) rfl (hY _ _ _ _ h H locs ls' hP hS hll hnd hL)
    · exact h.elim
  · -- dup2
    obtain rfl := zbq hok
    obtain ⟨y, r, rfl, hq29⟩ := zpI_spec h
    obtain ⟨x, r, rfl, hq30⟩ := zpR_spec hq29
    intro H locs ls' hP hS hll hnd hL
    exact lv_dup2_11 hx hb (zdec hdec) rfl rfl (hY _ _ _ _ hq30 H locs ls' hP hS hll hnd hL)
  · -- pop
    obtain rfl := zbq hok
    split at h
    · intro H locs ls' hP hS hll hnd hL
      exact lv_pop hx hb (zdec hdec) rfl (hY _ _ _ _ h H locs ls' hP hS hll hnd hL)
    · intro H locs ls' hP hS hll hnd hL
      exact lv_pop hx hb (zdec hdec) rfl (hY _ _ _ _ h H locs ls' hP hS hll hnd hL)
    · exact h.elim
  · -- goto
    obtain ⟨h1, h2⟩ := zand hok
    obtain rfl := zbq h1
    intro H locs ls' hP hS hll hnd hL
    exact lv_goto hx hb (zdec hdec) (of_decide_eq_true h2) (hY _ _ _ _ h H locs ls' hP hS hll hnd hL)
  · -- ifCond
    obtain ⟨h1, h2⟩ := zand hok
    obtain rfl := zbq h1
    have h2 := of_decide_eq_true h2
    obtain ⟨x, r, rfl, hq31⟩ := zpI_spec h
    intro H locs ls' hP hS hll hnd hL
    unfold zif at hq31
    split at hq31
    · exact lv_if_eq hx hb (zdec hdec) h2 (fun q => hY _ _ _ _ (hq31.1 q) H locs ls' hP hS hll hnd hL) (fun q => hY _ _ _ _ (hq31.2 q) H locs ls' hP hS hll hnd hL)
    · exact lv_if_ne hx hb (zdec hdec) h2 (fun q => hY _ _ _ _ (hq31.1 q) H locs ls' hP hS hll hnd hL) (fun q => hY _ _ _ _ (hq31.2 q) H locs ls' hP hS hll hnd hL)
    · exact lv_if_lt hx hb (zdec hdec) h2 (fun q => hY _ _ _ _ (hq31.1 q) H locs ls' hP hS hll hnd hL) (fun q => hY _ _ _ _ (hq31.2 q) H locs ls' hP hS hll hnd hL)
    · exact lv_if_ge hx hb (zdec hdec) h2 (fun q => hY _ _ _ _ (hq31.1 q) H locs ls' hP hS hll hnd hL) (fun q => hY _ _ _ _ (hq31.2 q) H locs ls' hP hS hll hnd hL)
    · exact lv_if_gt hx hb (zdec hdec) h2 (fun q => hY _ _ _ _ (hq31.1 q) H locs ls' hP hS hll hnd hL) (fun q => hY _ _ _ _ (hq31.2 q) H locs ls' hP hS hll hnd hL)
    · exact lv_if_le hx hb (zdec hdec) h2 (fun q => hY _ _ _ _ (hq31.1 q) H locs ls' hP hS hll hnd hL) (fun q => hY _ _ _ _ (hq31.2 q) H locs ls' hP hS hll hnd hL)
  · -- if_icmp
    obtain ⟨h1, h2⟩ := zand hok
    obtain rfl := zbq h1
    have h2 := of_decide_eq_true h2
    obtain ⟨y, r, rfl, hq32⟩ := zpI_spec h
    obtain ⟨x, r, rfl, hq33⟩ := zpI_spec hq32
    intro H locs ls' hP hS hll hnd hL
    unfold zif at hq33
    split at hq33
    · exact lv_icmp_eq hx hb (zdec hdec) h2 (fun q => hY _ _ _ _ (hq33.1 q) H locs ls' hP hS hll hnd hL) (fun q => hY _ _ _ _ (hq33.2 q) H locs ls' hP hS hll hnd hL)
    · exact lv_icmp_ne hx hb (zdec hdec) h2 (fun q => hY _ _ _ _ (hq33.1 q) H locs ls' hP hS hll hnd hL) (fun q => hY _ _ _ _ (hq33.2 q) H locs ls' hP hS hll hnd hL)
    · exact lv_icmp_lt hx hb (zdec hdec) h2 (fun q => hY _ _ _ _ (hq33.1 q) H locs ls' hP hS hll hnd hL) (fun q => hY _ _ _ _ (hq33.2 q) H locs ls' hP hS hll hnd hL)
    · exact lv_icmp_ge hx hb (zdec hdec) h2 (fun q => hY _ _ _ _ (hq33.1 q) H locs ls' hP hS hll hnd hL) (fun q => hY _ _ _ _ (hq33.2 q) H locs ls' hP hS hll hnd hL)
    · exact lv_icmp_gt hx hb (zdec hdec) h2 (fun q => hY _ _ _ _ (hq33.1 q) H locs ls' hP hS hll hnd hL) (fun q => hY _ _ _ _ (hq33.2 q) H locs ls' hP hS hll hnd hL)
    · exact lv_icmp_le hx hb (zdec hdec) h2 (fun q => hY _ _ _ _ (hq33.1 q) H locs ls' hP hS hll hnd hL) (fun q => hY _ _ _ _ (hq33.2 q) H locs ls' hP hS hll hnd hL)
  · -- ifnull
    obtain ⟨h1, h2⟩ := zand hok
    obtain rfl := zbq h1
    have h2 := of_decide_eq_true h2
    split at h
    · intro H locs ls' hP hS hll hnd hL
      exact lv_ifnullN hx hb (zdec hdec) h2 (hY _ _ _ _ h H locs ls' hP hS hll hnd hL)
    · intro H locs ls' hP hS hll hnd hL
      exact lv_ifnull hx hb (zdec hdec) (hY _ _ _ _ h H locs ls' hP hS hll hnd hL)
    · exact h.elim
  · -- tableswitch
    rename_i df lo hi offs
    obtain ⟨h1, h2⟩ := zand hok
    obtain ⟨h2, h3⟩ := zand h2
    have h3 := of_decide_eq_true h3
    obtain ⟨x, r, rfl, hq34⟩ := zpI_spec h
    intro H locs ls' hP hS hll hnd hL
    by_cases hin : x.toInt < lo ∨ hi < x.toInt
    · exact lv_tableOut hx hb hdec hin (zpos_nat h1) (hY _ _ _ _ (hq34.1 hin) H locs ls' hP hS hll hnd hL)
    · have hj : (x.toInt - lo).toNat < offs.toList.length := by omega
      have ho : offs.toList[(x.toInt - lo).toNat]? = some offs.toList[(x.toInt - lo).toNat] := List.getElem?_eq_getElem hj
      have hg := ztab_get hq34.2 ho (by omega)
      exact lv_tableIn hx hb hdec (fun q => hin (Or.inl q)) (fun q => hin (Or.inr q)) (by rw [← Array.getElem?_toList]; exact ho) (zpos_nat (List.all_eq_true.mp h2 _ (List.getElem_mem hj))) (hY _ _ _ _ hg H locs ls' hP hS hll hnd hL)
  · -- lookupswitch
    rename_i df ps
    obtain ⟨h1, h2⟩ := zand hok
    obtain ⟨h2, h3⟩ := zand h2
    obtain ⟨x, r, rfl, hq35⟩ := zpI_spec h
    have hg := zlkp_get hq35
    intro H locs ls' hP hS hll hnd hL
    have hpos : zpos pc (Op.lookupswitch.offset ps.toList df x.toInt) = true := by
      have gen : ∀ qs : List (Int × Int), qs.all (fun q => zpos pc q.2) = true → zpos pc (Op.lookupswitch.offset qs df x.toInt) = true := by
        intro qs
        induction qs with
        | nil => intro _; simpa [Op.lookupswitch.offset] using h1
        | cons q t ih =>
          intro h2
          have h2' := List.all_eq_true.mp h2
          by_cases he : q.1 = x.toInt
          · have := h2' q List.mem_cons_self
            simpa [Op.lookupswitch.offset, he] using this
          · have := ih (List.all_eq_true.mpr (fun z hz => h2' z (List.mem_cons_of_mem _ hz)))
            have he' : ¬ x.toInt = q.1 := fun e => he e.symm
            simpa [Op.lookupswitch.offset, he, he'] using this
      exact gen _ h2
    exact lv_lookup hx hb hdec h3 rfl (zpos_nat hpos) (hY _ _ _ _ hg H locs ls' hP hS hll hnd hL)
  · -- getfield
    obtain ⟨h1, h2⟩ := zand hok
    obtain rfl := zbq h1
    obtain ⟨o, r, rfl, hq36⟩ := zpR_spec h
    obtain ⟨ci, fs, hsh, hq37⟩ := zobj_spec hq36
    obtain ⟨hci, hq38⟩ := zbif hq37
    obtain rfl := zbq hci
    intro H locs ls' hP hS hll hnd hL
    rw [zn_eq] at h2
    split at h2
    · rename_i C F N hcl
      obtain ⟨h3, h4⟩ := zand h2
      obtain ⟨h4, h5⟩ := zand h4
      have h3 := of_decide_eq_true h3
      have h4 := of_decide_eq_true h4
      have h5 := zmem (of_decide_eq_true h5)
      obtain ⟨u1, -, -⟩ := hT.1 _ _ _ _ hcl
      rw [zn_eq] at hq38
      cases hf : fs[b]? with
      | none => rw [hf] at hq38; exact hq38.elim
      | some f =>
        rw [hf] at hq38
        have hv : (fs.mapIdx (zfv ad S o))[b]? = some (zfv ad S o b f) := by simp [hf]
        refine va_get (D := D) (ci := ci) (C := C) (T := F) (N := N) hx hb hw u1 hown hK hP o (zws_at hsh) hcl b h3 (hw _ h5) (by rw [h4]; exact fun _ h9 => h9) hv (zdec hdec) ?_
        cases f with
        | none => exact hY _ _ _ _ hq38 H locs ls' hP hS hll hnd hL
        | some r => exact hY _ _ _ _ hq38 H locs ls' hP hS hll hnd hL
    · exact absurd h2 (by simp)
  · -- putfield
    obtain ⟨h1, h2⟩ := zand hok
    obtain rfl := zbq h1
    obtain ⟨x, r, rfl, hq39⟩ := zpI_spec h
    obtain ⟨o, r, rfl, hq40⟩ := zpR_spec hq39
    obtain ⟨ci, fs, hsh, hq41⟩ := zobj_spec hq40
    obtain ⟨hci, hf, hz, hq42⟩ := zbif hq41
    obtain rfl := zbq hci
    intro H locs ls' hP hS hll hnd hL
    rw [zn_eq] at h2 hf
    split at h2
    · rename_i C F N hcl
      obtain ⟨h3, h4⟩ := zand h2
      obtain ⟨h4, h5⟩ := zand h4
      obtain ⟨h5, h6⟩ := zand h5
      obtain ⟨h6, h7⟩ := zand h6
      have h3 := of_decide_eq_true h3
      have h4 := of_decide_eq_true h4
      have h5 := zmem (of_decide_eq_true h5)
      have h6 := of_decide_eq_true h6
      have h7 := of_decide_eq_true h7
      obtain ⟨u1, ⟨ty0, u2⟩, u3⟩ := hT.1 _ _ _ _ hcl
      have hlt : b < fs.length := (List.getElem?_eq_some_iff.mp hf).1
      obtain ⟨ty, t1, t2, t3⟩ : ∃ ty, parseFieldDescriptor (F b).2.2.1 = some ty ∧ narrow ty (.int x) = .int x ∧ fits ty (.int x) = true := by
        rcases h7 with ⟨e1, e2⟩ | e1
        · refine ⟨.boolean, by rw [e1]; decide +kernel, ?_, ?_⟩
          · rcases hz e2 with rfl | rfl <;> rfl
          · rcases hz e2 with rfl | rfl <;> rfl
        · exact ⟨.int, by rw [e1]; decide +kernel, rfl, rfl⟩
      refine va_put (D := D) (ci := ci) (C := C) (T := F) (N := N) hx hb hw u1 ty0 u2 u3 hown hK hP (hD S) hS o (zws_at hsh) hcl b h3 (hw _ h5) (by rw [h4]; exact fun _ h9 => h9) h6 t1 t2 t3 (by simpa using hlt) (zdec hdec) (fun H1 locs1 hP1 hD1 hS1 => ?_)
      rw [zws_set (S' := zu S o b x) hsh (by simp only [zce]; rw [← zfs_set hf]; rfl) (fun c' hc => zu_same hc)] at hP1
      exact hY _ _ _ _ hq42 H1 locs1 ls' hP1 hS1 hll hnd hL
    · exact absurd h2 (by simp)
  · -- iaload
    obtain rfl := zbq hok
    obtain ⟨i, r, rfl, hq43⟩ := zpI_spec h
    obtain ⟨o, r, rfl, hq44⟩ := zpR_spec hq43
    obtain ⟨n, hsh, hi, hq45⟩ := zarr_spec hq44
    intro H locs ls' hP hS hll hnd hL
    exact va_iald hx hb hK hP o o (zws_at hsh) (zty_at hsh) hi (zdec hdec) (hY _ _ _ _ hq45 H locs ls' hP hS hll hnd hL)
  · -- iastore
    obtain rfl := zbq hok
    obtain ⟨x, r, rfl, hq46⟩ := zpI_spec h
    obtain ⟨i, r, rfl, hq47⟩ := zpI_spec hq46
    obtain ⟨o, r, rfl, hq48⟩ := zpR_spec hq47
    obtain ⟨n, hsh, hi, hq49⟩ := zarr_spec hq48
    intro H locs ls' hP hS hll hnd hL
    refine va_iast hx hb hK hP (hD S) hS o o (zws_at hsh) (zty_at hsh) hi (zdec hdec) (fun H1 locs1 hP1 hD1 hS1 => ?_)
    rw [zws_set (S' := zu S o i.toNatClampNeg x) hsh (by simp [zce, zu_self]) (fun c' hc => zu_same hc)] at hP1
    exact hY _ _ _ _ hq49 H1 locs1 ls' hP1 hS1 hll hnd hL
  · -- aaload
    obtain rfl := zbq hok
    obtain ⟨i, r, rfl, hq50⟩ := zpI_spec h
    obtain ⟨o, r, rfl, hq51⟩ := zpR_spec hq50
    obtain ⟨rs, hsh, hi, hq52⟩ := zrow_spec hq51
    intro H locs ls' hP hS hll hnd hL
    have hlt : i.toNatClampNeg < rs.length := Nat.not_le.mp fun q => hi (Or.inr q)
    have hq : zn rs i.toNatClampNeg = some rs[i.toNatClampNeg] := by rw [zn_eq]; exact List.getElem?_eq_getElem hlt
    refine va_aldq hx hb hK hP o o (zws_at hsh) (zty_at hsh) hi (zdec hdec) ?_
    have := hY _ _ _ _ (hq52 _ hq) H locs ls' hP hS hll hnd hL
    rw [hq]
    exact this
  · -- arraylength
    obtain rfl := zbq hok
    obtain ⟨o, r, rfl, hq53⟩ := zpR_spec h
    obtain ⟨n, hsh, hq54⟩ := zarr_spec hq53
    intro H locs ls' hP hS hll hnd hL
    exact va_alen hx hb hK hP o o (zws_at hsh) (zty_at hsh) rfl (zdec hdec) (hY _ _ _ _ hq54 H locs ls' hP hS hll hnd hL)
  · -- invokevirtual
    obtain ⟨h1, h2⟩ := zand hok
    obtain rfl := zbq h1
    obtain ⟨as, r, rfl, hlen, hq55⟩ := zpop_spec h
    obtain ⟨o, r, rfl, hq56⟩ := zpR_spec hq55
    obtain ⟨ci, fs, hsh, hq57⟩ := zobj_spec hq56
    obtain ⟨hci, hq58⟩ := zbif hq57
    obtain ⟨hfit, hq59⟩ := zbif hq58
    obtain rfl := zbq hci
    split at h2
    · rename_i mi hmi
      obtain ⟨h3, h4⟩ := zand h2
      obtain ⟨h4, h5⟩ := zand h4
      have h3 := of_decide_eq_true h3
      have h4 := of_decide_eq_true h4
      have h5 := zmem (of_decide_eq_true h5)
      rw [List.append_nil] at hq59
      exact zinvV (K := K) (Y := Y) hx hb hml hown hts hK hD hA hns hT (hMs _ _ hmi) hR h4 hsh (by rw [hlen, h3]) h5 hfit (hKs _ _ _ _ _ hmi hq59) (zdec hdec) (fun rv S' hq => hY _ _ _ _ hq)
    · exact absurd h2 (by simp)
  · -- invokestatic
    obtain ⟨h1, h2⟩ := zand hok
    obtain rfl := zbq h1
    have hfr : 1 ≤ R.frames := by omega
    split at h
    · obtain ⟨as, r, rfl, hlen, hq60⟩ := zpop_spec h
      obtain ⟨hfit, hq61⟩ := zbif hq60
      have h2 : (match zn Ms a with
        | some mi => decide (mi.2.2.2.2.2.1 = b) && (decide (mi.2.2.2.2.2.2.1 = 0) && (decide (zn T hh = some (Cond.methodLink own _ mi.1)) || (match zn ns (hh - 100000) with
          | some (o, j, y, _) => decide (o = own) && (decide (j = _) && decide (y = mi.1))
          | none => false)))
        | none => false) = true := h2
      split at h2
      · rename_i mi hmi
        obtain ⟨h3, h4⟩ := zand h2
        obtain ⟨h4, h5⟩ := zand h4
        have h3 := of_decide_eq_true h3
        have h4 := of_decide_eq_true h4
        rw [List.append_nil] at hq61
        refine zinvS (K := K) (Y := Y) hx hb hml hown hts hK hD hA hns hT (hMs _ _ hmi) hR h4 (by rw [hlen, h3]) ?_ hfit (hKs _ _ _ _ _ hmi hq61) (zdec hdec) (fun rv S' hq => hY _ _ _ _ hq)
        rcases Bool.or_eq_true _ _ ▸ h5 with h5 | h5
        · exact Or.inl (zmem (of_decide_eq_true h5))
        · split at h5
          · rename_i o j y hst hns1
            obtain ⟨e1, e2⟩ := zand h5
            obtain ⟨e2, e3⟩ := zand e2
            have e1 := of_decide_eq_true e1
            have e2 := of_decide_eq_true e2
            have e3 := of_decide_eq_true e3
            subst e1 e2 e3
            rw [zn_eq] at hns1
            exact Or.inr ⟨hst, List.mem_of_getElem? hns1⟩
          · exact absurd h5 (by simp)
      · exact absurd h2 (by simp)
    · obtain ⟨y, r, rfl, hq62⟩ := zpI_spec h
      obtain ⟨x, r, rfl, hq63⟩ := zpI_spec hq62
      obtain ⟨hfit, hq64⟩ := zbif hq63
      have h2 := zmem (of_decide_eq_true h2)
      intro H locs ls' hP hS hll hnd hL
      have hcat : ((r.map (zv ad)).map fun v => v.category).sum ≤ 8 := by rw [zv_cats]; exact Nat.le_of_ble_eq_true hfit
      exact va_mmax hx hb (by rw [hml]; exact hL.1.symm) hown (hw _ h2) (hw _ (hT.2.1 _ (by simp))) (hw _ (hT.2.1 _ (by simp))) (hw _ (hT.2.1 _ (by simp))) hfr (by omega) (Nat.zero_le _) (Nat.zero_le _) (zdec hdec) (hY _ _ _ _ hq64 H locs ls' hP hS hll hnd hL)
    · obtain ⟨y, r, rfl, hq65⟩ := zpI_spec h
      obtain ⟨x, r, rfl, hq66⟩ := zpI_spec hq65
      obtain ⟨hfit, hq67⟩ := zbif hq66
      have h2 := zmem (of_decide_eq_true h2)
      intro H locs ls' hP hS hll hnd hL
      have hcat : ((r.map (zv ad)).map fun v => v.category).sum ≤ 8 := by rw [zv_cats]; exact Nat.le_of_ble_eq_true hfit
      exact va_mmin hx hb (by rw [hml]; exact hL.1.symm) hown (hw _ h2) (hw _ (hT.2.1 _ (by simp))) (hw _ (hT.2.1 _ (by simp))) (hw _ (hT.2.1 _ (by simp))) hfr (by omega) (Nat.zero_le _) (Nat.zero_le _) (zdec hdec) (hY _ _ _ _ hq67 H locs ls' hP hS hll hnd hL)
    · rename_i hc0 hc1 hc2
      obtain ⟨n, r, rfl, hq68⟩ := zpI_spec h
      obtain ⟨dp, r, rfl, hq69⟩ := zpI_spec hq68
      obtain ⟨o1, r, rfl, hq70⟩ := zpR_spec hq69
      obtain ⟨sp, r, rfl, hq71⟩ := zpI_spec hq70
      obtain ⟨o0, r, rfl, hq72⟩ := zpR_spec hq71
      obtain ⟨n0, hs0, hq73⟩ := zarr_spec hq72
      obtain ⟨n1, hs1, hq74⟩ := zarr_spec hq73
      obtain ⟨hfit, j1, j2, j3, j4, j5, hq75⟩ := zbif hq74
      split at h2
      · exact absurd rfl hc0
      · exact absurd rfl hc1
      · exact absurd rfl hc2
      have h2 := zmem (of_decide_eq_true h2)
      intro H locs ls' hP hS hll hnd hL
      have hcat : ((r.map (zv ad)).map fun v => v.category).sum ≤ 8 := by rw [zv_cats]; exact Nat.le_of_ble_eq_true hfit
      have hnat : nativeFrameWords "java/lang/System" "arraycopy" 5 + 11 ≤ 50 := by decide +kernel
      refine va_copyi hx hb (by rw [hml]; exact hL.1.symm) hown (hw _ h2) (hw _ (hT.2.1 _ (by simp))) (hw _ (hT.2.1 _ (by simp))) (hw _ (hT.2.1 _ (by simp))) hK hP (hD S) hS o0 o1 o0 o1 (zws_at hs0) (zws_at hs1) (zty_at hs0) (zty_at hs1) rfl j1 j2 j3 j4 j5 (fun _ _ => rfl) hfr (by omega) (zdec hdec) (fun H1 locs1 hP1 hD1 hS1 => ?_)
      rw [zws_set (S' := zcp S o0 o1 sp.toNatClampNeg dp.toNatClampNeg n.toNatClampNeg) hs1 (by simp [zce, zcp_self]) (fun c' hc => zcp_same hc)] at hP1
      exact hY _ _ _ _ hq75 H1 locs1 ls' hP1 hS1 hll hnd hL
  · -- ireturn
    obtain rfl := zbq hok
    split at h
    · split at h
      · intro H locs ls' hP hS hll hnd hL
        exact W.iret hx hb (hr.trans hrt) (fun t ht hW => ⟨⟨_, S, rfl, h, by show va_P D cl (zws ad cA sh S) t.heap; rw [ht]; exact hP⟩, hS.F ht⟩) hS.2.2 (zdec hdec) hlocks
      · intro H locs ls' hP hS hll hnd hL
        refine W.zret hx hb (hr.trans hrt) ?_ (fun t ht hW => ⟨⟨_, S, rfl, h.2, by show va_P D cl (zws ad cA sh S) t.heap; rw [ht]; exact hP⟩, hS.F ht⟩) hS.2.2 (zdec hdec) hlocks
        rcases h.1 with e | e <;> rw [e] <;> rfl
      · exact h.elim
    · exact h.elim
  · -- lreturn
    obtain rfl := zbq hok
    split at h
    · split at h
      · intro H locs ls' hP hS hll hnd hL
        exact W.lret hx hb (hr.trans hrt) (fun t ht hW => ⟨⟨_, S, rfl, h, by show va_P D cl (zws ad cA sh S) t.heap; rw [ht]; exact hP⟩, hS.F ht⟩) hS.2.2 (zdec hdec) hlocks
      · exact h.elim
    · exact h.elim
  · -- areturn
    obtain rfl := zbq hok
    split at h
    · rename_i x
      split at h
      · intro H locs ls' hP hS hll hnd hL
        obtain ⟨C, hC⟩ := hrt
        exact W.aret hx hb (hr.trans hC) (Or.inl ⟨C, rfl⟩) (Or.inr ⟨ad x, rfl⟩) (fun t ht hW => ⟨⟨(S, x), _, rfl, h, rfl, by show va_P D cl (zws ad cA sh S) t.heap; rw [ht]; exact hP⟩, hS.F ht⟩) hS.2.2 (zdec hdec) hlocks
      · exact h.elim
    · exact h.elim
  · -- return
    obtain rfl := zbq hok
    split at h
    · split at h
      · intro H locs ls' hP hS hll hnd hL
        exact W.vret hx hb (hr.trans hrt) (fun t ht hW => ⟨⟨S, rfl, h, by show va_P D cl (zws ad cA sh S) t.heap; rw [ht]; exact hP⟩, hS.F ht⟩) hS.2.2 (zdec hdec) hlocks
      · exact h.elim
    · exact h.elim
  · exact h.elim
end ZS3
