theorem zand {a b : Bool} (h : (a && b) = true) : a = true ∧ b = true := by cases a <;> cases b <;> simp_all
theorem zbq {a b : Nat} (h : Nat.beq a b = true) : a = b := Nat.eq_of_beq_eq_true h
theorem zdec {cc : ByteArray} {pc n : Nat} {ins : Instr} (h : decode cc pc = .ok (ins, pc + n - pc)) : decode cc pc = .ok (ins, n) := by rw [h, Nat.add_sub_cancel_left]
theorem zmem {T : List Cond} {h : Nat} {w : Cond} (hh : zn T h = some w) : w ∈ T := by rw [zn_eq] at hh; exact List.mem_of_getElem? hh
theorem zpos_nat {pc : Nat} {o : Int} (h : zpos pc o = true) : (pc : Int) + o = ((((pc : Int) + o).toNat : Nat) : Int) := by
  have := of_decide_eq_true h
  omega
theorem ztab_get {pc : Nat} {x : Int32} {G : Nat → Prop} : ∀ {offs : List Int} {lo : Int}, ztab pc x G offs lo → ∀ {j : Nat} {o : Int}, offs[j]? = some o → x.toInt = lo + j → G ((pc : Int) + o).toNat := by
  intro offs
  induction offs with
  | nil => intro lo _ j o h; simp at h
  | cons a t ih =>
    intro lo h j o hj hx
    cases j with
    | zero =>
      simp at hj
      subst hj
      exact h.1 (by simpa using hx)
    | succ j => exact ih h.2 (j := j) (by simpa using hj) (by rw [hx]; push_cast; omega)
theorem zlkp_get {pc : Nat} {x : Int32} {G : Nat → Prop} {df : Int} : ∀ {ps : List (Int × Int)}, zlkp pc x G df ps → G ((pc : Int) + Op.lookupswitch.offset ps df x.toInt).toNat := by
  intro ps
  induction ps with
  | nil => intro h; simpa [zlkp, Op.lookupswitch.offset] using h
  | cons a t ih =>
    intro h
    by_cases he : x.toInt = a.1
    · have := h.1 he
      simpa [Op.lookupswitch.offset, he] using this
    · have := ih (h.2 he)
      have he' : ¬ a.1 = x.toInt := fun e => he e.symm
      simpa [Op.lookupswitch.offset, he, he'] using this
