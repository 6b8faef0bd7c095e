/-! A SMALL MACHINE over a heap of fixed shape. Cells are numbered; all that changes is a table of ints, S c k: of an object's cell its int fields, of an array's cell its items. References are fixed once the constructors are done. -/
abbrev zS : Type := Nat → Nat → Int32
/-- the shape of a cell: an int array of a length; an array of references to cells; an object of a class, its fields: none is an int, some c the cell it refers to -/
abbrev zD : Type := Nat ⊕ (List Nat ⊕ (Nat × List (Option Nat)))
/-- a row of code: pc, instruction, the next pc, a constant, three numbers, the place of its word -/
abbrev zI : Type := Nat × Instr × Nat × Int32 × Nat × Nat × Nat × Nat
abbrev zC : Type := List (List zI)
abbrev zLs : Type := List (Option Value)
abbrev zKT : Type := Nat → List Value → zS → (Option Value → zS → Prop) → Prop
abbrev zXT : Type := Nat → zLs → List Value → zS → Prop
/-- a method: name, bytes, locals, its return type, the kind of that (0 nothing, 1 int, 2 boolean, 3 long, 4 a reference), parameters, 0 or 1 and its class' number, code -/
abbrev zMI : Type := MethodName × ByteArray × Nat × Option FieldType × Nat × Nat × Nat × zC
def zu (S : zS) (c k : Nat) (v : Int32) : zS := fun c' => if c' = c then upd (S c) k v else S c'
def zcp (S : zS) (c0 c1 sp dp n : Nat) : zS := fun c' => if c' = c1 then va_cpy (S c0) (S c1) sp dp n else S c'
def zn {α : Type} : List α → Nat → Option α
  | [], _ => none
  | a :: _, 0 => some a
  | _ :: t, n + 1 => zn t n
theorem zn_eq {α : Type} (l : List α) (n : Nat) : zn l n = l[n]? := by
  induction l generalizing n with
  | nil => simp [zn]
  | cons a t ih => cases n with
    | zero => simp [zn]
    | succ n => simp [zn, ih]
def zlk : List zI → Nat → Option zI
  | [], _ => none
  | x :: t, pc => bif Nat.beq x.1 pc then some x else zlk t pc
def zat (C : zC) (pc : Nat) : Option zI := match zn C (pc / 16) with
  | none => none
  | some l => zlk l pc
def zpI (st : List Value) (f : Int32 → List Value → Prop) : Prop := match st with
  | .int x :: r => f x r
  | _ => False
def zpL (st : List Value) (f : Int64 → List Value → Prop) : Prop := match st with
  | .long x :: r => f x r
  | _ => False
def zpR (st : List Value) (f : Nat → List Value → Prop) : Prop := match st with
  | .ref x :: r => f x r
  | _ => False
def zvI (v : Value) (f : Int32 → Prop) : Prop := match v with
  | .int x => f x
  | _ => False
def zvL (v : Value) (f : Int64 → Prop) : Prop := match v with
  | .long x => f x
  | _ => False
/-- a reference or null -/
def zvA (v : Value) (f : Value → Prop) : Prop := match v with
  | .ref x => f (.ref x)
  | .null => f .null
  | _ => False
def zgo (a : Option Value) (f : Value → Prop) : Prop := match a with
  | some v => f v
  | none => False
def zgl : zLs → Nat → (Value → Prop) → Prop
  | [], _, _ => False
  | a :: _, 0, f => zgo a f
  | _ :: t, n + 1, f => zgl t n f
def zkl : Option Value → Option Value
  | some (.long _) => none
  | a => a
def zsl : zLs → Nat → Value → (zLs → Prop) → Prop
  | _ :: t, 0, v, f => f (some v :: t)
  | a :: _ :: t, 1, v, f => f (zkl a :: some v :: t)
  | a :: t, n + 2, v, f => zsl t (n + 1) v (fun t' => f (a :: t'))
  | _, _, _, _ => False
def zsl2 : zLs → Nat → Value → (zLs → Prop) → Prop
  | _ :: _ :: t, 0, v, f => f (some v :: none :: t)
  | a :: _ :: _ :: t, 1, v, f => f (zkl a :: some v :: none :: t)
  | a :: t, n + 2, v, f => zsl2 t (n + 1) v (fun t' => f (a :: t'))
  | _, _, _, _ => False
def zpop : Nat → List Value → List Value → (List Value → List Value → Prop) → Prop
  | 0, st, acc, f => f acc st
  | n + 1, v :: st, acc, f => zpop n st (v :: acc) f
  | _ + 1, [], _, _ => False
def zpush (r : Option Value) (st : List Value) : List Value := match r with
  | some v => v :: st
  | none => st
def zfit (st : List Value) : Bool := Nat.ble ((st.map fun v => v.category).sum) 8
def zobj (sh : List zD) (o : Nat) (f : Nat → List (Option Nat) → Prop) : Prop := match zn sh o with
  | some (.inr (.inr (ci, fs))) => f ci fs
  | _ => False
def zarr (sh : List zD) (o : Nat) (f : Nat → Prop) : Prop := match zn sh o with
  | some (.inl n) => f n
  | _ => False
def zrow (sh : List zD) (o : Nat) (f : List Nat → Prop) : Prop := match zn sh o with
  | some (.inr (.inl rs)) => f rs
  | _ => False
def zfld (S : zS) (o k : Nat) (x : Option (Option Nat)) (f : Value → Prop) : Prop := match x with
  | some none => f (.int (S o k))
  | some (some r) => f (.ref r)
  | none => False
def zif (cd : Jvm.ClassFile.Cond) (x y : Int32) (T F : Prop) : Prop := match cd with
  | .eq => (x = y → T) ∧ (¬ x = y → F)
  | .ne => (¬ x = y → T) ∧ (x = y → F)
  | .lt => (x < y → T) ∧ (¬ x < y → F)
  | .ge => (y ≤ x → T) ∧ (¬ y ≤ x → F)
  | .gt => (y < x → T) ∧ (¬ y < x → F)
  | .le => (x ≤ y → T) ∧ (¬ x ≤ y → F)
def ztab (pc : Nat) (x : Int32) (G : Nat → Prop) : List Int → Int → Prop
  | [], _ => True
  | o :: t, lo => (x.toInt = lo → G ((pc : Int) + o).toNat) ∧ ztab pc x G t (lo + 1)
def zlkp (pc : Nat) (x : Int32) (G : Nat → Prop) (dflt : Int) : List (Int × Int) → Prop
  | [] => G ((pc : Int) + dflt).toNat
  | o :: t => (x.toInt = o.1 → G ((pc : Int) + o.2).toNat) ∧ (¬ x.toInt = o.1 → zlkp pc x G dflt t)
/-- one instruction -/
def zin (sh : List zD) (K : zKT) (rt : Nat) (Q : Option Value → zS → Prop) (X : zXT) (pc : Nat) (ins : Instr) (nx : Nat) (k : Int32) (a b c : Nat) (ls : zLs) (st : List Value) (S : zS) : Prop :=
  match ins with
  | .iconst _ => X nx ls (.int k :: st) S
  | .bipush _ => X nx ls (.int k :: st) S
  | .sipush _ => X nx ls (.int k :: st) S
  | .ldc _ => X nx ls (.int k :: st) S
  | .ldc_w _ => X nx ls (.int k :: st) S
  | .lconst _ => X nx ls (.long k.toInt64 :: st) S
  | .ldc2_w _ => X nx ls (.long k.toInt64 :: st) S
  | .aconst_null => X nx ls (.null :: st) S
  | .iload_n n => zgl ls n (fun v => zvI v (fun x => X nx ls (.int x :: st) S))
  | .iload n => zgl ls n (fun v => zvI v (fun x => X nx ls (.int x :: st) S))
  | .lload_n n => zgl ls n (fun v => zvL v (fun x => X nx ls (.long x :: st) S))
  | .lload n => zgl ls n (fun v => zvL v (fun x => X nx ls (.long x :: st) S))
  | .aload_n n => zgl ls n (fun v => zvA v (fun x => X nx ls (x :: st) S))
  | .aload n => zgl ls n (fun v => zvA v (fun x => X nx ls (x :: st) S))
  | .istore_n n => zpI st (fun x r => zsl ls n (.int x) (fun ls => X nx ls r S))
  | .istore n => zpI st (fun x r => zsl ls n (.int x) (fun ls => X nx ls r S))
  | .astore_n n => zpR st (fun x r => zsl ls n (.ref x) (fun ls => X nx ls r S))
  | .astore n => zpR st (fun x r => zsl ls n (.ref x) (fun ls => X nx ls r S))
  | .lstore_n n => zpL st (fun x r => zsl2 ls n (.long x) (fun ls => X nx ls r S))
  | .lstore n => zpL st (fun x r => zsl2 ls n (.long x) (fun ls => X nx ls r S))
  | .iinc n _ => zgl ls n (fun v => zvI v (fun x => zsl ls n (.int (x + k)) (fun ls => X nx ls st S)))
  | .iadd => zpI st (fun y r => zpI r (fun x r => X nx ls (.int (x + y) :: r) S))
  | .isub => zpI st (fun y r => zpI r (fun x r => X nx ls (.int (x - y) :: r) S))
  | .imul => zpI st (fun y r => zpI r (fun x r => X nx ls (.int (x * y) :: r) S))
  | .idiv => zpI st (fun y r => zpI r (fun x r => ¬ y = 0 ∧ X nx ls (.int (x / y) :: r) S))
  | .irem => zpI st (fun y r => zpI r (fun x r => ¬ y = 0 ∧ X nx ls (.int (x - x / y * y) :: r) S))
  | .iand => zpI st (fun y r => zpI r (fun x r => X nx ls (.int (x &&& y) :: r) S))
  | .ineg => zpI st (fun x r => X nx ls (.int (-x) :: r) S)
  | .i2l => zpI st (fun x r => X nx ls (.long x.toInt64 :: r) S)
  | .i2b => zpI st (fun x r => X nx ls (.int x.toInt8.toInt32 :: r) S)
  | .i2s => zpI st (fun x r => X nx ls (.int x.toInt16.toInt32 :: r) S)
  | .ladd => zpL st (fun y r => zpL r (fun x r => X nx ls (.long (x + y) :: r) S))
  | .lmul => zpL st (fun y r => zpL r (fun x r => X nx ls (.long (x * y) :: r) S))
  | .lcmp => zpL st (fun y r => zpL r (fun x r => X nx ls (.int (lg_cmp x y) :: r) S))
  | .dup => match st with
    | .int x :: r => X nx ls (.int x :: .int x :: r) S
    | .ref x :: r => X nx ls (.ref x :: .ref x :: r) S
    | _ => False
  | .dup2 => zpI st (fun y r => zpR r (fun x r => X nx ls (.int y :: .ref x :: .int y :: .ref x :: r) S))
  | .pop => match st with
    | .int _ :: r => X nx ls r S
    | .ref _ :: r => X nx ls r S
    | _ => False
  | .goto _ => X a ls st S
  | .ifCond cd _ => zpI st (fun x r => zif cd x 0 (X a ls r S) (X nx ls r S))
  | .if_icmp cd _ => zpI st (fun y r => zpI r (fun x r => zif cd x y (X a ls r S) (X nx ls r S)))
  | .ifnull _ => match st with
    | .null :: r => X a ls r S
    | .ref _ :: r => X nx ls r S
    | _ => False
  | .tableswitch df lo hi offs => zpI st (fun x r => (x.toInt < lo ∨ hi < x.toInt → X ((pc : Int) + df).toNat ls r S) ∧ ztab pc x (fun t => X t ls r S) offs.toList lo)
  | .lookupswitch df ps => zpI st (fun x r => zlkp pc x (fun t => X t ls r S) df ps.toList)
  | .getfield _ => zpR st (fun o r => zobj sh o (fun ci fs => bif Nat.beq ci a then zfld S o b (zn fs b) (fun v => X nx ls (v :: r) S) else False))
  | .putfield _ => zpI st (fun x r => zpR r (fun o r => zobj sh o (fun ci fs => bif Nat.beq ci a then (zn fs b = some none ∧ (k = 1 → x = 0 ∨ x = 1) ∧ X nx ls r (zu S o b x)) else False)))
  | .iaload => zpI st (fun i r => zpR r (fun o r => zarr sh o (fun n => vp_in i n ∧ X nx ls (.int (S o i.toNatClampNeg) :: r) S)))
  | .iastore => zpI st (fun x r => zpI r (fun i r => zpR r (fun o r => zarr sh o (fun n => vp_in i n ∧ X nx ls r (zu S o i.toNatClampNeg x)))))
  | .aaload => zpI st (fun i r => zpR r (fun o r => zrow sh o (fun rs => vp_in i rs.length ∧ ∀ q, zn rs i.toNatClampNeg = some q → X nx ls (.ref q :: r) S)))
  | .arraylength => zpR st (fun o r => zarr sh o (fun n => X nx ls (.int (nI n) :: r) S))
  | .invokevirtual _ => zpop b st [] (fun as r => zpR r (fun o r => zobj sh o (fun ci _ => bif Nat.beq ci c then (bif zfit r then K a (.ref o :: as) S (fun rv S' => X nx ls (zpush rv r) S') else False) else False)))
  | .invokestatic _ => match c with
    | 0 => zpop b st [] (fun as r => bif zfit r then K a as S (fun rv S' => X nx ls (zpush rv r) S') else False)
    | 1 => zpI st (fun y r => zpI r (fun x r => bif zfit r then X nx ls (.int (if x < y then y else x) :: r) S else False))
    | 2 => zpI st (fun y r => zpI r (fun x r => bif zfit r then X nx ls (.int (if y < x then y else x) :: r) S else False))
    | _ => zpI st (fun n r => zpI r (fun dp r => zpR r (fun o1 r => zpI r (fun sp r => zpR r (fun o0 r => zarr sh o0 (fun n0 => zarr sh o1 (fun n1 => bif zfit r then
        (¬ sp < 0 ∧ ¬ dp < 0 ∧ ¬ n < 0 ∧ sp.toNatClampNeg + n.toNatClampNeg ≤ n0 ∧ dp.toNatClampNeg + n.toNatClampNeg ≤ n1 ∧ X nx ls r (zcp S o0 o1 sp.toNatClampNeg dp.toNatClampNeg n.toNatClampNeg)) else False)))))))
  | .ireturn => match st with
    | [.int x] => match rt with
      | 1 => Q (some (.int x)) S
      | 2 => (x = 0 ∨ x = 1) ∧ Q (some (.int x)) S
      | _ => False
    | _ => False
  | .lreturn => match st with
    | [.long x] => match rt with
      | 3 => Q (some (.long x)) S
      | _ => False
    | _ => False
  | .areturn => match st with
    | [.ref x] => match rt with
      | 4 => Q (some (.ref x)) S
      | _ => False
    | _ => False
  | .return_ => match st with
    | [] => match rt with
      | 0 => Q none S
      | _ => False
    | _ => False
  | _ => False
def zstp (sh : List zD) (K : zKT) (C : zC) (rt : Nat) (Q : Option Value → zS → Prop) (X : zXT) : zXT := fun pc ls st S => match zat C pc with
  | some (_, ins, nx, k, a, b, c, _) => zin sh K rt Q X pc ins nx k a b c ls st S
  | none => False
/-- the least of all X that are closed under one instruction -/
def zWp (sh : List zD) (K : zKT) (C : zC) (rt : Nat) (Q : Option Value → zS → Prop) : zXT := fun pc ls st S => ∀ X : zXT, (∀ (Y : zXT) (pc : Nat) (ls : zLs) (st : List Value) (S : zS), (∀ pc ls st S, Y pc ls st S → X pc ls st S) → zstp sh K C rt Q Y pc ls st S → X pc ls st S) → X pc ls st S
theorem zWp_of {sh : List zD} {K : zKT} {C : zC} {rt : Nat} {Q : Option Value → zS → Prop} {Y : zXT} (hY : ∀ pc ls st S, Y pc ls st S → zWp sh K C rt Q pc ls st S) {pc : Nat} {ls : zLs} {st : List Value} {S : zS} (h : zstp sh K C rt Q Y pc ls st S) : zWp sh K C rt Q pc ls st S :=
  fun X hX => hX Y pc ls st S (fun _ _ _ _ hy => hY _ _ _ _ hy X hX) h
def zel : List Nat → Nat → Bool
  | [], _ => false
  | a :: t, n => bif Nat.beq a n then true else zel t n
/-- many instructions at once, up to one of the stops -/
noncomputable def zRun (sh : List zD) (K : zKT) (C : zC) (rt : Nat) (Q : Option Value → zS → Prop) (stops : List Nat) (n : Nat) : zXT :=
  Nat.rec (motive := fun _ => zXT) (zWp sh K C rt Q) (fun _ Y => zstp sh K C rt Q (fun pc ls st S => bif zel stops pc then zWp sh K C rt Q pc ls st S else Y pc ls st S)) n
theorem zRun_wp {sh : List zD} {K : zKT} {C : zC} {rt : Nat} {Q : Option Value → zS → Prop} (stops : List Nat) (n : Nat) : ∀ {pc : Nat} {ls : zLs} {st : List Value} {S : zS}, zRun sh K C rt Q stops n pc ls st S → zWp sh K C rt Q pc ls st S := by
  induction n with
  | zero => exact fun h => h
  | succ n ih =>
    intro pc ls st S h
    refine zWp_of (fun pc ls st S hy => ?_) h
    cases hz : zel stops pc with
    | true => rw [hz] at hy; exact hy
    | false => rw [hz] at hy; exact ih hy
def zen : List Value → Nat → zLs
  | .long v :: t, n => some (.long v) :: none :: zen t (n - 2)
  | v :: t, n => some v :: zen t (n - 1)
  | [], n => List.replicate n none
/-- the values fit into so many locals -/
def zvs : List Value → Nat → Bool
  | [], _ => true
  | .int _ :: t, n + 1 => zvs t n
  | .ref _ :: t, n + 1 => zvs t n
  | .null :: t, n + 1 => zvs t n
  | .long _ :: t, n + 2 => zvs t n
  | _, _ => false
/-- calls at most d deep -/
def zK (Ms : List zMI) (sh : List zD) : Nat → zKT
  | 0 => fun _ _ _ _ => False
  | d + 1 => fun μ vs S Q => match zn Ms μ with
    | some (_, _, mL, _, rt, _, _, C) => zvs vs mL = true ∧ zWp sh (zK Ms sh d) C rt Q 0 (zen vs mL) [] S
    | none => False
