/-! THE CLEAN MACHINE: a world is one function from addresses to shapes with contents as total functions; its step is a function on (pc, locals, stack, world). Below it is proved once that the real machine does what it does. Addresses 0, 1: the script, the words of the reader (only read); k + 2: the k-th cell made. -/
abbrev cm_S : Type := Nat ⊕ (FieldType × Nat)
abbrev cm_W : Type := (Nat → Option cm_S) × (Nat → Nat → Int32) × (Nat → Nat → Int64) × (Nat → Nat → Option Nat) × Nat × Nat
def cm_sh (w : cm_W) : Nat → Option cm_S := w.1
def cm_I (w : cm_W) : Nat → Nat → Int32 := w.2.1
def cm_L (w : cm_W) : Nat → Nat → Int64 := w.2.2.1
def cm_R (w : cm_W) : Nat → Nat → Option Nat := w.2.2.2.1
def cm_sz (w : cm_W) : Nat := w.2.2.2.2.1
def cm_ns (w : cm_W) : Nat := w.2.2.2.2.2
def cm_up {α : Type} (f : Nat → Nat → α) (a k : Nat) (v : α) : Nat → Nat → α := fun b j => if b = a ∧ j = k then v else f b j
def cm_cp {α : Type} (f : Nat → Nat → α) (a0 sp a dp n : Nat) : Nat → Nat → α := fun b j => if b = a ∧ dp ≤ j ∧ j < dp + n then f a0 (sp + (j - dp)) else f b j
def cm_ze {α : Type} (f : Nat → Nat → α) (a : Nat) (z : α) : Nat → Nat → α := fun b j => if b = a then z else f b j
def cm_sI (w : cm_W) (a k : Nat) (v : Int32) : cm_W := (w.1, cm_up w.2.1 a k v, w.2.2)
def cm_sL (w : cm_W) (a k : Nat) (v : Int64) : cm_W := (w.1, w.2.1, cm_up w.2.2.1 a k v, w.2.2.2)
def cm_sR (w : cm_W) (a k : Nat) (v : Option Nat) : cm_W := (w.1, w.2.1, w.2.2.1, cm_up w.2.2.2.1 a k v, w.2.2.2.2)
def cm_cI (w : cm_W) (a0 sp a dp n : Nat) : cm_W := (w.1, cm_cp w.2.1 a0 sp a dp n, w.2.2)
def cm_cL (w : cm_W) (a0 sp a dp n : Nat) : cm_W := (w.1, w.2.1, cm_cp w.2.2.1 a0 sp a dp n, w.2.2.2)
def cm_mk (w : cm_W) (x : cm_S) (n : Nat) : cm_W := ((fun b => if b = w.2.2.2.2.1 then some x else w.1 b), cm_ze w.2.1 w.2.2.2.2.1 0, cm_ze w.2.2.1 w.2.2.2.2.1 0, cm_ze w.2.2.2.1 w.2.2.2.2.1 none, w.2.2.2.2.1 + 1, w.2.2.2.2.2 + n)
/-- an instruction: what is decoded, its length, its operands resolved, its constant -/
abbrev cm_D : Type := Instr × Nat × List Nat × Value
/-- a method: name, bytes, locals, what it returns, its class's name, frames and locals of its room; from which address to which it writes -/
abbrev cm_M : Type := MethodName × ByteArray × Nat × Option FieldType × String × Nat × Nat × Nat × Nat
abbrev cm_G : Type := (Nat → Nat → Option cm_D) × (Nat → Nat → Option (List Nat)) × (Nat → cm_M) × List vw_C × (Nat → Nat → FieldType)
def cm_ml (G : cm_G) (y : Nat) : Nat := (G.2.2.1 y).2.2.1
def cm_rt (G : cm_G) (y : Nat) : Option FieldType := (G.2.2.1 y).2.2.2.1
def cm_ow (G : cm_G) (y : Nat) : String := (G.2.2.1 y).2.2.2.2.1
/-- may the method write there? -/
def cm_wo (G : cm_G) (y a : Nat) : Bool := decide (2 ≤ a) && (decide ((G.2.2.1 y).2.2.2.2.2.2.2.1 ≤ a) && decide (a < (G.2.2.1 y).2.2.2.2.2.2.2.2))
theorem cm_wo2 {G : cm_G} {y a : Nat} (h : cm_wo G y a = true) : 2 ≤ a := by
  unfold cm_wo at h
  simp at h
  exact h.1
def cm_ty (G : cm_G) : Nat → Nat → FieldType := G.2.2.2.2
abbrev cm_lv : Type := List (Nat × Value)
def cm_ld (lv : cm_lv) (i : Nat) : Option Value := (lv.find? (fun q => q.1 == i)).map (·.2)
def cm_kp (o : Option (List Nat)) (lv : cm_lv) : cm_lv := match o with
  | none => lv
  | some ks => ks.filterMap (fun k => (cm_ld lv k).map (fun v => (k, v)))
def cm_s1 (lv : cm_lv) (i : Nat) (v : Value) : cm_lv := (i, v) :: lv.filter (fun q => !(q.1 == i) && !(q.1 + 1 == i && q.2.category == 2))
def cm_s2 (lv : cm_lv) (i : Nat) (v : Value) : cm_lv := (i, v) :: lv.filter (fun q => !(q.1 == i) && (!(q.1 == i + 1) && !(q.1 + 1 == i && q.2.category == 2)))
abbrev cm_Z : Type := Nat × cm_lv × List Value × cm_W
def cm_iin (i : Int32) (n : Nat) : Bool := !(decide (i < 0) || decide (n ≤ i.toNatClampNeg))
/-- a field read, by its type -/
def cm_fv (w : cm_W) (ty : FieldType) (a k : Nat) : Value := match ty with
  | .long => .long (w.2.2.1 a k)
  | .object _ => va_rf (w.2.2.2.1 a k)
  | .array _ => va_rf (w.2.2.2.1 a k)
  | _ => .int (w.2.1 a k)
/-- a field written, by its type -/
def cm_pv (w : cm_W) (ty : FieldType) (a k : Nat) (v : Value) : Option cm_W := match ty, v with
  | .long, .long x => some (cm_sL w a k x)
  | .object _, .ref b => some (cm_sR w a k (some b))
  | .object _, .null => some (cm_sR w a k none)
  | .array _, .ref b => some (cm_sR w a k (some b))
  | .array _, .null => some (cm_sR w a k none)
  | .int, .int x => some (cm_sI w a k x)
  | .boolean, .int x => if x = 0 ∨ x = 1 then some (cm_sI w a k x) else none
  | _, _ => none
def cm_tg (pc : Nat) (off : Int) : Option Nat := if 0 ≤ (pc : Int) + off then some ((pc : Int) + off).toNat else none
def cm_if (pc : Nat) (off : Int) (c : Prop) [Decidable c] (lv : cm_lv) (st : List Value) (w : cm_W) : Option cm_Z := (cm_tg pc off).map (fun t => if c then (t, lv, st, w) else (pc + 3, lv, st, w))
def cm_i1 (f : Int32 → Option Value) (st : List Value) : Option (List Value) := match st with
  | .int x :: r => (f x).map (fun v => v :: r)
  | _ => none
def cm_i2 (f : Int32 → Int32 → Option Value) (st : List Value) : Option (List Value) := match st with
  | .int y :: .int x :: r => (f x y).map (fun v => v :: r)
  | _ => none
def cm_l2 (f : Int64 → Int64 → Option Value) (st : List Value) : Option (List Value) := match st with
  | .long y :: .long x :: r => (f x y).map (fun v => v :: r)
  | _ => none
def cm_sv (lv : cm_lv) (i : Nat) (v : Value) : Option cm_lv := match v with
  | .long _ => some (cm_s2 lv i v)
  | .int _ => some (cm_s1 lv i v)
  | .ref _ => some (cm_s1 lv i v)
  | .null => some (cm_s1 lv i v)
  | _ => none
def cm_tsw (lo hi dflt : Int) (offs : Array Int) (x : Int32) : Option Int := if x.toInt < lo ∨ hi < x.toInt then some dflt else offs[(x.toInt - lo).toNat]?
/-- the instructions that neither call nor return -/
def cm_ex (G : cm_G) (y pc : Nat) (d : cm_D) (lv : cm_lv) (st : List Value) (w : cm_W) : Option cm_Z := match d.1 with
  | .iconst n => some (pc + 1, lv, .int (Int32.ofInt n) :: st, w)
  | .bipush n => some (pc + 2, lv, .int (Int8.ofInt n).toInt32 :: st, w)
  | .sipush n => some (pc + 3, lv, .int (Int16.ofInt n).toInt32 :: st, w)
  | .lconst n => some (pc + 1, lv, .long (Int64.ofNat (n : Nat)) :: st, w)
  | .ldc _ => match d.2.2.2 with
    | .int x => some (pc + 2, lv, .int x :: st, w)
    | _ => none
  | .ldc_w _ => match d.2.2.2 with
    | .int x => some (pc + 3, lv, .int x :: st, w)
    | _ => none
  | .ldc2_w _ => match d.2.2.2 with
    | .long x => some (pc + 3, lv, .long x :: st, w)
    | _ => none
  | .aconst_null => some (pc + 1, lv, .null :: st, w)
  | .iload i => match cm_ld lv i with
    | some (.int x) => some (pc + 2, lv, .int x :: st, w)
    | _ => none
  | .iload_n i => match cm_ld lv (i : Nat) with
    | some (.int x) => some (pc + 1, lv, .int x :: st, w)
    | _ => none
  | .lload i => match cm_ld lv i with
    | some (.long x) => some (pc + 2, lv, .long x :: st, w)
    | _ => none
  | .lload_n i => match cm_ld lv (i : Nat) with
    | some (.long x) => some (pc + 1, lv, .long x :: st, w)
    | _ => none
  | .aload i => match cm_ld lv i with
    | some (.ref x) => some (pc + 2, lv, .ref x :: st, w)
    | _ => none
  | .aload_n i => match cm_ld lv (i : Nat) with
    | some (.ref x) => some (pc + 1, lv, .ref x :: st, w)
    | _ => none
  | .istore i => match st with
    | .int x :: r => (cm_sv lv i (.int x)).map (fun l => (pc + 2, l, r, w))
    | _ => none
  | .istore_n i => match st with
    | .int x :: r => (cm_sv lv (i : Nat) (.int x)).map (fun l => (pc + 1, l, r, w))
    | _ => none
  | .lstore i => match st with
    | .long x :: r => (cm_sv lv i (.long x)).map (fun l => (pc + 2, l, r, w))
    | _ => none
  | .lstore_n i => match st with
    | .long x :: r => (cm_sv lv (i : Nat) (.long x)).map (fun l => (pc + 1, l, r, w))
    | _ => none
  | .astore i => match st with
    | .ref x :: r => (cm_sv lv i (.ref x)).map (fun l => (pc + 2, l, r, w))
    | _ => none
  | .astore_n i => match st with
    | .ref x :: r => (cm_sv lv (i : Nat) (.ref x)).map (fun l => (pc + 1, l, r, w))
    | _ => none
  | .iinc i n => match cm_ld lv i with
    | some (.int x) => some (pc + d.2.1, cm_s1 lv i (.int (x + Int32.ofInt n)), st, w)
    | _ => none
  | .iadd => (cm_i2 (fun x z => some (.int (x + z))) st).map (fun s => (pc + 1, lv, s, w))
  | .isub => (cm_i2 (fun x z => some (.int (x - z))) st).map (fun s => (pc + 1, lv, s, w))
  | .imul => (cm_i2 (fun x z => some (.int (x * z))) st).map (fun s => (pc + 1, lv, s, w))
  | .iand => (cm_i2 (fun x z => some (.int (x &&& z))) st).map (fun s => (pc + 1, lv, s, w))
  | .ior => (cm_i2 (fun x z => some (.int (x ||| z))) st).map (fun s => (pc + 1, lv, s, w))
  | .idiv => (cm_i2 (fun x z => if z = 0 then none else some (.int (x / z))) st).map (fun s => (pc + 1, lv, s, w))
  | .irem => (cm_i2 (fun x z => if z = 0 then none else some (.int (x - x / z * z))) st).map (fun s => (pc + 1, lv, s, w))
  | .ishl => (cm_i2 (fun x z => some (.int (x <<< (z &&& 31)))) st).map (fun s => (pc + 1, lv, s, w))
  | .ishr => (cm_i2 (fun x z => some (.int (x >>> (z &&& 31)))) st).map (fun s => (pc + 1, lv, s, w))
  | .iushr => (cm_i2 (fun x z => some (.int (x.toUInt32 >>> (z.toUInt32 &&& Int32.toUInt32 31)).toInt32)) st).map (fun s => (pc + 1, lv, s, w))
  | .ladd => (cm_l2 (fun x z => some (.long (x + z))) st).map (fun s => (pc + 1, lv, s, w))
  | .lsub => (cm_l2 (fun x z => some (.long (x - z))) st).map (fun s => (pc + 1, lv, s, w))
  | .lmul => (cm_l2 (fun x z => some (.long (x * z))) st).map (fun s => (pc + 1, lv, s, w))
  | .lor => (cm_l2 (fun x z => some (.long (x ||| z))) st).map (fun s => (pc + 1, lv, s, w))
  | .ldiv => (cm_l2 (fun x z => if z = 0 then none else some (.long (x / z))) st).map (fun s => (pc + 1, lv, s, w))
  | .lrem => (cm_l2 (fun x z => if z = 0 then none else some (.long (x - x / z * z))) st).map (fun s => (pc + 1, lv, s, w))
  | .lcmp => (cm_l2 (fun x z => some (.int (lg_cmp x z))) st).map (fun s => (pc + 1, lv, s, w))
  | .lshl => match st with
    | .int z :: .long x :: r => some (pc + 1, lv, .long (x <<< (z.toInt64 &&& 63)) :: r, w)
    | _ => none
  | .lushr => match st with
    | .int z :: .long x :: r => some (pc + 1, lv, .long (x.toUInt64 >>> (z.toInt64.toUInt64 &&& Int64.toUInt64 63)).toInt64 :: r, w)
    | _ => none
  | .i2l => (cm_i1 (fun x => some (.long x.toInt64)) st).map (fun s => (pc + 1, lv, s, w))
  | .i2b => (cm_i1 (fun x => some (.int x.toInt8.toInt32)) st).map (fun s => (pc + 1, lv, s, w))
  | .l2i => match st with
    | .long x :: r => some (pc + 1, lv, .int x.toInt32 :: r, w)
    | _ => none
  | .dup => match st with
    | v :: r => if v.category = 1 then some (pc + 1, lv, v :: v :: r, w) else none
    | _ => none
  | .pop => match st with
    | v :: r => if v.category = 1 then some (pc + 1, lv, r, w) else none
    | _ => none
  | .dup2 => match st with
    | v :: u :: r => if v.category = 1 ∧ u.category = 1 then some (pc + 1, lv, v :: u :: v :: u :: r, w) else none
    | _ => none
  | .goto off => (cm_tg pc off).map (fun t => (t, lv, st, w))
  | .ifCond c off => match st with
    | .int x :: r => match c with
      | .eq => cm_if pc off (x = 0) lv r w
      | .ne => cm_if pc off (¬ x = 0) lv r w
      | .lt => cm_if pc off (x < 0) lv r w
      | .ge => cm_if pc off (0 ≤ x) lv r w
      | .gt => cm_if pc off (0 < x) lv r w
      | .le => cm_if pc off (x ≤ 0) lv r w
    | _ => none
  | .if_icmp c off => match st with
    | .int z :: .int x :: r => match c with
      | .eq => cm_if pc off (x = z) lv r w
      | .ne => cm_if pc off (¬ x = z) lv r w
      | .lt => cm_if pc off (x < z) lv r w
      | .ge => cm_if pc off (z ≤ x) lv r w
      | .gt => cm_if pc off (z < x) lv r w
      | .le => cm_if pc off (x ≤ z) lv r w
    | _ => none
  | .tableswitch dflt lo hi offs => match st with
    | .int x :: r => (cm_tsw lo hi dflt offs x).bind (fun o => (cm_tg pc o).map (fun t => (t, lv, r, w)))
    | _ => none
  | .lookupswitch dflt ps => match st with
    | .int x :: r => if (ps.toList.zip (ps.toList.drop 1)).all (fun (a, next) => a.1 < next.1) = true then (cm_tg pc (Op.lookupswitch.offset ps.toList dflt x.toInt)).map (fun t => (t, lv, r, w)) else none
    | _ => none
  | .getstatic _ => some (pc + 3, lv, .ref 1 :: st, w)
  | .getfield _ => match d.2.2.1, st with
    | [ci, k], .ref a :: r => if w.1 a = some (.inl ci) then some (pc + 3, lv, cm_fv w (cm_ty G ci k) a k :: r, w) else none
    | _, _ => none
  | .putfield _ => match d.2.2.1, st with
    | [ci, k, _], v :: .ref a :: r => if w.1 a = some (.inl ci) ∧ cm_wo G y a = true then (cm_pv w (cm_ty G ci k) a k v).map (fun w' => (pc + 3, lv, r, w')) else none
    | _, _ => none
  | .arraylength => match st with
    | .ref a :: r => match w.1 a with
      | some (.inr (_, n)) => some (pc + 1, lv, .int (Int32.ofNat n) :: r, w)
      | _ => none
    | _ => none
  | .iaload => match st with
    | .int i :: .ref a :: r => match w.1 a with
      | some (.inr (.int, n)) => if cm_iin i n then some (pc + 1, lv, .int (w.2.1 a i.toNatClampNeg) :: r, w) else none
      | _ => none
    | _ => none
  | .baload => match st with
    | .int i :: .ref a :: r => match w.1 a with
      | some (.inr (.byte, n)) => if cm_iin i n ∧ 2 ≤ a then some (pc + 1, lv, .int (w.2.1 a i.toNatClampNeg) :: r, w) else none
      | _ => none
    | _ => none
  | .laload => match st with
    | .int i :: .ref a :: r => match w.1 a with
      | some (.inr (.long, n)) => if cm_iin i n then some (pc + 1, lv, .long (w.2.2.1 a i.toNatClampNeg) :: r, w) else none
      | _ => none
    | _ => none
  | .aaload => match st with
    | .int i :: .ref a :: r => match w.1 a with
      | some (.inr (.object _, n)) => if cm_iin i n ∧ 2 ≤ a then some (pc + 1, lv, va_rf (w.2.2.2.1 a i.toNatClampNeg) :: r, w) else none
      | _ => none
    | _ => none
  | .iastore => match st with
    | .int x :: .int i :: .ref a :: r => match w.1 a with
      | some (.inr (.int, n)) => if cm_iin i n ∧ cm_wo G y a = true then some (pc + 1, lv, r, cm_sI w a i.toNatClampNeg x) else none
      | _ => none
    | _ => none
  | .bastore => match st with
    | .int x :: .int i :: .ref a :: r => match w.1 a with
      | some (.inr (.byte, n)) => if cm_iin i n ∧ cm_wo G y a = true then some (pc + 1, lv, r, cm_sI w a i.toNatClampNeg (vp_nar .byte x)) else none
      | _ => none
    | _ => none
  | .lastore => match st with
    | .long x :: .int i :: .ref a :: r => match w.1 a with
      | some (.inr (.long, n)) => if cm_iin i n ∧ cm_wo G y a = true then some (pc + 1, lv, r, cm_sL w a i.toNatClampNeg x) else none
      | _ => none
    | _ => none
  | .aastore => match st with
    | .ref v :: .int i :: .ref a :: r => match w.1 a, w.1 v with
      | some (.inr (.object C, n)), some (.inl ci) => if cm_iin i n ∧ cm_wo G y a = true ∧ (G.2.2.2.1[ci]?).map (·.1) = some C then some (pc + 1, lv, r, cm_sR w a i.toNatClampNeg (some v)) else none
      | _, _ => none
    | _ => none
  | .new _ => match d.2.2.1 with
    | [ci] => match G.2.2.2.1[ci]? with
      | some q => some (pc + 3, lv, .ref (cm_sz w) :: st, cm_mk w (.inl ci) q.2.2)
      | none => none
    | _ => none
  | .newarray t => match st with
    | .int n :: r => if ¬ n < 0 ∧ n.toNatClampNeg ≤ 100000 ∧ (newarray.typeOf t = .int ∨ newarray.typeOf t = .long ∨ newarray.typeOf t = .byte) then some (pc + 2, lv, .ref (cm_sz w) :: r, cm_mk w (.inr (newarray.typeOf t, n.toNatClampNeg)) n.toNatClampNeg) else none
    | _ => none
  | .anewarray _ => match d.2.2.1, st with
    | [ci], .int n :: r => match G.2.2.2.1[ci]? with
      | some q => if ¬ n < 0 ∧ n.toNatClampNeg ≤ 100000 then some (pc + 3, lv, .ref (cm_sz w) :: r, cm_mk w (.inr (.object q.1, n.toNatClampNeg)) n.toNatClampNeg) else none
      | none => none
    | _, _ => none
  | _ => none
/-- a call: to which method, with which arguments, what stays on the stack. Operands: kind (0 virtual, 1 static, 2 a constructor, 3 a nest mate's), method, parameters, class -/
def cm_sp (G : cm_G) (ops : List Nat) (st : List Value) (w : cm_W) : Option (Nat × List Value × List Value) := match ops with
  | kind :: y' :: na :: ci :: _ => match kind with
    | 1 => if na ≤ st.length ∧ (((st.drop na).map fun v => v.category).sum ≤ 8) then some (y', (st.take na).reverse, st.drop na) else none
    | _ => match st.drop na with
      | .ref b :: rest => if w.1 b = some (.inl ci) ∧ (rest.map fun v => v.category).sum ≤ 8 then some (y', .ref b :: (st.take na).reverse, rest) else none
      | _ => none
  | _ => none
def cm_ok (G : cm_G) (y : Nat) (av : List Value) : Bool := decide ((lg_sl av).length ≤ cm_ml G y)
/-- calls that are done at once: Object's constructor, System.arraycopy, Math.max, Math.min -/
def cm_at (G : cm_G) (y : Nat) (ops : List Nat) (st : List Value) (w : cm_W) : Option (List Value × cm_W) := match ops, st with
  | [10], .ref _ :: r => if (r.map fun v => v.category).sum ≤ 8 then some (r, w) else none
  | [11], .int n :: .int dp :: .ref a :: .int sp :: .ref a0 :: r => match w.1 a0, w.1 a with
    | some (.inr (.int, n0)), some (.inr (.int, n1)) => if ¬ sp < 0 ∧ ¬ dp < 0 ∧ ¬ n < 0 ∧ sp.toNatClampNeg + n.toNatClampNeg ≤ n0 ∧ dp.toNatClampNeg + n.toNatClampNeg ≤ n1 ∧ cm_wo G y a = true ∧ 2 ≤ a0 ∧ (r.map fun v => v.category).sum ≤ 8 then some (r, cm_cI w a0 sp.toNatClampNeg a dp.toNatClampNeg n.toNatClampNeg) else none
    | some (.inr (.long, n0)), some (.inr (.long, n1)) => if ¬ sp < 0 ∧ ¬ dp < 0 ∧ ¬ n < 0 ∧ sp.toNatClampNeg + n.toNatClampNeg ≤ n0 ∧ dp.toNatClampNeg + n.toNatClampNeg ≤ n1 ∧ cm_wo G y a = true ∧ 2 ≤ a0 ∧ (r.map fun v => v.category).sum ≤ 8 then some (r, cm_cL w a0 sp.toNatClampNeg a dp.toNatClampNeg n.toNatClampNeg) else none
    | _, _ => none
  | [12], .int z :: .int x :: r => if (r.map fun v => v.category).sum ≤ 8 then some (.int (if x < z then z else x) :: r, w) else none
  | [13], .int z :: .int x :: r => if (r.map fun v => v.category).sum ≤ 8 then some (.int (if z < x then z else x) :: r, w) else none
  | _, _ => none
def cm_isc (i : Instr) : Bool := match i with
  | .invokevirtual _ => true
  | .invokestatic _ => true
  | .invokespecial _ => true
  | _ => false
/-- a return: what it answers -/
def cm_re (G : cm_G) (y : Nat) (i : Instr) (st : List Value) : Option (Option Value) := match i, st with
  | .return_, [] => if cm_rt G y = none then some none else none
  | .ireturn, [.int x] => if cm_rt G y = some .int ∨ (cm_rt G y = some .boolean ∧ (x = 0 ∨ x = 1)) then some (some (.int x)) else none
  | .lreturn, [.long x] => if cm_rt G y = some .long then some (some (.long x)) else none
  | _, _ => none
def cm_run (G : cm_G) : Nat → Nat → Nat → cm_lv → List Value → cm_W → Option (Option Value × cm_W)
  | 0, _, _, _, _, _ => none
  | n + 1, y, pc, lv, st, w => match G.1 y pc with
    | none => none
    | some d => match cm_re G y d.1 st with
      | some r => some (r, w)
      | none => if cm_isc d.1 = true then (match cm_at G y d.2.2.1 st w with
          | some q => cm_run G n y (pc + 3) (cm_kp (G.2.1 y (pc + 3)) lv) q.1 q.2
          | none => match cm_sp G d.2.2.1 st w with
            | none => none
            | some q => if cm_ok G q.1 q.2.1 = true then (match cm_run G n q.1 0 (lv_args 0 q.2.1) [] w with
              | none => none
              | some r => cm_run G n y (pc + 3) (cm_kp (G.2.1 y (pc + 3)) lv) (r.1.toList ++ q.2.2) r.2) else none)
        else match cm_ex G y pc d lv st w with
          | none => none
          | some z => cm_run G n y z.1 (cm_kp (G.2.1 y z.1) z.2.1) z.2.2.1 z.2.2.2
