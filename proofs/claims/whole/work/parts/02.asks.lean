/-! what is asked of the program's data -/
def cm_ln : Instr → Nat
  | .bipush _ => 2
  | .ldc _ => 2
  | .iload _ => 2
  | .lload _ => 2
  | .aload _ => 2
  | .istore _ => 2
  | .lstore _ => 2
  | .astore _ => 2
  | .newarray _ => 2
  | .sipush _ => 3
  | .ldc_w _ => 3
  | .ldc2_w _ => 3
  | .goto _ => 3
  | .ifCond _ _ => 3
  | .if_icmp _ _ => 3
  | .getstatic _ => 3
  | .getfield _ => 3
  | .putfield _ => 3
  | .invokevirtual _ => 3
  | .invokestatic _ => 3
  | .invokespecial _ => 3
  | .new _ => 3
  | .anewarray _ => 3
  | .iinc _ _ => 3
  | _ => 1
def cm_sw (i : Instr) : Bool := match i with
  | .tableswitch _ _ _ _ => true
  | .lookupswitch _ _ => true
  | _ => false
/-- the tables' words that an instruction needs (calls apart) -/
def cm_wd (G : cm_G) (Ts : List Jvm.Cond) (y : Nat) (d : cm_D) : Prop := match d.1 with
  | .ldc idx => ∀ x, d.2.2.2 = .int x → Jvm.Cond.constant (cm_ow G y) idx x ∈ Ts
  | .ldc_w idx => ∀ x, d.2.2.2 = .int x → Jvm.Cond.constant (cm_ow G y) idx x ∈ Ts
  | .ldc2_w idx => ∀ x, d.2.2.2 = .long x → Jvm.Cond.constantLong (cm_ow G y) idx x ∈ Ts
  | .getfield idx => ∀ ci k, d.2.2.1 = [ci, k] → ∃ r : vw_C, G.2.2.2.1[ci]? = some r ∧ k < r.2.2 ∧ Jvm.Cond.fieldLink (cm_ow G y) idx (r.2.1 k).1 (r.2.1 k).2.1 (r.2.1 k).2.2.1 ∈ Ts
  | .putfield idx => ∀ ci k f, d.2.2.1 = [ci, k, f] → ∃ r : vw_C, G.2.2.2.1[ci]? = some r ∧ k < r.2.2 ∧ Jvm.Cond.fieldLink (cm_ow G y) idx (r.2.1 k).1 (r.2.1 k).2.1 (r.2.1 k).2.2.1 ∈ Ts ∧ ((r.2.1 k).2.2.2 = true → (G.2.2.1 y).1.name = "<init>" ∧ (r.2.1 k).1 = cm_ow G y)
  | .getstatic idx => Jvm.Cond.fieldLink (cm_ow G y) idx "NailedBoxes$Reader" "WORDS" "[J" ∈ Ts
  | .new idx => ∀ ci, d.2.2.1 = [ci] → ∃ r : vw_C, G.2.2.2.1[ci]? = some r ∧ Jvm.Cond.classLink (cm_ow G y) idx r.1 ∈ Ts ∧ Jvm.Cond.instantiable r.1 r.2.2 ∈ Ts ∧ Jvm.Cond.initialized r.1 ∈ Ts
  | .newarray t => Jvm.Cond.arrayClass (newarray.typeOf t) ∈ Ts
  | .anewarray idx => ∀ ci, d.2.2.1 = [ci] → ∃ r : vw_C, G.2.2.2.1[ci]? = some r ∧ Jvm.Cond.classLink (cm_ow G y) idx r.1 ∈ Ts ∧ Jvm.Cond.arrayOver (.object r.1) ∈ Ts
  | .istore n => n < cm_ml G y
  | .istore_n n => (n : Nat) < cm_ml G y
  | .astore n => n < cm_ml G y
  | .astore_n n => (n : Nat) < cm_ml G y
  | .lstore n => n + 1 < cm_ml G y
  | .lstore_n n => (n : Nat) + 1 < cm_ml G y
  | .iinc n _ => n < cm_ml G y
  | _ => True
def cm_Cok (G : cm_G) (Ts : List Jvm.Cond) : Prop := ∀ (ci : Nat) (r : vw_C), G.2.2.2.1[ci]? = some r → (∀ w ∈ u_ws r.1 r.2.1 r.2.2, w ∈ Ts) ∧ (∀ k, k < r.2.2 → parseFieldDescriptor (r.2.1 k).2.2.1 = some (G.2.2.2.2 ci k)) ∧ (∀ a, a < r.2.2 → ∀ b, b < r.2.2 → a ≠ b → (r.2.1 a).2.1 ≠ (r.2.1 b).2.1) ∧ ∀ k, k < r.2.2 → G.2.2.2.2 ci k ≠ .float ∧ G.2.2.2.2 ci k ≠ .double
def cm_Iok (G : cm_G) (Ts : List Jvm.Cond) : Prop := ∀ (y pc : Nat) (d : cm_D), G.1 y pc = some d → decode (G.2.2.1 y).2.1 pc = .ok (d.1, d.2.1) ∧ (cm_sw d.1 = false → d.2.1 = cm_ln d.1) ∧ cm_wd G Ts y d
def cm_sx (w : Jvm.Cond) : Bool := match w with
  | .arrayOver (.object _) => true
  | .methodLinkNest _ _ _ _ => true
  | _ => false
/-- what a call's row needs of the tables -/
def cm_wm (G : cm_G) (Ts : List Jvm.Cond) (y y' na : Nat) : Prop :=
  (Jvm.Cond.code (G.2.2.1 y').1 (G.2.2.1 y').2.1 (cm_ml G y') (cm_rt G y') ∈ Ts ∧ Jvm.Cond.initialized (G.2.2.1 y').1.cls ∈ Ts) ∧ ((G.2.2.1 y').1.cls ≠ "java/lang/invoke/MethodHandle" ∧ (G.2.2.1 y').1.cls ≠ "java/lang/invoke/VarHandle" ∧ (parseMethodDescriptor (G.2.2.1 y').1.desc).map (fun d => d.parameters.length) = some na) ∧
  ((G.2.2.1 y').2.2.2.2.2.1 + 1 ≤ (G.2.2.1 y).2.2.2.2.2.1 ∧ 8 + (cm_ml G y' + 11) + (G.2.2.1 y').2.2.2.2.2.2.1 ≤ (G.2.2.1 y).2.2.2.2.2.2.1) ∧ plainName (G.2.2.1 y').1.cls = true ∧ cm_ow G y' = (G.2.2.1 y').1.cls
def cm_wc (G : cm_G) (Ts : List Jvm.Cond) (y : Nat) (i : Instr) (ops : List Nat) : Prop := match i with
  | .invokespecial idx => match ops with
    | [10] => Jvm.Cond.methodLink (cm_ow G y) idx objectInit ∈ Ts ∧ Jvm.Cond.instanceMethod objectInit ∈ Ts ∧ Jvm.Cond.code objectInit ⟨#[0xb1]⟩ 1 none ∈ Ts ∧ 1 ≤ (G.2.2.1 y).2.2.2.2.2.1 ∧ 20 ≤ (G.2.2.1 y).2.2.2.2.2.2.1
    | [2, y', na, _] => cm_wm G Ts y y' na ∧ Jvm.Cond.methodLink (cm_ow G y) idx (G.2.2.1 y').1 ∈ Ts ∧ Jvm.Cond.instanceMethod (G.2.2.1 y').1 ∈ Ts ∧ (G.2.2.1 y').1.name = "<init>" ∧ cm_rt G y' = none
    | [3, y', na, _] => cm_wm G Ts y y' na ∧ Jvm.Cond.methodLinkNest (cm_ow G y) idx (G.2.2.1 y').1 "NailedBoxes" ∈ Ts ∧ Jvm.Cond.instanceMethod (G.2.2.1 y').1 ∈ Ts ∧ (G.2.2.1 y').1.name = "<init>" ∧ cm_rt G y' = none
    | _ => False
  | .invokestatic idx => match ops with
    | [11] => Jvm.Cond.methodLink (cm_ow G y) idx arraycopyName ∈ Ts ∧ Jvm.Cond.native arraycopyName ∈ Ts ∧ Jvm.Cond.static arraycopyName ∈ Ts ∧ Jvm.Cond.initialized "java/lang/System" ∈ Ts ∧ 1 ≤ (G.2.2.1 y).2.2.2.2.2.1 ∧ 8 + (nativeFrameWords "java/lang/System" "arraycopy" 5 + 11) ≤ (G.2.2.1 y).2.2.2.2.2.2.1
    | [12] => Jvm.Cond.methodLink (cm_ow G y) idx Lib.Math.max.name ∈ Ts ∧ Jvm.Cond.static Lib.Math.max.name ∈ Ts ∧ Jvm.Cond.initialized "java/lang/Math" ∈ Ts ∧ Jvm.Cond.code Lib.Math.max.name Lib.Math.max.code 2 (some .int) ∈ Ts ∧ 1 ≤ (G.2.2.1 y).2.2.2.2.2.1 ∧ 21 ≤ (G.2.2.1 y).2.2.2.2.2.2.1
    | [13] => Jvm.Cond.methodLink (cm_ow G y) idx Lib.Math.min.name ∈ Ts ∧ Jvm.Cond.static Lib.Math.min.name ∈ Ts ∧ Jvm.Cond.initialized "java/lang/Math" ∈ Ts ∧ Jvm.Cond.code Lib.Math.min.name Lib.Math.min.code 2 (some .int) ∈ Ts ∧ 1 ≤ (G.2.2.1 y).2.2.2.2.2.1 ∧ 21 ≤ (G.2.2.1 y).2.2.2.2.2.2.1
    | [1, y', na, _] => cm_wm G Ts y y' na ∧ Jvm.Cond.methodLink (cm_ow G y) idx (G.2.2.1 y').1 ∈ Ts ∧ Jvm.Cond.static (G.2.2.1 y').1 ∈ Ts
    | _ => False
  | .invokevirtual idx => match ops with
    | [0, y', na, ci] => cm_wm G Ts y y' na ∧ Jvm.Cond.methodLink (cm_ow G y) idx (G.2.2.1 y').1 ∈ Ts ∧ Jvm.Cond.instanceMethod (G.2.2.1 y').1 ∈ Ts ∧ Jvm.Cond.selects (G.2.2.1 y').1.cls (G.2.2.1 y').1 (G.2.2.1 y').1 ∈ Ts ∧ (G.2.2.2.1[ci]?).map (·.1) = some (G.2.2.1 y').1.cls
    | _ => False
  | _ => True
def cm_Kok (G : cm_G) (Ts : List Jvm.Cond) : Prop := ∀ (y pc : Nat) (d : cm_D), G.1 y pc = some d → cm_wc G Ts y d.1 d.2.2.1
/-- what the program's data must be for it: checked by computation -/
def cm_All (G : cm_G) (Tg Tn : List Jvm.Cond) : Prop := cm_Cok G (Tg ++ Tn) ∧ cm_Iok G (Tg ++ Tn) ∧ cm_Kok G (Tg ++ Tn) ∧ GoodIn Tg Tg ∧ ∀ x ∈ Tn, cm_sx x = true
