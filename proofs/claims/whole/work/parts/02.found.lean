/-! memory: fields and elements by (space, address, place); kinds and lengths of cells; the next address -/
def MM : Type := (Nat → Nat → Nat → Int32) × (Nat → Nat → Nat → Option Nat) × (Nat → Nat → Nat → Int64) × (Nat → Nat) × (Nat → Nat) × Nat
def MM.I (m : MM) : Nat → Nat → Nat → Int32 := m.1
def MM.R (m : MM) : Nat → Nat → Nat → Option Nat := m.2.1
def MM.J (m : MM) : Nat → Nat → Nat → Int64 := m.2.2.1
def MM.K (m : MM) : Nat → Nat := m.2.2.2.1
def MM.N (m : MM) : Nat → Nat := m.2.2.2.2.1
def MM.S (m : MM) : Nat := m.2.2.2.2.2
def u3 {α : Type} (f : Nat → Nat → Nat → α) (s a i : Nat) (v : α) : Nat → Nat → Nat → α := fun s' a' i' => if s' = s ∧ a' = a ∧ i' = i then v else f s' a' i'
def MM.sI (m : MM) (s a i : Nat) (v : Int32) : MM := (u3 m.1 s a i v, m.2)
def MM.sR (m : MM) (s a i : Nat) (v : Option Nat) : MM := (m.1, u3 m.2.1 s a i v, m.2.2)
def MM.sJ (m : MM) (s a i : Nat) (v : Int64) : MM := (m.1, m.2.1, u3 m.2.2.1 s a i v, m.2.2.2)
def MM.nw (m : MM) (k n : Nat) : MM := (fun s a i => if a = m.S then 0 else m.I s a i, fun s a i => if a = m.S then none else m.R s a i, fun s a i => if a = m.S then 0 else m.J s a i, fun a => if a = m.S then k else m.K a, fun a => if a = m.S then n else m.N a, m.S + 1)
/-- ints of an array over another one (space 22) -/
def MM.cp (m : MM) (src sp dst dp n : Nat) : MM := (fun s a i => if s = 22 ∧ a = dst ∧ dp ≤ i ∧ i < dp + n then m.I 22 src (sp + (i - dp)) else m.I s a i, m.2)
/-! what a method does, as a function: checks, names, branches, calls -/
def chk {α : Type} (c : Prop) [Decidable c] (X : Option α) : Option α := if c then X else none
def ck {α : Type} (m : MM) (r : Option Nat) (k : Nat) (K : Nat → Option α) : Option α := match r with
  | none => none
  | some a => if m.K a = k then K a else none
def bnd {α β : Type} (v : α) (K : α → Option β) : Option β := K v
def ifn {α : Type} (r : Option Nat) (X : Option α) (K : Nat → Option α) : Option α := match r with
  | none => X
  | some a => K a
def cal {α β : Type} (f : Option (α × MM)) (K : α → MM → Option β) : Option β := match f with
  | none => none
  | some q => K q.1 q.2
def inb (j : Int32) (n : Nat) : Bool := decide (0 ≤ j) && decide (j.toNatClampNeg < n)
def iush (x y : Int32) : Int32 := (x.toUInt32 >>> (y.toUInt32 &&& Int32.toUInt32 31)).toInt32
def lush (x : Int64) (y : Int32) : Int64 := (x.toUInt64 >>> (y.toInt64.toUInt64 &&& Int64.toUInt64 63)).toInt64
def FU : Nat := 1048576
def emI (r : Int32) : Option Value := some (.int r)
def emJ (r : Int64) : Option Value := some (.long r)
def emR (r : Option Nat) : Option Value := some (va_rf r)
def emV (_ : Unit) : Option Value := none
/-! the heap's picture of a memory -/
def tyc (ci : Nat) : Nat → FieldType := match ci with
  | 0 => tyX0 | 1 => tyX1 | 2 => tyX2 | 3 => tyX3 | 4 => tyX4 | 5 => tyX5 | 6 => tyX6 | 7 => tyX7 | 8 => tyX8 | 9 => tyX9 | _ => tyX10
def TXc (ci : Nat) : u_T := match ci with
  | 0 => TX0 | 1 => TX1 | 2 => TX2 | 3 => TX3 | 4 => TX4 | 5 => TX5 | 6 => TX6 | 7 => TX7 | 8 => TX8 | 9 => TX9 | _ => TX10
def fid (ci k : Nat) : Nat := 100 * (ci + 1) + k
def tcl (t : FieldType) : Nat := match t with
  | .long => 1
  | .object _ => 2
  | .array _ => 2
  | _ => 0
def pval (m : MM) (t s a i : Nat) : Value := if t = 0 then .int (m.I s a i) else if t = 1 then .long (m.J s a i) else va_rf (m.R s a i)
def fval (m : MM) (a ci k : Nat) : Value := pval m (tcl (tyc ci k)) (fid ci k) a 0
def ety (kd : Nat) : FieldType := match kd with
  | 21 => .byte | 22 => .int | 23 => .long | 24 => .boolean | 25 => .object RX0 | 26 => .object RX2 | 27 => .object RX7 | _ => .object RX8
def aval (m : MM) (a kd j : Nat) : Value := pval m (tcl (ety kd)) kd a j
abbrev EX : Type := va_G × (Nat → ClassId) × Nat × (Nat → Nat) × (Nat → Nat) × (Nat → Nat)
abbrev EX.D (E : EX) : va_G := E.1
abbrev EX.cy (E : EX) : Nat → ClassId := E.2.1
abbrev EX.base (E : EX) : Nat := E.2.2.1
abbrev EX.sa (E : EX) : Nat → Nat := E.2.2.2.1
abbrev EX.adK (E : EX) : Nat → Nat := E.2.2.2.2.1
abbrev EX.adV (E : EX) : Nat → Nat := E.2.2.2.2.2
def AA (E : EX) : Nat → Prop := fun q => E.base ≤ q
def cOK (E : EX) (m : MM) (H : Heap) (a : Nat) : Prop := (∀ (ci : Nat) (r : vw_C), m.K a = ci + 1 → vwCl[ci]? = some r → t_OB a (E.D.1 ci) r.2.2 (E.D.2 ci) H (fun k => fval m a ci k)) ∧ (∀ kd : Nat, 20 < kd → m.K a = kd → H[a]? = some (arrV (E.cy kd) (m.N a) (fun j => aval m a kd j)))
def Rp (E : EX) (m : MM) (H : Heap) : Prop := m.S = H.size ∧ E.base ≤ H.size ∧ ∀ a : Nat, m.K a ≠ 0 → E.base ≤ a ∧ a < H.size ∧ cOK E m H a
def tysL (cy : Nat → ClassId) : List (ClassId × FieldType) := [(cy 21, .byte), (cy 22, .int), (cy 23, .long), (cy 24, .boolean), (cy 25, .object RX0), (cy 26, .object RX2), (cy 27, .object RX7), (cy 28, .object RX8)]
def saN (j : Nat) : String := match j with
  | 0 => "WIND_X"
  | 1 => "WIND_Y"
  | 2 => "AHEAD_X"
  | _ => "AHEAD_Y"
def saV (j : Nat) : List Int32 := match j with
  | 0 => [1, 1, 0, (-1), (-1), (-1), 0, 1]
  | 1 => [0, 1, 1, 1, 0, (-1), (-1), (-1)]
  | 2 => [1, 0, (-1), 0]
  | _ => [0, 1, 0, (-1)]
def skN : Nat := 19
def skL : List Nat := [4, 5, 5, 4, 5, 4, 5, 2, 4, 5, 6, 4, 4, 3, 4, 4, 5, 4, 6]
def skB : List (List Int32) := [[115, 105, 122, 101], [116, 104, 105, 110, 103], [102, 97, 99, 101, 115], [119, 97, 108, 108], [102, 101, 110, 99, 101], [119, 105, 110, 100], [115, 108, 111, 112, 101], [117, 112], [100, 111, 119, 110], [108, 101, 97, 118, 101], [111, 98, 106, 101, 99, 116], [99, 111, 115, 116], [103, 114, 111, 119], [102, 97, 114], [102, 108, 111, 119], [102, 97, 99, 101], [108, 97, 116, 101, 114], [104, 97, 114, 109], [115, 105, 108, 101, 110, 116]]
def skI : List Nat := [79, 107, 164, 116, 126, 131, 136, 211, 213, 141, 146, 151, 156, 250, 252, 254, 235, 237, 245]
def skT : List String := ["size", "thing", "faces", "wall", "fence", "wind", "slope", "up", "down", "leave", "object", "cost", "grow", "far", "flow", "face", "later", "harm", "silent"]
def nsF : List (String × Nat × String × String × String × String) := [("FarTown$Town", 81, "FarTown", "WIND_X", "[I", "FarTown"), ("FarTown$Town", 84, "FarTown", "WIND_Y", "[I", "FarTown"), ("FarTown$Body", 13, "FarTown", "AHEAD_X", "[I", "FarTown"), ("FarTown$Body", 19, "FarTown", "AHEAD_Y", "[I", "FarTown")]
def nsM : List (String × Nat × MethodName × String) := [("FarTown$Scene", 17, ⟨"FarTown$Body", "<init>", "()V"⟩, "FarTown"), ("FarTown$Planner", 21, ⟨"FarTown$Body", "<init>", "()V"⟩, "FarTown")]
def kS (E : EX) (U : State) : Prop := (∀ j, j < 4 → va_Z RX9 (saN j) "[I" (.ref (E.sa j)) (AA E) U U.heap ∧ va_T .int (E.sa j) (saV j).length (fun i => .int ((saV j).getD i 0)) (AA E) U U.heap) ∧ va_Z RJ0 "COMPACT_STRINGS" "Z" (.int 1) (AA E) U U.heap ∧ vk_S skN skL skB E.adK E.adV (AA E) U U.heap ∧ (∀ i, i < skN → vk_R RX4 (skI.getD i 0) (skT.getD i "") (E.adK i) U) ∧ (∀ q ∈ nsF, va_Nw (.fieldLinkNest q.1 q.2.1 q.2.2.1 q.2.2.2.1 q.2.2.2.2.1 q.2.2.2.2.2) U) ∧ (∀ q ∈ nsM, va_Nw (.methodLinkNest q.1 q.2.1 q.2.2.1 q.2.2.2) U) ∧ (∀ C ∈ [RX0, RX2, RX7, RX8], va_AO C U) ∧ va_Zq RJ3 "SIOOBE_FORMATTER" "Ljava/util/function/BiFunction;" (AA E) U U.heap
def Kn (E : EX) (U : State) : Prop := va_K E.D vwCl (tysL E.cy) U ∧ kS E U
def St (E : EX) (m : MM) (U : State) : Prop := Kn E U ∧ Rp E m U.heap
/-- the words that every method has -/
def TB : List Cond := lw_tbl.filter goodWord
abbrev GX : Type := Program × Launch × Env × Room × State × MethodId × Array Value × List Frame × Method × Code
abbrev GX.p (Γ : GX) : Program := Γ.1
abbrev GX.l (Γ : GX) : Launch := Γ.2.1
abbrev GX.e (Γ : GX) : Env := Γ.2.2.1
abbrev GX.rm (Γ : GX) : Room := Γ.2.2.2.1
abbrev GX.s (Γ : GX) : State := Γ.2.2.2.2.1
abbrev GX.mi (Γ : GX) : MethodId := Γ.2.2.2.2.2.1
abbrev GX.args (Γ : GX) : Array Value := Γ.2.2.2.2.2.2.1
abbrev GX.below (Γ : GX) : List Frame := Γ.2.2.2.2.2.2.2.1
abbrev GX.meth (Γ : GX) : Method := Γ.2.2.2.2.2.2.2.2.1
abbrev GX.c (Γ : GX) : Code := Γ.2.2.2.2.2.2.2.2.2
def Cx (Γ : GX) (E : EX) (cc : ByteArray) (own : String) (nL : Nat) : Prop := Γ.p.tables.exec = Jvm.exec ∧ Γ.c.code = cc ∧ Γ.c.maxLocals = nL ∧ Γ.s.vm.findClass own = some Γ.mi.cls ∧ (∀ w ∈ TB, w.before Γ.args Γ.s = true) ∧ Kn E Γ.s ∧ Γ.meth.locks = false ∧ E.base ≤ Γ.s.heap.size
/-- the machine at a frame goes on as the function X says -/
def Sm {R : Type} (Qf : R → MM → State → Prop) (Γ : GX) (E : EX) (nL ce sl pc : Nat) (L : List (Nat × Value)) (st : List Value) (m : MM) (X : Option (R × MM)) : Prop :=
  ∀ (r : R) (m2 : MM), X = some (r, m2) → ∀ (H : Heap) (locs : List Loc) (ls : Array Slot), Rp E m H → va_S (AA E) Γ.s.heap H locs → lv_has ls nL L → W Γ.p Γ.l Γ.e Γ.rm Γ.s Γ.mi Γ.args Γ.below Γ.meth Γ.c H locs ce sl (Qf r m2) (F0 Γ.mi pc ls st)
def QR (E : EX) (o : Option Value) (m2 : MM) : Array Value → State → Outcome → State → Prop := fun _ st oc t => oc = .returned o ∧ Rp E m2 t.heap ∧ va_F (AA E) st t
def QM {R : Type} (Γ : GX) (E : EX) (em : R → Option Value) (mc ms : Nat) : R → MM → State → Prop := fun r m2 => MQ Γ.below (QR E (em r) m2) Γ.args Γ.s mc ms (AA E)

section ZR
variable {R : Type} {Qf : R → MM → State → Prop} {Γ : GX} {E : EX} {cc : ByteArray} {own : String} {nL ce sl pc : Nat} {L L2 : List (Nat × Value)} {st : List Value} {m : MM} {X : Option (R × MM)}
theorem z_iconst (C : Cx Γ E cc own nL) {n : Int} {v : Int32} (d : decode cc pc = .ok (.iconst n, 1)) (hv : Int32.ofInt n = v) (k : Sm Qf Γ E nL ce sl (pc + 1) L (.int v :: st) m X) : Sm Qf Γ E nL ce sl pc L st m X := fun r m2 h H locs ls h1 h2 h3 => lv_iconst C.1 C.2.1 d hv (k r m2 h H locs ls h1 h2 h3)
theorem z_bipush (C : Cx Γ E cc own nL) {n : Int} {v : Int32} (d : decode cc pc = .ok (.bipush n, 2)) (hv : (Int8.ofInt n).toInt32 = v) (k : Sm Qf Γ E nL ce sl (pc + 2) L (.int v :: st) m X) : Sm Qf Γ E nL ce sl pc L st m X := fun r m2 h H locs ls h1 h2 h3 => lv_bipush C.1 C.2.1 d hv (k r m2 h H locs ls h1 h2 h3)
theorem z_sipush (C : Cx Γ E cc own nL) {n : Int} {v : Int32} (d : decode cc pc = .ok (.sipush n, 3)) (hv : (Int16.ofInt n).toInt32 = v) (k : Sm Qf Γ E nL ce sl (pc + 3) L (.int v :: st) m X) : Sm Qf Γ E nL ce sl pc L st m X := fun r m2 h H locs ls h1 h2 h3 => lv_sipush C.1 C.2.1 d hv (k r m2 h H locs ls h1 h2 h3)
theorem z_lconst (C : Cx Γ E cc own nL) {n : Fin 2} {v : Int64} (d : decode cc pc = .ok (.lconst n, 1)) (hv : Int64.ofNat (n : Nat) = v) (k : Sm Qf Γ E nL ce sl (pc + 1) L (.long v :: st) m X) : Sm Qf Γ E nL ce sl pc L st m X := fun r m2 h H locs ls h1 h2 h3 => lv_lconst C.1 C.2.1 d hv (k r m2 h H locs ls h1 h2 h3)
theorem z_null (C : Cx Γ E cc own nL) (d : decode cc pc = .ok (.aconst_null, 1)) (k : Sm Qf Γ E nL ce sl (pc + 1) L (va_rf none :: st) m X) : Sm Qf Γ E nL ce sl pc L st m X := fun r m2 h H locs ls h1 h2 h3 => lv_null C.1 C.2.1 d (k r m2 h H locs ls h1 h2 h3)
theorem z_iadd (C : Cx Γ E cc own nL) {x y : Int32} (d : decode cc pc = .ok (.iadd, 1)) (k : Sm Qf Γ E nL ce sl (pc + 1) L (.int (x + y) :: st) m X) : Sm Qf Γ E nL ce sl pc L (.int y :: .int x :: st) m X := fun r m2 h H locs ls h1 h2 h3 => lv_iadd C.1 C.2.1 d (k r m2 h H locs ls h1 h2 h3)
theorem z_isub (C : Cx Γ E cc own nL) {x y : Int32} (d : decode cc pc = .ok (.isub, 1)) (k : Sm Qf Γ E nL ce sl (pc + 1) L (.int (x - y) :: st) m X) : Sm Qf Γ E nL ce sl pc L (.int y :: .int x :: st) m X := fun r m2 h H locs ls h1 h2 h3 => lv_isub C.1 C.2.1 d (k r m2 h H locs ls h1 h2 h3)
theorem z_imul (C : Cx Γ E cc own nL) {x y : Int32} (d : decode cc pc = .ok (.imul, 1)) (k : Sm Qf Γ E nL ce sl (pc + 1) L (.int (x * y) :: st) m X) : Sm Qf Γ E nL ce sl pc L (.int y :: .int x :: st) m X := fun r m2 h H locs ls h1 h2 h3 => lv_imul C.1 C.2.1 d (k r m2 h H locs ls h1 h2 h3)
theorem z_iand (C : Cx Γ E cc own nL) {x y : Int32} (d : decode cc pc = .ok (.iand, 1)) (k : Sm Qf Γ E nL ce sl (pc + 1) L (.int (x &&& y) :: st) m X) : Sm Qf Γ E nL ce sl pc L (.int y :: .int x :: st) m X := fun r m2 h H locs ls h1 h2 h3 => lv_iand C.1 C.2.1 d (k r m2 h H locs ls h1 h2 h3)
theorem z_ior (C : Cx Γ E cc own nL) {x y : Int32} (d : decode cc pc = .ok (.ior, 1)) (k : Sm Qf Γ E nL ce sl (pc + 1) L (.int (x ||| y) :: st) m X) : Sm Qf Γ E nL ce sl pc L (.int y :: .int x :: st) m X := fun r m2 h H locs ls h1 h2 h3 => lv_ior C.1 C.2.1 d (k r m2 h H locs ls h1 h2 h3)
theorem z_ixor (C : Cx Γ E cc own nL) {x y : Int32} (d : decode cc pc = .ok (.ixor, 1)) (k : Sm Qf Γ E nL ce sl (pc + 1) L (.int (x ^^^ y) :: st) m X) : Sm Qf Γ E nL ce sl pc L (.int y :: .int x :: st) m X := fun r m2 h H locs ls h1 h2 h3 => lv_ixor C.1 C.2.1 d (k r m2 h H locs ls h1 h2 h3)
theorem z_ladd (C : Cx Γ E cc own nL) {x y : Int64} (d : decode cc pc = .ok (.ladd, 1)) (k : Sm Qf Γ E nL ce sl (pc + 1) L (.long (x + y) :: st) m X) : Sm Qf Γ E nL ce sl pc L (.long y :: .long x :: st) m X := fun r m2 h H locs ls h1 h2 h3 => lv_ladd C.1 C.2.1 d (k r m2 h H locs ls h1 h2 h3)
theorem z_lsub (C : Cx Γ E cc own nL) {x y : Int64} (d : decode cc pc = .ok (.lsub, 1)) (k : Sm Qf Γ E nL ce sl (pc + 1) L (.long (x - y) :: st) m X) : Sm Qf Γ E nL ce sl pc L (.long y :: .long x :: st) m X := fun r m2 h H locs ls h1 h2 h3 => lv_lsub C.1 C.2.1 d (k r m2 h H locs ls h1 h2 h3)
theorem z_land (C : Cx Γ E cc own nL) {x y : Int64} (d : decode cc pc = .ok (.land, 1)) (k : Sm Qf Γ E nL ce sl (pc + 1) L (.long (x &&& y) :: st) m X) : Sm Qf Γ E nL ce sl pc L (.long y :: .long x :: st) m X := fun r m2 h H locs ls h1 h2 h3 => lv_land C.1 C.2.1 d (k r m2 h H locs ls h1 h2 h3)
theorem z_lor (C : Cx Γ E cc own nL) {x y : Int64} (d : decode cc pc = .ok (.lor, 1)) (k : Sm Qf Γ E nL ce sl (pc + 1) L (.long (x ||| y) :: st) m X) : Sm Qf Γ E nL ce sl pc L (.long y :: .long x :: st) m X := fun r m2 h H locs ls h1 h2 h3 => lv_lor C.1 C.2.1 d (k r m2 h H locs ls h1 h2 h3)
theorem z_lxor (C : Cx Γ E cc own nL) {x y : Int64} (d : decode cc pc = .ok (.lxor, 1)) (k : Sm Qf Γ E nL ce sl (pc + 1) L (.long (x ^^^ y) :: st) m X) : Sm Qf Γ E nL ce sl pc L (.long y :: .long x :: st) m X := fun r m2 h H locs ls h1 h2 h3 => lv_lxor C.1 C.2.1 d (k r m2 h H locs ls h1 h2 h3)
theorem z_idiv (C : Cx Γ E cc own nL) {x y : Int32} (hy : ¬ y = 0) (d : decode cc pc = .ok (.idiv, 1)) (k : Sm Qf Γ E nL ce sl (pc + 1) L (.int (x / y) :: st) m X) : Sm Qf Γ E nL ce sl pc L (.int y :: .int x :: st) m X := fun r m2 h H locs ls h1 h2 h3 => lv_idiv C.1 C.2.1 d hy (k r m2 h H locs ls h1 h2 h3)
theorem z_irem (C : Cx Γ E cc own nL) {x y : Int32} (hy : ¬ y = 0) (d : decode cc pc = .ok (.irem, 1)) (k : Sm Qf Γ E nL ce sl (pc + 1) L (.int (x - x / y * y) :: st) m X) : Sm Qf Γ E nL ce sl pc L (.int y :: .int x :: st) m X := fun r m2 h H locs ls h1 h2 h3 => lv_irem C.1 C.2.1 d hy (k r m2 h H locs ls h1 h2 h3)
theorem z_ineg (C : Cx Γ E cc own nL) {x : Int32} (d : decode cc pc = .ok (.ineg, 1)) (k : Sm Qf Γ E nL ce sl (pc + 1) L (.int (-x) :: st) m X) : Sm Qf Γ E nL ce sl pc L (.int x :: st) m X := fun r m2 h H locs ls h1 h2 h3 => lv_ineg C.1 C.2.1 d (k r m2 h H locs ls h1 h2 h3)
theorem z_lneg (C : Cx Γ E cc own nL) {x : Int64} (d : decode cc pc = .ok (.lneg, 1)) (k : Sm Qf Γ E nL ce sl (pc + 1) L (.long (-x) :: st) m X) : Sm Qf Γ E nL ce sl pc L (.long x :: st) m X := fun r m2 h H locs ls h1 h2 h3 => lv_lneg C.1 C.2.1 d (k r m2 h H locs ls h1 h2 h3)
theorem z_ishl (C : Cx Γ E cc own nL) {x y : Int32} (d : decode cc pc = .ok (.ishl, 1)) (k : Sm Qf Γ E nL ce sl (pc + 1) L (.int (x <<< (y &&& 31)) :: st) m X) : Sm Qf Γ E nL ce sl pc L (.int y :: .int x :: st) m X := fun r m2 h H locs ls h1 h2 h3 => lv_ishl C.1 C.2.1 d (k r m2 h H locs ls h1 h2 h3)
theorem z_ishr (C : Cx Γ E cc own nL) {x y : Int32} (d : decode cc pc = .ok (.ishr, 1)) (k : Sm Qf Γ E nL ce sl (pc + 1) L (.int (x >>> (y &&& 31)) :: st) m X) : Sm Qf Γ E nL ce sl pc L (.int y :: .int x :: st) m X := fun r m2 h H locs ls h1 h2 h3 => lv_ishr C.1 C.2.1 d (k r m2 h H locs ls h1 h2 h3)
theorem z_iushr (C : Cx Γ E cc own nL) {x y : Int32} (d : decode cc pc = .ok (.iushr, 1)) (k : Sm Qf Γ E nL ce sl (pc + 1) L (.int (iush x y) :: st) m X) : Sm Qf Γ E nL ce sl pc L (.int y :: .int x :: st) m X := fun r m2 h H locs ls h1 h2 h3 => lv_iushr C.1 C.2.1 d rfl (k r m2 h H locs ls h1 h2 h3)
theorem z_lshl (C : Cx Γ E cc own nL) {x : Int64} {y : Int32} (d : decode cc pc = .ok (.lshl, 1)) (k : Sm Qf Γ E nL ce sl (pc + 1) L (.long (x <<< (y.toInt64 &&& 63)) :: st) m X) : Sm Qf Γ E nL ce sl pc L (.int y :: .long x :: st) m X := fun r m2 h H locs ls h1 h2 h3 => lv_lshl C.1 C.2.1 d rfl (k r m2 h H locs ls h1 h2 h3)
theorem z_lshr (C : Cx Γ E cc own nL) {x : Int64} {y : Int32} (d : decode cc pc = .ok (.lshr, 1)) (k : Sm Qf Γ E nL ce sl (pc + 1) L (.long (x >>> (y.toInt64 &&& 63)) :: st) m X) : Sm Qf Γ E nL ce sl pc L (.int y :: .long x :: st) m X := fun r m2 h H locs ls h1 h2 h3 => lv_lshr C.1 C.2.1 d rfl (k r m2 h H locs ls h1 h2 h3)
theorem z_lushr (C : Cx Γ E cc own nL) {x : Int64} {y : Int32} (d : decode cc pc = .ok (.lushr, 1)) (k : Sm Qf Γ E nL ce sl (pc + 1) L (.long (lush x y) :: st) m X) : Sm Qf Γ E nL ce sl pc L (.int y :: .long x :: st) m X := fun r m2 h H locs ls h1 h2 h3 => lv_lushr C.1 C.2.1 d rfl (k r m2 h H locs ls h1 h2 h3)
theorem z_i2l (C : Cx Γ E cc own nL) {x : Int32} (d : decode cc pc = .ok (.i2l, 1)) (k : Sm Qf Γ E nL ce sl (pc + 1) L (.long x.toInt64 :: st) m X) : Sm Qf Γ E nL ce sl pc L (.int x :: st) m X := fun r m2 h H locs ls h1 h2 h3 => lv_i2l C.1 C.2.1 d rfl (k r m2 h H locs ls h1 h2 h3)
theorem z_l2i (C : Cx Γ E cc own nL) {x : Int64} (d : decode cc pc = .ok (.l2i, 1)) (k : Sm Qf Γ E nL ce sl (pc + 1) L (.int x.toInt32 :: st) m X) : Sm Qf Γ E nL ce sl pc L (.long x :: st) m X := fun r m2 h H locs ls h1 h2 h3 => lv_l2i C.1 C.2.1 d rfl (k r m2 h H locs ls h1 h2 h3)
theorem z_i2b (C : Cx Γ E cc own nL) {x : Int32} (d : decode cc pc = .ok (.i2b, 1)) (k : Sm Qf Γ E nL ce sl (pc + 1) L (.int x.toInt8.toInt32 :: st) m X) : Sm Qf Γ E nL ce sl pc L (.int x :: st) m X := fun r m2 h H locs ls h1 h2 h3 => lv_i2b C.1 C.2.1 d rfl (k r m2 h H locs ls h1 h2 h3)
theorem z_lcmp (C : Cx Γ E cc own nL) {x y : Int64} (d : decode cc pc = .ok (.lcmp, 1)) (k : Sm Qf Γ E nL ce sl (pc + 1) L (.int (lg_cmp x y) :: st) m X) : Sm Qf Γ E nL ce sl pc L (.long y :: .long x :: st) m X := fun r m2 h H locs ls h1 h2 h3 => W.lcmp C.1 C.2.1 d (k r m2 h H locs ls h1 h2 h3)
theorem z_dup (C : Cx Γ E cc own nL) {v : Value} (hv : v.category = 1) (d : decode cc pc = .ok (.dup, 1)) (k : Sm Qf Γ E nL ce sl (pc + 1) L (v :: v :: st) m X) : Sm Qf Γ E nL ce sl pc L (v :: st) m X := fun r m2 h H locs ls h1 h2 h3 => lv_dup C.1 C.2.1 d hv (k r m2 h H locs ls h1 h2 h3)
theorem z_pop (C : Cx Γ E cc own nL) {v : Value} (hv : v.category = 1) (d : decode cc pc = .ok (.pop, 1)) (k : Sm Qf Γ E nL ce sl (pc + 1) L st m X) : Sm Qf Γ E nL ce sl pc L (v :: st) m X := fun r m2 h H locs ls h1 h2 h3 => lv_pop C.1 C.2.1 d hv (k r m2 h H locs ls h1 h2 h3)
theorem z_dup2 (C : Cx Γ E cc own nL) {v w : Value} (hv : v.category = 1) (hw : w.category = 1) (d : decode cc pc = .ok (.dup2, 1)) (k : Sm Qf Γ E nL ce sl (pc + 1) L (v :: w :: v :: w :: st) m X) : Sm Qf Γ E nL ce sl pc L (v :: w :: st) m X := fun r m2 h H locs ls h1 h2 h3 => lv_dup2_11 C.1 C.2.1 d hv hw (k r m2 h H locs ls h1 h2 h3)
theorem z_dup2l (C : Cx Γ E cc own nL) {v : Value} (hv : v.category = 2) (d : decode cc pc = .ok (.dup2, 1)) (k : Sm Qf Γ E nL ce sl (pc + 1) L (v :: v :: st) m X) : Sm Qf Γ E nL ce sl pc L (v :: st) m X := fun r m2 h H locs ls h1 h2 h3 => lv_dup2_2 C.1 C.2.1 d hv (k r m2 h H locs ls h1 h2 h3)
theorem z_iload_n (C : Cx Γ E cc own nL) {n : Fin 4} {i : Nat} {x : Int32} (d : decode cc pc = .ok (.iload_n n, 1)) (hi : (n : Nat) = i) (j : Nat) (hj : L[j]? = some (i, .int x)) (k : Sm Qf Γ E nL ce sl (pc + 1) L (.int x :: st) m X) : Sm Qf Γ E nL ce sl pc L st m X := fun r m2 h H locs ls h1 h2 h3 => lv_iload_n C.1 C.2.1 d hi (lv_at h3 j hj) (k r m2 h H locs ls h1 h2 h3)
theorem z_iload (C : Cx Γ E cc own nL) {i : Nat} {x : Int32} (d : decode cc pc = .ok (.iload i, 2)) (j : Nat) (hj : L[j]? = some (i, .int x)) (k : Sm Qf Γ E nL ce sl (pc + 2) L (.int x :: st) m X) : Sm Qf Γ E nL ce sl pc L st m X := fun r m2 h H locs ls h1 h2 h3 => lv_iload C.1 C.2.1 d (lv_at h3 j hj) (k r m2 h H locs ls h1 h2 h3)
theorem z_lload_n (C : Cx Γ E cc own nL) {n : Fin 4} {i : Nat} {x : Int64} (d : decode cc pc = .ok (.lload_n n, 1)) (hi : (n : Nat) = i) (j : Nat) (hj : L[j]? = some (i, .long x)) (k : Sm Qf Γ E nL ce sl (pc + 1) L (.long x :: st) m X) : Sm Qf Γ E nL ce sl pc L st m X := fun r m2 h H locs ls h1 h2 h3 => lv_lload_n C.1 C.2.1 d hi (lv_at h3 j hj) (k r m2 h H locs ls h1 h2 h3)
theorem z_lload (C : Cx Γ E cc own nL) {i : Nat} {x : Int64} (d : decode cc pc = .ok (.lload i, 2)) (j : Nat) (hj : L[j]? = some (i, .long x)) (k : Sm Qf Γ E nL ce sl (pc + 2) L (.long x :: st) m X) : Sm Qf Γ E nL ce sl pc L st m X := fun r m2 h H locs ls h1 h2 h3 => lv_lload C.1 C.2.1 d (lv_at h3 j hj) (k r m2 h H locs ls h1 h2 h3)
theorem z_aload_n (C : Cx Γ E cc own nL) {n : Fin 4} {i : Nat} {x : Option Nat} (d : decode cc pc = .ok (.aload_n n, 1)) (hi : (n : Nat) = i) (j : Nat) (hj : L[j]? = some (i, va_rf x)) (k : Sm Qf Γ E nL ce sl (pc + 1) L (va_rf x :: st) m X) : Sm Qf Γ E nL ce sl pc L st m X := fun r m2 h H locs ls h1 h2 h3 => by
  cases x with
  | none => exact lv_aload_nN C.1 C.2.1 d hi (lv_at h3 j hj) (k r m2 h H locs ls h1 h2 h3)
  | some a => exact lv_aload_n C.1 C.2.1 d hi (lv_at h3 j hj) (k r m2 h H locs ls h1 h2 h3)
theorem z_aload (C : Cx Γ E cc own nL) {i : Nat} {x : Option Nat} (d : decode cc pc = .ok (.aload i, 2)) (j : Nat) (hj : L[j]? = some (i, va_rf x)) (k : Sm Qf Γ E nL ce sl (pc + 2) L (va_rf x :: st) m X) : Sm Qf Γ E nL ce sl pc L st m X := fun r m2 h H locs ls h1 h2 h3 => by
  cases x with
  | none => exact lv_aloadN C.1 C.2.1 d (lv_at h3 j hj) (k r m2 h H locs ls h1 h2 h3)
  | some a => exact lv_aload C.1 C.2.1 d (lv_at h3 j hj) (k r m2 h H locs ls h1 h2 h3)
theorem z_istore_n (C : Cx Γ E cc own nL) {n : Fin 4} {i : Nat} {x : Int32} (d : decode cc pc = .ok (.istore_n n, 1)) (hi : (n : Nat) = i) (hn : i < nL) (hl : (i, Value.int x) :: L.filter (fun q => !(q.1 == i) && !(q.1 + 1 == i && q.2.category == 2)) = L2) (k : Sm Qf Γ E nL ce sl (pc + 1) L2 st m X) : Sm Qf Γ E nL ce sl pc L (.int x :: st) m X := fun r m2 h H locs ls h1 h2 h3 => lv_istore_n C.1 C.2.1 d hi h3 hn hl (fun ls2 hl2 => k r m2 h H locs ls2 h1 h2 hl2)
theorem z_istore (C : Cx Γ E cc own nL) {i : Nat} {x : Int32} (d : decode cc pc = .ok (.istore i, 2)) (hn : i < nL) (hl : (i, Value.int x) :: L.filter (fun q => !(q.1 == i) && !(q.1 + 1 == i && q.2.category == 2)) = L2) (k : Sm Qf Γ E nL ce sl (pc + 2) L2 st m X) : Sm Qf Γ E nL ce sl pc L (.int x :: st) m X := fun r m2 h H locs ls h1 h2 h3 => lv_istore C.1 C.2.1 d h3 hn hl (fun ls2 hl2 => k r m2 h H locs ls2 h1 h2 hl2)
theorem z_lstore_n (C : Cx Γ E cc own nL) {n : Fin 4} {i : Nat} {x : Int64} (d : decode cc pc = .ok (.lstore_n n, 1)) (hi : (n : Nat) = i) (hn : i + 1 < nL) (hl : (i, Value.long x) :: L.filter (fun q => !(q.1 == i) && (!(q.1 == i + 1) && !(q.1 + 1 == i && q.2.category == 2))) = L2) (k : Sm Qf Γ E nL ce sl (pc + 1) L2 st m X) : Sm Qf Γ E nL ce sl pc L (.long x :: st) m X := fun r m2 h H locs ls h1 h2 h3 => lv_lstore_n C.1 C.2.1 d hi h3 hn hl (fun ls2 hl2 => k r m2 h H locs ls2 h1 h2 hl2)
theorem z_lstore (C : Cx Γ E cc own nL) {i : Nat} {x : Int64} (d : decode cc pc = .ok (.lstore i, 2)) (hn : i + 1 < nL) (hl : (i, Value.long x) :: L.filter (fun q => !(q.1 == i) && (!(q.1 == i + 1) && !(q.1 + 1 == i && q.2.category == 2))) = L2) (k : Sm Qf Γ E nL ce sl (pc + 2) L2 st m X) : Sm Qf Γ E nL ce sl pc L (.long x :: st) m X := fun r m2 h H locs ls h1 h2 h3 => lv_lstore C.1 C.2.1 d h3 hn hl (fun ls2 hl2 => k r m2 h H locs ls2 h1 h2 hl2)
theorem z_astore_n (C : Cx Γ E cc own nL) {n : Fin 4} {i : Nat} {x : Option Nat} (d : decode cc pc = .ok (.astore_n n, 1)) (hi : (n : Nat) = i) (hn : i < nL) (hl : (i, va_rf x) :: L.filter (fun q => !(q.1 == i) && !(q.1 + 1 == i && q.2.category == 2)) = L2) (k : Sm Qf Γ E nL ce sl (pc + 1) L2 st m X) : Sm Qf Γ E nL ce sl pc L (va_rf x :: st) m X := fun r m2 h H locs ls h1 h2 h3 => by
  cases x with
  | none => exact lv_astore_nN C.1 C.2.1 d hi h3 hn hl (fun ls2 hl2 => k r m2 h H locs ls2 h1 h2 hl2)
  | some a => exact lv_astore_n C.1 C.2.1 d hi h3 hn hl (fun ls2 hl2 => k r m2 h H locs ls2 h1 h2 hl2)
theorem z_astore (C : Cx Γ E cc own nL) {i : Nat} {x : Option Nat} (d : decode cc pc = .ok (.astore i, 2)) (hn : i < nL) (hl : (i, va_rf x) :: L.filter (fun q => !(q.1 == i) && !(q.1 + 1 == i && q.2.category == 2)) = L2) (k : Sm Qf Γ E nL ce sl (pc + 2) L2 st m X) : Sm Qf Γ E nL ce sl pc L (va_rf x :: st) m X := fun r m2 h H locs ls h1 h2 h3 => by
  cases x with
  | none => exact lv_astoreN C.1 C.2.1 d h3 hn hl (fun ls2 hl2 => k r m2 h H locs ls2 h1 h2 hl2)
  | some a => exact lv_astore C.1 C.2.1 d h3 hn hl (fun ls2 hl2 => k r m2 h H locs ls2 h1 h2 hl2)
theorem z_iinc (C : Cx Γ E cc own nL) {i : Nat} {n : Int} {x v : Int32} (d : decode cc pc = .ok (.iinc i n, 3)) (j : Nat) (hj : L[j]? = some (i, .int x)) (hv : Int32.ofInt n = v) (hn : i < nL) (hl : (i, Value.int (x + v)) :: L.filter (fun q => !(q.1 == i) && !(q.1 + 1 == i && q.2.category == 2)) = L2) (k : Sm Qf Γ E nL ce sl (pc + 3) L2 st m X) : Sm Qf Γ E nL ce sl pc L st m X := fun r m2 h H locs ls h1 h2 h3 => lv_iinc C.1 C.2.1 d h3 hj (by rw [hv]) hn hl (fun ls2 hl2 => k r m2 h H locs ls2 h1 h2 hl2)
theorem z_icmp_eq (C : Cx Γ E cc own nL) {x y : Int32} {off : Int} {tgt : Nat} {X2 : Option (R × MM)} (d : decode cc pc = .ok (.if_icmp .eq off, 3)) (ht : (pc : Int) + off = (tgt : Int)) (k1 : x = y → Sm Qf Γ E nL ce sl tgt L st m X) (k2 : ¬ x = y → Sm Qf Γ E nL ce sl (pc + 3) L st m X2) : Sm Qf Γ E nL ce sl pc L (.int y :: .int x :: st) m (if x = y then X else X2) := fun r m2 h H locs ls h1 h2 h3 => lv_icmp_eq C.1 C.2.1 d ht (fun c => k1 c r m2 (by rw [if_pos c] at h; exact h) H locs ls h1 h2 h3) (fun c => k2 c r m2 (by rw [if_neg c] at h; exact h) H locs ls h1 h2 h3)
theorem z_if_eq (C : Cx Γ E cc own nL) {x : Int32} {off : Int} {tgt : Nat} {X2 : Option (R × MM)} (d : decode cc pc = .ok (.ifCond .eq off, 3)) (ht : (pc : Int) + off = (tgt : Int)) (k1 : x = 0 → Sm Qf Γ E nL ce sl tgt L st m X) (k2 : ¬ x = 0 → Sm Qf Γ E nL ce sl (pc + 3) L st m X2) : Sm Qf Γ E nL ce sl pc L (.int x :: st) m (if x = 0 then X else X2) := fun r m2 h H locs ls h1 h2 h3 => lv_if_eq C.1 C.2.1 d ht (fun c => k1 c r m2 (by rw [if_pos c] at h; exact h) H locs ls h1 h2 h3) (fun c => k2 c r m2 (by rw [if_neg c] at h; exact h) H locs ls h1 h2 h3)
theorem z_icmp_ne (C : Cx Γ E cc own nL) {x y : Int32} {off : Int} {tgt : Nat} {X2 : Option (R × MM)} (d : decode cc pc = .ok (.if_icmp .ne off, 3)) (ht : (pc : Int) + off = (tgt : Int)) (k2 : ¬ x = y → Sm Qf Γ E nL ce sl tgt L st m X2) (k1 : x = y → Sm Qf Γ E nL ce sl (pc + 3) L st m X) : Sm Qf Γ E nL ce sl pc L (.int y :: .int x :: st) m (if x = y then X else X2) := fun r m2 h H locs ls h1 h2 h3 => lv_icmp_ne C.1 C.2.1 d ht (fun c => k2 c r m2 (by rw [if_neg c] at h; exact h) H locs ls h1 h2 h3) (fun c => k1 c r m2 (by rw [if_pos c] at h; exact h) H locs ls h1 h2 h3)
theorem z_if_ne (C : Cx Γ E cc own nL) {x : Int32} {off : Int} {tgt : Nat} {X2 : Option (R × MM)} (d : decode cc pc = .ok (.ifCond .ne off, 3)) (ht : (pc : Int) + off = (tgt : Int)) (k2 : ¬ x = 0 → Sm Qf Γ E nL ce sl tgt L st m X2) (k1 : x = 0 → Sm Qf Γ E nL ce sl (pc + 3) L st m X) : Sm Qf Γ E nL ce sl pc L (.int x :: st) m (if x = 0 then X else X2) := fun r m2 h H locs ls h1 h2 h3 => lv_if_ne C.1 C.2.1 d ht (fun c => k2 c r m2 (by rw [if_neg c] at h; exact h) H locs ls h1 h2 h3) (fun c => k1 c r m2 (by rw [if_pos c] at h; exact h) H locs ls h1 h2 h3)
theorem z_icmp_lt (C : Cx Γ E cc own nL) {x y : Int32} {off : Int} {tgt : Nat} {X2 : Option (R × MM)} (d : decode cc pc = .ok (.if_icmp .lt off, 3)) (ht : (pc : Int) + off = (tgt : Int)) (k1 : x < y → Sm Qf Γ E nL ce sl tgt L st m X) (k2 : ¬ x < y → Sm Qf Γ E nL ce sl (pc + 3) L st m X2) : Sm Qf Γ E nL ce sl pc L (.int y :: .int x :: st) m (if x < y then X else X2) := fun r m2 h H locs ls h1 h2 h3 => lv_icmp_lt C.1 C.2.1 d ht (fun c => k1 c r m2 (by rw [if_pos c] at h; exact h) H locs ls h1 h2 h3) (fun c => k2 c r m2 (by rw [if_neg c] at h; exact h) H locs ls h1 h2 h3)
theorem z_if_lt (C : Cx Γ E cc own nL) {x : Int32} {off : Int} {tgt : Nat} {X2 : Option (R × MM)} (d : decode cc pc = .ok (.ifCond .lt off, 3)) (ht : (pc : Int) + off = (tgt : Int)) (k1 : x < 0 → Sm Qf Γ E nL ce sl tgt L st m X) (k2 : ¬ x < 0 → Sm Qf Γ E nL ce sl (pc + 3) L st m X2) : Sm Qf Γ E nL ce sl pc L (.int x :: st) m (if x < 0 then X else X2) := fun r m2 h H locs ls h1 h2 h3 => lv_if_lt C.1 C.2.1 d ht (fun c => k1 c r m2 (by rw [if_pos c] at h; exact h) H locs ls h1 h2 h3) (fun c => k2 c r m2 (by rw [if_neg c] at h; exact h) H locs ls h1 h2 h3)
theorem z_icmp_ge (C : Cx Γ E cc own nL) {x y : Int32} {off : Int} {tgt : Nat} {X2 : Option (R × MM)} (d : decode cc pc = .ok (.if_icmp .ge off, 3)) (ht : (pc : Int) + off = (tgt : Int)) (k1 : y ≤ x → Sm Qf Γ E nL ce sl tgt L st m X) (k2 : ¬ y ≤ x → Sm Qf Γ E nL ce sl (pc + 3) L st m X2) : Sm Qf Γ E nL ce sl pc L (.int y :: .int x :: st) m (if y ≤ x then X else X2) := fun r m2 h H locs ls h1 h2 h3 => lv_icmp_ge C.1 C.2.1 d ht (fun c => k1 c r m2 (by rw [if_pos c] at h; exact h) H locs ls h1 h2 h3) (fun c => k2 c r m2 (by rw [if_neg c] at h; exact h) H locs ls h1 h2 h3)
theorem z_if_ge (C : Cx Γ E cc own nL) {x : Int32} {off : Int} {tgt : Nat} {X2 : Option (R × MM)} (d : decode cc pc = .ok (.ifCond .ge off, 3)) (ht : (pc : Int) + off = (tgt : Int)) (k1 : 0 ≤ x → Sm Qf Γ E nL ce sl tgt L st m X) (k2 : ¬ 0 ≤ x → Sm Qf Γ E nL ce sl (pc + 3) L st m X2) : Sm Qf Γ E nL ce sl pc L (.int x :: st) m (if 0 ≤ x then X else X2) := fun r m2 h H locs ls h1 h2 h3 => lv_if_ge C.1 C.2.1 d ht (fun c => k1 c r m2 (by rw [if_pos c] at h; exact h) H locs ls h1 h2 h3) (fun c => k2 c r m2 (by rw [if_neg c] at h; exact h) H locs ls h1 h2 h3)
theorem z_icmp_gt (C : Cx Γ E cc own nL) {x y : Int32} {off : Int} {tgt : Nat} {X2 : Option (R × MM)} (d : decode cc pc = .ok (.if_icmp .gt off, 3)) (ht : (pc : Int) + off = (tgt : Int)) (k1 : y < x → Sm Qf Γ E nL ce sl tgt L st m X) (k2 : ¬ y < x → Sm Qf Γ E nL ce sl (pc + 3) L st m X2) : Sm Qf Γ E nL ce sl pc L (.int y :: .int x :: st) m (if y < x then X else X2) := fun r m2 h H locs ls h1 h2 h3 => lv_icmp_gt C.1 C.2.1 d ht (fun c => k1 c r m2 (by rw [if_pos c] at h; exact h) H locs ls h1 h2 h3) (fun c => k2 c r m2 (by rw [if_neg c] at h; exact h) H locs ls h1 h2 h3)
theorem z_if_gt (C : Cx Γ E cc own nL) {x : Int32} {off : Int} {tgt : Nat} {X2 : Option (R × MM)} (d : decode cc pc = .ok (.ifCond .gt off, 3)) (ht : (pc : Int) + off = (tgt : Int)) (k1 : 0 < x → Sm Qf Γ E nL ce sl tgt L st m X) (k2 : ¬ 0 < x → Sm Qf Γ E nL ce sl (pc + 3) L st m X2) : Sm Qf Γ E nL ce sl pc L (.int x :: st) m (if 0 < x then X else X2) := fun r m2 h H locs ls h1 h2 h3 => lv_if_gt C.1 C.2.1 d ht (fun c => k1 c r m2 (by rw [if_pos c] at h; exact h) H locs ls h1 h2 h3) (fun c => k2 c r m2 (by rw [if_neg c] at h; exact h) H locs ls h1 h2 h3)
theorem z_icmp_le (C : Cx Γ E cc own nL) {x y : Int32} {off : Int} {tgt : Nat} {X2 : Option (R × MM)} (d : decode cc pc = .ok (.if_icmp .le off, 3)) (ht : (pc : Int) + off = (tgt : Int)) (k1 : x ≤ y → Sm Qf Γ E nL ce sl tgt L st m X) (k2 : ¬ x ≤ y → Sm Qf Γ E nL ce sl (pc + 3) L st m X2) : Sm Qf Γ E nL ce sl pc L (.int y :: .int x :: st) m (if x ≤ y then X else X2) := fun r m2 h H locs ls h1 h2 h3 => lv_icmp_le C.1 C.2.1 d ht (fun c => k1 c r m2 (by rw [if_pos c] at h; exact h) H locs ls h1 h2 h3) (fun c => k2 c r m2 (by rw [if_neg c] at h; exact h) H locs ls h1 h2 h3)
theorem z_if_le (C : Cx Γ E cc own nL) {x : Int32} {off : Int} {tgt : Nat} {X2 : Option (R × MM)} (d : decode cc pc = .ok (.ifCond .le off, 3)) (ht : (pc : Int) + off = (tgt : Int)) (k1 : x ≤ 0 → Sm Qf Γ E nL ce sl tgt L st m X) (k2 : ¬ x ≤ 0 → Sm Qf Γ E nL ce sl (pc + 3) L st m X2) : Sm Qf Γ E nL ce sl pc L (.int x :: st) m (if x ≤ 0 then X else X2) := fun r m2 h H locs ls h1 h2 h3 => lv_if_le C.1 C.2.1 d ht (fun c => k1 c r m2 (by rw [if_pos c] at h; exact h) H locs ls h1 h2 h3) (fun c => k2 c r m2 (by rw [if_neg c] at h; exact h) H locs ls h1 h2 h3)
theorem z_goto (C : Cx Γ E cc own nL) {off : Int} {tgt : Nat} (d : decode cc pc = .ok (.goto off, 3)) (ht : (pc : Int) + off = (tgt : Int)) (k : Sm Qf Γ E nL ce sl tgt L st m X) : Sm Qf Γ E nL ce sl pc L st m X := fun r m2 h H locs ls h1 h2 h3 => lv_goto C.1 C.2.1 d ht (k r m2 h H locs ls h1 h2 h3)
/-! rows that hold of any frame -/
theorem z_sub (ks : List Nat) (hl : lv_pick L ks = L2) (k : Sm Qf Γ E nL ce sl pc L2 st m X) : Sm Qf Γ E nL ce sl pc L st m X := fun r m2 h H locs ls h1 h2 h3 => k r m2 h H locs ls h1 h2 (lv_sub h3 ks hl)
theorem z_chk {c : Prop} [Decidable c] (k : c → Sm Qf Γ E nL ce sl pc L st m X) : Sm Qf Γ E nL ce sl pc L st m (chk c X) := fun r m2 h H locs ls h1 h2 h3 => by
  by_cases hc : c
  · exact k hc r m2 (by unfold chk at h; rw [if_pos hc] at h; exact h) H locs ls h1 h2 h3
  · unfold chk at h; rw [if_neg hc] at h; cases h
theorem z_ck {q : Option Nat} {kd : Nat} {K : Nat → Option (R × MM)} (k : ∀ a, q = some a → m.K a = kd → Sm Qf Γ E nL ce sl pc L st m (K a)) : Sm Qf Γ E nL ce sl pc L st m (ck m q kd K) := fun r m2 h H locs ls h1 h2 h3 => by
  cases q with
  | none => cases h
  | some a =>
    by_cases hc : m.K a = kd
    · exact k a rfl hc r m2 (by simpa [ck, hc] using h) H locs ls h1 h2 h3
    · simp [ck, hc] at h
theorem z_bnd {α : Type} {v : α} {K : α → Option (R × MM)} (k : Sm Qf Γ E nL ce sl pc L st m (K v)) : Sm Qf Γ E nL ce sl pc L st m (bnd v K) := k
theorem z_bndI {v : Int32} {K : Int32 → Option (R × MM)} (k : ∀ x : Int32, Sm Qf Γ E nL ce sl pc L (.int x :: st) m (K x)) : Sm Qf Γ E nL ce sl pc L (.int v :: st) m (bnd v K) := k v
theorem z_bndJ {v : Int64} {K : Int64 → Option (R × MM)} (k : ∀ x : Int64, Sm Qf Γ E nL ce sl pc L (.long x :: st) m (K x)) : Sm Qf Γ E nL ce sl pc L (.long v :: st) m (bnd v K) := k v
theorem z_bndR {v : Option Nat} {K : Option Nat → Option (R × MM)} (k : ∀ x : Option Nat, Sm Qf Γ E nL ce sl pc L (va_rf x :: st) m (K x)) : Sm Qf Γ E nL ce sl pc L (va_rf v :: st) m (bnd v K) := k v
theorem z_none : Sm Qf Γ E nL ce sl pc L st m none := fun r m2 h => by cases h
theorem z_wid {k n : Nat} (h1 : ce ≤ k) (h2 : sl ≤ n) (kk : Sm Qf Γ E nL k n pc L st m X) : Sm Qf Γ E nL ce sl pc L st m X := fun r m2 h H locs ls g1 g2 g3 => W.widen h1 h2 (kk r m2 h H locs ls g1 g2 g3)
theorem z_ifnull (C : Cx Γ E cc own nL) {q : Option Nat} {off : Int} {tgt : Nat} {K : Nat → Option (R × MM)} (d : decode cc pc = .ok (.ifnull off, 3)) (ht : (pc : Int) + off = (tgt : Int)) (k1 : q = none → Sm Qf Γ E nL ce sl tgt L st m X) (k2 : ∀ a, q = some a → Sm Qf Γ E nL ce sl (pc + 3) L st m (K a)) : Sm Qf Γ E nL ce sl pc L (va_rf q :: st) m (ifn q X K) := fun r m2 h H locs ls h1 h2 h3 => by
  cases q with
  | none => exact lv_ifnullN C.1 C.2.1 d ht (k1 rfl r m2 h H locs ls h1 h2 h3)
  | some a => exact lv_ifnull C.1 C.2.1 d (k2 a rfl r m2 h H locs ls h1 h2 h3)
theorem z_ifnonnull (C : Cx Γ E cc own nL) {q : Option Nat} {off : Int} {tgt : Nat} {K : Nat → Option (R × MM)} (d : decode cc pc = .ok (.ifnonnull off, 3)) (ht : (pc : Int) + off = (tgt : Int)) (k2 : ∀ a, q = some a → Sm Qf Γ E nL ce sl tgt L st m (K a)) (k1 : q = none → Sm Qf Γ E nL ce sl (pc + 3) L st m X) : Sm Qf Γ E nL ce sl pc L (va_rf q :: st) m (ifn q X K) := fun r m2 h H locs ls h1 h2 h3 => by
  cases q with
  | none => exact lv_ifnonnullN C.1 C.2.1 d (k1 rfl r m2 h H locs ls h1 h2 h3)
  | some a => exact lv_ifnonnull C.1 C.2.1 d ht (k2 a rfl r m2 h H locs ls h1 h2 h3)
theorem z_ldc (C : Cx Γ E cc own nL) {idx : Nat} {v : Int32} (d : decode cc pc = .ok (.ldc idx, 2)) (hw : Cond.constant own idx v ∈ TB) (k : Sm Qf Γ E nL ce sl (pc + 2) L (.int v :: st) m X) : Sm Qf Γ E nL ce sl pc L st m X := fun r m2 h H locs ls h1 h2 h3 => lv_ldc C.1 C.2.1 C.2.2.2.1 (C.2.2.2.2.1 _ hw) d (k r m2 h H locs ls h1 h2 h3)
theorem z_ldcw (C : Cx Γ E cc own nL) {idx : Nat} {v : Int32} (d : decode cc pc = .ok (.ldc_w idx, 3)) (hw : Cond.constant own idx v ∈ TB) (k : Sm Qf Γ E nL ce sl (pc + 3) L (.int v :: st) m X) : Sm Qf Γ E nL ce sl pc L st m X := fun r m2 h H locs ls h1 h2 h3 => lv_ldcw C.1 C.2.1 C.2.2.2.1 (C.2.2.2.2.1 _ hw) d (k r m2 h H locs ls h1 h2 h3)
theorem z_ldc2 (C : Cx Γ E cc own nL) {idx : Nat} {v : Int64} (d : decode cc pc = .ok (.ldc2_w idx, 3)) (hw : Cond.constantLong own idx v ∈ TB) (k : Sm Qf Γ E nL ce sl (pc + 3) L (.long v :: st) m X) : Sm Qf Γ E nL ce sl pc L st m X := fun r m2 h H locs ls h1 h2 h3 => lv_ldc2 C.1 C.2.1 C.2.2.2.1 (C.2.2.2.2.1 _ hw) d (k r m2 h H locs ls h1 h2 h3)
/-! a table switch: the function chooses by the number -/
theorem z_tab (C : Cx Γ E cc own nL) {dflt lo hi : Int} {offs : Array Int} {len : Nat} {x : Int32} {tgt : Nat} (d : decode cc pc = .ok (.tableswitch dflt lo hi offs, len)) (hd : (pc : Int) + dflt = (tgt : Int)) (kd : (x.toInt < lo ∨ hi < x.toInt) → Sm Qf Γ E nL ce sl tgt L st m X) (ki : ¬ x.toInt < lo → ¬ hi < x.toInt → ∃ (off : Int) (t2 : Nat), offs[(x.toInt - lo).toNat]? = some off ∧ (pc : Int) + off = (t2 : Int) ∧ Sm Qf Γ E nL ce sl t2 L st m X) : Sm Qf Γ E nL ce sl pc L (.int x :: st) m X := fun r m2 h H locs ls h1 h2 h3 => by
  by_cases g1 : x.toInt < lo
  · exact lv_tableOut C.1 C.2.1 d (Or.inl g1) hd (kd (Or.inl g1) r m2 h H locs ls h1 h2 h3)
  · by_cases g2 : hi < x.toInt
    · exact lv_tableOut C.1 C.2.1 d (Or.inr g2) hd (kd (Or.inr g2) r m2 h H locs ls h1 h2 h3)
    · obtain ⟨off, t2, e1, e2, k⟩ := ki g1 g2
      exact lv_tableIn C.1 C.2.1 d g1 g2 e1 e2 (k r m2 h H locs ls h1 h2 h3)
/-! memory under change -/
theorem rp_obj {H : Heap} {a ci : Nat} {q : vw_C} (h : Rp E m H) (hk : m.K a = ci + 1) (hc : vwCl[ci]? = some q) : E.base ≤ a ∧ t_OB a (E.D.1 ci) q.2.2 (E.D.2 ci) H (fun k => fval m a ci k) :=
  have g := h.2.2 a (by rw [hk]; exact Nat.succ_ne_zero ci)
  ⟨g.1, g.2.2.1 ci q hk hc⟩
theorem rp_arr {H : Heap} {a kd : Nat} (h : Rp E m H) (hk : m.K a = kd) (h2 : 20 < kd) : E.base ≤ a ∧ H[a]? = some (arrV (E.cy kd) (m.N a) (fun j => aval m a kd j)) :=
  have g := h.2.2 a (by rw [hk]; omega)
  ⟨g.1, g.2.2.2 kd h2 hk⟩
theorem cl_lt {ci : Nat} {q : vw_C} (h : vwCl[ci]? = some q) : ci < 11 := by
  have := (List.getElem?_eq_some_iff.mp h).1
  simpa [vwCl] using this
/-- m1 is m but for one value -/
def One (m m1 : MM) (t s a i : Nat) (v : Value) : Prop := m1.K = m.K ∧ m1.N = m.N ∧ m1.S = m.S ∧ pval m1 t s a i = v ∧ ∀ t' s' a' i' : Nat, (a' ≠ a ∨ s' ≠ s ∨ i' ≠ i) → pval m1 t' s' a' i' = pval m t' s' a' i'
theorem one_I (m : MM) (s a i : Nat) (v : Int32) : One m (m.sI s a i v) 0 s a i (.int v) := by
  refine ⟨rfl, rfl, rfl, by simp [pval, MM.sI, MM.I, u3], fun t' s' a' i' h => ?_⟩
  have : ¬ (s' = s ∧ a' = a ∧ i' = i) := fun q => by rcases h with h | h | h <;> simp_all
  simp only [pval, MM.sI, MM.I, MM.J, MM.R, u3, if_neg this]
theorem one_R (m : MM) (s a i : Nat) (v : Option Nat) : One m (m.sR s a i v) 2 s a i (va_rf v) := by
  refine ⟨rfl, rfl, rfl, by simp [pval, MM.sR, MM.R, u3], fun t' s' a' i' h => ?_⟩
  have : ¬ (s' = s ∧ a' = a ∧ i' = i) := fun q => by rcases h with h | h | h <;> simp_all
  simp only [pval, MM.sR, MM.I, MM.J, MM.R, u3, if_neg this]
theorem one_J (m : MM) (s a i : Nat) (v : Int64) : One m (m.sJ s a i v) 1 s a i (.long v) := by
  refine ⟨rfl, rfl, rfl, by simp [pval, MM.sJ, MM.J, u3], fun t' s' a' i' h => ?_⟩
  have : ¬ (s' = s ∧ a' = a ∧ i' = i) := fun q => by rcases h with h | h | h <;> simp_all
  simp only [pval, MM.sJ, MM.I, MM.J, MM.R, u3, if_neg this]
theorem fid_inj {ci j k : Nat} (h : fid ci j = fid ci k) : j = k := by unfold fid at h; omega
/-- what is known of a class: its fields' words, types, names -/
def CO (ci : Nat) (Cn : String) (T : u_T) (N : Nat) : Prop := vwCl[ci]? = some (Cn, T, N) ∧ (∀ w ∈ u_ws Cn T N, w ∈ TB) ∧ (∀ k, k < N → parseFieldDescriptor (T k).2.2.1 = some (tyc ci k)) ∧ (∀ a, a < N → ∀ b, b < N → a ≠ b → (T a).2.1 ≠ (T b).2.1) ∧ (∀ k, k < N → defaultValue (tyc ci k) = (if tcl (tyc ci k) = 0 then .int 0 else if tcl (tyc ci k) = 1 then .long 0 else .null))
def Fl (own : String) (idx ci k f t : Nat) (fin : Bool) : Prop := ∃ (Cn : String) (N : Nat), CO ci Cn (TXc ci) N ∧ k < N ∧ Cond.fieldLink own idx (TXc ci k).1 (TXc ci k).2.1 (TXc ci k).2.2.1 ∈ TB ∧ tcl (tyc ci k) = t ∧ fid ci k = f ∧ (TXc ci k).2.2.2 = fin
theorem rp_put {H H1 : Heap} {m1 : MM} {a ci k : Nat} {v : Value} {Cn : String} {T : u_T} {N : Nat} (h : Rp E m H) (hk : m.K a = ci + 1) (hc : vwCl[ci]? = some (Cn, T, N)) (ho : One m m1 (tcl (tyc ci k)) (fid ci k) a 0 v) (hO : t_OB a (E.D.1 ci) N (E.D.2 ci) H1 (updV (fun j => fval m a ci j) k v)) (hz : H1.size = H.size) (oq : ∀ q : Nat, q ≠ a → H1[q]? = H[q]?) : Rp E m1 H1 := by
  obtain ⟨oK, oN, oS, oV, oR⟩ := ho
  refine ⟨by rw [oS, hz]; exact h.1, by rw [hz]; exact h.2.1, fun b hb => ?_⟩
  rw [oK] at hb
  obtain ⟨b1, b2, b3, b4⟩ := h.2.2 b hb
  refine ⟨b1, by rw [hz]; exact b2, fun cj q hq hcq => ?_, fun kd h20 hq => ?_⟩
  · rw [oK] at hq
    by_cases hba : b = a
    · subst hba
      have e : cj = ci := by rw [hk] at hq; omega
      subst e
      cases hcq.symm.trans hc
      refine hO.to fun j hj => ?_
      by_cases hjk : j = k
      · subst hjk
        simp only [updV, if_pos]
        exact oV.symm
      · simp only [updV, if_neg hjk]
        exact (oR _ _ _ _ (Or.inr (Or.inl (fun q => hjk (fid_inj q))))).symm
    · exact ((b3 cj q hq hcq).kept (oq b hba)).to fun j hj => (oR _ _ _ _ (Or.inl hba)).symm
  · rw [oK] at hq
    by_cases hba : b = a
    · subst hba
      have := cl_lt hc
      omega
    · rw [oq b hba, oN, b4 kd h20 hq]
      congr 2
      funext j
      exact (oR _ _ _ _ (Or.inl hba)).symm
theorem rp_ast {H H1 : Heap} {m1 : MM} {a kd j : Nat} {v : Value} (h : Rp E m H) (hk : m.K a = kd) (h20 : 20 < kd) (ho : One m m1 (tcl (ety kd)) kd a j v) (hO : H1[a]? = some (arrV (E.cy kd) (m.N a) (updV (fun i => aval m a kd i) j v))) (hz : H1.size = H.size) (oq : ∀ q : Nat, q ≠ a → H1[q]? = H[q]?) : Rp E m1 H1 := by
  obtain ⟨oK, oN, oS, oV, oR⟩ := ho
  refine ⟨by rw [oS, hz]; exact h.1, by rw [hz]; exact h.2.1, fun b hb => ?_⟩
  rw [oK] at hb
  obtain ⟨b1, b2, b3, b4⟩ := h.2.2 b hb
  refine ⟨b1, by rw [hz]; exact b2, fun cj q hq hcq => ?_, fun k2 h21 hq => ?_⟩
  · rw [oK] at hq
    by_cases hba : b = a
    · subst hba
      have := cl_lt hcq
      omega
    · exact ((b3 cj q hq hcq).kept (oq b hba)).to fun j hj => (oR _ _ _ _ (Or.inl hba)).symm
  · rw [oK] at hq
    by_cases hba : b = a
    · subst hba
      have e : k2 = kd := by rw [← hq, hk]
      subst e
      rw [hO, oN]
      congr 2
      funext i
      by_cases hij : i = j
      · subst hij
        simp only [updV, if_pos]
        exact oV.symm
      · simp only [updV, if_neg hij]
        exact (oR _ _ _ _ (Or.inr (Or.inr hij))).symm
    · rw [oq b hba, oN, b4 k2 h21 hq]
      congr 2
      funext j
      exact (oR _ _ _ _ (Or.inl hba)).symm
theorem nw_old (m : MM) (k n t s a i : Nat) (h : a ≠ m.S) : pval (m.nw k n) t s a i = pval m t s a i := by
  have e : (m.nw k n).I s a i = m.I s a i := by show (if a = m.S then (0 : Int32) else m.I s a i) = _; rw [if_neg h]
  have e2 : (m.nw k n).R s a i = m.R s a i := by show (if a = m.S then (none : Option Nat) else m.R s a i) = _; rw [if_neg h]
  have e3 : (m.nw k n).J s a i = m.J s a i := by show (if a = m.S then (0 : Int64) else m.J s a i) = _; rw [if_neg h]
  simp only [pval, e, e2, e3]
theorem rp_new {H H1 : Heap} {kd n : Nat} (h : Rp E m H) (hz : H1.size = H.size + 1) (oq : ∀ q : Nat, q < H.size → H1[q]? = H[q]?) (hc : cOK E (m.nw kd n) H1 H.size) : Rp E (m.nw kd n) H1 := by
  obtain ⟨hS, hb, hA⟩ := h
  refine ⟨by rw [hz, ← hS]; rfl, by omega, fun b hk => ?_⟩
  by_cases hba : b = m.S
  · rw [hba, hS]
    exact ⟨hb, by omega, hc⟩
  · have e : (m.nw kd n).K b = m.K b := by show (if b = m.S then kd else m.K b) = _; rw [if_neg hba]
    have e2 : (m.nw kd n).N b = m.N b := by show (if b = m.S then n else m.N b) = _; rw [if_neg hba]
    rw [e] at hk
    obtain ⟨b1, b2, b3, b4⟩ := hA b hk
    refine ⟨b1, by omega, fun cj q hq hcq => ?_, fun k2 h21 hq => ?_⟩
    · rw [e] at hq
      exact ((b3 cj q hq hcq).kept (oq b b2)).to fun j hj => (nw_old m kd n _ _ _ _ hba).symm
    · rw [e] at hq
      rw [oq b b2, e2, b4 k2 h21 hq]
      congr 2
      funext j
      exact (nw_old m kd n _ _ _ _ hba).symm
theorem nw_new (m : MM) (k n t s i : Nat) : pval (m.nw k n) t s m.S i = if t = 0 then .int 0 else if t = 1 then .long 0 else .null := by
  have e : (m.nw k n).I s m.S i = 0 := by show (if m.S = m.S then (0 : Int32) else _) = 0; rw [if_pos rfl]
  have e2 : (m.nw k n).R s m.S i = none := by show (if m.S = m.S then (none : Option Nat) else _) = none; rw [if_pos rfl]
  have e3 : (m.nw k n).J s m.S i = 0 := by show (if m.S = m.S then (0 : Int64) else _) = 0; rw [if_pos rfl]
  simp only [pval, e, e2, e3]
  rfl
/-! fields -/
theorem z_getI (C : Cx Γ E cc own nL) {idx ci k f a : Nat} {q : Option Nat} {fin : Bool} (F : Fl own idx ci k f 0 fin) (hr : q = some a) (hk : m.K a = ci + 1) (d : decode cc pc = .ok (.getfield idx, 3)) (kk : Sm Qf Γ E nL ce sl (pc + 3) L (.int (m.I f a 0) :: st) m X) : Sm Qf Γ E nL ce sl pc L (va_rf q :: st) m X := fun r m2 h H locs ls h1 h2 h3 => by
  subst hr
  obtain ⟨Cn, N, hCO, hkN, hw, ht, hf, -⟩ := F
  obtain ⟨-, cell, q1, q2, q3, q4⟩ := rp_obj h1 hk hCO.1
  obtain ⟨hS, hfc, kC, hkC, hkind⟩ := C.2.2.2.2.2.1.1.1 ci _ hCO.1
  obtain ⟨cf, kf, fi, fd, hi, hsl⟩ := hS k hkN
  refine W.getf C.1 C.2.1 C.2.2.2.1 (C.2.2.2.2.1 _ hw) hi (u_facts hfc hkC (u_lays C.2.2.2.2.1 hCO.2.1 hkN) hi).1 q1 (by rw [q3]; exact fun h => by cases h) (v := .int (m.I f a 0)) ?_ rfl rfl d (kk r m2 h H locs ls h1 h2 h3)
  rw [hsl, q4 k hkN, ← hf]
  simp [fval, pval, ht]
theorem z_getR (C : Cx Γ E cc own nL) {idx ci k f a : Nat} {q : Option Nat} {fin : Bool} (F : Fl own idx ci k f 2 fin) (hr : q = some a) (hk : m.K a = ci + 1) (d : decode cc pc = .ok (.getfield idx, 3)) (kk : Sm Qf Γ E nL ce sl (pc + 3) L (va_rf (m.R f a 0) :: st) m X) : Sm Qf Γ E nL ce sl pc L (va_rf q :: st) m X := fun r m2 h H locs ls h1 h2 h3 => by
  subst hr
  obtain ⟨Cn, N, hCO, hkN, hw, ht, hf, -⟩ := F
  obtain ⟨-, cell, q1, q2, q3, q4⟩ := rp_obj h1 hk hCO.1
  obtain ⟨hS, hfc, kC, hkC, hkind⟩ := C.2.2.2.2.2.1.1.1 ci _ hCO.1
  obtain ⟨cf, kf, fi, fd, hi, hsl⟩ := hS k hkN
  refine W.getf C.1 C.2.1 C.2.2.2.1 (C.2.2.2.2.1 _ hw) hi (u_facts hfc hkC (u_lays C.2.2.2.2.1 hCO.2.1 hkN) hi).1 q1 (by rw [q3]; exact fun h => by cases h) (v := va_rf (m.R f a 0)) ?_ rfl rfl d (kk r m2 h H locs ls h1 h2 h3)
  rw [hsl, q4 k hkN, ← hf]
  simp [fval, pval, ht]
theorem z_getJ (C : Cx Γ E cc own nL) {idx ci k f a : Nat} {q : Option Nat} {fin : Bool} (F : Fl own idx ci k f 1 fin) (hr : q = some a) (hk : m.K a = ci + 1) (d : decode cc pc = .ok (.getfield idx, 3)) (kk : Sm Qf Γ E nL ce sl (pc + 3) L (.long (m.J f a 0) :: st) m X) : Sm Qf Γ E nL ce sl pc L (va_rf q :: st) m X := fun r m2 h H locs ls h1 h2 h3 => by
  subst hr
  obtain ⟨Cn, N, hCO, hkN, hw, ht, hf, -⟩ := F
  obtain ⟨-, cell, q1, q2, q3, q4⟩ := rp_obj h1 hk hCO.1
  obtain ⟨hS, hfc, kC, hkC, hkind⟩ := C.2.2.2.2.2.1.1.1 ci _ hCO.1
  obtain ⟨cf, kf, fi, fd, hi, hsl⟩ := hS k hkN
  refine W.getf C.1 C.2.1 C.2.2.2.1 (C.2.2.2.2.1 _ hw) hi (u_facts hfc hkC (u_lays C.2.2.2.2.1 hCO.2.1 hkN) hi).1 q1 (by rw [q3]; exact fun h => by cases h) (v := .long (m.J f a 0)) ?_ rfl rfl d (kk r m2 h H locs ls h1 h2 h3)
  rw [hsl, q4 k hkN, ← hf]
  simp [fval, pval, ht]
theorem z_put (C : Cx Γ E cc own nL) {idx ci k f t a : Nat} {fin : Bool} {v : Value} {m1 : MM} (F : Fl own idx ci k f t fin) (hini : fin = true → Γ.meth.name = "<init>" ∧ (TXc ci k).1 = own) (hk : m.K a = ci + 1) (ho : One m m1 t f a 0 v) (hn : narrow (tyc ci k) v = v) (hfit : fits (tyc ci k) v = true) (d : decode cc pc = .ok (.putfield idx, 3)) (kk : Sm Qf Γ E nL ce sl (pc + 3) L st m1 X) : Sm Qf Γ E nL ce sl pc L (v :: .ref a :: st) m X := fun r m2 h H locs ls h1 h2 h3 => by
  obtain ⟨Cn, N, hCO, hkN, hw, ht, hf, hfin⟩ := F
  have hb := rp_obj h1 hk hCO.1
  obtain ⟨hba, cell, q1, q2, q3, q4⟩ := hb
  have hap := va_apart (own := own) C.2.2.2.2.1 hCO.2.1 (tyc ci) hCO.2.2.1 hCO.2.2.2.1 C.2.2.2.2.2.1.1 hCO.1
  obtain ⟨hS, hfc, kC, hkC, hkind⟩ := C.2.2.2.2.2.1.1.1 ci _ hCO.1
  obtain ⟨cf, kf, fi, fd, hi, hsl⟩ := hS k hkN
  have hst := (u_facts hfc hkC (u_lays C.2.2.2.2.1 hCO.2.1 hkN) hi).1
  have hlay := C.2.2.2.2.1 _ (hCO.2.1 _ (u_in_lay hkN))
  have fin1 : ∀ (H1 : Heap), H1[a]? = some (cell.setSlot (E.D.2 ci k) v) → H1.size = H.size → (∀ q, q ≠ a → H1[q]? = H[q]?) → Rp E m1 H1 ∧ va_S (AA E) Γ.s.heap H1 (locs ++ [⟨a, E.D.2 ci k⟩]) := by
    intro H1 e1 e2 e3
    refine ⟨rp_put (k := k) h1 hk hCO.1 (by rw [ht, hf]; exact ho) ⟨_, e1, q2, q3, t_set q4 hap hkN v⟩ e2 e3, h2.put e2 e3 hba⟩
  unfold u_lay at hlay
  cases fin with
  | false =>
    rw [if_neg (by rw [hfin]; decide)] at hlay
    have h6 := u_store hfc hkC hkind hlay hi (hCO.2.2.1 k hkN) hn hfit
    refine W.putK C.1 C.2.1 (f := fd) ⟨C.2.2.2.1, C.2.2.2.2.1 _ hw, ⟨_, _, _, hi⟩, hst⟩ (by rw [q2]; exact h6) q1 q3 (by rw [hsl]; exact k2_hasslot (q4 k hkN)) rfl rfl d fun H1 e1 e2 e3 => ?_
    rw [hsl] at e1 ⊢
    exact kk r m2 h H1 _ ls (fin1 H1 e1 e2 e3).1 (fin1 H1 e1 e2 e3).2 h3
  | true =>
    rw [if_pos hfin] at hlay
    have hcf : Γ.mi.cls = cf := by
      obtain ⟨_, _, c', _, _, _, -, -, hf', -, -, -, hown2, -⟩ := Cond.laysFinal_spec hlay
      have e1 : c' = cf := by have := hi.symm.trans hf'; simp at this; exact this.1.symm
      rw [(hini rfl).2] at hown2
      rw [← e1]; exact Option.some.inj (C.2.2.2.1.symm.trans hown2)
    have h6 := u_fits hfc hkC hkind (Or.inr hlay) hi (hCO.2.2.1 k hkN) hn hfit
    refine W.putFinK C.1 C.2.1 C.2.2.2.1 (C.2.2.2.2.1 _ hw) hi hst hcf (hini rfl).1 (by rw [q2]; exact h6) q1 q3 (by rw [hsl]; exact k2_hasslot (q4 k hkN)) rfl rfl d fun H1 e1 e2 e3 => ?_
    rw [hsl] at e1 ⊢
    exact kk r m2 h H1 _ ls (fin1 H1 e1 e2 e3).1 (fin1 H1 e1 e2 e3).2 h3
theorem z_putI (C : Cx Γ E cc own nL) {idx ci k f a : Nat} {q : Option Nat} {fin : Bool} {v : Int32} {K : MM → Option (R × MM)} (F : Fl own idx ci k f 0 fin) (hini : fin = true → Γ.meth.name = "<init>" ∧ (TXc ci k).1 = own) (hr : q = some a) (hk : m.K a = ci + 1) (hn : narrow (tyc ci k) (.int v) = .int v) (hfit : fits (tyc ci k) (.int v) = true) (d : decode cc pc = .ok (.putfield idx, 3)) (kk : ∀ m1 : MM, m1.K = m.K → m1.N = m.N → Sm Qf Γ E nL ce sl (pc + 3) L st m1 (K m1)) : Sm Qf Γ E nL ce sl pc L (.int v :: va_rf q :: st) m (bnd (m.sI f a 0 v) K) := by
  subst hr
  exact z_put C F hini hk (one_I m f a 0 v) hn hfit d (kk _ rfl rfl)
theorem z_putR (C : Cx Γ E cc own nL) {idx ci k f a : Nat} {q v : Option Nat} {fin : Bool} {K : MM → Option (R × MM)} (F : Fl own idx ci k f 2 fin) (hini : fin = true → Γ.meth.name = "<init>" ∧ (TXc ci k).1 = own) (hr : q = some a) (hk : m.K a = ci + 1) (hn : narrow (tyc ci k) (va_rf v) = va_rf v) (hfit : fits (tyc ci k) (va_rf v) = true) (d : decode cc pc = .ok (.putfield idx, 3)) (kk : ∀ m1 : MM, m1.K = m.K → m1.N = m.N → Sm Qf Γ E nL ce sl (pc + 3) L st m1 (K m1)) : Sm Qf Γ E nL ce sl pc L (va_rf v :: va_rf q :: st) m (bnd (m.sR f a 0 v) K) := by
  subst hr
  exact z_put C F hini hk (one_R m f a 0 v) hn hfit d (kk _ rfl rfl)
theorem z_putJ (C : Cx Γ E cc own nL) {idx ci k f a : Nat} {q : Option Nat} {v : Int64} {fin : Bool} {K : MM → Option (R × MM)} (F : Fl own idx ci k f 1 fin) (hini : fin = true → Γ.meth.name = "<init>" ∧ (TXc ci k).1 = own) (hr : q = some a) (hk : m.K a = ci + 1) (hn : narrow (tyc ci k) (.long v) = .long v) (hfit : fits (tyc ci k) (.long v) = true) (d : decode cc pc = .ok (.putfield idx, 3)) (kk : ∀ m1 : MM, m1.K = m.K → m1.N = m.N → Sm Qf Γ E nL ce sl (pc + 3) L st m1 (K m1)) : Sm Qf Γ E nL ce sl pc L (.long v :: va_rf q :: st) m (bnd (m.sJ f a 0 v) K) := by
  subst hr
  exact z_put C F hini hk (one_J m f a 0 v) hn hfit d (kk _ rfl rfl)

/-! arrays -/
theorem inb_in {j : Int32} {n : Nat} (h : inb j n = true) : ¬ (j < 0 ∨ n ≤ j.toNatClampNeg) := by
  simp only [inb, Bool.and_eq_true, decide_eq_true_eq] at h
  intro q
  rcases q with q | q
  · exact absurd h.1 (Int32.not_le.mpr q)
  · omega
theorem inb_lt {j : Int32} {n : Nat} (h : inb j n = true) : j.toNatClampNeg < n := by
  simp only [inb, Bool.and_eq_true, decide_eq_true_eq] at h
  exact h.2
def tyI (kd : Nat) : Nat := kd - 21
theorem kd_ty {U : State} (hK : Kn E U) (kd : Nat) (h : 20 < kd) (h2 : kd < 29) : ArrOfT U (E.cy kd) (ety kd) ∧ va_RA U (E.cy kd) (ety kd) := by
  have key : (tysL E.cy)[kd - 21]? = some (E.cy kd, ety kd) := by
    rcases (show kd = 21 ∨ kd = 22 ∨ kd = 23 ∨ kd = 24 ∨ kd = 25 ∨ kd = 26 ∨ kd = 27 ∨ kd = 28 by omega) with rfl | rfl | rfl | rfl | rfl | rfl | rfl | rfl <;> rfl
  exact hK.1.2 _ _ key
theorem z_iald (C : Cx Γ E cc own nL) {a : Nat} {q : Option Nat} {j : Int32} (hr : q = some a) (hk : m.K a = 22) (hj : inb j (m.N a) = true) (d : decode cc pc = .ok (.iaload, 1)) (kk : Sm Qf Γ E nL ce sl (pc + 1) L (.int (m.I 22 a j.toNatClampNeg) :: st) m X) : Sm Qf Γ E nL ce sl pc L (.int j :: va_rf q :: st) m X := fun r m2 h H locs ls h1 h2 h3 => by
  subst hr
  have g := (rp_arr h1 hk (by decide)).2
  exact W.iald C.1 C.2.1 g ((kd_ty C.2.2.2.2.2.1 22 (by decide) (by decide)).1 _ _) (fun q => by cases q) (by rw [arrV_size]; exact inb_in hj) (arrV_read _ _ (inb_lt hj)) rfl rfl d (kk r m2 h H locs ls h1 h2 h3)
theorem z_bald (C : Cx Γ E cc own nL) {a : Nat} {q : Option Nat} {j : Int32} (hr : q = some a) (hk : m.K a = 21) (hj : inb j (m.N a) = true) (d : decode cc pc = .ok (.baload, 1)) (kk : Sm Qf Γ E nL ce sl (pc + 1) L (.int (m.I 21 a j.toNatClampNeg) :: st) m X) : Sm Qf Γ E nL ce sl pc L (.int j :: va_rf q :: st) m X := fun r m2 h H locs ls h1 h2 h3 => by
  subst hr
  have g := (rp_arr h1 hk (by decide)).2
  exact W.bald C.1 C.2.1 g ((kd_ty C.2.2.2.2.2.1 21 (by decide) (by decide)).1 _ _) (fun q => by cases q) (by rw [arrV_size]; exact inb_in hj) (arrV_read _ _ (inb_lt hj)) rfl rfl d (kk r m2 h H locs ls h1 h2 h3)
theorem z_zald (C : Cx Γ E cc own nL) {a : Nat} {q : Option Nat} {j : Int32} (hr : q = some a) (hk : m.K a = 24) (hj : inb j (m.N a) = true) (d : decode cc pc = .ok (.baload, 1)) (kk : Sm Qf Γ E nL ce sl (pc + 1) L (.int (m.I 24 a j.toNatClampNeg) :: st) m X) : Sm Qf Γ E nL ce sl pc L (.int j :: va_rf q :: st) m X := fun r m2 h H locs ls h1 h2 h3 => by
  subst hr
  have g := (rp_arr h1 hk (by decide)).2
  exact W.zald C.1 C.2.1 g ((kd_ty C.2.2.2.2.2.1 24 (by decide) (by decide)).1 _ _) (fun q => by cases q) (by rw [arrV_size]; exact inb_in hj) (arrV_read _ _ (inb_lt hj)) rfl rfl d (kk r m2 h H locs ls h1 h2 h3)
theorem z_lald (C : Cx Γ E cc own nL) {a : Nat} {q : Option Nat} {j : Int32} (hr : q = some a) (hk : m.K a = 23) (hj : inb j (m.N a) = true) (d : decode cc pc = .ok (.laload, 1)) (kk : Sm Qf Γ E nL ce sl (pc + 1) L (.long (m.J 23 a j.toNatClampNeg) :: st) m X) : Sm Qf Γ E nL ce sl pc L (.int j :: va_rf q :: st) m X := fun r m2 h H locs ls h1 h2 h3 => by
  subst hr
  have g := (rp_arr h1 hk (by decide)).2
  exact W.lald C.1 C.2.1 g ((kd_ty C.2.2.2.2.2.1 23 (by decide) (by decide)).1 _ _) (fun q => by cases q) (by rw [arrV_size]; exact inb_in hj) (arrV_read _ _ (inb_lt hj)) rfl rfl d (kk r m2 h H locs ls h1 h2 h3)
theorem z_aald (C : Cx Γ E cc own nL) {a kd : Nat} {q : Option Nat} {j : Int32} (hr : q = some a) (hk : m.K a = kd) (h20 : 24 < kd) (h29 : kd < 29) (hj : inb j (m.N a) = true) (d : decode cc pc = .ok (.aaload, 1)) (kk : Sm Qf Γ E nL ce sl (pc + 1) L (va_rf (m.R kd a j.toNatClampNeg) :: st) m X) : Sm Qf Γ E nL ce sl pc L (.int j :: va_rf q :: st) m X := fun r m2 h H locs ls h1 h2 h3 => by
  subst hr
  have g := (rp_arr h1 hk (by omega)).2
  have hty : (ety kd).isReference = true ∧ tcl (ety kd) = 2 := by
    rcases (show kd = 25 ∨ kd = 26 ∨ kd = 27 ∨ kd = 28 by omega) with rfl | rfl | rfl | rfl <;> exact ⟨rfl, rfl⟩
  refine W.aald C.1 C.2.1 g ((kd_ty C.2.2.2.2.2.1 kd (by omega) h29).1 _ _) hty.1 (fun q => by cases q) (by rw [arrV_size]; exact inb_in hj) (v := va_rf (m.R kd a j.toNatClampNeg)) ?_ rfl rfl d (kk r m2 h H locs ls h1 h2 h3)
  rw [arrV_read _ _ (inb_lt hj)]
  simp [aval, pval, hty.2]
theorem z_alen (C : Cx Γ E cc own nL) {a kd : Nat} {q : Option Nat} (hr : q = some a) (hk : m.K a = kd) (h20 : 20 < kd) (h29 : kd < 29) (d : decode cc pc = .ok (.arraylength, 1)) (kk : Sm Qf Γ E nL ce sl (pc + 1) L (.int (Int32.ofNat (m.N a)) :: st) m X) : Sm Qf Γ E nL ce sl pc L (va_rf q :: st) m X := fun r m2 h H locs ls h1 h2 h3 => by
  subst hr
  have g := (rp_arr h1 hk h20).2
  exact W.alen C.1 C.2.1 g ((kd_ty C.2.2.2.2.2.1 kd h20 h29).1 _ _) (by rw [arrV_size]) rfl rfl d (kk r m2 h H locs ls h1 h2 h3)
theorem z_iast (C : Cx Γ E cc own nL) {a : Nat} {q : Option Nat} {j x : Int32} {K : MM → Option (R × MM)} (hr : q = some a) (hk : m.K a = 22) (hj : inb j (m.N a) = true) (d : decode cc pc = .ok (.iastore, 1)) (kk : ∀ m1 : MM, m1.K = m.K → m1.N = m.N → Sm Qf Γ E nL ce sl (pc + 1) L st m1 (K m1)) : Sm Qf Γ E nL ce sl pc L (.int x :: .int j :: va_rf q :: st) m (bnd (m.sI 22 a j.toNatClampNeg x) K) := fun r m2 h H locs ls h1 h2 h3 => by
  subst hr
  have g := rp_arr h1 hk (by decide)
  refine W.iast C.1 C.2.1 g.2 ((kd_ty C.2.2.2.2.2.1 22 (by decide) (by decide)).1 _ _) (fun q => by cases q) (by rw [arrV_size]; exact inb_in hj) rfl rfl d fun H1 e1 e2 e3 => ?_
  rw [arrV_store] at e1
  exact kk (m.sI 22 a j.toNatClampNeg x) rfl rfl r m2 h H1 _ ls (rp_ast h1 hk (by decide) (one_I m 22 a _ x) e1 e2 e3) (h2.put e2 e3 g.1) h3
theorem z_bast (C : Cx Γ E cc own nL) {a : Nat} {q : Option Nat} {j x : Int32} {K : MM → Option (R × MM)} (hr : q = some a) (hk : m.K a = 21) (hj : inb j (m.N a) = true) (d : decode cc pc = .ok (.bastore, 1)) (kk : ∀ m1 : MM, m1.K = m.K → m1.N = m.N → Sm Qf Γ E nL ce sl (pc + 1) L st m1 (K m1)) : Sm Qf Γ E nL ce sl pc L (.int x :: .int j :: va_rf q :: st) m (bnd (m.sI 21 a j.toNatClampNeg x.toInt8.toInt32) K) := fun r m2 h H locs ls h1 h2 h3 => by
  subst hr
  have g := rp_arr h1 hk (by decide)
  refine W.bast C.1 C.2.1 g.2 ((kd_ty C.2.2.2.2.2.1 21 (by decide) (by decide)).1 _ _) (fun q => by cases q) (by rw [arrV_size]; exact inb_in hj) rfl rfl d fun H1 e1 e2 e3 => ?_
  rw [arrV_store] at e1
  exact kk (m.sI 21 a j.toNatClampNeg x.toInt8.toInt32) rfl rfl r m2 h H1 _ ls (rp_ast h1 hk (by decide) (one_I m 21 a _ _) e1 e2 e3) (h2.put e2 e3 g.1) h3
theorem z_zast (C : Cx Γ E cc own nL) {a : Nat} {q : Option Nat} {j x : Int32} {K : MM → Option (R × MM)} (hr : q = some a) (hk : m.K a = 24) (hj : inb j (m.N a) = true) (d : decode cc pc = .ok (.bastore, 1)) (kk : ∀ m1 : MM, m1.K = m.K → m1.N = m.N → Sm Qf Γ E nL ce sl (pc + 1) L st m1 (K m1)) : Sm Qf Γ E nL ce sl pc L (.int x :: .int j :: va_rf q :: st) m (bnd (m.sI 24 a j.toNatClampNeg (x &&& 1)) K) := fun r m2 h H locs ls h1 h2 h3 => by
  subst hr
  have g := rp_arr h1 hk (by decide)
  refine W.zast C.1 C.2.1 g.2 ((kd_ty C.2.2.2.2.2.1 24 (by decide) (by decide)).1 _ _) (fun q => by cases q) (by rw [arrV_size]; exact inb_in hj) rfl rfl d fun H1 e1 e2 e3 => ?_
  rw [arrV_store] at e1
  exact kk (m.sI 24 a j.toNatClampNeg (x &&& 1)) rfl rfl r m2 h H1 _ ls (rp_ast h1 hk (by decide) (one_I m 24 a _ _) e1 e2 e3) (h2.put e2 e3 g.1) h3
theorem z_last (C : Cx Γ E cc own nL) {a : Nat} {q : Option Nat} {j : Int32} {x : Int64} {K : MM → Option (R × MM)} (hr : q = some a) (hk : m.K a = 23) (hj : inb j (m.N a) = true) (d : decode cc pc = .ok (.lastore, 1)) (kk : ∀ m1 : MM, m1.K = m.K → m1.N = m.N → Sm Qf Γ E nL ce sl (pc + 1) L st m1 (K m1)) : Sm Qf Γ E nL ce sl pc L (.long x :: .int j :: va_rf q :: st) m (bnd (m.sJ 23 a j.toNatClampNeg x) K) := fun r m2 h H locs ls h1 h2 h3 => by
  subst hr
  have g := rp_arr h1 hk (by decide)
  refine W.last C.1 C.2.1 g.2 ((kd_ty C.2.2.2.2.2.1 23 (by decide) (by decide)).1 _ _) (fun q => by cases q) (by rw [arrV_size]; exact inb_in hj) rfl rfl d fun H1 e1 e2 e3 => ?_
  rw [arrV_store] at e1
  exact kk (m.sJ 23 a j.toNatClampNeg x) rfl rfl r m2 h H1 _ ls (rp_ast h1 hk (by decide) (one_J m 23 a _ x) e1 e2 e3) (h2.put e2 e3 g.1) h3
/-- a reference into an array of its own class -/
theorem z_aast (C : Cx Γ E cc own nL) {a kd ci v : Nat} {q w : Option Nat} {j : Int32} {Cn : String} {T : u_T} {N : Nat} {K : MM → Option (R × MM)} (hr : q = some a) (hk : m.K a = kd) (h20 : 24 < kd) (h29 : kd < 29) (hw : w = some v) (hkv : m.K v = ci + 1) (hc : vwCl[ci]? = some (Cn, T, N)) (hty : ety kd = .object Cn) (hj : inb j (m.N a) = true) (d : decode cc pc = .ok (.aastore, 1)) (kk : ∀ m1 : MM, m1.K = m.K → m1.N = m.N → Sm Qf Γ E nL ce sl (pc + 1) L st m1 (K m1)) : Sm Qf Γ E nL ce sl pc L (va_rf w :: .int j :: va_rf q :: st) m (bnd (m.sR kd a j.toNatClampNeg w) K) := fun r m2 h H locs ls h1 h2 h3 => by
  subst hr
  subst hw
  have g := rp_arr h1 hk (by omega)
  obtain ⟨-, cv, v1, v2, v3, -⟩ := rp_obj h1 hkv hc
  have hra := (kd_ty C.2.2.2.2.2.1 kd (by omega) h29).2
  rw [hty] at hra
  obtain ⟨kA, comp, c1, c2, c3, c4⟩ := hra
  obtain ⟨-, hfc, kC, hkC, hkind⟩ := C.2.2.2.2.2.1.1.1 ci _ hc
  have e : comp = E.D.1 ci := Option.some.inj (c3.symm.trans hfc)
  subst e
  refine W.aast C.1 C.2.1 (k := kA) (kv := kC) (kcomp := kC) (comp := E.D.1 ci) (t := .object Cn) g.2 (fun _ q => by cases q) (fun q => by cases q) c1 c2 rfl hkC (by rw [arrV_size]; exact ⟨fun q => inb_in hj (Or.inl q), inb_lt hj⟩) v1 (fun q z => by rw [v3] at z; cases z) (by rw [v2]; exact hkC) (by rw [v2]; exact va_assign (C.2.2.2.2.2.1.1.1 ci _ hc).2) rfl rfl d fun H1 e1 e2 e3 => ?_
  rw [arrV_store] at e1
  exact kk (m.sR kd a j.toNatClampNeg (some v)) rfl rfl r m2 h H1 _ ls (rp_ast h1 hk (by omega) (by rw [hty]; exact one_R m kd a _ (some v)) e1 e2 e3) (h2.put e2 e3 g.1) h3
/-! new cells -/
theorem z_new (C : Cx Γ E cc own nL) {idx ci : Nat} {Cn : String} {T : u_T} {N : Nat} {K : MM → Option (R × MM)} (hCO : CO ci Cn T N) (hcl : Cond.classLink own idx Cn ∈ TB) (hinst : Cond.instantiable Cn N ∈ TB) (hini : Cond.initialized Cn ∈ TB) (hce : ce + 1 ≤ Γ.rm.cells) (hsl : sl + N ≤ Γ.rm.slots) (d : decode cc pc = .ok (.new idx, 3)) (kk : ∀ (a : Nat) (m1 : MM), a = m.S → m1 = m.nw (ci + 1) 0 → m1.K a = ci + 1 → Sm Qf Γ E nL (ce + 1) (sl + N) (pc + 3) L (va_rf (some a) :: st) m1 (K m1)) : Sm Qf Γ E nL ce sl pc L st m (bnd (m.nw (ci + 1) 0) K) := fun r m2 h H locs ls h1 h2 h3 => by
  have hKn := C.2.2.2.2.2.1.1.1 ci _ hCO.1
  refine W.newcK C.1 C.2.1 C.2.2.2.1 (C.2.2.2.2.1 _ hcl) (C.2.2.2.2.1 _ hinst) (C.2.2.2.2.1 _ hini) rfl d hce hsl hKn.2.1 h1.1.symm fun H1 kC hkC e1 z1 o1 => ?_
  rw [h1.1] at e1 z1 o1
  have hK1 : (m.nw (ci + 1) 0).K m.S = ci + 1 := by show (if m.S = m.S then ci + 1 else _) = _; rw [if_pos rfl]
  refine kk m.S _ rfl rfl hK1 r m2 h H1 locs ls (rp_new h1 z1 o1 ?_) ⟨by rw [z1]; exact Nat.le_succ_of_le h2.1, fun q g1 g2 => (o1 q (Nat.lt_of_lt_of_le g1 h2.1)).trans (h2.2.1 q g1 g2), h2.2.2⟩ h3
  rw [← h1.1] at e1 ⊢
  refine ⟨fun cj q hq hcq => ?_, fun kd h20 hq => ?_⟩
  · rw [hK1] at hq
    have e : cj = ci := by omega
    subst e
    cases hcq.symm.trans hCO.1
    refine (u_born (tyc cj) C.2.2.2.2.1 hCO.2.1 hKn hkC e1 hCO.2.2.1).to fun k hk => ?_
    rw [hCO.2.2.2.2 k hk]
    exact (nw_new m _ _ _ _ _).symm
  · rw [hK1] at hq
    have := cl_lt hCO.1
    omega
theorem z_newa (C : Cx Γ E cc own nL) {kd : Nat} {at0 : ArrayType} {n : Int32} {N : Nat} {K : MM → Option (R × MM)} (hw : Cond.arrayClass (newarray.typeOf at0) ∈ TB) (h20 : 20 < kd) (h25 : kd < 25) (hty : newarray.typeOf at0 = ety kd) (hn : inb n (N + 1) = true) (hN : n.toNatClampNeg = N) (hby : N * componentBytes (newarray.typeOf at0) ≤ 536870912) (hce : ce + 1 ≤ Γ.rm.cells) (hsl : sl + N ≤ Γ.rm.slots) (d : decode cc pc = .ok (.newarray at0, 2)) (kk : ∀ (a : Nat) (m1 : MM), a = m.S → m1 = m.nw kd N → m1.K a = kd → Sm Qf Γ E nL (ce + 1) (sl + N) (pc + 2) L (va_rf (some a) :: st) m1 (K m1)) : Sm Qf Γ E nL ce sl pc L (.int n :: st) m (bnd (m.nw kd N) K) := fun r m2 h H locs ls h1 h2 h3 => by
  refine va_newaK C.1 C.2.1 (C.2.2.2.2.1 _ hw) rfl d rfl (fun q => inb_in hn (Or.inl q)) hN hby hce hsl h1.1.symm fun H1 cA e1 z1 o1 hAr hNm => ?_
  rw [h1.1] at e1 z1 o1
  have hK1 : (m.nw kd N).K m.S = kd := by show (if m.S = m.S then kd else _) = _; rw [if_pos rfl]
  have hN1 : (m.nw kd N).N m.S = N := by show (if m.S = m.S then N else _) = _; rw [if_pos rfl]
  refine kk m.S _ rfl rfl hK1 r m2 h H1 locs ls (rp_new h1 z1 o1 ?_) ⟨by rw [z1]; exact Nat.le_succ_of_le h2.1, fun q g1 g2 => (o1 q (Nat.lt_of_lt_of_le g1 h2.1)).trans (h2.2.1 q g1 g2), h2.2.2⟩ h3
  rw [← h1.1] at e1 ⊢
  refine ⟨fun cj q hq hcq => ?_, fun k2 h21 hq => ?_⟩
  · rw [hK1] at hq
    have := cl_lt hcq
    omega
  · rw [hK1] at hq
    subst hq
    have hra := (kd_ty C.2.2.2.2.2.1 kd h20 (by omega)).2
    have ecy : cA = E.cy kd := by
      rw [hty] at hNm
      rcases (show kd = 21 ∨ kd = 22 ∨ kd = 23 ∨ kd = 24 by omega) with rfl | rfl | rfl | rfl <;> exact Option.some.inj (hNm.symm.trans hra)
    rw [e1, hN1, ecy, hty]
    congr 2
    funext j
    refine Eq.trans ?_ (nw_new m kd N (tcl (ety kd)) kd j).symm
    rcases (show kd = 21 ∨ kd = 22 ∨ kd = 23 ∨ kd = 24 by omega) with rfl | rfl | rfl | rfl <;> rfl
theorem z_anew (C : Cx Γ E cc own nL) {kd idx : Nat} {Cn : String} {n : Int32} {N : Nat} {K : MM → Option (R × MM)} (hcl : Cond.classLink own idx Cn ∈ TB) (hov : Cn ∈ [RX0, RX2, RX7, RX8]) (h24 : 24 < kd) (h29 : kd < 29) (hty : ety kd = .object Cn) (hn : inb n (N + 1) = true) (hN : n.toNatClampNeg = N) (hby : N * 4 ≤ 536870912) (hce : ce + 1 ≤ Γ.rm.cells) (hsl : sl + N ≤ Γ.rm.slots) (d : decode cc pc = .ok (.anewarray idx, 3)) (kk : ∀ (a : Nat) (m1 : MM), a = m.S → m1 = m.nw kd N → m1.K a = kd → Sm Qf Γ E nL (ce + 1) (sl + N) (pc + 3) L (va_rf (some a) :: st) m1 (K m1)) : Sm Qf Γ E nL ce sl pc L (.int n :: st) m (bnd (m.nw kd N) K) := fun r m2 h H locs ls h1 h2 h3 => by
  subst hN
  refine W.anew C.1 C.2.1 C.2.2.2.1 (C.2.2.2.2.1 _ hcl) (va_AO.use (C.2.2.2.2.2.1.2.2.2.2.2.2.2.1 _ hov)) rfl d rfl (fun q => inb_in hn (Or.inl q)) hby hce hsl fun cA kA comp a1 a2 a3 a4 => ?_
  have hK1 : (m.nw kd n.toNatClampNeg).K m.S = kd := by show (if m.S = m.S then kd else _) = _; rw [if_pos rfl]
  have hN1 : (m.nw kd n.toNatClampNeg).N m.S = n.toNatClampNeg := by show (if m.S = m.S then _ else _) = _; rw [if_pos rfl]
  have z1 : (H.push { cls := cA, slots := Array.replicate n.toNatClampNeg .null, vm := .none }).size = H.size + 1 := by simp
  have o1 : ∀ q : Nat, q < H.size → (H.push { cls := cA, slots := Array.replicate n.toNatClampNeg .null, vm := .none })[q]? = H[q]? := fun q hq => by rw [Array.getElem?_push, if_neg (Nat.ne_of_lt hq)]
  have e1 : (H.push { cls := cA, slots := Array.replicate n.toNatClampNeg .null, vm := .none })[H.size]? = some (arrV cA n.toNatClampNeg (fun _ => .null)) := by rw [← arrV_new]; simp
  rw [← h1.1]
  refine kk m.S _ rfl rfl hK1 r m2 h _ locs ls (rp_new h1 z1 o1 ?_) ⟨by rw [z1]; exact Nat.le_succ_of_le h2.1, fun q g1 g2 => (o1 q (Nat.lt_of_lt_of_le g1 h2.1)).trans (h2.2.1 q g1 g2), h2.2.2⟩ h3
  rw [← h1.1] at e1 ⊢
  refine ⟨fun cj q hq hcq => ?_, fun k2 h21 hq => ?_⟩
  · rw [hK1] at hq
    have := cl_lt hcq
    omega
  · rw [hK1] at hq
    subst hq
    have hra := (kd_ty C.2.2.2.2.2.1 kd (by omega) h29).2
    rw [hty] at hra
    obtain ⟨kA2, comp2, c1, c2, c3, c4⟩ := hra
    have ecy : cA = E.cy kd := Option.some.inj (a1.symm.trans c4)
    rw [e1, hN1, ecy]
    congr 2
    funext j
    refine Eq.trans ?_ (nw_new m kd n.toNatClampNeg (tcl (ety kd)) kd j).symm
    rw [hty]
    rfl
/-! static arrays that nobody writes -/
theorem z_gets (C : Cx Γ E cc own nL) {j idx : Nat} (hj : j < 4) (hw : Cond.fieldLink own idx RX9 (saN j) "[I" ∈ TB) (d : decode cc pc = .ok (.getstatic idx, 3)) (kk : Sm Qf Γ E nL ce sl (pc + 3) L (va_rf (some (E.sa j)) :: st) m X) : Sm Qf Γ E nL ce sl pc L st m X := fun r m2 h H locs ls h1 h2 h3 =>
  va_gets C.1 C.2.1 (C.2.2.2.2.2.1.2.1 j hj).1 h2 C.2.2.2.1 (C.2.2.2.2.1 _ hw) (fun _ q => q) d (kk r m2 h H locs ls h1 h2 h3)
theorem z_getsN (C : Cx Γ E cc own nL) {j idx : Nat} {host : String} (hj : j < 4) (hw : (own, idx, RX9, saN j, "[I", host) ∈ nsF) (d : decode cc pc = .ok (.getstatic idx, 3)) (kk : Sm Qf Γ E nL ce sl (pc + 3) L (va_rf (some (E.sa j)) :: st) m X) : Sm Qf Γ E nL ce sl pc L st m X := fun r m2 h H locs ls h1 h2 h3 =>
  va_getsN C.1 C.2.1 (C.2.2.2.2.2.1.2.1 j hj).1 h2 C.2.2.2.1 (va_Nw.use rfl (C.2.2.2.2.2.1.2.2.2.2.2.1 _ hw)) (fun _ q => q) d (kk r m2 h H locs ls h1 h2 h3)
theorem z_sald (C : Cx Γ E cc own nL) {i : Nat} {j : Int32} (hi : i < 4) (hj : inb j (saV i).length = true) (d : decode cc pc = .ok (.iaload, 1)) (kk : Sm Qf Γ E nL ce sl (pc + 1) L (.int ((saV i).getD j.toNatClampNeg 0) :: st) m X) : Sm Qf Γ E nL ce sl pc L (.int j :: va_rf (some (E.sa i)) :: st) m X := fun r m2 h H locs ls h1 h2 h3 => by
  obtain ⟨cell, c1, c2, c3, c4, c5, c6, c7⟩ := (C.2.2.2.2.2.1.2.1 i hi).2
  exact W.iald C.1 C.2.1 (by rw [h2.2.1 _ (Array.getElem?_eq_some_iff.mp c1).1 c7]; exact c1) c2 c3 (fun q => inb_in hj (q.imp id (fun q => by omega))) (c6 _ (inb_lt hj)) rfl rfl d (kk r m2 h H locs ls h1 h2 h3)
theorem z_slen (C : Cx Γ E cc own nL) {i : Nat} (hi : i < 4) {v : Int32} (hv : Int32.ofNat (saV i).length = v) (d : decode cc pc = .ok (.arraylength, 1)) (kk : Sm Qf Γ E nL ce sl (pc + 1) L (.int v :: st) m X) : Sm Qf Γ E nL ce sl pc L (va_rf (some (E.sa i)) :: st) m X := fun r m2 h H locs ls h1 h2 h3 => by
  obtain ⟨cell, c1, c2, c3, c4, c5, c6, c7⟩ := (C.2.2.2.2.2.1.2.1 i hi).2
  exact W.alen C.1 C.2.1 (by rw [h2.2.1 _ (Array.getElem?_eq_some_iff.mp c1).1 c7]; exact c1) c2 (by rw [c5]; exact hv) rfl rfl d (kk r m2 h H locs ls h1 h2 h3)
/-! calls -/
theorem tb_good {w : Cond} (h : w ∈ TB) : (w.onTables && w.keeps) = true ∨ ∃ ty, w = .arrayClass ty := good_of_word (List.mem_filter.mp h).2
theorem goodTB {ws : List Cond} (h : ∀ w ∈ ws, w ∈ TB) : GoodIn TB ws := fun w hw => ⟨h w hw, tb_good (h w hw)⟩
theorem kS_at {s U : State} (hW : s.WarmedH U.vm) (hk : ∀ q : Nat, q < s.heap.size → ¬ AA E q → U.heap[q]? = s.heap[q]?) (h : kS E s) : kS E U :=
  ⟨fun j hj => ⟨va_Z.moved hW.alike ((h.1 j hj).1.kept hk), va_T.moved hW.alike ((h.1 j hj).2.kept hk)⟩, va_Z.moved hW.alike (h.2.1.kept hk), vk_S.moved hW.alike (h.2.2.1.kept hk), fun i hi => (h.2.2.2.1 i hi).warm hW, fun q hq => va_Nw.warmF hW (h.2.2.2.2.1 q hq), fun q hq => va_Nw.warmM hW (h.2.2.2.2.2.1 q hq), fun C hC => va_AO.moved hW.alike (h.2.2.2.2.2.2.1 C hC), va_Zq.moved hW.alike (h.2.2.2.2.2.2.2.kept hk)⟩
theorem kn_at {s U : State} {H : Heap} {locs : List Loc} (hS : va_S (AA E) s.heap H locs) (hU : U.heap = H) (hW : s.WarmedH U.vm) (h : Kn E s) : Kn E U := ⟨va_K.moved hW.alike h.1, kS_at hW (fun q h1 h2 => by rw [hU]; exact hS.2.1 q h1 h2) h.2⟩
theorem st_blind (vs : List Value) : FrameBlind (va_Pc vs (St E m)) := by
  intro a U g mk ⟨q0, ⟨q1, q2⟩, q3⟩
  have hv : (U.calling g mk a).vm = U.vm := rfl
  refine ⟨q0, ⟨va_K.moved (u := U) (U := U.calling g mk a) (Vm.Alike.refl U.vm) q1, ?_⟩, q3⟩
  refine ⟨fun j hj => ⟨va_Z.moved (u := U) (Vm.Alike.refl U.vm) (q2.1 j hj).1, va_T.moved (u := U) (Vm.Alike.refl U.vm) (q2.1 j hj).2⟩, va_Z.moved (u := U) (Vm.Alike.refl U.vm) q2.2.1, vk_S.moved (u := U) (Vm.Alike.refl U.vm) q2.2.2.1, fun i hi => (q2.2.2.2.1 i hi).same hv, fun q hq => va_tabs (A := #[]) rfl hv.symm (q2.2.2.2.2.1 q hq), fun q hq => va_tabs (A := #[]) rfl hv.symm (q2.2.2.2.2.2.1 q hq), fun C hC => va_AO.moved (u := U) (Vm.Alike.refl U.vm) (q2.2.2.2.2.2.2.1 C hC), va_Zq.moved (u := U) (Vm.Alike.refl U.vm) q2.2.2.2.2.2.2.2⟩
theorem z_run {S : Type} {f : Option (S × MM)} {em : S → Option Value} {K : S → MM → Option (R × MM)} {mc ms : Nat} {rest : List Value} {aa : Array Value}
    (hrun : ∀ (r1 : S) (m1 : MM), f = some (r1, m1) → ∀ (H : Heap) (locs : List Loc) (ls : Array Slot), Rp E m H → va_S (AA E) Γ.s.heap H locs → lv_has ls nL L → va_Run Γ.p Γ.l Γ.e Γ.rm Γ.s Γ.mi Γ.args Γ.below Γ.meth Γ.c H locs ce sl mc ms (F0 Γ.mi pc ls st) rest (QR E (em r1) m1 aa) (AA E))
    (k : ∀ (r1 : S) (m1 : MM), Sm Qf Γ E nL (ce + mc) (sl + ms) (pc + 3) L ((em r1).toList ++ rest) m1 (K r1 m1)) : Sm Qf Γ E nL ce sl pc L st m (cal f K) := fun r m2 h H locs ls h1 h2 h3 => by
  cases hf : f with
  | none => rw [hf] at h; cases h
  | some q =>
    obtain ⟨r1, m1⟩ := q
    rw [hf] at h
    have h : K r1 m1 = some (r, m2) := h
    intro T hT XX
    obtain ⟨v, st0, t, T2, L0, g0, X2, gL, e1, e2, ⟨hv, hR, hz, hkp⟩, stp⟩ := hrun r1 m1 hf H locs ls h1 h2 h3 T hT XX
    cases hv
    rw [g0] at hz hkp
    obtain ⟨t2, a1, b1⟩ := k r1 m1 r m2 h T2.heap (locs ++ L0) ls (by rw [e1]; exact hR) ⟨Nat.le_trans h2.1 (by rw [e1]; exact hz), fun q g1 g2 => by rw [e1, hkp q (Nat.lt_of_lt_of_le g1 h2.1) g2]; exact h2.2.1 q g1 g2, fun q hq => by
      rcases List.mem_append.mp hq with g | g
      · exact h2.2.2 q g
      · exact gL q g⟩ h3 T2 rfl X2
    exact ⟨t2, stp t2 a1, b1⟩
/-- what a call of an instance method needs of the tables -/
def Mv (own : String) (idx : Nat) (y : MethodName) (bytes : ByteArray) (maxL : Nat) (ret : Option FieldType) (n : Nat) : Prop := Cond.methodLink own idx y ∈ TB ∧ Cond.instanceMethod y ∈ TB ∧ Cond.selects y.cls y y ∈ TB ∧ Cond.initialized y.cls ∈ TB ∧ Cond.code y bytes maxL ret ∈ TB ∧ y.cls ≠ "java/lang/invoke/MethodHandle" ∧ y.cls ≠ "java/lang/invoke/VarHandle" ∧ (parseMethodDescriptor y.desc).map (fun d => d.parameters.length) = some n
def Ms (own : String) (idx : Nat) (y : MethodName) (bytes : ByteArray) (maxL : Nat) (ret : Option FieldType) (n : Nat) : Prop := Cond.methodLink own idx y ∈ TB ∧ Cond.static y ∈ TB ∧ Cond.initialized y.cls ∈ TB ∧ Cond.code y bytes maxL ret ∈ TB ∧ y.cls ≠ "java/lang/invoke/MethodHandle" ∧ y.cls ≠ "java/lang/invoke/VarHandle" ∧ (parseMethodDescriptor y.desc).map (fun d => d.parameters.length) = some n
def Mi (own : String) (idx : Nat) (y : MethodName) (bytes : ByteArray) (maxL : Nat) (n : Nat) : Prop := Cond.methodLink own idx y ∈ TB ∧ Cond.instanceMethod y ∈ TB ∧ Cond.initialized y.cls ∈ TB ∧ Cond.code y bytes maxL none ∈ TB ∧ y.name = "<init>" ∧ y.cls ≠ "java/lang/invoke/MethodHandle" ∧ y.cls ≠ "java/lang/invoke/VarHandle" ∧ (parseMethodDescriptor y.desc).map (fun d => d.parameters.length) = some n
def Mn (own : String) (idx : Nat) (y : MethodName) (bytes : ByteArray) (maxL : Nat) (n : Nat) (host : String) : Prop := (own, idx, y, host) ∈ nsM ∧ Cond.instanceMethod y ∈ TB ∧ Cond.initialized y.cls ∈ TB ∧ Cond.code y bytes maxL none ∈ TB ∧ y.name = "<init>" ∧ y.cls ≠ "java/lang/invoke/MethodHandle" ∧ y.cls ≠ "java/lang/invoke/VarHandle" ∧ (parseMethodDescriptor y.desc).map (fun d => d.parameters.length) = some n
theorem z_callV {S : Type} {f : Option (S × MM)} {em : S → Option Value} {K : S → MM → Option (R × MM)} {mc ms n idx maxL ci a : Nat} {ret : Option FieldType} {bytes : ByteArray} {y : MethodName} {rm : Room} {q : Option Nat} {T : u_T} {N : Nat} (As rest : List Value) (C : Cx Γ E cc own nL) (W1 : Mv own idx y bytes maxL ret n)
    (hM : ∀ (r1 : S) (m1 : MM), f = some (r1, m1) → Met Γ.l y (.code y bytes maxL ret :: TB) rm (va_Pc (.ref a :: As) (St E m)) (QR E (em r1) m1) mc ms (AA E))
    (hrc : rm.cells = mc) (hrs : rm.slots = ms) (hR : rm.frames + 1 ≤ Γ.rm.frames ∧ 8 + (maxL + 11) + rm.locals ≤ Γ.rm.locals) (hr : q = some a) (hk : m.K a = ci + 1) (hc : vwCl[ci]? = some (y.cls, T, N)) (hn : As.length = n) (hst : st = As.reverse ++ va_rf q :: rest) (hrest : (rest.map fun v => v.category).sum ≤ 8) (d : decode cc pc = .ok (.invokevirtual idx, 3)) (hroom : ce + mc ≤ Γ.rm.cells ∧ sl + ms ≤ Γ.rm.slots)
    (k : ∀ (r1 : S) (m1 : MM), Sm Qf Γ E nL (ce + mc) (sl + ms) (pc + 3) L ((em r1).toList ++ rest) m1 (K r1 m1)) : Sm Qf Γ E nL ce sl pc L st m (cal f K) := by
  subst hr
  subst hst
  obtain ⟨w1, w2, w3, w4, w5, w6, w7, w8⟩ := W1
  refine z_run (em := em) (mc := mc) (ms := ms) (rest := rest) (aa := (Value.ref a :: As).toArray) (fun r1 m1 hf H locs ls h1 h2 h3 => ?_) k
  have hob := (rp_obj h1 hk hc).2
  refine va_runV (C := y.cls) (As := As) (rest := rest) ⟨C.1, C.2.1, C.2.2.1, C.2.2.2.1, C.2.2.2.2.1⟩ (hM r1 m1 hf) (cwV n C.2.2.2.2.1 (goodTB fun w hw => ?_) rfl hrc hrs ⟨rfl, w6, w7, w8⟩ hR) ⟨st_blind _, ?_, fun U hU hW => ⟨rfl, kn_at h2 hU hW C.2.2.2.2.2.1, by rw [hU]; exact h1⟩⟩ rfl hn h3.1 rfl (lv_room hrest) d hroom
  · simp only [wsV, List.cons_append, List.nil_append, List.mem_cons] at hw
    rcases hw with rfl | rfl | rfl | rfl | rfl | hw
    · exact w1
    · exact w2
    · exact w3
    · exact w4
    · exact w5
    · exact hw
  · obtain ⟨cell, g1, g2, g3, -⟩ := hob
    exact ⟨cell, g1, by rw [g3]; rfl, by rw [g2]; exact (C.2.2.2.2.2.1.1.1 ci _ hc).2.1⟩
theorem z_callS {S : Type} {f : Option (S × MM)} {em : S → Option Value} {K : S → MM → Option (R × MM)} {mc ms n idx maxL : Nat} {ret : Option FieldType} {bytes : ByteArray} {y : MethodName} {rm : Room} (As rest : List Value) (C : Cx Γ E cc own nL) (W1 : Ms own idx y bytes maxL ret n)
    (hM : ∀ (r1 : S) (m1 : MM), f = some (r1, m1) → Met Γ.l y (.code y bytes maxL ret :: TB) rm (va_Pc As (St E m)) (QR E (em r1) m1) mc ms (AA E))
    (hrc : rm.cells = mc) (hrs : rm.slots = ms) (hR : rm.frames + 1 ≤ Γ.rm.frames ∧ 8 + (maxL + 11) + rm.locals ≤ Γ.rm.locals) (hn : As.length = n) (hst : st = As.reverse ++ rest) (hrest : (rest.map fun v => v.category).sum ≤ 8) (d : decode cc pc = .ok (.invokestatic idx, 3)) (hroom : ce + mc ≤ Γ.rm.cells ∧ sl + ms ≤ Γ.rm.slots)
    (k : ∀ (r1 : S) (m1 : MM), Sm Qf Γ E nL (ce + mc) (sl + ms) (pc + 3) L ((em r1).toList ++ rest) m1 (K r1 m1)) : Sm Qf Γ E nL ce sl pc L st m (cal f K) := by
  subst hst
  obtain ⟨w1, w2, w4, w5, w6, w7, w8⟩ := W1
  refine z_run (em := em) (mc := mc) (ms := ms) (rest := rest) (aa := As.toArray) (fun r1 m1 hf H locs ls h1 h2 h3 => ?_) k
  refine va_runS (As := As) (rest := rest) ⟨C.1, C.2.1, C.2.2.1, C.2.2.2.1, C.2.2.2.2.1⟩ (hM r1 m1 hf) (va_cwS n C.2.2.2.2.1 (goodTB fun w hw => ?_) rfl hrc hrs ⟨w6, w7, w8⟩ hR) ⟨st_blind _, fun U hU hW => ⟨rfl, kn_at h2 hU hW C.2.2.2.2.2.1, by rw [hU]; exact h1⟩⟩ rfl hn h3.1 rfl (lv_room hrest) d hroom
  simp only [va_wsS, List.cons_append, List.nil_append, List.mem_cons] at hw
  rcases hw with rfl | rfl | rfl | rfl | hw
  · exact w1
  · exact w2
  · exact w4
  · exact w5
  · exact hw
theorem z_callI {f : Option (Unit × MM)} {K : Unit → MM → Option (R × MM)} {mc ms n idx maxL a : Nat} {bytes : ByteArray} {y : MethodName} {rm : Room} {q : Option Nat} (As rest : List Value) (C : Cx Γ E cc own nL) (W1 : Mi own idx y bytes maxL n)
    (hM : ∀ (r1 : Unit) (m1 : MM), f = some (r1, m1) → Met Γ.l y (.code y bytes maxL none :: TB) rm (va_Pc (.ref a :: As) (St E m)) (QR E (emV r1) m1) mc ms (AA E))
    (hrc : rm.cells = mc) (hrs : rm.slots = ms) (hR : rm.frames + 1 ≤ Γ.rm.frames ∧ 8 + (maxL + 11) + rm.locals ≤ Γ.rm.locals) (hr : q = some a) (hn : As.length = n) (hst : st = As.reverse ++ va_rf q :: rest) (hrest : (rest.map fun v => v.category).sum ≤ 8) (d : decode cc pc = .ok (.invokespecial idx, 3)) (hroom : ce + mc ≤ Γ.rm.cells ∧ sl + ms ≤ Γ.rm.slots)
    (k : ∀ (r1 : Unit) (m1 : MM), Sm Qf Γ E nL (ce + mc) (sl + ms) (pc + 3) L rest m1 (K r1 m1)) : Sm Qf Γ E nL ce sl pc L st m (cal f K) := by
  subst hr
  subst hst
  obtain ⟨w1, w2, w4, w5, w9, w6, w7, w8⟩ := W1
  refine z_run (em := emV) (mc := mc) (ms := ms) (rest := rest) (aa := (Value.ref a :: As).toArray) (fun r1 m1 hf H locs ls h1 h2 h3 => ?_) k
  refine va_runI (As := As) (rest := rest) ⟨C.1, C.2.1, C.2.2.1, C.2.2.2.1, C.2.2.2.2.1⟩ (hM r1 m1 hf) (cwI n C.2.2.2.2.1 (goodTB fun w hw => ?_) rfl hrc hrs (C.2.2.2.2.1 _ w4) (C.2.2.2.2.1 _ w1) (C.2.2.2.2.1 _ w2) w9 ⟨w6, w7, w8⟩ hR) ⟨st_blind _, fun U hU hW => ⟨rfl, kn_at h2 hU hW C.2.2.2.2.2.1, by rw [hU]; exact h1⟩⟩ rfl hn h3.1 rfl (lv_room hrest) d hroom
  rcases List.mem_cons.mp hw with rfl | hw
  · exact w5
  · exact hw
theorem z_callN {f : Option (Unit × MM)} {K : Unit → MM → Option (R × MM)} {mc ms n idx maxL a : Nat} {bytes : ByteArray} {y : MethodName} {rm : Room} {q : Option Nat} {host : String} (As rest : List Value) (C : Cx Γ E cc own nL) (W1 : Mn own idx y bytes maxL n host)
    (hM : ∀ (r1 : Unit) (m1 : MM), f = some (r1, m1) → Met Γ.l y (.code y bytes maxL none :: TB) rm (va_Pc (.ref a :: As) (St E m)) (QR E (emV r1) m1) mc ms (AA E))
    (hrc : rm.cells = mc) (hrs : rm.slots = ms) (hR : rm.frames + 1 ≤ Γ.rm.frames ∧ 8 + (maxL + 11) + rm.locals ≤ Γ.rm.locals) (hr : q = some a) (hn : As.length = n) (hst : st = As.reverse ++ va_rf q :: rest) (hrest : (rest.map fun v => v.category).sum ≤ 8) (d : decode cc pc = .ok (.invokespecial idx, 3)) (hroom : ce + mc ≤ Γ.rm.cells ∧ sl + ms ≤ Γ.rm.slots)
    (k : ∀ (r1 : Unit) (m1 : MM), Sm Qf Γ E nL (ce + mc) (sl + ms) (pc + 3) L rest m1 (K r1 m1)) : Sm Qf Γ E nL ce sl pc L st m (cal f K) := by
  subst hr
  subst hst
  obtain ⟨w1, w2, w4, w5, w9, w6, w7, w8⟩ := W1
  refine z_run (em := emV) (mc := mc) (ms := ms) (rest := rest) (aa := (Value.ref a :: As).toArray) (fun r1 m1 hf H locs ls h1 h2 h3 => ?_) k
  refine va_runIN (As := As) (rest := rest) ⟨C.1, C.2.1, C.2.2.1, C.2.2.2.1, C.2.2.2.2.1⟩ (hM r1 m1 hf) ⟨va_cnB (host := host) n C.2.2.2.2.1 (goodTB fun w hw => ?_) rfl hrc hrs (C.2.2.2.2.2.1.2.2.2.2.2.2.1 _ w1) (C.2.2.2.2.1 _ w4) ⟨w6, w7, w8⟩ hR, w9, C.2.2.2.2.1 _ w2⟩ ⟨st_blind _, fun U hU hW => ⟨rfl, kn_at h2 hU hW C.2.2.2.2.2.1, by rw [hU]; exact h1⟩⟩ rfl hn h3.1 rfl (lv_room hrest) d hroom
  rcases List.mem_cons.mp hw with rfl | hw
  · exact w5
  · exact hw
theorem z_obj (C : Cx Γ E cc own nL) {idx a : Nat} {q : Option Nat} (hr : q = some a) (hw : Cond.methodLink own idx Lib.objectInit ∈ TB ∧ Cond.instanceMethod Lib.objectInit ∈ TB ∧ Cond.code Lib.objectInit ⟨#[0xb1]⟩ 1 none ∈ TB) (hf : 1 ≤ Γ.rm.frames) (hl : 20 ≤ Γ.rm.locals) (hrest : (st.map fun v => v.category).sum ≤ 8) (d : decode cc pc = .ok (.invokespecial idx, 3)) (k : Sm Qf Γ E nL ce sl (pc + 3) L st m X) : Sm Qf Γ E nL ce sl pc L (va_rf q :: st) m X := fun r m2 h H locs ls h1 h2 h3 => by
  subst hr
  exact W.objInit C.1 C.2.1 C.2.2.2.1 (C.2.2.2.2.1 _ hw.1) (C.2.2.2.2.1 _ hw.2.1) (C.2.2.2.2.1 _ hw.2.2) rfl (by rw [C.2.2.1]; exact h3.1) rfl d hf (by show 2 * 0 + _ + 12 ≤ _; omega) (k r m2 h H locs ls h1 h2 h3)
/-! branches whose way is known, plain ifs, a table switch at a known number -/
theorem z_ite {c : Prop} [Decidable c] {X2 : Option (R × MM)} (k1 : c → Sm Qf Γ E nL ce sl pc L st m X) (k2 : ¬ c → Sm Qf Γ E nL ce sl pc L st m X2) : Sm Qf Γ E nL ce sl pc L st m (if c then X else X2) := fun r m2 h H locs ls h1 h2 h3 => by
  by_cases hc : c
  · exact k1 hc r m2 (by rw [if_pos hc] at h; exact h) H locs ls h1 h2 h3
  · exact k2 hc r m2 (by rw [if_neg hc] at h; exact h) H locs ls h1 h2 h3
theorem z_tabI (C : Cx Γ E cc own nL) {dflt lo hi : Int} {offs : Array Int} {len : Nat} {x v : Int32} {off : Int} {tgt : Nat} (d : decode cc pc = .ok (.tableswitch dflt lo hi offs, len)) (hx : x = v) (g1 : ¬ v.toInt < lo) (g2 : ¬ hi < v.toInt) (ho : offs[(v.toInt - lo).toNat]? = some off) (ht : (pc : Int) + off = (tgt : Int)) (k : Sm Qf Γ E nL ce sl tgt L st m X) : Sm Qf Γ E nL ce sl pc L (.int x :: st) m X := fun r m2 h H locs ls h1 h2 h3 => by
  subst hx
  exact lv_tableIn C.1 C.2.1 d g1 g2 ho ht (k r m2 h H locs ls h1 h2 h3)
theorem z_tabO (C : Cx Γ E cc own nL) {dflt lo hi : Int} {offs : Array Int} {len : Nat} {x : Int32} {tgt : Nat} (d : decode cc pc = .ok (.tableswitch dflt lo hi offs, len)) (hx : x.toInt < lo ∨ hi < x.toInt) (ht : (pc : Int) + dflt = (tgt : Int)) (k : Sm Qf Γ E nL ce sl tgt L st m X) : Sm Qf Γ E nL ce sl pc L (.int x :: st) m X := fun r m2 h H locs ls h1 h2 h3 =>
  lv_tableOut C.1 C.2.1 d hx ht (k r m2 h H locs ls h1 h2 h3)
theorem ne_int {x v : Int32} {n : Int} (h : ¬ x = v) (hv : v.toInt = n) : x.toInt ≠ n := fun q => h (Int32.toInt_inj.mp (q.trans hv.symm))
theorem nb_of {v : Int32} (h : v = 0 ∨ v = 1) : narrow .boolean (.int v) = .int v := by rcases h with rfl | rfl <;> rfl
theorem fb_of {v : Int32} (h : v = 0 ∨ v = 1) : fits .boolean (.int v) = true := by rcases h with rfl | rfl <;> rfl
theorem fr_of {v : Option Nat} {cn : String} : fits (.object cn) (va_rf v) = true := by cases v <;> rfl
theorem fa_of {v : Option Nat} {t : FieldType} : fits (.array t) (va_rf v) = true := by cases v <;> rfl
theorem nr_of {v : Option Nat} {cn : String} : narrow (.object cn) (va_rf v) = va_rf v := by cases v <;> rfl
theorem na_of {v : Option Nat} {t : FieldType} : narrow (.array t) (va_rf v) = va_rf v := by cases v <;> rfl
theorem kfw {m m1 : MM} {a k : Nat} (h : m1.K = m.K) (q : m.K a = k) : m1.K a = k := by rw [h]; exact q
theorem cat_i (v : Int32) : (Value.int v).category = 1 := rfl
theorem cat_l (v : Int64) : (Value.long v).category = 2 := rfl
theorem cat_a (a : Nat) : (Value.ref a).category = 1 := rfl
theorem cat_rf (v : Option Nat) : (va_rf v).category = 1 := by cases v <;> rfl
def lp {α : Type} (bot : α) (B : α → α) : Nat → α
  | 0 => bot
  | n + 1 => B (lp bot B n)
theorem z_iincK (C : Cx Γ E cc own nL) {i : Nat} {n : Int} {x v : Int32} (d : decode cc pc = .ok (.iinc i n, 3)) (j : Nat) (hj : L[j]? = some (i, .int x)) (hv : x + Int32.ofInt n = v) (hn : i < nL) (hl : (i, Value.int v) :: L.filter (fun q => !(q.1 == i) && !(q.1 + 1 == i && q.2.category == 2)) = L2) (k : Sm Qf Γ E nL ce sl (pc + 3) L2 st m X) : Sm Qf Γ E nL ce sl pc L st m X := fun r m2 h H locs ls h1 h2 h3 => lv_iinc C.1 C.2.1 d h3 hj hv hn hl (fun ls2 hl2 => k r m2 h H locs ls2 h1 h2 hl2)
theorem z_icmp_eq_t (C : Cx Γ E cc own nL) {x y : Int32} {off : Int} {tgt : Nat} (d : decode cc pc = .ok (.if_icmp .eq off, 3)) (ht : (pc : Int) + off = (tgt : Int)) (hc : x = y) (k : Sm Qf Γ E nL ce sl tgt L st m X) : Sm Qf Γ E nL ce sl pc L (.int y :: .int x :: st) m X := fun r m2 h H locs ls h1 h2 h3 => lv_icmp_eq C.1 C.2.1 d ht (fun _ => k r m2 h H locs ls h1 h2 h3) (fun c => absurd hc c)
theorem z_icmp_eq_f (C : Cx Γ E cc own nL) {x y : Int32} {off : Int} {tgt : Nat} (d : decode cc pc = .ok (.if_icmp .eq off, 3)) (ht : (pc : Int) + off = (tgt : Int)) (hc : ¬ (x = y)) (k : Sm Qf Γ E nL ce sl (pc + 3) L st m X) : Sm Qf Γ E nL ce sl pc L (.int y :: .int x :: st) m X := fun r m2 h H locs ls h1 h2 h3 => lv_icmp_eq C.1 C.2.1 d ht (fun c => absurd c hc) (fun _ => k r m2 h H locs ls h1 h2 h3)
theorem z_if_eq_t (C : Cx Γ E cc own nL) {x : Int32} {off : Int} {tgt : Nat} (d : decode cc pc = .ok (.ifCond .eq off, 3)) (ht : (pc : Int) + off = (tgt : Int)) (hc : x = 0) (k : Sm Qf Γ E nL ce sl tgt L st m X) : Sm Qf Γ E nL ce sl pc L (.int x :: st) m X := fun r m2 h H locs ls h1 h2 h3 => lv_if_eq C.1 C.2.1 d ht (fun _ => k r m2 h H locs ls h1 h2 h3) (fun c => absurd hc c)
theorem z_if_eq_f (C : Cx Γ E cc own nL) {x : Int32} {off : Int} {tgt : Nat} (d : decode cc pc = .ok (.ifCond .eq off, 3)) (ht : (pc : Int) + off = (tgt : Int)) (hc : ¬ (x = 0)) (k : Sm Qf Γ E nL ce sl (pc + 3) L st m X) : Sm Qf Γ E nL ce sl pc L (.int x :: st) m X := fun r m2 h H locs ls h1 h2 h3 => lv_if_eq C.1 C.2.1 d ht (fun c => absurd c hc) (fun _ => k r m2 h H locs ls h1 h2 h3)
theorem z_icmp_ne_t (C : Cx Γ E cc own nL) {x y : Int32} {off : Int} {tgt : Nat} (d : decode cc pc = .ok (.if_icmp .ne off, 3)) (ht : (pc : Int) + off = (tgt : Int)) (hc : ¬ x = y) (k : Sm Qf Γ E nL ce sl tgt L st m X) : Sm Qf Γ E nL ce sl pc L (.int y :: .int x :: st) m X := fun r m2 h H locs ls h1 h2 h3 => lv_icmp_ne C.1 C.2.1 d ht (fun _ => k r m2 h H locs ls h1 h2 h3) (fun c => absurd c hc)
theorem z_icmp_ne_f (C : Cx Γ E cc own nL) {x y : Int32} {off : Int} {tgt : Nat} (d : decode cc pc = .ok (.if_icmp .ne off, 3)) (ht : (pc : Int) + off = (tgt : Int)) (hc : x = y) (k : Sm Qf Γ E nL ce sl (pc + 3) L st m X) : Sm Qf Γ E nL ce sl pc L (.int y :: .int x :: st) m X := fun r m2 h H locs ls h1 h2 h3 => lv_icmp_ne C.1 C.2.1 d ht (fun c => absurd hc c) (fun _ => k r m2 h H locs ls h1 h2 h3)
theorem z_if_ne_t (C : Cx Γ E cc own nL) {x : Int32} {off : Int} {tgt : Nat} (d : decode cc pc = .ok (.ifCond .ne off, 3)) (ht : (pc : Int) + off = (tgt : Int)) (hc : ¬ x = 0) (k : Sm Qf Γ E nL ce sl tgt L st m X) : Sm Qf Γ E nL ce sl pc L (.int x :: st) m X := fun r m2 h H locs ls h1 h2 h3 => lv_if_ne C.1 C.2.1 d ht (fun _ => k r m2 h H locs ls h1 h2 h3) (fun c => absurd c hc)
theorem z_if_ne_f (C : Cx Γ E cc own nL) {x : Int32} {off : Int} {tgt : Nat} (d : decode cc pc = .ok (.ifCond .ne off, 3)) (ht : (pc : Int) + off = (tgt : Int)) (hc : x = 0) (k : Sm Qf Γ E nL ce sl (pc + 3) L st m X) : Sm Qf Γ E nL ce sl pc L (.int x :: st) m X := fun r m2 h H locs ls h1 h2 h3 => lv_if_ne C.1 C.2.1 d ht (fun c => absurd hc c) (fun _ => k r m2 h H locs ls h1 h2 h3)
theorem z_icmp_lt_t (C : Cx Γ E cc own nL) {x y : Int32} {off : Int} {tgt : Nat} (d : decode cc pc = .ok (.if_icmp .lt off, 3)) (ht : (pc : Int) + off = (tgt : Int)) (hc : x < y) (k : Sm Qf Γ E nL ce sl tgt L st m X) : Sm Qf Γ E nL ce sl pc L (.int y :: .int x :: st) m X := fun r m2 h H locs ls h1 h2 h3 => lv_icmp_lt C.1 C.2.1 d ht (fun _ => k r m2 h H locs ls h1 h2 h3) (fun c => absurd hc c)
theorem z_icmp_lt_f (C : Cx Γ E cc own nL) {x y : Int32} {off : Int} {tgt : Nat} (d : decode cc pc = .ok (.if_icmp .lt off, 3)) (ht : (pc : Int) + off = (tgt : Int)) (hc : ¬ (x < y)) (k : Sm Qf Γ E nL ce sl (pc + 3) L st m X) : Sm Qf Γ E nL ce sl pc L (.int y :: .int x :: st) m X := fun r m2 h H locs ls h1 h2 h3 => lv_icmp_lt C.1 C.2.1 d ht (fun c => absurd c hc) (fun _ => k r m2 h H locs ls h1 h2 h3)
theorem z_if_lt_t (C : Cx Γ E cc own nL) {x : Int32} {off : Int} {tgt : Nat} (d : decode cc pc = .ok (.ifCond .lt off, 3)) (ht : (pc : Int) + off = (tgt : Int)) (hc : x < 0) (k : Sm Qf Γ E nL ce sl tgt L st m X) : Sm Qf Γ E nL ce sl pc L (.int x :: st) m X := fun r m2 h H locs ls h1 h2 h3 => lv_if_lt C.1 C.2.1 d ht (fun _ => k r m2 h H locs ls h1 h2 h3) (fun c => absurd hc c)
theorem z_if_lt_f (C : Cx Γ E cc own nL) {x : Int32} {off : Int} {tgt : Nat} (d : decode cc pc = .ok (.ifCond .lt off, 3)) (ht : (pc : Int) + off = (tgt : Int)) (hc : ¬ (x < 0)) (k : Sm Qf Γ E nL ce sl (pc + 3) L st m X) : Sm Qf Γ E nL ce sl pc L (.int x :: st) m X := fun r m2 h H locs ls h1 h2 h3 => lv_if_lt C.1 C.2.1 d ht (fun c => absurd c hc) (fun _ => k r m2 h H locs ls h1 h2 h3)
theorem z_icmp_ge_t (C : Cx Γ E cc own nL) {x y : Int32} {off : Int} {tgt : Nat} (d : decode cc pc = .ok (.if_icmp .ge off, 3)) (ht : (pc : Int) + off = (tgt : Int)) (hc : y ≤ x) (k : Sm Qf Γ E nL ce sl tgt L st m X) : Sm Qf Γ E nL ce sl pc L (.int y :: .int x :: st) m X := fun r m2 h H locs ls h1 h2 h3 => lv_icmp_ge C.1 C.2.1 d ht (fun _ => k r m2 h H locs ls h1 h2 h3) (fun c => absurd hc c)
theorem z_icmp_ge_f (C : Cx Γ E cc own nL) {x y : Int32} {off : Int} {tgt : Nat} (d : decode cc pc = .ok (.if_icmp .ge off, 3)) (ht : (pc : Int) + off = (tgt : Int)) (hc : ¬ (y ≤ x)) (k : Sm Qf Γ E nL ce sl (pc + 3) L st m X) : Sm Qf Γ E nL ce sl pc L (.int y :: .int x :: st) m X := fun r m2 h H locs ls h1 h2 h3 => lv_icmp_ge C.1 C.2.1 d ht (fun c => absurd c hc) (fun _ => k r m2 h H locs ls h1 h2 h3)
theorem z_if_ge_t (C : Cx Γ E cc own nL) {x : Int32} {off : Int} {tgt : Nat} (d : decode cc pc = .ok (.ifCond .ge off, 3)) (ht : (pc : Int) + off = (tgt : Int)) (hc : 0 ≤ x) (k : Sm Qf Γ E nL ce sl tgt L st m X) : Sm Qf Γ E nL ce sl pc L (.int x :: st) m X := fun r m2 h H locs ls h1 h2 h3 => lv_if_ge C.1 C.2.1 d ht (fun _ => k r m2 h H locs ls h1 h2 h3) (fun c => absurd hc c)
theorem z_if_ge_f (C : Cx Γ E cc own nL) {x : Int32} {off : Int} {tgt : Nat} (d : decode cc pc = .ok (.ifCond .ge off, 3)) (ht : (pc : Int) + off = (tgt : Int)) (hc : ¬ (0 ≤ x)) (k : Sm Qf Γ E nL ce sl (pc + 3) L st m X) : Sm Qf Γ E nL ce sl pc L (.int x :: st) m X := fun r m2 h H locs ls h1 h2 h3 => lv_if_ge C.1 C.2.1 d ht (fun c => absurd c hc) (fun _ => k r m2 h H locs ls h1 h2 h3)
theorem z_icmp_gt_t (C : Cx Γ E cc own nL) {x y : Int32} {off : Int} {tgt : Nat} (d : decode cc pc = .ok (.if_icmp .gt off, 3)) (ht : (pc : Int) + off = (tgt : Int)) (hc : y < x) (k : Sm Qf Γ E nL ce sl tgt L st m X) : Sm Qf Γ E nL ce sl pc L (.int y :: .int x :: st) m X := fun r m2 h H locs ls h1 h2 h3 => lv_icmp_gt C.1 C.2.1 d ht (fun _ => k r m2 h H locs ls h1 h2 h3) (fun c => absurd hc c)
theorem z_icmp_gt_f (C : Cx Γ E cc own nL) {x y : Int32} {off : Int} {tgt : Nat} (d : decode cc pc = .ok (.if_icmp .gt off, 3)) (ht : (pc : Int) + off = (tgt : Int)) (hc : ¬ (y < x)) (k : Sm Qf Γ E nL ce sl (pc + 3) L st m X) : Sm Qf Γ E nL ce sl pc L (.int y :: .int x :: st) m X := fun r m2 h H locs ls h1 h2 h3 => lv_icmp_gt C.1 C.2.1 d ht (fun c => absurd c hc) (fun _ => k r m2 h H locs ls h1 h2 h3)
theorem z_if_gt_t (C : Cx Γ E cc own nL) {x : Int32} {off : Int} {tgt : Nat} (d : decode cc pc = .ok (.ifCond .gt off, 3)) (ht : (pc : Int) + off = (tgt : Int)) (hc : 0 < x) (k : Sm Qf Γ E nL ce sl tgt L st m X) : Sm Qf Γ E nL ce sl pc L (.int x :: st) m X := fun r m2 h H locs ls h1 h2 h3 => lv_if_gt C.1 C.2.1 d ht (fun _ => k r m2 h H locs ls h1 h2 h3) (fun c => absurd hc c)
theorem z_if_gt_f (C : Cx Γ E cc own nL) {x : Int32} {off : Int} {tgt : Nat} (d : decode cc pc = .ok (.ifCond .gt off, 3)) (ht : (pc : Int) + off = (tgt : Int)) (hc : ¬ (0 < x)) (k : Sm Qf Γ E nL ce sl (pc + 3) L st m X) : Sm Qf Γ E nL ce sl pc L (.int x :: st) m X := fun r m2 h H locs ls h1 h2 h3 => lv_if_gt C.1 C.2.1 d ht (fun c => absurd c hc) (fun _ => k r m2 h H locs ls h1 h2 h3)
theorem z_icmp_le_t (C : Cx Γ E cc own nL) {x y : Int32} {off : Int} {tgt : Nat} (d : decode cc pc = .ok (.if_icmp .le off, 3)) (ht : (pc : Int) + off = (tgt : Int)) (hc : x ≤ y) (k : Sm Qf Γ E nL ce sl tgt L st m X) : Sm Qf Γ E nL ce sl pc L (.int y :: .int x :: st) m X := fun r m2 h H locs ls h1 h2 h3 => lv_icmp_le C.1 C.2.1 d ht (fun _ => k r m2 h H locs ls h1 h2 h3) (fun c => absurd hc c)
theorem z_icmp_le_f (C : Cx Γ E cc own nL) {x y : Int32} {off : Int} {tgt : Nat} (d : decode cc pc = .ok (.if_icmp .le off, 3)) (ht : (pc : Int) + off = (tgt : Int)) (hc : ¬ (x ≤ y)) (k : Sm Qf Γ E nL ce sl (pc + 3) L st m X) : Sm Qf Γ E nL ce sl pc L (.int y :: .int x :: st) m X := fun r m2 h H locs ls h1 h2 h3 => lv_icmp_le C.1 C.2.1 d ht (fun c => absurd c hc) (fun _ => k r m2 h H locs ls h1 h2 h3)
theorem z_if_le_t (C : Cx Γ E cc own nL) {x : Int32} {off : Int} {tgt : Nat} (d : decode cc pc = .ok (.ifCond .le off, 3)) (ht : (pc : Int) + off = (tgt : Int)) (hc : x ≤ 0) (k : Sm Qf Γ E nL ce sl tgt L st m X) : Sm Qf Γ E nL ce sl pc L (.int x :: st) m X := fun r m2 h H locs ls h1 h2 h3 => lv_if_le C.1 C.2.1 d ht (fun _ => k r m2 h H locs ls h1 h2 h3) (fun c => absurd hc c)
theorem z_if_le_f (C : Cx Γ E cc own nL) {x : Int32} {off : Int} {tgt : Nat} (d : decode cc pc = .ok (.ifCond .le off, 3)) (ht : (pc : Int) + off = (tgt : Int)) (hc : ¬ (x ≤ 0)) (k : Sm Qf Γ E nL ce sl (pc + 3) L st m X) : Sm Qf Γ E nL ce sl pc L (.int x :: st) m X := fun r m2 h H locs ls h1 h2 h3 => lv_if_le C.1 C.2.1 d ht (fun c => absurd c hc) (fun _ => k r m2 h H locs ls h1 h2 h3)
theorem z_cVI {f : Option (Int32 × MM)} {K : Int32 → MM → Option (R × MM)} {n idx maxL ci a : Nat} {ret : Option FieldType} {bytes : ByteArray} {y : MethodName} {rm : Room} {q : Option Nat} {T : u_T} {N : Nat} (As rest : List Value) (C : Cx Γ E cc own nL) (W1 : Mv own idx y bytes maxL ret n)
    (hM : ∀ (r1 : Int32) (m1 : MM), f = some (r1, m1) → Met Γ.l y (.code y bytes maxL ret :: TB) rm (va_Pc (.ref a :: As) (St E m)) (QR E (emI r1) m1) 0 0 (AA E))
    (hrc : rm.cells = 0) (hrs : rm.slots = 0) (hR : rm.frames + 1 ≤ Γ.rm.frames ∧ 8 + (maxL + 11) + rm.locals ≤ Γ.rm.locals) (hroom : ce ≤ Γ.rm.cells ∧ sl ≤ Γ.rm.slots) (hr : q = some a) (hk : m.K a = ci + 1) (hc : vwCl[ci]? = some (y.cls, T, N)) (hn : As.length = n) (hst : st = As.reverse ++ va_rf q :: rest) (hrest : (rest.map fun v => v.category).sum ≤ 8) (d : decode cc pc = .ok (.invokevirtual idx, 3))
    (k : ∀ (r1 : Int32) (m1 : MM), Sm Qf Γ E nL ce sl (pc + 3) L (.int r1 :: rest) m1 (K r1 m1)) : Sm Qf Γ E nL ce sl pc L st m (cal f K) :=
  z_callV As rest C W1 hM hrc hrs hR hr hk hc hn hst hrest d hroom k
theorem z_cSI {f : Option (Int32 × MM)} {K : Int32 → MM → Option (R × MM)} {n idx maxL : Nat} {ret : Option FieldType} {bytes : ByteArray} {y : MethodName} {rm : Room} (As rest : List Value) (C : Cx Γ E cc own nL) (W1 : Ms own idx y bytes maxL ret n)
    (hM : ∀ (r1 : Int32) (m1 : MM), f = some (r1, m1) → Met Γ.l y (.code y bytes maxL ret :: TB) rm (va_Pc As (St E m)) (QR E (emI r1) m1) 0 0 (AA E))
    (hrc : rm.cells = 0) (hrs : rm.slots = 0) (hR : rm.frames + 1 ≤ Γ.rm.frames ∧ 8 + (maxL + 11) + rm.locals ≤ Γ.rm.locals) (hroom : ce ≤ Γ.rm.cells ∧ sl ≤ Γ.rm.slots) (hn : As.length = n) (hst : st = As.reverse ++ rest) (hrest : (rest.map fun v => v.category).sum ≤ 8) (d : decode cc pc = .ok (.invokestatic idx, 3))
    (k : ∀ (r1 : Int32) (m1 : MM), Sm Qf Γ E nL ce sl (pc + 3) L (.int r1 :: rest) m1 (K r1 m1)) : Sm Qf Γ E nL ce sl pc L st m (cal f K) :=
  z_callS As rest C W1 hM hrc hrs hR hn hst hrest d hroom k
theorem z_cVJ {f : Option (Int64 × MM)} {K : Int64 → MM → Option (R × MM)} {n idx maxL ci a : Nat} {ret : Option FieldType} {bytes : ByteArray} {y : MethodName} {rm : Room} {q : Option Nat} {T : u_T} {N : Nat} (As rest : List Value) (C : Cx Γ E cc own nL) (W1 : Mv own idx y bytes maxL ret n)
    (hM : ∀ (r1 : Int64) (m1 : MM), f = some (r1, m1) → Met Γ.l y (.code y bytes maxL ret :: TB) rm (va_Pc (.ref a :: As) (St E m)) (QR E (emJ r1) m1) 0 0 (AA E))
    (hrc : rm.cells = 0) (hrs : rm.slots = 0) (hR : rm.frames + 1 ≤ Γ.rm.frames ∧ 8 + (maxL + 11) + rm.locals ≤ Γ.rm.locals) (hroom : ce ≤ Γ.rm.cells ∧ sl ≤ Γ.rm.slots) (hr : q = some a) (hk : m.K a = ci + 1) (hc : vwCl[ci]? = some (y.cls, T, N)) (hn : As.length = n) (hst : st = As.reverse ++ va_rf q :: rest) (hrest : (rest.map fun v => v.category).sum ≤ 8) (d : decode cc pc = .ok (.invokevirtual idx, 3))
    (k : ∀ (r1 : Int64) (m1 : MM), Sm Qf Γ E nL ce sl (pc + 3) L (.long r1 :: rest) m1 (K r1 m1)) : Sm Qf Γ E nL ce sl pc L st m (cal f K) :=
  z_callV As rest C W1 hM hrc hrs hR hr hk hc hn hst hrest d hroom k
theorem z_cSJ {f : Option (Int64 × MM)} {K : Int64 → MM → Option (R × MM)} {n idx maxL : Nat} {ret : Option FieldType} {bytes : ByteArray} {y : MethodName} {rm : Room} (As rest : List Value) (C : Cx Γ E cc own nL) (W1 : Ms own idx y bytes maxL ret n)
    (hM : ∀ (r1 : Int64) (m1 : MM), f = some (r1, m1) → Met Γ.l y (.code y bytes maxL ret :: TB) rm (va_Pc As (St E m)) (QR E (emJ r1) m1) 0 0 (AA E))
    (hrc : rm.cells = 0) (hrs : rm.slots = 0) (hR : rm.frames + 1 ≤ Γ.rm.frames ∧ 8 + (maxL + 11) + rm.locals ≤ Γ.rm.locals) (hroom : ce ≤ Γ.rm.cells ∧ sl ≤ Γ.rm.slots) (hn : As.length = n) (hst : st = As.reverse ++ rest) (hrest : (rest.map fun v => v.category).sum ≤ 8) (d : decode cc pc = .ok (.invokestatic idx, 3))
    (k : ∀ (r1 : Int64) (m1 : MM), Sm Qf Γ E nL ce sl (pc + 3) L (.long r1 :: rest) m1 (K r1 m1)) : Sm Qf Γ E nL ce sl pc L st m (cal f K) :=
  z_callS As rest C W1 hM hrc hrs hR hn hst hrest d hroom k
theorem z_cVR {f : Option (Option Nat × MM)} {K : Option Nat → MM → Option (R × MM)} {n idx maxL ci a : Nat} {ret : Option FieldType} {bytes : ByteArray} {y : MethodName} {rm : Room} {q : Option Nat} {T : u_T} {N : Nat} (As rest : List Value) (C : Cx Γ E cc own nL) (W1 : Mv own idx y bytes maxL ret n)
    (hM : ∀ (r1 : Option Nat) (m1 : MM), f = some (r1, m1) → Met Γ.l y (.code y bytes maxL ret :: TB) rm (va_Pc (.ref a :: As) (St E m)) (QR E (emR r1) m1) 0 0 (AA E))
    (hrc : rm.cells = 0) (hrs : rm.slots = 0) (hR : rm.frames + 1 ≤ Γ.rm.frames ∧ 8 + (maxL + 11) + rm.locals ≤ Γ.rm.locals) (hroom : ce ≤ Γ.rm.cells ∧ sl ≤ Γ.rm.slots) (hr : q = some a) (hk : m.K a = ci + 1) (hc : vwCl[ci]? = some (y.cls, T, N)) (hn : As.length = n) (hst : st = As.reverse ++ va_rf q :: rest) (hrest : (rest.map fun v => v.category).sum ≤ 8) (d : decode cc pc = .ok (.invokevirtual idx, 3))
    (k : ∀ (r1 : Option Nat) (m1 : MM), Sm Qf Γ E nL ce sl (pc + 3) L (va_rf r1 :: rest) m1 (K r1 m1)) : Sm Qf Γ E nL ce sl pc L st m (cal f K) :=
  z_callV As rest C W1 hM hrc hrs hR hr hk hc hn hst hrest d hroom k
theorem z_cSR {f : Option (Option Nat × MM)} {K : Option Nat → MM → Option (R × MM)} {n idx maxL : Nat} {ret : Option FieldType} {bytes : ByteArray} {y : MethodName} {rm : Room} (As rest : List Value) (C : Cx Γ E cc own nL) (W1 : Ms own idx y bytes maxL ret n)
    (hM : ∀ (r1 : Option Nat) (m1 : MM), f = some (r1, m1) → Met Γ.l y (.code y bytes maxL ret :: TB) rm (va_Pc As (St E m)) (QR E (emR r1) m1) 0 0 (AA E))
    (hrc : rm.cells = 0) (hrs : rm.slots = 0) (hR : rm.frames + 1 ≤ Γ.rm.frames ∧ 8 + (maxL + 11) + rm.locals ≤ Γ.rm.locals) (hroom : ce ≤ Γ.rm.cells ∧ sl ≤ Γ.rm.slots) (hn : As.length = n) (hst : st = As.reverse ++ rest) (hrest : (rest.map fun v => v.category).sum ≤ 8) (d : decode cc pc = .ok (.invokestatic idx, 3))
    (k : ∀ (r1 : Option Nat) (m1 : MM), Sm Qf Γ E nL ce sl (pc + 3) L (va_rf r1 :: rest) m1 (K r1 m1)) : Sm Qf Γ E nL ce sl pc L st m (cal f K) :=
  z_callS As rest C W1 hM hrc hrs hR hn hst hrest d hroom k
theorem z_cVV {f : Option (Unit × MM)} {K : Unit → MM → Option (R × MM)} {n idx maxL ci a : Nat} {ret : Option FieldType} {bytes : ByteArray} {y : MethodName} {rm : Room} {q : Option Nat} {T : u_T} {N : Nat} (As rest : List Value) (C : Cx Γ E cc own nL) (W1 : Mv own idx y bytes maxL ret n)
    (hM : ∀ (r1 : Unit) (m1 : MM), f = some (r1, m1) → Met Γ.l y (.code y bytes maxL ret :: TB) rm (va_Pc (.ref a :: As) (St E m)) (QR E (emV r1) m1) 0 0 (AA E))
    (hrc : rm.cells = 0) (hrs : rm.slots = 0) (hR : rm.frames + 1 ≤ Γ.rm.frames ∧ 8 + (maxL + 11) + rm.locals ≤ Γ.rm.locals) (hroom : ce ≤ Γ.rm.cells ∧ sl ≤ Γ.rm.slots) (hr : q = some a) (hk : m.K a = ci + 1) (hc : vwCl[ci]? = some (y.cls, T, N)) (hn : As.length = n) (hst : st = As.reverse ++ va_rf q :: rest) (hrest : (rest.map fun v => v.category).sum ≤ 8) (d : decode cc pc = .ok (.invokevirtual idx, 3))
    (k : ∀ (r1 : Unit) (m1 : MM), Sm Qf Γ E nL ce sl (pc + 3) L (rest) m1 (K r1 m1)) : Sm Qf Γ E nL ce sl pc L st m (cal f K) :=
  z_callV As rest C W1 hM hrc hrs hR hr hk hc hn hst hrest d hroom k
theorem z_cSV {f : Option (Unit × MM)} {K : Unit → MM → Option (R × MM)} {n idx maxL : Nat} {ret : Option FieldType} {bytes : ByteArray} {y : MethodName} {rm : Room} (As rest : List Value) (C : Cx Γ E cc own nL) (W1 : Ms own idx y bytes maxL ret n)
    (hM : ∀ (r1 : Unit) (m1 : MM), f = some (r1, m1) → Met Γ.l y (.code y bytes maxL ret :: TB) rm (va_Pc As (St E m)) (QR E (emV r1) m1) 0 0 (AA E))
    (hrc : rm.cells = 0) (hrs : rm.slots = 0) (hR : rm.frames + 1 ≤ Γ.rm.frames ∧ 8 + (maxL + 11) + rm.locals ≤ Γ.rm.locals) (hroom : ce ≤ Γ.rm.cells ∧ sl ≤ Γ.rm.slots) (hn : As.length = n) (hst : st = As.reverse ++ rest) (hrest : (rest.map fun v => v.category).sum ≤ 8) (d : decode cc pc = .ok (.invokestatic idx, 3))
    (k : ∀ (r1 : Unit) (m1 : MM), Sm Qf Γ E nL ce sl (pc + 3) L (rest) m1 (K r1 m1)) : Sm Qf Γ E nL ce sl pc L st m (cal f K) :=
  z_callS As rest C W1 hM hrc hrs hR hn hst hrest d hroom k
theorem z_new2 (C : Cx Γ E cc own nL) {idx ci : Nat} {Cn : String} {T : u_T} {N : Nat} {K : Nat → MM → Option (R × MM)} (hCO : CO ci Cn T N) (hcl : Cond.classLink own idx Cn ∈ TB) (hinst : Cond.instantiable Cn N ∈ TB) (hini : Cond.initialized Cn ∈ TB) (hce : ce + 1 ≤ Γ.rm.cells) (hsl : sl + N ≤ Γ.rm.slots) (d : decode cc pc = .ok (.new idx, 3)) (kk : ∀ (a : Nat) (m1 : MM), m1.K a = ci + 1 → Sm Qf Γ E nL (ce + 1) (sl + N) (pc + 3) L (va_rf (some a) :: st) m1 (K a m1)) : Sm Qf Γ E nL ce sl pc L st m (bnd m.S (fun a => bnd (m.nw (ci + 1) 0) (fun m1 => K a m1))) :=
  z_new C (K := fun m1 => K m.S m1) hCO hcl hinst hini hce hsl d (fun a m1 ha _ hk => by subst ha; exact kk _ _ hk)
theorem z_newa2 (C : Cx Γ E cc own nL) {kd : Nat} {at0 : ArrayType} {n : Int32} {N : Nat} {K : Nat → MM → Option (R × MM)} (hw : Cond.arrayClass (newarray.typeOf at0) ∈ TB) (h20 : 20 < kd) (h25 : kd < 25) (hty : newarray.typeOf at0 = ety kd) (hn : inb n (N + 1) = true) (hN : n.toNatClampNeg = N) (hby : N * componentBytes (newarray.typeOf at0) ≤ 536870912) (hce : ce + 1 ≤ Γ.rm.cells) (hsl : sl + N ≤ Γ.rm.slots) (d : decode cc pc = .ok (.newarray at0, 2)) (kk : ∀ (a : Nat) (m1 : MM), m1.K a = kd → Sm Qf Γ E nL (ce + 1) (sl + N) (pc + 2) L (va_rf (some a) :: st) m1 (K a m1)) : Sm Qf Γ E nL ce sl pc L (.int n :: st) m (bnd m.S (fun a => bnd (m.nw kd N) (fun m1 => K a m1))) :=
  z_newa C (K := fun m1 => K m.S m1) hw h20 h25 hty hn hN hby hce hsl d (fun a m1 ha _ hk => by subst ha; exact kk _ _ hk)
theorem z_anew2 (C : Cx Γ E cc own nL) {kd idx : Nat} {Cn : String} {n : Int32} {N : Nat} {K : Nat → MM → Option (R × MM)} (hcl : Cond.classLink own idx Cn ∈ TB) (hov : Cn ∈ [RX0, RX2, RX7, RX8]) (h24 : 24 < kd) (h29 : kd < 29) (hty : ety kd = .object Cn) (hn : inb n (N + 1) = true) (hN : n.toNatClampNeg = N) (hby : N * 4 ≤ 536870912) (hce : ce + 1 ≤ Γ.rm.cells) (hsl : sl + N ≤ Γ.rm.slots) (d : decode cc pc = .ok (.anewarray idx, 3)) (kk : ∀ (a : Nat) (m1 : MM), m1.K a = kd → Sm Qf Γ E nL (ce + 1) (sl + N) (pc + 3) L (va_rf (some a) :: st) m1 (K a m1)) : Sm Qf Γ E nL ce sl pc L (.int n :: st) m (bnd m.S (fun a => bnd (m.nw kd N) (fun m1 => K a m1))) :=
  z_anew C (K := fun m1 => K m.S m1) hcl hov h24 h29 hty hn hN hby hce hsl d (fun a m1 ha _ hk => by subst ha; exact kk _ _ hk)
theorem z_ldcS (C : Cx Γ E cc RX4 nL) {i idx : Nat} (hi : i < skN) (hx : skI.getD i 0 = idx) (d : decode cc pc = .ok (.ldc idx, 2)) (k : Sm Qf Γ E nL ce sl (pc + 2) L (va_rf (some (E.adK i)) :: st) m X) : Sm Qf Γ E nL ce sl pc L st m X := fun r m2 h H locs ls h1 h2 h3 => by
  subst hx
  exact va_ldcS C.1 C.2.1 C.2.2.2.1 (C.2.2.2.2.2.1.2.2.2.2.1 i hi) d (k r m2 h H locs ls h1 h2 h3)
/-! System.arraycopy of ints -/
def okcp (m : MM) (a : Nat) (sp : Int32) (b : Nat) (dp n : Int32) : Bool := decide (0 ≤ sp) && decide (0 ≤ dp) && decide (0 ≤ n) && decide (sp.toNatClampNeg + n.toNatClampNeg ≤ m.N a) && decide (dp.toNatClampNeg + n.toNatClampNeg ≤ m.N b)
theorem rp_cp {H H1 : Heap} {a b sp dp n : Nat} (h : Rp E m H) (hb : m.K b = 22) (hO : H1[b]? = some (arrV (E.cy 22) (m.N b) (fun j => .int (va_cpy (fun i => m.I 22 a i) (fun i => m.I 22 b i) sp dp n j)))) (hz : H1.size = H.size) (oq : ∀ q : Nat, q ≠ b → H1[q]? = H[q]?) : Rp E (m.cp a sp b dp n) H1 := by
  have oI : ∀ t s x i : Nat, x ≠ b ∨ s ≠ 22 → pval (m.cp a sp b dp n) t s x i = pval m t s x i := by
    intro t s x i hx
    have e : (m.cp a sp b dp n).I s x i = m.I s x i := by
      show (if s = 22 ∧ x = b ∧ dp ≤ i ∧ i < dp + n then _ else _) = _
      rw [if_neg (fun q => by rcases hx with hx | hx; exact hx q.2.1; exact hx q.1)]
    have e2 : (m.cp a sp b dp n).R s x i = m.R s x i := rfl
    have e3 : (m.cp a sp b dp n).J s x i = m.J s x i := rfl
    simp only [pval, e, e2, e3]
  refine ⟨by rw [hz]; exact h.1, by rw [hz]; exact h.2.1, fun x hx => ?_⟩
  obtain ⟨b1, b2, b3, b4⟩ := h.2.2 x hx
  refine ⟨b1, by rw [hz]; exact b2, fun cj q hq hcq => ?_, fun k2 h21 hq => ?_⟩
  · by_cases hxb : x = b
    · subst hxb
      have hq : m.K x = cj + 1 := hq
      have := cl_lt hcq
      omega
    · exact ((b3 cj q hq hcq).kept (oq x hxb)).to fun j hj => (oI _ _ _ _ (Or.inl hxb)).symm
  · by_cases hxb : x = b
    · subst hxb
      have hq : m.K x = k2 := hq
      have e : k2 = 22 := by rw [← hq, hb]
      subst e
      rw [hO]
      show some (arrV _ (m.N x) _) = some (arrV _ (m.N x) _)
      congr 2
      funext j
      show _ = pval (m.cp a sp x dp n) 0 22 x j
      have e : (m.cp a sp x dp n).I 22 x j = va_cpy (fun i => m.I 22 a i) (fun i => m.I 22 x i) sp dp n j := by
        show (if 22 = 22 ∧ x = x ∧ dp ≤ j ∧ j < dp + n then _ else _) = (if dp ≤ j ∧ j < dp + n then _ else _)
        by_cases hj : dp ≤ j ∧ j < dp + n
        · rw [if_pos ⟨rfl, rfl, hj.1, hj.2⟩, if_pos hj]
        · rw [if_neg (fun q => hj ⟨q.2.2.1, q.2.2.2⟩), if_neg hj]
      simp only [pval, e, if_pos]
    · rw [oq x hxb, b4 k2 h21 hq]
      show some (arrV _ (m.N x) _) = some (arrV _ (m.N x) _)
      congr 2
      funext j
      exact (oI _ _ _ _ (Or.inl hxb)).symm
theorem z_copy (C : Cx Γ E cc own nL) {idx a b : Nat} {q w : Option Nat} {sp dp n : Int32} {K : MM → Option (R × MM)} (hr : q = some a) (hk : m.K a = 22) (hr2 : w = some b) (hk2 : m.K b = 22) (hc : okcp m a sp b dp n = true) (hw : Cond.methodLink own idx arraycopyName ∈ TB ∧ Cond.native arraycopyName ∈ TB ∧ Cond.static arraycopyName ∈ TB ∧ Cond.initialized "java/lang/System" ∈ TB) (hf : 1 ≤ Γ.rm.frames) (hl : 40 ≤ Γ.rm.locals) (hrest : (st.map fun v => v.category).sum ≤ 8) (d : decode cc pc = .ok (.invokestatic idx, 3)) (kk : ∀ m1 : MM, m1.K = m.K → m1.N = m.N → Sm Qf Γ E nL ce sl (pc + 3) L st m1 (K m1)) : Sm Qf Γ E nL ce sl pc L (.int n :: .int dp :: va_rf w :: .int sp :: va_rf q :: st) m (bnd (m.cp a sp.toNatClampNeg b dp.toNatClampNeg n.toNatClampNeg) K) := fun r m2 h H locs ls g1 g2 g3 => by
  subst hr
  subst hr2
  simp only [okcp, Bool.and_eq_true, decide_eq_true_eq] at hc
  obtain ⟨⟨⟨⟨c1, c2⟩, c3⟩, c4⟩, c5⟩ := hc
  have nl : ∀ z : Int32, 0 ≤ z → ¬ z < 0 := fun z h => Int32.not_lt.mpr h
  have nn : ∀ z : Int32, 0 ≤ z → z.toInt = (z.toNatClampNeg : Int) := by
    intro z hz
    have hz0 : (0 : Int) ≤ z.toInt := by simpa using Int32.le_iff_toInt_le.mp hz
    show z.toInt = ((z.toInt.toNat : Nat) : Int)
    omega
  have ha := (rp_arr g1 hk (by decide)).2
  obtain ⟨hbb, hb⟩ := rp_arr g1 hk2 (by decide)
  have ha : H[a]? = some (arrV (E.cy 22) (m.N a) (fun j => .int (m.I 22 a j))) := ha
  have hb : H[b]? = some (arrV (E.cy 22) (m.N b) (fun j => .int (m.I 22 b j))) := hb
  obtain ⟨-, k0, hk0, cm0, hkk0⟩ := (kd_ty C.2.2.2.2.2.1 22 (by decide) (by decide)).1 (m.N a) (fun j => .int (m.I 22 a j))
  intro T hT XX
  obtain ⟨vm2, X2, step⟩ := XX.arraycopy C.1 C.2.2.2.1 (C.2.2.2.2.1 _ hw.1) (C.2.2.2.2.1 _ hw.2.1) (C.2.2.2.2.1 _ hw.2.2.1) (C.2.2.2.2.1 _ hw.2.2.2) (src := a) (dst := b) (cs := arrV (E.cy 22) (m.N a) (fun j => .int (m.I 22 a j))) (cd := arrV (E.cy 22) (m.N b) (fun j => .int (m.I 22 b j))) (srcPos := sp) (destPos := dp) (n := n) (by rw [hT]; exact ha) (by rw [hT]; exact hb)
    (fun _ h => by cases h) (fun _ h => by cases h) (fun h => by cases h) (fun h => by cases h) hk0 hk0 hkk0 hkk0 (by rfl) (nl sp c1) (nl dp c2) (nl n c3)
    (by rw [nn sp c1, nn n c3, arrV_size]; omega) (by rw [nn dp c2, nn n c3, arrV_size]; omega)
    (fun vm1 _ i hi => by
      have e : (arrV (E.cy 22) (m.N a) (fun j => Value.int (m.I 22 a j))).slots.getD (sp.toNatClampNeg + i) .null = .int (m.I 22 a (sp.toNatClampNeg + i)) := by
        rw [Array.getD_eq_getD_getElem?, arrV_read _ _ (by omega)]
        rfl
      rw [e]
      exact ⟨rfl, trivial⟩)
    (g := F0 Γ.mi pc ls (.int n :: .int dp :: .ref b :: .int sp :: .ref a :: st)) rfl (by rw [C.2.2.1]; exact g3.1) (rest := st) rfl (by rw [C.2.1]; exact d) hf (by show 2 * 0 + _ + (nativeFrameWords "java/lang/System" "arraycopy" 5 + 11) ≤ _; have : nativeFrameWords "java/lang/System" "arraycopy" 5 + 11 ≤ 32 := (by decide); omega)
  have e1 : copied (arrV (E.cy 22) (m.N a) (fun j => .int (m.I 22 a j))) (arrV (E.cy 22) (m.N b) (fun j => .int (m.I 22 b j))) sp dp n = arrV (E.cy 22) (m.N b) (fun j => .int (va_cpy (fun i => m.I 22 a i) (fun i => m.I 22 b i) sp.toNatClampNeg dp.toNatClampNeg n.toNatClampNeg j)) := va_copied (fun z => .int z) (E.cy 22) (E.cy 22) _ _ c4
  rw [e1] at X2 step
  have hbl : b < H.size := (Array.getElem?_eq_some_iff.mp hb).1
  generalize hcell : arrV (E.cy 22) (m.N b) (fun j => Value.int (va_cpy (fun i => m.I 22 a i) (fun i => m.I 22 b i) sp.toNatClampNeg dp.toNatClampNeg n.toNatClampNeg j)) = cell at X2 step
  have hheap : ((T.setVm vm2).setCell b cell).heap = H.setIfInBounds b cell := by rw [← hT]; rfl
  have oq : ∀ q : Nat, q ≠ b → (H.setIfInBounds b cell)[q]? = H[q]? := fun q hq => by simp [Array.getElem?_setIfInBounds, Ne.symm hq]
  have hz : (H.setIfInBounds b cell).size = H.size := by simp
  obtain ⟨t, a1, b1⟩ := kk (m.cp a sp.toNatClampNeg b dp.toNatClampNeg n.toNatClampNeg) rfl rfl r m2 h (H.setIfInBounds b cell) _ ls (rp_cp g1 hk2 (by rw [hcell]; simp [Array.getElem?_setIfInBounds, hbl]) hz oq) ⟨by rw [hz]; exact g2.1, fun q x1 x2 => by
      rw [oq q (fun e => x2 (by rw [e]; exact hbb))]
      exact g2.2.1 q x1 x2, fun q hq => by
      rcases List.mem_append.mp hq with h | h
      · exact g2.2.2 q h
      · obtain ⟨z, -, hz⟩ := List.mem_map.mp h
        rw [← hz]
        exact hbb⟩ g3 _ hheap X2
  exact ⟨t, step t a1, b1⟩
/-! ends -/
theorem z_iret {v : Int32} (C : Cx Γ E cc own nL) (hr : Γ.meth.sig.returnType = some .int) (d : decode cc pc = .ok (.ireturn, 1)) : Sm (QM Γ E emI ce sl) Γ E nL ce sl pc L [.int v] m (some (v, m)) := fun r m2 h H locs ls h1 h2 h3 => by
  cases h
  exact W.iret C.1 C.2.1 hr (fun t ht hW => ⟨rfl, by rw [ht]; exact h1, h2.F ht⟩) h2.2.2 d C.2.2.2.2.2.2.1
theorem z_zret {v : Int32} {ty : FieldType} (C : Cx Γ E cc own nL) (hr : Γ.meth.sig.returnType = some ty) (hn : narrow ty (.int v) = .int v) (d : decode cc pc = .ok (.ireturn, 1)) : Sm (QM Γ E emI ce sl) Γ E nL ce sl pc L [.int v] m (some (v, m)) := fun r m2 h H locs ls h1 h2 h3 => by
  cases h
  exact W.zret C.1 C.2.1 hr hn (fun t ht hW => ⟨rfl, by rw [ht]; exact h1, h2.F ht⟩) h2.2.2 d C.2.2.2.2.2.2.1
theorem z_lret {v : Int64} (C : Cx Γ E cc own nL) (hr : Γ.meth.sig.returnType = some .long) (d : decode cc pc = .ok (.lreturn, 1)) : Sm (QM Γ E emJ ce sl) Γ E nL ce sl pc L [.long v] m (some (v, m)) := fun r m2 h H locs ls h1 h2 h3 => by
  cases h
  exact W.lret C.1 C.2.1 hr (fun t ht hW => ⟨rfl, by rw [ht]; exact h1, h2.F ht⟩) h2.2.2 d C.2.2.2.2.2.2.1
theorem z_aret {v : Option Nat} {cn : String} (C : Cx Γ E cc own nL) (hr : Γ.meth.sig.returnType = some (.object cn)) (d : decode cc pc = .ok (.areturn, 1)) : Sm (QM Γ E emR ce sl) Γ E nL ce sl pc L [va_rf v] m (some (v, m)) := fun r m2 h H locs ls h1 h2 h3 => by
  cases h
  exact W.aret C.1 C.2.1 hr (Or.inl ⟨_, rfl⟩) (by cases v with | none => exact Or.inl rfl | some a => exact Or.inr ⟨a, rfl⟩) (fun t ht hW => ⟨rfl, by rw [ht]; exact h1, h2.F ht⟩) h2.2.2 d C.2.2.2.2.2.2.1
theorem z_vret (C : Cx Γ E cc own nL) (hr : Γ.meth.sig.returnType = none) (d : decode cc pc = .ok (.return_, 1)) : Sm (QM Γ E emV ce sl) Γ E nL ce sl pc L [] m (some ((), m)) := fun r m2 h H locs ls h1 h2 h3 => by
  cases h
  exact W.vret C.1 C.2.1 hr (fun t ht hW => ⟨rfl, by rw [ht]; exact h1, h2.F ht⟩) h2.2.2 d C.2.2.2.2.2.2.1
/-- a method's contract out of its frame's judgement -/
theorem met_of {l : Launch} {em : R → Option Value} {y : MethodName} {ret : Option FieldType} {rm : Room} {mc ms : Nat} {vs : List Value} {r : R} {m2 : MM} (hy : plainFor y = true) (hvs : (lg_sl vs).length ≤ nL)
    {L0 : List (Nat × Value)} (hL0 : lv_args 0 vs = L0) (hS : ∀ Γ : GX, Γ.l = l → Γ.rm = rm → Cx Γ E cc y.cls nL → Γ.meth.sig.returnType = ret → Γ.meth.name = y.name → Sm (QM Γ E em mc ms) Γ E nL 0 0 0 L0 [] m X) (hX : X = some (r, m2)) :
    Met l y (.code y cc nL ret :: TB) rm (va_Pc vs (St E m)) (QR E (em r) m2) mc ms (AA E) := by
  refine va_MetF (cc := cc) (maxL := nL) (ret := ret) hy rfl ?_
  intro p e s mi args below meth c s1 B hml hv
  obtain ⟨rfl, hK, hR⟩ := hv
  have hts := atoms_spec (ws := .code y cc nL ret :: TB) B.pre
  have hl := lv_entry vs (n := nL) hvs
  rw [hL0] at hl
  rw [lg_entry_eq]
  exact hS (p, l, e, rm, s, mi, vs.toArray, below, meth, c) rfl rfl ⟨B.exec, B.bytes, hml, findClass_of_methodNamed B.named, fun w hw => hts w (List.mem_cons_of_mem _ hw), hK, B.notSynchronized, hR.2.1⟩ B.returns (name_of_methodNamed B.named B.method).1 r m2 hX s.heap [] _ hR va_S.rf hl

end ZR
