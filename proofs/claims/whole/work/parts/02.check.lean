/-! The little machine: values, cells, heap; one instruction as a condition; a run of a method as a condition (mm_wp); calls by depth (mm_Ev). -/
abbrev mm_V : Type := Int32 ⊕ Option Nat
abbrev mm_C : Type := (Nat × List mm_V) ⊕ ((Bool × List Int32) ⊕ (Bool × List (Option Nat)))
abbrev mm_H : Type := List mm_C
abbrev mm_E : Type := Nat × Instr × Nat × Nat × Nat × Nat × Nat
abbrev mm_M : Type := MethodName × ByteArray × Nat × Option FieldType × Nat × List mm_E × Nat × Nat × Nat × Nat × Nat
abbrev mm_R : Type := Nat → List mm_V → mm_H → Option Int32 → mm_H → Prop
abbrev mm_L : Type := List (Option mm_V)
abbrev mm_K : Type := Nat → mm_L → List mm_V → mm_H → Prop
abbrev mm_mn (M : mm_M) : MethodName := M.1
abbrev mm_mb (M : mm_M) : ByteArray := M.2.1
abbrev mm_ml (M : mm_M) : Nat := M.2.2.1
abbrev mm_mr (M : mm_M) : Option FieldType := M.2.2.2.1
abbrev mm_mc (M : mm_M) : Nat := M.2.2.2.2.1
abbrev mm_mk (M : mm_M) : List mm_E := M.2.2.2.2.2.1
abbrev mm_mw0 (M : mm_M) : Nat := M.2.2.2.2.2.2.1
abbrev mm_mw1 (M : mm_M) : Nat := M.2.2.2.2.2.2.2.1
abbrev mm_mw2 (M : mm_M) : Nat := M.2.2.2.2.2.2.2.2.1
abbrev mm_mw3 (M : mm_M) : Nat := M.2.2.2.2.2.2.2.2.2.1
abbrev mm_mq (M : mm_M) : Nat := M.2.2.2.2.2.2.2.2.2.2
/-! the check of the tables: what each instruction's numbers say is what the words say -/
def mm_fchk (cls : String) (i a b w : Nat) : Bool := match mm_cl[a]? with
  | some (_, T, N) => decide (b < N) && decide (lw_tbl[w]? = some (.fieldLink cls i (T b).1 (T b).2.1 (T b).2.2.1))
  | none => false
def mm_pchk (nm : MethodName) (a b c : Nat) : Bool := match mm_cl[a]? with
  | some (_, T, _) => match c with
    | 0 => decide ((T b).2.2.1 = "I") && !(T b).2.2.2
    | 1 => decide ((T b).2.2.1 = "Z") && !(T b).2.2.2
    | _ => decide (c = 2) && (T b).2.2.2 && decide ((T b).1 = nm.cls) && decide (nm.name = "<init>") && (match parseFieldDescriptor (T b).2.2.1 with | some t => t.isReference | none => false)
  | none => false
def mm_nchk (y : MethodName) (b : Nat) : Bool := decide ((parseMethodDescriptor y.desc).map (fun d => d.parameters.length) = some b)
def mm_chk (nm : MethodName) (bytes : ByteArray) (e : mm_E) : Bool := decide (decode bytes e.1 = .ok (e.2.1, e.2.2.1)) && match e with
  | (pc, .ifCond _ off, l, a, _, _, _) => decide ((pc : Int) + off = (a : Int)) && decide (l = 3)
  | (pc, .if_icmp _ off, l, a, _, _, _) => decide ((pc : Int) + off = (a : Int)) && decide (l = 3)
  | (pc, .goto off, l, a, _, _, _) => decide ((pc : Int) + off = (a : Int)) && decide (l = 3)
  | (_, .getfield i, l, a, b, _, w) => mm_fchk nm.cls i a b w && decide (l = 3)
  | (_, .putfield i, l, a, b, c, w) => mm_fchk nm.cls i a b w && mm_pchk nm a b c && decide (l = 3)
  | (_, .getstatic i, l, a, _, _, w) => decide (l = 3) && decide (nm.cls = "LineMap$Search") && ((decide (a = 1) && decide (i = 123)) || (decide (a = 2) && decide (i = 126)))
  | (_, .ldc i, l, a, _, _, w) => decide (l = 2) && decide (lw_tbl[w]? = some (.constant nm.cls i (Int32.ofNat a)))
  | (_, .new i, l, a, _, _, w) => decide (l = 3) && (match mm_cl[a]? with | some (C, _, N) => decide (lw_tbl[w]? = some (.classLink nm.cls i C)) && decide ((mm_defs a).length = N) | none => false)
  | (_, .anewarray i, l, _, _, _, w) => decide (l = 3) && decide (lw_tbl[w]? = some (.classLink nm.cls i "LineMap$Plan"))
  | (_, .multianewarray i d, l, _, _, _, w) => decide (l = 4) && decide (d = 2) && decide (lw_tbl[w]? = some (.classLink nm.cls i "[[I"))
  | (_, .invokevirtual i, l, a, b, c, w) => decide (l = 3) && (match mm_ns[a]? with | some y => decide (lw_tbl[w]? = some (.methodLink nm.cls i y)) && mm_nchk y b && decide ((mm_cl[c]?).map (fun q => q.1) = some y.cls) | none => false)
  | (_, .invokestatic i, l, a, b, c, w) => decide (l = 3) && (match mm_ns[a]? with | some y => (match c with
    | 0 => mm_nchk y b && decide (lw_tbl[w]? = some (.methodLink nm.cls i y))
    | 10 => decide (lw_tbl[w]? = some (.methodLink nm.cls i Lib.Math.abs.name))
    | 11 => decide (lw_tbl[w]? = some (.methodLink nm.cls i Lib.Math.max.name))
    | 12 => decide (lw_tbl[w]? = some (.methodLink nm.cls i Lib.Math.min.name))
    | _ => mm_nchk y b && decide (nm.cls = "LineMap$Search") && decide (i = 129) && decide (y = ⟨"LineMap", "isWithin", "(III)Z"⟩)) | none => false)
  | (_, .invokespecial i, l, a, b, c, w) => decide (l = 3) && (match c with
    | 2 => decide (lw_tbl[w]? = some (.methodLink nm.cls i objectInit))
    | 0 => (match mm_ns[a]? with | some y => mm_nchk y b && decide (lw_tbl[w]? = some (.methodLink nm.cls i y)) && decide (y.name = "<init>") | none => false)
    | _ => (match mm_ns[a]? with | some y => mm_nchk y b && decide (nm.cls = "LineMap") && decide (i = 25) && decide (y = ⟨"LineMap$Terms", "<init>", "()V"⟩) | none => false))
  | (_, i, l, _, _, _, _) => match i with
    | .bipush _ | .iload _ | .istore _ | .newarray _ => decide (l = 2)
    | .sipush _ | .iinc _ _ => decide (l = 3)
    | .tableswitch _ _ _ _ => true
    | _ => decide (l = 1)
def mm_mchk (M : mm_M) : Bool := (mm_mk M).all (mm_chk (mm_mn M) (mm_mb M)) && decide (mm_ml M ≤ 40) && decide (lw_tbl[mm_mw3 M]? = some (.initialized (mm_mn M).cls)) && decide (lw_tbl[mm_mw0 M]? = some (.code (mm_mn M) (mm_mb M) (mm_ml M) (mm_mr M))) && plainName (mm_mn M).cls && decide ((mm_mn M).cls ≠ "java/lang/invoke/MethodHandle") && decide ((mm_mn M).cls ≠ "java/lang/invoke/VarHandle") && (match mm_mq M with
    | 0 => decide (lw_tbl[mm_mw1 M]? = some (.instanceMethod (mm_mn M))) && decide (lw_tbl[mm_mw2 M]? = some (.selects (mm_mn M).cls (mm_mn M) (mm_mn M)))
    | 1 => decide (lw_tbl[mm_mw1 M]? = some (.static (mm_mn M)))
    | _ => decide (lw_tbl[mm_mw1 M]? = some (.instanceMethod (mm_mn M))))
