/-! which sort of method each call names -/
def mm_kchk (e : mm_E) : Bool := match e with
  | (_, .invokevirtual _, _, a, _, _, _) => decide ((mm_mt[a]?).map (fun M => mm_mq M) = some 0)
  | (_, .invokestatic _, _, a, _, c, _) => match c with
    | 10 => true
    | 11 => true
    | 12 => true
    | _ => decide ((mm_mt[a]?).map (fun M => mm_mq M) = some 1)
  | (_, .invokespecial _, _, a, _, c, _) => match c with
    | 2 => true
    | _ => decide ((mm_mt[a]?).map (fun M => (mm_mq M, mm_mr M)) = some (2, none))
  | _ => true
theorem mm_kall : (mm_mt.all (fun M => (mm_mk M).all mm_kchk)) = true := by decide +kernel
theorem mm_klall : mm_kl.all mm_kchk = true := by decide +kernel
theorem mm_nsof {y : Nat} {M : mm_M} (h : mm_mt[y]? = some M) : mm_ns[y]? = some (mm_mn M) := by
  have h1 : (mm_mt.map (fun M => M.1))[y]? = some M.1 := by rw [List.getElem?_map, h]; rfl
  rw [mm_mns, List.getElem?_take] at h1
  split at h1
  · exact h1
  · cases h1
