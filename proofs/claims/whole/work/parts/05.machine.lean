def mm_csz : mm_C → Nat
  | .inl o => o.2.length
  | .inr (.inl x) => x.2.length
  | .inr (.inr x) => x.2.length
def mm_sz (h : mm_H) : Nat := (h.map mm_csz).sum
def mm_if (q : ClassFile.Cond) (x : Int32) : Prop := match q with
  | .eq => x = 0
  | .ne => ¬ x = 0
  | .lt => x < 0
  | .ge => 0 ≤ x
  | .gt => 0 < x
  | .le => x ≤ 0
def mm_ic (q : ClassFile.Cond) (x y : Int32) : Prop := match q with
  | .eq => x = y
  | .ne => ¬ x = y
  | .lt => x < y
  | .ge => y ≤ x
  | .gt => y < x
  | .le => x ≤ y
/-- what may be put into a field: 0 an int, 1 a boolean, 2 a reference that is there (a final field) -/
def mm_fit (c : Nat) (v : mm_V) : Prop := match c with
  | 0 => ∃ x, v = .inl x
  | 1 => v = .inl 0 ∨ v = .inl 1
  | _ => ∃ r, v = .inr (some r)
def mm_rows (n k g : Nat) : mm_H := .inr (.inr (false, (List.range n).map (fun i => some (g + 1 + i)))) :: List.replicate n (.inr (.inl (false, List.replicate k 0)))
/-- one instruction: what must hold, and what must hold behind it (G) -/
def mm_one (ro : Nat → List Int32) (Ca : mm_R) (rt : Option FieldType) (hl hs : Nat) (K : Option Int32 → mm_H → Prop) (G : mm_K) (pc : Nat) (i : Instr) (a b c : Nat) (ls : mm_L) (st : List mm_V) (h : mm_H) : Prop := match i with
  | .iconst v => G (pc + 1) ls (.inl (Int32.ofInt v) :: st) h
  | .bipush v => G (pc + 2) ls (.inl (Int8.ofInt v).toInt32 :: st) h
  | .sipush v => G (pc + 3) ls (.inl (Int16.ofInt v).toInt32 :: st) h
  | .ldc _ => G (pc + 2) ls (.inl (Int32.ofNat a) :: st) h
  | .iload_n k => ∃ x, ls[k.val]? = some (some (.inl x)) ∧ G (pc + 1) ls (.inl x :: st) h
  | .iload k => ∃ x, ls[k]? = some (some (.inl x)) ∧ G (pc + 2) ls (.inl x :: st) h
  | .aload_n k => ∃ r, ls[k.val]? = some (some (.inr (some r))) ∧ G (pc + 1) ls (.inr (some r) :: st) h
  | .istore_n k => ∃ x s', st = .inl x :: s' ∧ k.val < ls.length ∧ G (pc + 1) (ls.set k.val (some (.inl x))) s' h
  | .istore k => ∃ x s', st = .inl x :: s' ∧ k < ls.length ∧ G (pc + 2) (ls.set k (some (.inl x))) s' h
  | .astore_n k => ∃ r s', st = .inr (some r) :: s' ∧ k.val < ls.length ∧ G (pc + 1) (ls.set k.val (some (.inr (some r)))) s' h
  | .iinc k v => ∃ x, ls[k]? = some (some (.inl x)) ∧ G (pc + 3) (ls.set k (some (.inl (x + Int32.ofInt v)))) st h
  | .iadd => ∃ x y s', st = .inl y :: .inl x :: s' ∧ G (pc + 1) ls (.inl (x + y) :: s') h
  | .isub => ∃ x y s', st = .inl y :: .inl x :: s' ∧ G (pc + 1) ls (.inl (x - y) :: s') h
  | .imul => ∃ x y s', st = .inl y :: .inl x :: s' ∧ G (pc + 1) ls (.inl (x * y) :: s') h
  | .iand => ∃ x y s', st = .inl y :: .inl x :: s' ∧ G (pc + 1) ls (.inl (x &&& y) :: s') h
  | .ior => ∃ x y s', st = .inl y :: .inl x :: s' ∧ G (pc + 1) ls (.inl (x ||| y) :: s') h
  | .ixor => ∃ x y s', st = .inl y :: .inl x :: s' ∧ G (pc + 1) ls (.inl (x ^^^ y) :: s') h
  | .ishl => ∃ x y s', st = .inl y :: .inl x :: s' ∧ G (pc + 1) ls (.inl (x <<< (y &&& 31)) :: s') h
  | .ishr => ∃ x y s', st = .inl y :: .inl x :: s' ∧ G (pc + 1) ls (.inl (x >>> (y &&& 31)) :: s') h
  | .idiv => ∃ x y s', st = .inl y :: .inl x :: s' ∧ ¬ y = 0 ∧ G (pc + 1) ls (.inl (x / y) :: s') h
  | .irem => ∃ x y s', st = .inl y :: .inl x :: s' ∧ ¬ y = 0 ∧ G (pc + 1) ls (.inl (x - x / y * y) :: s') h
  | .ineg => ∃ x s', st = .inl x :: s' ∧ G (pc + 1) ls (.inl (-x) :: s') h
  | .dup => ∃ v s', st = v :: s' ∧ G (pc + 1) ls (v :: v :: s') h
  | .pop => ∃ v s', st = v :: s' ∧ G (pc + 1) ls s' h
  | .dup2 => ∃ v w s', st = v :: w :: s' ∧ G (pc + 1) ls (v :: w :: v :: w :: s') h
  | .ifCond q _ => ∃ x s', st = .inl x :: s' ∧ (mm_if q x → G a ls s' h) ∧ (¬ mm_if q x → G (pc + 3) ls s' h)
  | .if_icmp q _ => ∃ x y s', st = .inl y :: .inl x :: s' ∧ (mm_ic q x y → G a ls s' h) ∧ (¬ mm_ic q x y → G (pc + 3) ls s' h)
  | .goto _ => G a ls st h
  | .tableswitch d lo hi offs => ∃ x s', st = .inl x :: s' ∧ ((x.toInt < lo ∨ hi < x.toInt) → ∃ t : Nat, (pc : Int) + d = (t : Int) ∧ G t ls s' h) ∧ (¬ (x.toInt < lo ∨ hi < x.toInt) → ∃ (o : Int) (t : Nat), offs[(x.toInt - lo).toNat]? = some o ∧ (pc : Int) + o = (t : Int) ∧ G t ls s' h)
  | .getfield _ => ∃ r fs v s', st = .inr (some (r + 3)) :: s' ∧ h[r]? = some (.inl (a, fs)) ∧ fs[b]? = some v ∧ G (pc + 3) ls (v :: s') h
  | .putfield _ => ∃ r fs v s', st = v :: .inr (some (r + 3)) :: s' ∧ h[r]? = some (.inl (a, fs)) ∧ b < fs.length ∧ mm_fit c v ∧ G (pc + 3) ls s' (h.set r (.inl (a, fs.set b v)))
  | .getstatic _ => (a = 1 ∨ a = 2) ∧ G (pc + 3) ls (.inr (some a) :: st) h
  | .iaload => ∃ i r s', st = .inl i :: .inr (some r) :: s' ∧ ((r < 3 ∧ vp_in i (ro r).length ∧ G (pc + 1) ls (.inl ((ro r).getD i.toNatClampNeg 0) :: s') h) ∨ ∃ q xs, r = q + 3 ∧ h[q]? = some (.inr (.inl (false, xs))) ∧ vp_in i xs.length ∧ G (pc + 1) ls (.inl (xs.getD i.toNatClampNeg 0) :: s') h)
  | .baload => ∃ i r s' xs, st = .inl i :: .inr (some (r + 3)) :: s' ∧ h[r]? = some (.inr (.inl (true, xs))) ∧ vp_in i xs.length ∧ G (pc + 1) ls (.inl (xs.getD i.toNatClampNeg 0) :: s') h
  | .aaload => ∃ i r s' z xs, st = .inl i :: .inr (some (r + 3)) :: s' ∧ h[r]? = some (.inr (.inr (z, xs))) ∧ vp_in i xs.length ∧ G (pc + 1) ls (.inr (xs.getD i.toNatClampNeg none) :: s') h
  | .iastore => ∃ x i r s' xs, st = .inl x :: .inl i :: .inr (some (r + 3)) :: s' ∧ h[r]? = some (.inr (.inl (false, xs))) ∧ vp_in i xs.length ∧ G (pc + 1) ls s' (h.set r (.inr (.inl (false, xs.set i.toNatClampNeg x))))
  | .bastore => ∃ x i r s' xs, st = .inl x :: .inl i :: .inr (some (r + 3)) :: s' ∧ h[r]? = some (.inr (.inl (true, xs))) ∧ vp_in i xs.length ∧ G (pc + 1) ls s' (h.set r (.inr (.inl (true, xs.set i.toNatClampNeg (vp_nar .boolean x)))))
  | .aastore => ∃ v i r s' xs vs, st = .inr (some (v + 3)) :: .inl i :: .inr (some (r + 3)) :: s' ∧ h[r]? = some (.inr (.inr (true, xs))) ∧ h[v]? = some (.inl (3, vs)) ∧ vp_in i xs.length ∧ G (pc + 1) ls s' (h.set r (.inr (.inr (true, xs.set i.toNatClampNeg (some (v + 3))))))
  | .arraylength => ∃ r s', st = .inr (some r) :: s' ∧ ((r < 3 ∧ G (pc + 1) ls (.inl (Int32.ofNat (ro r).length) :: s') h) ∨ ∃ q xs, r = q + 3 ∧ h[q]? = some (.inr (.inl (false, xs))) ∧ G (pc + 1) ls (.inl (Int32.ofNat xs.length) :: s') h)
  | .new _ => h.length + 1 ≤ hl ∧ mm_sz h + (mm_defs a).length ≤ hs ∧ G (pc + 3) ls (.inr (some (h.length + 3)) :: st) (h ++ [.inl (a, mm_defs a)])
  | .newarray t => ∃ i s', st = .inl i :: s' ∧ (t = .int ∨ t = .boolean) ∧ ¬ i < 0 ∧ i.toNatClampNeg ≤ 1000000 ∧ h.length + 1 ≤ hl ∧ mm_sz h + i.toNatClampNeg ≤ hs ∧ G (pc + 2) ls (.inr (some (h.length + 3)) :: s') (h ++ [.inr (.inl (decide (t = .boolean), List.replicate i.toNatClampNeg 0))])
  | .anewarray _ => ∃ i s', st = .inl i :: s' ∧ ¬ i < 0 ∧ i.toNatClampNeg ≤ 1000000 ∧ h.length + 1 ≤ hl ∧ mm_sz h + i.toNatClampNeg ≤ hs ∧ G (pc + 3) ls (.inr (some (h.length + 3)) :: s') (h ++ [.inr (.inr (true, List.replicate i.toNatClampNeg none))])
  | .multianewarray _ _ => ∃ n k s', st = .inl k :: .inl n :: s' ∧ ¬ n < 0 ∧ ¬ k < 0 ∧ n.toNatClampNeg ≤ 1000000 ∧ k.toNatClampNeg ≤ 1000000 ∧ h.length + (1 + n.toNatClampNeg) ≤ hl ∧ mm_sz h + (n.toNatClampNeg + n.toNatClampNeg * k.toNatClampNeg) ≤ hs ∧ G (pc + 4) ls (.inr (some (h.length + 3)) :: s') (h ++ mm_rows n.toNatClampNeg k.toNatClampNeg (h.length + 3))
  | .invokevirtual _ => ∃ as r s' fs ci rv h', st = as.reverse ++ .inr (some (r + 3)) :: s' ∧ as.length = b ∧ s'.length ≤ 8 ∧ h[r]? = some (.inl (ci, fs)) ∧ ci = c ∧ Ca a (.inr (some (r + 3)) :: as) h rv h' ∧ h.length ≤ h'.length ∧ mm_sz h ≤ mm_sz h' ∧ h'.length ≤ hl ∧ mm_sz h' ≤ hs ∧ G (pc + 3) ls ((rv.map Sum.inl).toList ++ s') h'
  | .invokestatic _ => match c with
    | 10 => ∃ x s', st = .inl x :: s' ∧ s'.length ≤ 8 ∧ h.length ≤ hl ∧ mm_sz h ≤ hs ∧ G (pc + 3) ls (.inl (if 0 ≤ x then x else 0 - x) :: s') h
    | 11 => ∃ x y s', st = .inl y :: .inl x :: s' ∧ s'.length ≤ 8 ∧ h.length ≤ hl ∧ mm_sz h ≤ hs ∧ G (pc + 3) ls (.inl (if x < y then y else x) :: s') h
    | 12 => ∃ x y s', st = .inl y :: .inl x :: s' ∧ s'.length ≤ 8 ∧ h.length ≤ hl ∧ mm_sz h ≤ hs ∧ G (pc + 3) ls (.inl (if y < x then y else x) :: s') h
    | _ => ∃ as s' rv h', st = as.reverse ++ s' ∧ as.length = b ∧ s'.length ≤ 8 ∧ Ca a as h rv h' ∧ h.length ≤ h'.length ∧ mm_sz h ≤ mm_sz h' ∧ h'.length ≤ hl ∧ mm_sz h' ≤ hs ∧ G (pc + 3) ls ((rv.map Sum.inl).toList ++ s') h'
  | .invokespecial _ => match c with
    | 2 => ∃ r s', st = .inr (some r) :: s' ∧ s'.length ≤ 8 ∧ G (pc + 3) ls s' h
    | _ => ∃ as r s' h', st = as.reverse ++ .inr (some r) :: s' ∧ as.length = b ∧ s'.length ≤ 8 ∧ Ca a (.inr (some r) :: as) h none h' ∧ h.length ≤ h'.length ∧ mm_sz h ≤ mm_sz h' ∧ h'.length ≤ hl ∧ mm_sz h' ≤ hs ∧ G (pc + 3) ls s' h'
  | .ireturn => ∃ v, st = [.inl v] ∧ (rt = some .int ∨ (rt = some .boolean ∧ (v = 0 ∨ v = 1))) ∧ K (some v) h
  | .return_ => st = [] ∧ rt = none ∧ K none h
  | _ => False
def mm_at (code : List mm_E) (pc : Nat) : Option mm_E := code.find? (fun e => e.1 == pc)
def mm_wp (ro : Nat → List Int32) (Ca : mm_R) (rt : Option FieldType) (code : List mm_E) (hl hs : Nat) (K : Option Int32 → mm_H → Prop) : Nat → mm_K
  | 0, _, _, _, _ => False
  | n + 1, pc, ls, st, h => ∃ i len a b c w, mm_at code pc = some (pc, i, len, a, b, c, w) ∧ mm_one ro Ca rt hl hs K (mm_wp ro Ca rt code hl hs K n) pc i a b c ls st h
def mm_ent (M : mm_M) (as : List mm_V) : mm_L := as.map some ++ List.replicate (mm_ml M - as.length) none
def mm_EvT (mt : List mm_M) (ro : Nat → List Int32) : Nat → mm_R
  | 0 => fun _ _ _ _ _ => False
  | d + 1 => fun y as h r h' => ∃ M, mt[y]? = some M ∧ as.length ≤ mm_ml M ∧ ∃ n, mm_wp ro (mm_EvT mt ro d) (mm_mr M) (mm_mk M) h'.length (mm_sz h') (fun r2 h2 => r2 = r ∧ h2 = h') n 0 (mm_ent M as) [] h
