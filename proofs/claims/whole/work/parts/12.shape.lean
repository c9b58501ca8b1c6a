/-! Behind both constructors: the heap's shape is fixed; what changes is numbers. S q k: the number at place k of the cell q. -/
abbrev qq_C : Type := (Nat × List (Option Nat)) ⊕ ((Bool × Nat) ⊕ (Bool × List Nat))
abbrev qq_S : Type := Nat → Nat → Int
abbrev qq_V : Type := Int ⊕ (Nat × Option Nat)
abbrev qq_L : Type := List (Option qq_V)
def qq_sh : List qq_C := [.inl (7, [some 4, some 48, some 52, some 53, some 54, some 55, some 94, some 101, some 114, none]), .inl (2, [none, none, none, some 5, some 6, some 7, some 8, some 15, some 22, some 23, some 24, some 25, some 26, some 37]), .inr (.inl (false, 10)), .inr (.inl (false, 10)), .inr (.inl (false, 6)), .inr (.inr (false, [9, 10, 11, 12, 13, 14])), .inr (.inl (false, 10)), .inr (.inl (false, 10)), .inr (.inl (false, 10)), .inr (.inl (false, 10)), .inr (.inl (false, 10)), .inr (.inl (false, 10)), .inr (.inr (false, [16, 17, 18, 19, 20, 21])), .inr (.inl (false, 10)), .inr (.inl (false, 10)), .inr (.inl (false, 10)), .inr (.inl (false, 10)), .inr (.inl (false, 10)), .inr (.inl (false, 10)), .inr (.inl (false, 45)), .inr (.inl (false, 45)), .inr (.inl (false, 45)), .inr (.inl (false, 10)), .inr (.inr (false, [27, 28, 29, 30, 31, 32, 33, 34, 35, 36])), .inr (.inl (false, 10)), .inr (.inl (false, 10)), .inr (.inl (false, 10)), .inr (.inl (false, 10)), .inr (.inl (false, 10)), .inr (.inl (false, 10)), .inr (.inl (false, 10)), .inr (.inl (false, 10)), .inr (.inl (false, 10)), .inr (.inl (false, 10)), .inr (.inr (false, [38, 39, 40, 41, 42, 43, 44, 45, 46, 47])), .inr (.inl (false, 10)), .inr (.inl (false, 10)), .inr (.inl (false, 10)), .inr (.inl (false, 10)), .inr (.inl (false, 10)), .inr (.inl (false, 10)), .inr (.inl (false, 10)), .inr (.inl (false, 10)), .inr (.inl (false, 10)), .inr (.inl (false, 10)), .inl (3, [none, none, some 49, some 50, some 51]), .inr (.inl (false, 10)), .inr (.inl (false, 10)), .inr (.inl (true, 10)), .inl (6, [none, none, none, none]), .inl (0, [some 4, some 48, some 52, none, none, none]), .inl (4, [some 4, some 48, some 52]), .inl (5, [some 4, some 52, some 56, some 92, some 93, some 60, some 61, some 87, some 88, some 89, some 90, some 91, none, none, none]), .inl (3, [none, none, some 57, some 58, some 59]), .inr (.inl (false, 10)), .inr (.inl (false, 10)), .inr (.inl (true, 10)), .inr (.inl (false, 25)), .inr (.inr (false, [62, 63, 64, 65, 66, 67, 68, 69, 70, 71, 72, 73, 74, 75, 76, 77, 78, 79, 80, 81, 82, 83, 84, 85, 86])), .inr (.inl (false, 25)), .inr (.inl (false, 25)), .inr (.inl (false, 25)), .inr (.inl (false, 25)), .inr (.inl (false, 25)), .inr (.inl (false, 25)), .inr (.inl (false, 25)), .inr (.inl (false, 25)), .inr (.inl (false, 25)), .inr (.inl (false, 25)), .inr (.inl (false, 25)), .inr (.inl (false, 25)), .inr (.inl (false, 25)), .inr (.inl (false, 25)), .inr (.inl (false, 25)), .inr (.inl (false, 25)), .inr (.inl (false, 25)), .inr (.inl (false, 25)), .inr (.inl (false, 25)), .inr (.inl (false, 25)), .inr (.inl (false, 25)), .inr (.inl (false, 25)), .inr (.inl (false, 25)), .inr (.inl (false, 25)), .inr (.inl (false, 25)), .inr (.inl (false, 10)), .inr (.inl (false, 10)), .inr (.inl (false, 10)), .inr (.inl (true, 10)), .inr (.inl (false, 11)), .inl (0, [some 4, some 56, some 52, none, none, none]), .inl (4, [some 4, some 56, some 52]), .inl (1, [some 4, some 48, some 95, some 96, some 97, some 98, some 99, some 100]), .inr (.inl (false, 10)), .inr (.inl (false, 10)), .inr (.inl (false, 10)), .inr (.inl (false, 10)), .inr (.inl (false, 10)), .inr (.inl (false, 10)), .inr (.inr (true, [102, 106, 110])), .inl (3, [none, none, some 103, some 104, some 105]), .inr (.inl (false, 10)), .inr (.inl (false, 10)), .inr (.inl (true, 10)), .inl (3, [none, none, some 107, some 108, some 109]), .inr (.inl (false, 10)), .inr (.inl (false, 10)), .inr (.inl (true, 10)), .inl (3, [none, none, some 111, some 112, some 113]), .inr (.inl (false, 10)), .inr (.inl (false, 10)), .inr (.inl (true, 10)), .inr (.inl (true, 3)), .inl (8, [none, none, none, none, some 116, some 117, some 118, some 119, some 120, some 121, some 122, none, none, none, none, none, none, none, some 123, some 124, some 125, none, none, some 126, some 127, some 128, none, some 129, some 130, some 131, some 132, some 133]), .inr (.inl (false, 10)), .inr (.inl (false, 10)), .inr (.inl (false, 6)), .inr (.inl (false, 60)), .inr (.inl (false, 45)), .inr (.inl (false, 45)), .inr (.inl (false, 10)), .inr (.inl (false, 10)), .inr (.inl (true, 10)), .inr (.inl (false, 10)), .inr (.inl (false, 10)), .inr (.inl (false, 10)), .inr (.inl (true, 10)), .inr (.inl (false, 10)), .inr (.inl (false, 10)), .inr (.inl (false, 10)), .inr (.inl (true, 3)), .inr (.inl (false, 69))]
def qq_at (q : Nat) : Option qq_C := if q < 3 then none else qq_sh[q - 3]?
def qq_row (q : Nat) : Option (Nat × Nat) := match q with
  | 8 => some (6, 10)
  | 15 => some (6, 10)
  | 26 => some (10, 10)
  | 37 => some (10, 10)
  | 61 => some (25, 25)
  | _ => none
def qq_fv (f : Nat → Int) (k : Nat) (o : Option Nat) : mm_V := match o with
  | none => .inl (Int32.ofInt (f k))
  | some q => .inr (some q)
def qq_fill (f : Nat → Int) : qq_C → mm_C
  | .inl o => .inl (o.1, o.2.mapIdx (qq_fv f))
  | .inr (.inl o) => .inr (.inl (o.1, (List.range o.2).map (fun k => Int32.ofInt (f k))))
  | .inr (.inr o) => .inr (.inr (o.1, o.2.map some))
def qq_e (S : qq_S) : mm_H := qq_sh.mapIdx (fun i c => qq_fill (S (i + 3)) c)
def qq_u (S : qq_S) (q k : Nat) (x : Int) : qq_S := fun a j => if a = q ∧ j = k then x else S a j
def qq_v : qq_V → mm_V
  | .inl x => .inl (Int32.ofInt x)
  | .inr (q, none) => .inr (some q)
  | .inr (q, some i) => .inr (some (q + 1 + i))
def qq_in (x : Int) : Prop := -2147483648 ≤ x ∧ x ≤ 2147483647
def qq_and (x y : Int) : Int := (Int32.ofInt x &&& Int32.ofInt y).toInt
def qq_or (x y : Int) : Int := (Int32.ofInt x ||| Int32.ofInt y).toInt
def qq_xor (x y : Int) : Int := (Int32.ofInt x ^^^ Int32.ofInt y).toInt
def qq_shl (x y : Int) : Int := (Int32.ofInt x <<< (Int32.ofInt y &&& 31)).toInt
def qq_shr (x y : Int) : Int := (Int32.ofInt x >>> (Int32.ofInt y &&& 31)).toInt
abbrev qq_K : Type := Option Int → qq_S → Prop
abbrev qq_G : Type := Nat → qq_L → List qq_V → qq_S → Prop
/-- what a callee asks, answers, leaves -/
abbrev qq_P : Type := Nat → List qq_V → qq_S → Option (Prop × Option Int × qq_S)
def qq_tab (G : qq_G) (pc : Nat) (ls : qq_L) (st : List qq_V) (S : qq_S) (x : Int) : Int → List Int → Prop
  | _, [] => True
  | lo, o :: os => (x = lo → G ((pc : Int) + o).toNat ls st S) ∧ qq_tab G pc ls st S x (lo + 1) os
def qq_pl (G : qq_G) (pc : Nat) (ls : qq_L) (st : List qq_V) (S : qq_S) (x : Int) : Int → List Nat → Prop
  | _, [] => True
  | lo, q :: qs => (x = lo → G pc ls (.inr (q, none) :: st) S) ∧ qq_pl G pc ls st S x (lo + 1) qs
def qq_call (sp : qq_P) (G Z : qq_G) (pc y : Nat) (as s' : List qq_V) (ls : qq_L) (st : List qq_V) (S : qq_S) : Prop := match sp y as S with
  | some (pre, r, S') => pre ∧ G (pc + 3) ls ((r.map Sum.inl).toList ++ s') S'
  | none => Z pc ls st S
def qq_one (xs : List Int32) (sp : qq_P) (rt : Option FieldType) (K : qq_K) (G Z : qq_G) (pc : Nat) (i : Instr) (a b c : Nat) (ls : qq_L) (st : List qq_V) (S : qq_S) : Prop := match i with
  | .iconst v => G (pc + 1) ls (.inl v :: st) S
  | .bipush v => if -128 ≤ v ∧ v ≤ 127 then G (pc + 2) ls (.inl v :: st) S else False
  | .sipush v => if -32768 ≤ v ∧ v ≤ 32767 then G (pc + 3) ls (.inl v :: st) S else False
  | .ldc _ => G (pc + 2) ls (.inl (a : Int) :: st) S
  | .iload_n k => match ls[k.val]? with
    | some (some (.inl x)) => G (pc + 1) ls (.inl x :: st) S
    | _ => False
  | .iload k => match ls[k]? with
    | some (some (.inl x)) => G (pc + 2) ls (.inl x :: st) S
    | _ => False
  | .aload_n k => match ls[k.val]? with
    | some (some (.inr x)) => G (pc + 1) ls (.inr x :: st) S
    | _ => False
  | .istore_n k => match st with
    | .inl x :: s' => if k.val < ls.length then G (pc + 1) (ls.set k.val (some (.inl x))) s' S else False
    | _ => False
  | .istore k => match st with
    | .inl x :: s' => if k < ls.length then G (pc + 2) (ls.set k (some (.inl x))) s' S else False
    | _ => False
  | .astore_n k => match st with
    | .inr x :: s' => if k.val < ls.length then G (pc + 1) (ls.set k.val (some (.inr x))) s' S else False
    | _ => False
  | .iinc k v => match ls[k]? with
    | some (some (.inl x)) => G (pc + 3) (ls.set k (some (.inl (x + v)))) st S
    | _ => False
  | .iadd => match st with
    | .inl y :: .inl x :: s' => G (pc + 1) ls (.inl (x + y) :: s') S
    | _ => False
  | .isub => match st with
    | .inl y :: .inl x :: s' => G (pc + 1) ls (.inl (x - y) :: s') S
    | _ => False
  | .imul => match st with
    | .inl y :: .inl x :: s' => G (pc + 1) ls (.inl (x * y) :: s') S
    | _ => False
  | .iand => match st with
    | .inl y :: .inl x :: s' => G (pc + 1) ls (.inl (qq_and x y) :: s') S
    | _ => False
  | .ior => match st with
    | .inl y :: .inl x :: s' => G (pc + 1) ls (.inl (qq_or x y) :: s') S
    | _ => False
  | .ixor => match st with
    | .inl y :: .inl x :: s' => G (pc + 1) ls (.inl (qq_xor x y) :: s') S
    | _ => False
  | .ishl => match st with
    | .inl y :: .inl x :: s' => G (pc + 1) ls (.inl (qq_shl x y) :: s') S
    | _ => False
  | .ishr => match st with
    | .inl y :: .inl x :: s' => G (pc + 1) ls (.inl (qq_shr x y) :: s') S
    | _ => False
  | .idiv => match st with
    | .inl y :: .inl x :: s' => (0 ≤ x ∧ 0 < y ∧ x ≤ 2147483647 ∧ y ≤ 2147483647) ∧ G (pc + 1) ls (.inl (x / y) :: s') S
    | _ => False
  | .irem => match st with
    | .inl y :: .inl x :: s' => (0 ≤ x ∧ 0 < y ∧ x ≤ 2147483647 ∧ y ≤ 2147483647) ∧ G (pc + 1) ls (.inl (x % y) :: s') S
    | _ => False
  | .ineg => match st with
    | .inl x :: s' => G (pc + 1) ls (.inl (-x) :: s') S
    | _ => False
  | .dup => match st with
    | v :: s' => G (pc + 1) ls (v :: v :: s') S
    | _ => False
  | .pop => match st with
    | _ :: s' => G (pc + 1) ls s' S
    | _ => False
  | .dup2 => match st with
    | v :: w :: s' => G (pc + 1) ls (v :: w :: v :: w :: s') S
    | _ => False
  | .ifCond q _ => match st with
    | .inl x :: s' => qq_in x ∧ (match q with
      | .eq => (x = 0 → G a ls s' S) ∧ (¬ x = 0 → G (pc + 3) ls s' S)
      | .ne => (¬ x = 0 → G a ls s' S) ∧ (x = 0 → G (pc + 3) ls s' S)
      | .lt => (x < 0 → G a ls s' S) ∧ (¬ x < 0 → G (pc + 3) ls s' S)
      | .ge => (0 ≤ x → G a ls s' S) ∧ (¬ 0 ≤ x → G (pc + 3) ls s' S)
      | .gt => (0 < x → G a ls s' S) ∧ (¬ 0 < x → G (pc + 3) ls s' S)
      | .le => (x ≤ 0 → G a ls s' S) ∧ (¬ x ≤ 0 → G (pc + 3) ls s' S))
    | _ => False
  | .if_icmp q _ => match st with
    | .inl y :: .inl x :: s' => (qq_in x ∧ qq_in y) ∧ (match q with
      | .eq => (x = y → G a ls s' S) ∧ (¬ x = y → G (pc + 3) ls s' S)
      | .ne => (¬ x = y → G a ls s' S) ∧ (x = y → G (pc + 3) ls s' S)
      | .lt => (x < y → G a ls s' S) ∧ (¬ x < y → G (pc + 3) ls s' S)
      | .ge => (y ≤ x → G a ls s' S) ∧ (¬ y ≤ x → G (pc + 3) ls s' S)
      | .gt => (y < x → G a ls s' S) ∧ (¬ y < x → G (pc + 3) ls s' S)
      | .le => (x ≤ y → G a ls s' S) ∧ (¬ x ≤ y → G (pc + 3) ls s' S))
    | _ => False
  | .goto _ => G a ls st S
  | .tableswitch d lo hi offs => match st with
    | .inl x :: s' => qq_in x ∧ (x < lo ∨ hi < x → G ((pc : Int) + d).toNat ls s' S) ∧ (if hi - lo + 1 = offs.size ∧ (offs.toList.all (fun o => decide (0 ≤ (pc : Int) + o)) = true ∧ 0 ≤ (pc : Int) + d) then qq_tab G pc ls s' S x lo offs.toList else False)
    | _ => False
  | .getfield _ => match st with
    | .inr (q, none) :: s' => match qq_at q with
      | some (.inl (ci, fs)) => if ci = a then (match fs[b]? with
        | some none => G (pc + 3) ls (.inl (S q b) :: s') S
        | some (some r) => G (pc + 3) ls (.inr (r, none) :: s') S
        | none => False) else False
      | _ => False
    | _ => False
  | .putfield _ => match st with
    | .inl x :: .inr (q, none) :: s' => match qq_at q with
      | some (.inl (ci, fs)) => if ci = a then (match fs[b]? with
        | some none => (match c with
          | 0 => G (pc + 3) ls s' (qq_u S q b x)
          | 1 => (x = 0 ∨ x = 1) ∧ G (pc + 3) ls s' (qq_u S q b x)
          | _ => False)
        | _ => False) else False
      | _ => False
    | _ => False
  | .getstatic _ => if a = 1 ∨ a = 2 then G (pc + 3) ls (.inr (a, none) :: st) S else False
  | .iaload => match st with
    | .inl i :: .inr (q, none) :: s' => if q < 3 then ((0 ≤ i ∧ i < (mm_ro xs q).length) ∧ G (pc + 1) ls (.inl ((mm_ro xs q).getD i.toNat 0).toInt :: s') S) else (match qq_at q with
      | some (.inr (.inl (false, n))) => (0 ≤ i ∧ i < n) ∧ G (pc + 1) ls (.inl (S q i.toNat) :: s') S
      | _ => False)
    | .inl i :: .inr (q, some j) :: s' => (match qq_row q with
      | some (nr, k) => (j < nr ∧ 0 ≤ i ∧ i < k) ∧ G (pc + 1) ls (.inl (S (q + 1 + j) i.toNat) :: s') S
      | _ => False)
    | _ => False
  | .baload => match st with
    | .inl i :: .inr (q, none) :: s' => (match qq_at q with
      | some (.inr (.inl (true, n))) => (0 ≤ i ∧ i < n) ∧ G (pc + 1) ls (.inl (S q i.toNat) :: s') S
      | _ => False)
    | _ => False
  | .iastore => match st with
    | .inl x :: .inl i :: .inr (q, none) :: s' => (match qq_at q with
      | some (.inr (.inl (false, n))) => (0 ≤ i ∧ i < n) ∧ G (pc + 1) ls s' (qq_u S q i.toNat x)
      | _ => False)
    | .inl x :: .inl i :: .inr (q, some j) :: s' => (match qq_row q with
      | some (nr, k) => (j < nr ∧ 0 ≤ i ∧ i < k) ∧ G (pc + 1) ls s' (qq_u S (q + 1 + j) i.toNat x)
      | _ => False)
    | _ => False
  | .bastore => match st with
    | .inl x :: .inl i :: .inr (q, none) :: s' => (match qq_at q with
      | some (.inr (.inl (true, n))) => (0 ≤ i ∧ i < n ∧ (x = 0 ∨ x = 1)) ∧ G (pc + 1) ls s' (qq_u S q i.toNat x)
      | _ => False)
    | _ => False
  | .aaload => match st with
    | .inl i :: .inr (q, none) :: s' => (match qq_row q with
      | some (nr, _) => (0 ≤ i ∧ i < nr) ∧ G (pc + 1) ls (.inr (q, some i.toNat) :: s') S
      | none => (match qq_at q with
        | some (.inr (.inr (true, rs))) => (0 ≤ i ∧ i < rs.length) ∧ qq_pl G (pc + 1) ls s' S i 0 rs
        | _ => False))
    | _ => False
  | .arraylength => match st with
    | .inr (q, none) :: s' => if q < 3 then G (pc + 1) ls (.inl ((mm_ro xs q).length : Int) :: s') S else (match qq_at q with
      | some (.inr (.inl (false, n))) => G (pc + 1) ls (.inl (n : Int) :: s') S
      | _ => False)
    | _ => False
  | .invokevirtual _ => match st.drop b with
    | .inr (q, none) :: s' => (match qq_at q with
      | some (.inl (ci, _)) => if ci = c ∧ s'.length ≤ 8 then qq_call sp G Z pc a (.inr (q, none) :: (st.take b).reverse) s' ls st S else False
      | _ => False)
    | _ => False
  | .invokestatic _ => match c with
    | 10 => (match st with
      | .inl x :: s' => if s'.length ≤ 8 then (-2147483647 ≤ x ∧ x ≤ 2147483647) ∧ G (pc + 3) ls (.inl (if 0 ≤ x then x else -x) :: s') S else False
      | _ => False)
    | 11 => (match st with
      | .inl y :: .inl x :: s' => if s'.length ≤ 8 then (qq_in x ∧ qq_in y) ∧ G (pc + 3) ls (.inl (if x < y then y else x) :: s') S else False
      | _ => False)
    | 12 => (match st with
      | .inl y :: .inl x :: s' => if s'.length ≤ 8 then (qq_in x ∧ qq_in y) ∧ G (pc + 3) ls (.inl (if y < x then y else x) :: s') S else False
      | _ => False)
    | _ => if b ≤ st.length ∧ (st.drop b).length ≤ 8 then qq_call sp G Z pc a (st.take b).reverse (st.drop b) ls st S else False
  | .ireturn => match st with
    | [.inl v] => (match rt with
      | some .int => K (some v) S
      | some .boolean => (v = 0 ∨ v = 1) ∧ K (some v) S
      | _ => False)
    | _ => False
  | .return_ => match st, rt with
    | [], none => K none S
    | _, _ => False
  | _ => False
/-- the walk: from pc on, until a stop, or a call of which nothing is known -/
def qq_w (xs : List Int32) (sp : qq_P) (rt : Option FieldType) (code : List mm_E) (stops : List Nat) (K : qq_K) (Z : qq_G) : Nat → qq_G
  | 0, pc, ls, st, S => Z pc ls st S
  | n + 1, pc, ls, st, S => if stops.contains pc then Z pc ls st S else match mm_at code pc with
    | some (_, i, _, a, b, c, _) => qq_one xs sp rt K (qq_w xs sp rt code stops K Z n) Z pc i a b c ls st S
    | none => False
/-- one instruction, then the walk -/
def qq_f (xs : List Int32) (sp : qq_P) (rt : Option FieldType) (code : List mm_E) (stops : List Nat) (K : qq_K) (Z : qq_G) (n : Nat) : qq_G := fun pc ls st S => match mm_at code pc with
    | some (_, i, _, a, b, c, _) => qq_one xs sp rt K (qq_w xs sp rt code stops K Z n) Z pc i a b c ls st S
    | none => False
/-- a run from pc on ends, with K -/
def qq_p (xs : List Int32) (d : Nat) (rt : Option FieldType) (code : List mm_E) (K : qq_K) : qq_G := fun pc ls st S => ∃ n, mm_wp (mm_ro xs) (mm_EvT mm_mt (mm_ro xs) d) rt code 600000 7302250 (fun r h => ∃ r2 S2, r = r2.map Int32.ofInt ∧ h = qq_e S2 ∧ K r2 S2) n pc (ls.map (Option.map qq_v)) (st.map qq_v) (qq_e S)
/-- a call -/
def qq_E (xs : List Int32) (d y : Nat) (as : List qq_V) (S : qq_S) (r : Option Int) (S' : qq_S) : Prop := mm_EvT mm_mt (mm_ro xs) d y (as.map qq_v) (qq_e S) (r.map Int32.ofInt) (qq_e S')
