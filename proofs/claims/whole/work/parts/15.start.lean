/-! The constructors, run: a computable run of the little machine, sound; what it leaves is the shape with its first numbers. -/
def mm_xr (ca : Nat → List mm_V → mm_H → Option (Option Int32 × mm_H)) (code : List mm_E) (rt : Option FieldType) : Nat → Nat → mm_L → List mm_V → mm_H → Option (Option Int32 × mm_H)
  | 0, _, _, _, _ => none
  | n + 1, pc, ls, st, h => match mm_at code pc with
    | none => none
    | some (_, i, _, a, b, c, _) => match i with
      | .iconst v => mm_xr ca code rt n (pc + 1) ls (.inl (Int32.ofInt v) :: st) h
      | .bipush v => mm_xr ca code rt n (pc + 2) ls (.inl (Int8.ofInt v).toInt32 :: st) h
      | .iload_n k => match ls[k.val]? with
        | some (some (.inl x)) => mm_xr ca code rt n (pc + 1) ls (.inl x :: st) h
        | _ => none
      | .aload_n k => match ls[k.val]? with
        | some (some (.inr (some r))) => mm_xr ca code rt n (pc + 1) ls (.inr (some r) :: st) h
        | _ => none
      | .istore_n k => match st with
        | .inl x :: s' => if k.val < ls.length then mm_xr ca code rt n (pc + 1) (ls.set k.val (some (.inl x))) s' h else none
        | _ => none
      | .iinc k v => match ls[k]? with
        | some (some (.inl x)) => mm_xr ca code rt n (pc + 3) (ls.set k (some (.inl (x + Int32.ofInt v)))) st h
        | _ => none
      | .dup => match st with
        | v :: s' => mm_xr ca code rt n (pc + 1) ls (v :: v :: s') h
        | _ => none
      | .goto _ => mm_xr ca code rt n a ls st h
      | .if_icmp q _ => match q, st with
        | .ge, .inl y :: .inl x :: s' => if y ≤ x then mm_xr ca code rt n a ls s' h else mm_xr ca code rt n (pc + 3) ls s' h
        | _, _ => none
      | .getfield _ => match st with
        | .inr (some (r + 3)) :: s' => match h[r]? with
          | some (.inl (ci, fs)) => if ci = a then (match fs[b]? with
            | some v => mm_xr ca code rt n (pc + 3) ls (v :: s') h
            | none => none) else none
          | _ => none
        | _ => none
      | .putfield _ => match st with
        | v :: .inr (some (r + 3)) :: s' => match h[r]? with
          | some (.inl (ci, fs)) => if ci = a ∧ b < fs.length then (match c, v with
            | 0, .inl _ => mm_xr ca code rt n (pc + 3) ls s' (h.set r (.inl (a, fs.set b v)))
            | 2, .inr (some _) => mm_xr ca code rt n (pc + 3) ls s' (h.set r (.inl (a, fs.set b v)))
            | _, _ => none) else none
          | _ => none
        | _ => none
      | .aaload => match st with
        | .inl i :: .inr (some (r + 3)) :: s' => match h[r]? with
          | some (.inr (.inr (_, xs))) => if i < 0 ∨ xs.length ≤ i.toNatClampNeg then none else mm_xr ca code rt n (pc + 1) ls (.inr (xs.getD i.toNatClampNeg none) :: s') h
          | _ => none
        | _ => none
      | .iastore => match st with
        | .inl x :: .inl i :: .inr (some (r + 3)) :: s' => match h[r]? with
          | some (.inr (.inl (false, xs))) => if i < 0 ∨ xs.length ≤ i.toNatClampNeg then none else mm_xr ca code rt n (pc + 1) ls s' (h.set r (.inr (.inl (false, xs.set i.toNatClampNeg x))))
          | _ => none
        | _ => none
      | .bastore => match st with
        | .inl x :: .inl i :: .inr (some (r + 3)) :: s' => match h[r]? with
          | some (.inr (.inl (true, xs))) => if i < 0 ∨ xs.length ≤ i.toNatClampNeg then none else mm_xr ca code rt n (pc + 1) ls s' (h.set r (.inr (.inl (true, xs.set i.toNatClampNeg (vp_nar .boolean x)))))
          | _ => none
        | _ => none
      | .aastore => match st with
        | .inr (some (v + 3)) :: .inl i :: .inr (some (r + 3)) :: s' => match h[r]?, h[v]? with
          | some (.inr (.inr (true, xs))), some (.inl (3, _)) => if i < 0 ∨ xs.length ≤ i.toNatClampNeg then none else mm_xr ca code rt n (pc + 1) ls s' (h.set r (.inr (.inr (true, xs.set i.toNatClampNeg (some (v + 3))))))
          | _, _ => none
        | _ => none
      | .arraylength => match st with
        | .inr (some (r + 3)) :: s' => match h[r]? with
          | some (.inr (.inl (false, xs))) => mm_xr ca code rt n (pc + 1) ls (.inl (Int32.ofNat xs.length) :: s') h
          | _ => none
        | _ => none
      | .new _ => if h.length + 1 ≤ 600000 ∧ mm_sz h + (mm_defs a).length ≤ 7302250 then mm_xr ca code rt n (pc + 3) ls (.inr (some (h.length + 3)) :: st) (h ++ [.inl (a, mm_defs a)]) else none
      | .newarray t => match st with
        | .inl i :: s' => if (t = .int ∨ t = .boolean) ∧ ¬ i < 0 ∧ i.toNatClampNeg ≤ 1000000 ∧ h.length + 1 ≤ 600000 ∧ mm_sz h + i.toNatClampNeg ≤ 7302250 then mm_xr ca code rt n (pc + 2) ls (.inr (some (h.length + 3)) :: s') (h ++ [.inr (.inl (decide (t = .boolean), List.replicate i.toNatClampNeg 0))]) else none
        | _ => none
      | .anewarray _ => match st with
        | .inl i :: s' => if ¬ i < 0 ∧ i.toNatClampNeg ≤ 1000000 ∧ h.length + 1 ≤ 600000 ∧ mm_sz h + i.toNatClampNeg ≤ 7302250 then mm_xr ca code rt n (pc + 3) ls (.inr (some (h.length + 3)) :: s') (h ++ [.inr (.inr (true, List.replicate i.toNatClampNeg none))]) else none
        | _ => none
      | .multianewarray _ _ => match st with
        | .inl k :: .inl m :: s' => if ¬ m < 0 ∧ ¬ k < 0 ∧ m.toNatClampNeg ≤ 1000000 ∧ k.toNatClampNeg ≤ 1000000 ∧ h.length + (1 + m.toNatClampNeg) ≤ 600000 ∧ mm_sz h + (m.toNatClampNeg + m.toNatClampNeg * k.toNatClampNeg) ≤ 7302250 then mm_xr ca code rt n (pc + 4) ls (.inr (some (h.length + 3)) :: s') (h ++ mm_rows m.toNatClampNeg k.toNatClampNeg (h.length + 3)) else none
        | _ => none
      | .invokevirtual _ => match st.drop b with
        | .inr (some (r + 3)) :: s' => (match h[r]?, ca a (.inr (some (r + 3)) :: (st.take b).reverse) h with
          | some (.inl (ci, _)), some (rv, h') => if ci = c ∧ s'.length ≤ 8 ∧ h.length ≤ h'.length ∧ mm_sz h ≤ mm_sz h' ∧ h'.length ≤ 600000 ∧ mm_sz h' ≤ 7302250 then mm_xr ca code rt n (pc + 3) ls ((rv.map Sum.inl).toList ++ s') h' else none
          | _, _ => none)
        | _ => none
      | .invokestatic _ => if c = 0 ∧ b ≤ st.length ∧ (st.drop b).length ≤ 8 then (match ca a (st.take b).reverse h with
          | some (rv, h') => if h.length ≤ h'.length ∧ mm_sz h ≤ mm_sz h' ∧ h'.length ≤ 600000 ∧ mm_sz h' ≤ 7302250 then mm_xr ca code rt n (pc + 3) ls ((rv.map Sum.inl).toList ++ st.drop b) h' else none
          | none => none) else none
      | .invokespecial _ => if c = 2 then (match st with
          | .inr (some _) :: s' => if s'.length ≤ 8 then mm_xr ca code rt n (pc + 3) ls s' h else none
          | _ => none) else (match st.drop b with
          | .inr (some r) :: s' => (match ca a (.inr (some r) :: (st.take b).reverse) h with
            | some (none, h') => if s'.length ≤ 8 ∧ h.length ≤ h'.length ∧ mm_sz h ≤ mm_sz h' ∧ h'.length ≤ 600000 ∧ mm_sz h' ≤ 7302250 then mm_xr ca code rt n (pc + 3) ls s' h' else none
            | _ => none)
          | _ => none)
      | .return_ => match st, rt with
        | [], none => some (none, h)
        | _, _ => none
      | _ => none
def mm_x : Nat → Nat → List mm_V → mm_H → Option (Option Int32 × mm_H)
  | 0, _, _, _ => none
  | d + 1, y, as, h => match mm_mt[y]? with
    | some M => if as.length ≤ mm_ml M then mm_xr (mm_x d) (mm_mk M) (mm_mr M) 3000 0 (mm_ent M as) [] h else none
    | none => none
theorem mm_takedrop {b : Nat} {st s' : List mm_V} {v : mm_V} (h : st.drop b = v :: s') : st = ((st.take b).reverse).reverse ++ v :: s' ∧ ((st.take b).reverse).length = b := by
  constructor
  · rw [List.reverse_reverse, ← h, List.take_append_drop]
  · rw [List.length_reverse, List.length_take]
    have : (st.drop b).length = s'.length + 1 := by rw [h]; rfl
    rw [List.length_drop] at this
    omega
set_option maxHeartbeats 4000000 in
theorem mm_xr_ok {ro : Nat → List Int32} {Ca : mm_R} {ca : Nat → List mm_V → mm_H → Option (Option Int32 × mm_H)} (hca : ∀ y as h r h', ca y as h = some (r, h') → Ca y as h r h') {code : List mm_E} {rt : Option FieldType} {r9 : Option Int32} {h9 : mm_H} : ∀ (n pc : Nat) (ls : mm_L) (st : List mm_V) (h : mm_H), mm_xr ca code rt n pc ls st h = some (r9, h9) → mm_wp ro Ca rt code 600000 7302250 (mm_pin r9 h9) n pc ls st h
  | 0, _, _, _, _, hw => by cases hw
  | n + 1, pc, ls, st, h, hw => by
    have ih := fun pc ls st h hh => mm_xr_ok (ro := ro) hca (code := code) (rt := rt) (r9 := r9) (h9 := h9) n pc ls st h hh
    unfold mm_xr at hw
    split at hw
    · cases hw
    · rename_i pc' i len a b c w hat
      have hpc : pc' = pc := qq_atpc hat
      subst hpc
      refine ⟨i, len, a, b, c, w, hat, ?_⟩
      clear hat
      split at hw
      · exact ih _ _ _ _ hw
      · exact ih _ _ _ _ hw
      · split at hw
        · rename_i hk
          exact ⟨_, hk, ih _ _ _ _ hw⟩
        · cases hw
      · split at hw
        · rename_i hk
          exact ⟨_, hk, ih _ _ _ _ hw⟩
        · cases hw
      · split at hw
        · split at hw
          · rename_i hk
            exact ⟨_, _, rfl, hk, ih _ _ _ _ hw⟩
          · cases hw
        · cases hw
      · split at hw
        · rename_i hk
          exact ⟨_, hk, ih _ _ _ _ hw⟩
        · cases hw
      · split at hw
        · exact ⟨_, _, rfl, ih _ _ _ _ hw⟩
        · cases hw
      · exact ih _ _ _ _ hw
      · split at hw
        · split at hw
          · rename_i hk
            exact ⟨_, _, _, rfl, fun _ => ih _ _ _ _ hw, fun z => absurd hk z⟩
          · rename_i hk
            exact ⟨_, _, _, rfl, fun z => absurd z hk, fun _ => ih _ _ _ _ hw⟩
        · cases hw
      · split at hw
        · split at hw
          · rename_i hk
            split at hw
            · rename_i hci
              subst hci
              split at hw
              · rename_i hv
                exact ⟨_, _, _, _, rfl, hk, hv, ih _ _ _ _ hw⟩
              · cases hw
            · cases hw
          · cases hw
        · cases hw
      · split at hw
        · split at hw
          · rename_i hk
            split at hw
            · rename_i hci
              obtain ⟨hci, hbl⟩ := hci
              subst hci
              split at hw
              · exact ⟨_, _, _, _, rfl, hk, hbl, ⟨_, rfl⟩, ih _ _ _ _ hw⟩
              · exact ⟨_, _, _, _, rfl, hk, hbl, ⟨_, rfl⟩, ih _ _ _ _ hw⟩
              · cases hw
            · cases hw
          · cases hw
        · cases hw
      · split at hw
        · split at hw
          · rename_i hk
            split at hw
            · cases hw
            · rename_i hin
              exact ⟨_, _, _, _, _, rfl, hk, hin, ih _ _ _ _ hw⟩
          · cases hw
        · cases hw
      · split at hw
        · split at hw
          · rename_i hk
            split at hw
            · cases hw
            · rename_i hin
              exact ⟨_, _, _, _, _, rfl, hk, hin, ih _ _ _ _ hw⟩
          · cases hw
        · cases hw
      · split at hw
        · split at hw
          · rename_i hk
            split at hw
            · cases hw
            · rename_i hin
              exact ⟨_, _, _, _, _, rfl, hk, hin, ih _ _ _ _ hw⟩
          · cases hw
        · cases hw
      · split at hw
        · split at hw
          · rename_i hk1 hk2
            split at hw
            · cases hw
            · rename_i hin
              exact ⟨_, _, _, _, _, _, rfl, hk1, hk2, hin, ih _ _ _ _ hw⟩
          · cases hw
        · cases hw
      · split at hw
        · split at hw
          · rename_i hk
            exact ⟨_, _, rfl, Or.inr ⟨_, _, rfl, hk, ih _ _ _ _ hw⟩⟩
          · cases hw
        · cases hw
      · split at hw
        · rename_i hk
          exact ⟨hk.1, hk.2, ih _ _ _ _ hw⟩
        · cases hw
      · split at hw
        · split at hw
          · rename_i hk
            exact ⟨_, _, rfl, hk.1, hk.2.1, hk.2.2.1, hk.2.2.2.1, hk.2.2.2.2, ih _ _ _ _ hw⟩
          · cases hw
        · cases hw
      · split at hw
        · split at hw
          · rename_i hk
            exact ⟨_, _, rfl, hk.1, hk.2.1, hk.2.2.1, hk.2.2.2, ih _ _ _ _ hw⟩
          · cases hw
        · cases hw
      · split at hw
        · split at hw
          · rename_i hk
            exact ⟨_, _, _, rfl, hk.1, hk.2.1, hk.2.2.1, hk.2.2.2.1, hk.2.2.2.2.1, hk.2.2.2.2.2, ih _ _ _ _ hw⟩
          · cases hw
        · cases hw
      · split at hw
        · rename_i hdrop
          split at hw
          · rename_i hk1 hk2
            split at hw
            · rename_i hk
              obtain ⟨q1, q2, q3, q4, q5, q6⟩ := hk
              obtain ⟨t1, t2⟩ := mm_takedrop hdrop
              exact ⟨_, _, _, _, _, _, _, t1, t2, q2, hk1, q1, hca _ _ _ _ _ hk2, q3, q4, q5, q6, ih _ _ _ _ hw⟩
            · cases hw
          · cases hw
        · cases hw
      · split at hw
        · rename_i hk
          obtain ⟨q1, q2, q3⟩ := hk
          subst q1
          split at hw
          · rename_i hk2
            split at hw
            · rename_i hk
              obtain ⟨p1, p2, p3, p4⟩ := hk
              exact ⟨(st.take b).reverse, st.drop b, _, _, by rw [List.reverse_reverse, List.take_append_drop], by rw [List.length_reverse, List.length_take]; omega, q3, hca _ _ _ _ _ hk2, p1, p2, p3, p4, ih _ _ _ _ hw⟩
            · cases hw
          · cases hw
        · cases hw
      · split at hw
        · rename_i hc
          subst hc
          split at hw
          · split at hw
            · rename_i hk
              exact ⟨_, _, rfl, hk, ih _ _ _ _ hw⟩
            · cases hw
          · cases hw
        · rename_i hc
          split at hw
          · rename_i hdrop
            split at hw
            · rename_i hk2
              split at hw
              · rename_i hk
                obtain ⟨q2, q3, q4, q5, q6⟩ := hk
                obtain ⟨t1, t2⟩ := mm_takedrop hdrop
                dsimp only [mm_one]
                split
                · exact absurd rfl hc
                · exact ⟨_, _, _, _, t1, t2, q2, hca _ _ _ _ _ hk2, q3, q4, q5, q6, ih _ _ _ _ hw⟩
              · cases hw
            · cases hw
          · cases hw
      · split at hw
        · cases hw
          exact ⟨rfl, rfl, rfl, rfl⟩
        · cases hw
      · cases hw
theorem mm_x_ok {ro : Nat → List Int32} : ∀ (d y : Nat) (as : List mm_V) (h : mm_H) (r : Option Int32) (h' : mm_H), mm_x d y as h = some (r, h') → mm_EvT mm_mt ro d y as h r h'
  | 0, _, _, _, _, _, hw => by cases hw
  | d + 1, y, as, h, r, h', hw => by
    unfold mm_x at hw
    split at hw
    · rename_i M hM
      split at hw
      · rename_i hl
        obtain ⟨r2, h2, ⟨e1, e2⟩, hE⟩ := mm_ev (y := y) hM hl (mm_xr_ok (ro := ro) (Ca := mm_EvT mm_mt ro d) (fun y as h r h' hh => mm_x_ok d y as h r h' hh) _ _ _ _ _ hw)
        rw [e1, e2] at hE
        exact hE
      · cases hw
    · cases hw
/-! equal heaps, by a computation -/
def mm_veq : mm_V → mm_V → Bool
  | .inl x, .inl y => x == y
  | .inr x, .inr y => x == y
  | _, _ => false
def mm_leq {α : Type} (f : α → α → Bool) : List α → List α → Bool
  | [], [] => true
  | a :: l, b :: m => f a b && mm_leq f l m
  | _, _ => false
def mm_ceq : mm_C → mm_C → Bool
  | .inl x, .inl y => x.1 == y.1 && mm_leq mm_veq x.2 y.2
  | .inr (.inl x), .inr (.inl y) => x.1 == y.1 && mm_leq (fun a b => a == b) x.2 y.2
  | .inr (.inr x), .inr (.inr y) => x.1 == y.1 && mm_leq (fun a b => a == b) x.2 y.2
  | _, _ => false
theorem mm_leq_ok {α : Type} {f : α → α → Bool} (hf : ∀ a b, f a b = true → a = b) : ∀ l m : List α, mm_leq f l m = true → l = m
  | [], [], _ => rfl
  | a :: l, b :: m, h => by
    rw [mm_leq, Bool.and_eq_true] at h
    rw [hf a b h.1, mm_leq_ok hf l m h.2]
  | [], _ :: _, h => by cases h
  | _ :: _, [], h => by cases h
theorem mm_veq_ok : ∀ a b : mm_V, mm_veq a b = true → a = b
  | .inl x, .inl y, h => by rw [eq_of_beq (show (x == y) = true from h)]
  | .inr x, .inr y, h => by rw [eq_of_beq (show (x == y) = true from h)]
  | .inl _, .inr _, h => by cases h
  | .inr _, .inl _, h => by cases h
theorem mm_ceq_ok : ∀ a b : mm_C, mm_ceq a b = true → a = b
  | .inl (x1, x2), .inl (y1, y2), h => by
    obtain ⟨h1, h2⟩ := (Bool.and_eq_true _ _ ▸ (show (x1 == y1 && mm_leq mm_veq x2 y2) = true from h) : (x1 == y1) = true ∧ mm_leq mm_veq x2 y2 = true)
    rw [eq_of_beq h1, mm_leq_ok mm_veq_ok _ _ h2]
  | .inr (.inl (x1, x2)), .inr (.inl (y1, y2)), h => by
    obtain ⟨h1, h2⟩ := (Bool.and_eq_true _ _ ▸ (show (x1 == y1 && mm_leq (fun a b => a == b) x2 y2) = true from h) : (x1 == y1) = true ∧ mm_leq (fun a b => a == b) x2 y2 = true)
    rw [eq_of_beq h1, mm_leq_ok (fun a b z => eq_of_beq z) _ _ h2]
  | .inr (.inr (x1, x2)), .inr (.inr (y1, y2)), h => by
    obtain ⟨h1, h2⟩ := (Bool.and_eq_true _ _ ▸ (show (x1 == y1 && mm_leq (fun a b => a == b) x2 y2) = true from h) : (x1 == y1) = true ∧ mm_leq (fun a b => a == b) x2 y2 = true)
    rw [eq_of_beq h1, mm_leq_ok (fun a b z => eq_of_beq z) _ _ h2]
  | .inl _, .inr _, h => by cases h
  | .inr (.inl _), .inl _, h => by cases h
  | .inr (.inr _), .inl _, h => by cases h
  | .inr (.inl _), .inr (.inr _), h => by cases h
  | .inr (.inr _), .inr (.inl _), h => by cases h
def mm_xeq (o : Option (Option Int32 × mm_H)) (h : mm_H) : Bool := match o with
  | some (none, h') => mm_leq mm_ceq h' h
  | _ => false
theorem mm_xeq_ok {o : Option (Option Int32 × mm_H)} {h : mm_H} (e : mm_xeq o h = true) : o = some (none, h) := by
  unfold mm_xeq at e
  split at e
  · rename_i h'
    rw [mm_leq_ok mm_ceq_ok _ _ e]
  · cases e
/-- the first numbers -/
def qq_0 : qq_S := fun q k =>
  if (16 ≤ q ∧ q ≤ 21) ∨ (38 ≤ q ∧ q ≤ 47) ∨ q = 49 ∨ q = 50 ∨ q = 57 ∨ q = 58 ∨ q = 103 ∨ q = 104 ∨ q = 107 ∨ q = 108 ∨ q = 111 ∨ q = 112 ∨ q = 96 ∨ q = 97 then -1
  else if (q = 48 ∨ q = 56 ∨ q = 102 ∨ q = 106 ∨ q = 110) ∧ k < 2 then 5
  else if q = 52 then (if k = 0 then 10 else if k = 1 then 1 else if k = 2 then 3 else 1)
  else if q = 115 then (if k = 12 ∨ k = 13 then 5 else if k = 14 then 1 else if k = 15 then 10 else if k = 16 then 1 else if k = 17 then 3 else 0)
  else 0
def qq_h1 : mm_H := (qq_e qq_0).take 112
set_option maxRecDepth 100000 in
theorem mm_new1 : mm_xeq (mm_x 6 84 [.inr (some 3)] [.inl (7, mm_defs 7)]) qq_h1 = true := by decide +kernel
set_option maxRecDepth 100000 in
theorem mm_new2 : mm_xeq (mm_x 6 113 [.inr (some 115)] (qq_h1 ++ [.inl (8, mm_defs 8)])) (qq_e qq_0) = true := by decide +kernel
