/-! The step of the little machine is a step of the machine: instruction by instruction. -/
section MX
theorem mm_fok {cls : String} {i a b w : Nat} (h : mm_fchk cls i a b w = true) : ∃ C T N, mm_cl[a]? = some (C, T, N) ∧ b < N ∧ lw_tbl[w]? = some (.fieldLink cls i (T b).1 (T b).2.1 (T b).2.2.1) := by
  unfold mm_fchk at h
  cases hc : mm_cl[a]? with
  | none => rw [hc] at h; cases h
  | some q =>
    obtain ⟨C, T, N⟩ := q
    rw [hc] at h
    rw [Bool.and_eq_true] at h
    exact ⟨C, T, N, rfl, of_decide_eq_true h.1, of_decide_eq_true h.2⟩
theorem mm_rty {d : String} (h : (match parseFieldDescriptor d with | some t => t.isReference | none => false) = true) : ∃ t, parseFieldDescriptor d = some t ∧ t.isReference = true := by
  cases hd : parseFieldDescriptor d with
  | none => rw [hd] at h; cases h
  | some t => rw [hd] at h; exact ⟨t, rfl, h⟩
theorem mm_rfit {t : FieldType} (h : t.isReference = true) (a : Nat) : narrow t (.ref a) = .ref a ∧ fits t (.ref a) = true := by
  cases t <;> first | exact ⟨rfl, rfl⟩ | (simp [FieldType.isReference] at h)
theorem mm_sset {h : mm_H} {r : Nat} {x y : mm_C} (hr : h[r]? = some x) (hc : mm_csz y = mm_csz x) : mm_sz (h.set r y) = mm_sz h := by
  unfold mm_sz
  have e : (h.set r y).map mm_csz = h.map mm_csz := by
    refine List.ext_getElem? fun i => ?_
    rw [List.getElem?_map, List.getElem?_map, List.getElem?_set]
    by_cases hi : r = i
    · subst hi
      rw [if_pos rfl, if_pos (List.getElem?_eq_some_iff.mp hr).1, hr]
      simp [hc]
    · rw [if_neg hi]
  rw [e]
theorem mm_spush {h : mm_H} {x : mm_C} : mm_sz (h ++ [x]) = mm_sz h + mm_csz x := by
  simp [mm_sz]
theorem mm_srows {h : mm_H} {n k g : Nat} : mm_sz (h ++ mm_rows n k g) = mm_sz h + n + n * k := by
  simp [mm_sz, mm_rows, mm_csz]
  omega
theorem mm_updl {xs : List Int32} {i : Nat} {x : Int32} (hi : i < xs.length) : (fun j => (xs.set i x).getD j 0) = upd (fun j => xs.getD j 0) i x := by
  funext j
  simp only [List.getD_eq_getElem?_getD, List.getElem?_set, upd]
  by_cases hj : j = i
  · subst hj
    simp [hi]
  · have hj2 : ¬ i = j := fun z => hj z.symm
    simp [hj, hj2]
theorem mm_updr {xs : List (Option Nat)} {i v : Nat} {ad : Nat → Nat} (hi : i < xs.length) : (fun j => ((xs.set i (some v)).getD j none).map ad) = va_up (fun j => (xs.getD j none).map ad) i (some (ad v)) := by
  funext j
  simp only [List.getD_eq_getElem?_getD, List.getElem?_set, va_up]
  by_cases hj : j = i
  · subst hj
    simp [hi]
  · have hj2 : ¬ i = j := fun z => hj z.symm
    simp [hj, hj2]
theorem mm_rep0 {n : Nat} : (fun j => (List.replicate n (0 : Int32)).getD j 0) = fun _ => 0 := by
  funext j
  simp only [List.getD_eq_getElem?_getD, List.getElem?_replicate]
  split <;> rfl
theorem mm_repn {n : Nat} {ad : Nat → Nat} : (fun j => ((List.replicate n (none : Option Nat)).getD j none).map ad) = fun _ => none := by
  funext j
  simp only [List.getD_eq_getElem?_getD, List.getElem?_replicate]
  split <;> rfl
theorem mm_rrows {ca : Nat → ClassId} {ad : Nat → Nat} {base : Nat} {h : mm_H} {n k : Nat} (had : ∀ k, ad (k + 3) = base + k) : mm_rd ca ad base (h ++ mm_rows n k (h.length + 3)) = (mm_rd ca ad base h ++ [(base + h.length, .inl (ca 3, n, .inr (.inr (.inr (.inr (fun i => if i < n then some (base + h.length + 1 + i) else none))))))]) ++ (List.range n).map (fun i => (base + h.length + 1 + i, .inl (ca 0, k, .inl (fun _ => 0)))) := by
  have e1 : mm_rc ca ad (.inr (.inr (false, (List.range n).map (fun i => some (h.length + 3 + 1 + i))))) = .inl (ca 3, n, .inr (.inr (.inr (.inr (fun i => if i < n then some (base + h.length + 1 + i) else none))))) := by
    show Sum.inl (ca 3, ((List.range n).map (fun i => some (h.length + 3 + 1 + i))).length, Sum.inr (Sum.inr (Sum.inr (Sum.inr (fun j => (((List.range n).map (fun i => some (h.length + 3 + 1 + i))).getD j none).map ad))))) = _
    have e : (fun j => (((List.range n).map (fun i => some (h.length + 3 + 1 + i))).getD j none).map ad) = fun i => if i < n then some (base + h.length + 1 + i) else none := by
      funext j
      simp only [List.getD_eq_getElem?_getD, List.getElem?_map]
      by_cases hj : j < n
      · rw [List.getElem?_range hj, if_pos hj]
        show some (ad (h.length + 3 + 1 + j)) = _
        rw [show h.length + 3 + 1 + j = (h.length + 1 + j) + 3 by omega, had]
        congr 1
        omega
      · rw [if_neg hj, List.getElem?_eq_none (by rw [List.length_range]; omega)]
        rfl
    rw [e]
    simp
  have e2 : mm_rc ca ad (.inr (.inl (false, List.replicate k 0))) = .inl (ca 0, k, .inl (fun _ => 0)) := by
    show Sum.inl (ca 0, (List.replicate k (0 : Int32)).length, Sum.inl (fun j => (List.replicate k (0 : Int32)).getD j 0)) = _
    rw [List.length_replicate, mm_rep0]
  rw [mm_rows, ← List.singleton_append, ← List.append_assoc]
  unfold mm_rd
  rw [List.mapIdx_append, List.mapIdx_append]
  congr 1
  · congr 1
    show [(base + (0 + h.length), mm_rc ca ad _)] = _
    rw [e1]
    simp
  · refine List.ext_getElem? fun i => ?_
    rw [List.getElem?_mapIdx, List.getElem?_map, List.getElem?_replicate]
    by_cases hi : i < n
    · rw [if_pos hi, List.getElem?_range hi]
      show some (base + (i + _), mm_rc ca ad _) = some _
      rw [e2]
      simp
      omega
    · rw [if_neg hi, List.getElem?_eq_none (by rw [List.length_range]; omega)]
      rfl
theorem mm_csum {ad : Nat → Nat} {st : List mm_V} (h : st.length ≤ 8) : (((st.map (mm_rv ad)).map fun v => v.category).sum) ≤ 8 := by
  have e : ((st.map (mm_rv ad)).map fun v => v.category).sum = st.length := by
    clear h
    induction st with
    | nil => rfl
    | cons v t ih =>
      simp only [List.map_cons, List.sum_cons, List.length_cons, ih, mm_cat]
      omega
  omega
/-- what is known of a method by its number -/
theorem mm_mf {y : Nat} {M : mm_M} (h : mm_mt[y]? = some M) : (mm_mk M).all (mm_chk (mm_mn M) (mm_mb M)) = true ∧ (mm_mk M).all mm_kchk = true ∧ mm_ml M ≤ 40 ∧ .initialized (mm_mn M).cls ∈ mm_GW ∧ .code (mm_mn M) (mm_mb M) (mm_ml M) (mm_mr M) ∈ mm_GW ∧ plainName (mm_mn M).cls = true ∧ (mm_mn M).cls ≠ "java/lang/invoke/MethodHandle" ∧ (mm_mn M).cls ≠ "java/lang/invoke/VarHandle" ∧ (mm_mq M = 0 → .instanceMethod (mm_mn M) ∈ mm_GW ∧ .selects (mm_mn M).cls (mm_mn M) (mm_mn M) ∈ mm_GW) ∧ (mm_mq M = 1 → .static (mm_mn M) ∈ mm_GW) ∧ (mm_mq M = 2 → .instanceMethod (mm_mn M) ∈ mm_GW) := by
  have h0 := List.mem_of_getElem? h
  have h1 := mm_all M h0
  have h2 := List.all_eq_true.mp mm_kall M h0
  unfold mm_mchk at h1
  simp only [Bool.and_eq_true, decide_eq_true_eq] at h1
  obtain ⟨⟨⟨⟨⟨⟨⟨a1, a2⟩, a3⟩, a4⟩, a5⟩, a6⟩, a7⟩, a8⟩ := h1
  refine ⟨a1, h2, a2, mm_gw a3 rfl, mm_gw a4 rfl, a5, a6, a7, fun hq => ?_, fun hq => ?_, fun hq => ?_⟩
  · rw [hq] at a8
    simp only [Bool.and_eq_true, decide_eq_true_eq] at a8
    exact ⟨mm_gw a8.1 rfl, mm_gw a8.2 rfl⟩
  · rw [hq] at a8
    simp only [decide_eq_true_eq] at a8
    exact mm_gw a8 rfl
  · rw [hq] at a8
    simp only [decide_eq_true_eq] at a8
    exact mm_gw a8 rfl
theorem mm_wsin {y : Nat} {M : mm_M} (h : mm_mt[y]? = some M) : GoodIn mm_GW (mm_ws M) := mm_gin fun w hw => by
  rcases List.mem_cons.mp hw with rfl | hw
  · exact (mm_mf h).2.2.2.2.1
  · exact hw
def mm_I (base : Nat) (ad : Nat → Nat) (D : va_G) (ca : Nat → ClassId) (s : State) (h0l h0s : Nat) (h : mm_H) (H : Heap) (locs : List Loc) (cells slots : Nat) : Prop :=
  va_P D mm_cl (mm_rd ca ad base h) H ∧ H.size = base + h.length ∧ va_S (fun q => base ≤ q) s.heap H locs ∧ cells + h0l = h.length ∧ slots + h0s = mm_sz h
def mm_Fx (ro : Nat → List Int32) (base : Nat) (ad : Nat → Nat) (D : va_G) (ca : Nat → ClassId) (p : Program) (R : Room) (s : State) (m : MethodId) (args : Array Value) (meth : Method) (c : Code) (M : mm_M) (d : Nat) : Prop :=
  p.tables.exec = Jvm.exec ∧ c.code = mm_mb M ∧ c.maxLocals = mm_ml M ∧ s.vm.findClass (mm_mn M).cls = some m.cls ∧ (∀ w ∈ mm_GW, w.before args s = true) ∧ ((mm_mn M).name = "<init>" → meth.name = "<init>") ∧ (mm_mk M).all (mm_chk (mm_mn M) (mm_mb M)) = true ∧ (mm_mk M).all mm_kchk = true ∧ mm_Env ro base ad D ca s ∧ base ≤ s.heap.size ∧ d + 1 ≤ R.frames ∧ 64 * (d + 1) ≤ R.locals
variable {l : Launch} {ro : Nat → List Int32} {base : Nat} {ad : Nat → Nat} {D : va_G} {ca : Nat → ClassId}
variable {p : Program} {e : Env} {R : Room} {s : State} {m : MethodId} {args : Array Value} {below : List Frame} {meth : Method} {c : Code} {Q : State → Prop}
/-- what a callee may take as given -/
theorem mm_pre {as : List mm_V} {h : mm_H} {H : Heap} {locs : List Loc} {h0l h0s cells slots : Nat} (hE : mm_Env ro base ad D ca s) (hbs : base ≤ s.heap.size) (hI : mm_I base ad D ca s h0l h0s h H locs cells slots) : ∀ U : State, U.heap = H → s.WarmedH U.vm → mm_Pc ro base ad D ca as h (as.map (mm_rv ad)).toArray U := fun U hU hW =>
  ⟨rfl, by rw [hU]; exact hI.2.1, by rw [hU]; exact hI.1, hE.go hW fun q hq => by rw [hU]; exact hI.2.2.1.2.1 q (by omega) (by show ¬ base ≤ q; omega)⟩
/-- behind a call -/
theorem mm_post {r : Option Int32} {h h' : mm_H} {H : Heap} {locs : List Loc} {h0l h0s cells slots pc : Nat} {lr : Array Slot} {st0 rest : List Value} {a : Array Value} (hI : mm_I base ad D ca s h0l h0s h H locs cells slots) (g1 : h.length ≤ h'.length) (g2 : mm_sz h ≤ mm_sz h')
    (hr : va_Run p l e R s m args below meth c H locs cells slots (h'.length - h.length) (mm_sz h' - mm_sz h) (F0 m pc lr st0) rest (mm_Qc base ad D ca r h' a) (fun q => base ≤ q))
    (kk : ∀ (H1 : Heap) (locs1 : List Loc) (cells1 slots1 : Nat), mm_I base ad D ca s h0l h0s h' H1 locs1 cells1 slots1 → W p l e R s m args below meth c H1 locs1 cells1 slots1 Q (F0 m (pc + 3) lr ((r.map Value.int).toList ++ rest))) : W p l e R s m args below meth c H locs cells slots Q (F0 m pc lr st0) := by
  obtain ⟨i1, i2, i3, i4, i5⟩ := hI
  cases r with
  | none =>
    refine va_callv (a := a) (S := Unit) (post := fun _ => True) (B := fun _ t => t.heap.size = base + h'.length ∧ va_P D mm_cl (mm_rd ca ad base h') t.heap) (A1 := fun q => base ≤ q) hr i3 (fun q _ h => h) (fun q h => h) (fun u t H1 locs1 ht hal hp hB hz hk hS => ?_)
    rw [ht] at hB
    exact kk H1 locs1 _ _ ⟨hB.2, hB.1, hS, by omega, by omega⟩
  | some x =>
    refine va_calli (a := a) (S := Unit) (post := fun y _ => y = x) (B := fun _ t => t.heap.size = base + h'.length ∧ va_P D mm_cl (mm_rd ca ad base h') t.heap) (A1 := fun q => base ≤ q) hr i3 (fun q _ h => h) (fun q h => h) (fun r u t H1 locs1 ht hal hp hB hz hk hS => ?_)
    rw [ht] at hB
    subst hp
    exact kk H1 locs1 _ _ ⟨hB.2, hB.1, hS, by omega, by omega⟩
set_option maxHeartbeats 4000000 in
set_option maxRecDepth 20000 in
theorem mm_sim (had : ∀ k, ad (k + 3) = base + k) (M : mm_M) (d : Nat) (Ca : mm_R) (hCa : ∀ y as h r h', Ca y as h r h' → ∃ M', mm_mt[y]? = some M' ∧ mm_Mt l ro base ad D ca M' d as h r h') (Fx : mm_Fx ro base ad D ca p R s m args meth c M d) (hl hs h0l h0s : Nat) (hRc : hl ≤ R.cells + h0l) (hRs : hs ≤ R.slots + h0s) (K : Option Int32 → mm_H → Prop)
    (kI : ∀ (pc : Nat) (lr : Array Slot) (v : Int32) (h : mm_H) (H : Heap) (locs : List Loc) (cells slots : Nat), decode (mm_mb M) pc = .ok (.ireturn, 1) → (mm_mr M = some .int ∨ (mm_mr M = some .boolean ∧ (v = 0 ∨ v = 1))) → K (some v) h → mm_I base ad D ca s h0l h0s h H locs cells slots → W p l e R s m args below meth c H locs cells slots Q (F0 m pc lr [.int v]))
    (kV : ∀ (pc : Nat) (lr : Array Slot) (h : mm_H) (H : Heap) (locs : List Loc) (cells slots : Nat), decode (mm_mb M) pc = .ok (.return_, 1) → mm_mr M = none → K none h → mm_I base ad D ca s h0l h0s h H locs cells slots → W p l e R s m args below meth c H locs cells slots Q (F0 m pc lr [])) :
    ∀ (n pc : Nat) (ls : mm_L) (st : List mm_V) (h : mm_H) (H : Heap) (locs : List Loc) (cells slots : Nat) (lr : Array Slot), mm_wp ro Ca (mm_mr M) (mm_mk M) hl hs K n pc ls st h → mm_LH ad (mm_ml M) ls lr → mm_I base ad D ca s h0l h0s h H locs cells slots → W p l e R s m args below meth c H locs cells slots Q (F0 m pc lr (st.map (mm_rv ad))) := by
  obtain ⟨hx, hb, hml, hown, hts, hname, hchk, hkk, hE, hbs, hRf, hRl⟩ := Fx
  intro n
  induction n with
  | zero => intro pc ls st h H locs cells slots lr hw; exact False.elim hw
  | succ n ih =>
  intro pc ls st h H locs cells slots lr hw hLS hI
  obtain ⟨i, len, a, b, cx, w, hat, hw⟩ := hw
  have hmem : (pc, i, len, a, b, cx, w) ∈ mm_mk M := List.mem_of_find?_eq_some hat
  have he := List.all_eq_true.mp hchk _ hmem
  have hkd := List.all_eq_true.mp hkk _ hmem
  unfold mm_chk at he
  rw [Bool.and_eq_true] at he
  obtain ⟨hd0, he⟩ := he
  have hd : decode (mm_mb M) pc = .ok (i, len) := of_decide_eq_true hd0
  clear hd0 hat hmem
  cases i with
  | iconst v =>
    have hlen : len = 1 := of_decide_eq_true he
    subst hlen
    exact lv_iconst hx hb hd rfl (ih _ _ _ _ _ _ _ _ _ hw hLS hI)
  | bipush v =>
    have hlen : len = 2 := of_decide_eq_true he
    subst hlen
    exact lv_bipush hx hb hd rfl (ih _ _ _ _ _ _ _ _ _ hw hLS hI)
  | sipush v =>
    have hlen : len = 3 := of_decide_eq_true he
    subst hlen
    exact lv_sipush hx hb hd rfl (ih _ _ _ _ _ _ _ _ _ hw hLS hI)
  | ldc k =>
    rw [Bool.and_eq_true] at he
    have hlen : len = 2 := of_decide_eq_true he.1
    subst hlen
    exact lv_ldc hx hb hown (hts _ (mm_gw (of_decide_eq_true he.2) rfl)) hd (ih _ _ _ _ _ _ _ _ _ hw hLS hI)
  | iload_n k =>
    have hlen : len = 1 := of_decide_eq_true he
    subst hlen
    obtain ⟨x, hk, hg⟩ := hw
    exact lv_iload_n hx hb hd rfl (hLS.2.2.2 _ _ hk) (ih _ _ _ _ _ _ _ _ _ hg hLS hI)
  | iload k =>
    have hlen : len = 2 := of_decide_eq_true he
    subst hlen
    obtain ⟨x, hk, hg⟩ := hw
    exact lv_iload hx hb hd (hLS.2.2.2 _ _ hk) (ih _ _ _ _ _ _ _ _ _ hg hLS hI)
  | aload_n k =>
    have hlen : len = 1 := of_decide_eq_true he
    subst hlen
    obtain ⟨x, hk, hg⟩ := hw
    exact lv_aload_n hx hb hd rfl (hLS.2.2.2 _ _ hk) (ih _ _ _ _ _ _ _ _ _ hg hLS hI)
  | istore_n k =>
    have hlen : len = 1 := of_decide_eq_true he
    subst hlen
    obtain ⟨x, s', rfl, hk, hg⟩ := hw
    exact lv_istore_n hx hb hd rfl hLS.has (hLS.2.2.1 ▸ hk) rfl (fun ls' h' => ih _ _ _ _ _ _ _ _ _ hg (hLS.put (v := .inl x) h') hI)
  | istore k =>
    have hlen : len = 2 := of_decide_eq_true he
    subst hlen
    obtain ⟨x, s', rfl, hk, hg⟩ := hw
    exact lv_istore hx hb hd hLS.has (hLS.2.2.1 ▸ hk) rfl (fun ls' h' => ih _ _ _ _ _ _ _ _ _ hg (hLS.put (v := .inl x) h') hI)
  | astore_n k =>
    have hlen : len = 1 := of_decide_eq_true he
    subst hlen
    obtain ⟨x, s', rfl, hk, hg⟩ := hw
    exact lv_astore_n hx hb hd rfl hLS.has (hLS.2.2.1 ▸ hk) rfl (fun ls' h' => ih _ _ _ _ _ _ _ _ _ hg (hLS.put (v := .inr (some x)) h') hI)
  | iinc k v =>
    have hlen : len = 3 := of_decide_eq_true he
    subst hlen
    obtain ⟨x, hk, hg⟩ := hw
    obtain ⟨j, hj⟩ := List.getElem?_of_mem (mm_al_mem (ad := ad) hk)
    exact lv_iinc hx hb hd hLS.has hj rfl (hLS.2.2.1 ▸ (List.getElem?_eq_some_iff.mp hk).1) rfl (fun ls' h' => ih _ _ _ _ _ _ _ _ _ hg (hLS.put (v := .inl (x + Int32.ofInt v)) h') hI)
  | iadd =>
    have hlen : len = 1 := of_decide_eq_true he
    subst hlen
    obtain ⟨x, y, s', rfl, hg⟩ := hw
    exact lv_iadd hx hb hd (ih _ _ _ _ _ _ _ _ _ hg hLS hI)
  | isub =>
    have hlen : len = 1 := of_decide_eq_true he
    subst hlen
    obtain ⟨x, y, s', rfl, hg⟩ := hw
    exact lv_isub hx hb hd (ih _ _ _ _ _ _ _ _ _ hg hLS hI)
  | imul =>
    have hlen : len = 1 := of_decide_eq_true he
    subst hlen
    obtain ⟨x, y, s', rfl, hg⟩ := hw
    exact lv_imul hx hb hd (ih _ _ _ _ _ _ _ _ _ hg hLS hI)
  | iand =>
    have hlen : len = 1 := of_decide_eq_true he
    subst hlen
    obtain ⟨x, y, s', rfl, hg⟩ := hw
    exact lv_iand hx hb hd (ih _ _ _ _ _ _ _ _ _ hg hLS hI)
  | ior =>
    have hlen : len = 1 := of_decide_eq_true he
    subst hlen
    obtain ⟨x, y, s', rfl, hg⟩ := hw
    exact lv_ior hx hb hd (ih _ _ _ _ _ _ _ _ _ hg hLS hI)
  | ixor =>
    have hlen : len = 1 := of_decide_eq_true he
    subst hlen
    obtain ⟨x, y, s', rfl, hg⟩ := hw
    exact lv_ixor hx hb hd (ih _ _ _ _ _ _ _ _ _ hg hLS hI)
  | ishl =>
    have hlen : len = 1 := of_decide_eq_true he
    subst hlen
    obtain ⟨x, y, s', rfl, hg⟩ := hw
    exact lv_ishl hx hb hd (ih _ _ _ _ _ _ _ _ _ hg hLS hI)
  | ishr =>
    have hlen : len = 1 := of_decide_eq_true he
    subst hlen
    obtain ⟨x, y, s', rfl, hg⟩ := hw
    exact lv_ishr hx hb hd (ih _ _ _ _ _ _ _ _ _ hg hLS hI)
  | idiv =>
    have hlen : len = 1 := of_decide_eq_true he
    subst hlen
    obtain ⟨x, y, s', rfl, hy, hg⟩ := hw
    exact lv_idiv hx hb hd hy (ih _ _ _ _ _ _ _ _ _ hg hLS hI)
  | irem =>
    have hlen : len = 1 := of_decide_eq_true he
    subst hlen
    obtain ⟨x, y, s', rfl, hy, hg⟩ := hw
    exact lv_irem hx hb hd hy (ih _ _ _ _ _ _ _ _ _ hg hLS hI)
  | ineg =>
    have hlen : len = 1 := of_decide_eq_true he
    subst hlen
    obtain ⟨x, s', rfl, hg⟩ := hw
    exact lv_ineg hx hb hd (ih _ _ _ _ _ _ _ _ _ hg hLS hI)
  | dup =>
    have hlen : len = 1 := of_decide_eq_true he
    subst hlen
    obtain ⟨v, s', rfl, hg⟩ := hw
    exact lv_dup hx hb hd (mm_cat ad v) (ih _ _ _ _ _ _ _ _ _ hg hLS hI)
  | pop =>
    have hlen : len = 1 := of_decide_eq_true he
    subst hlen
    obtain ⟨v, s', rfl, hg⟩ := hw
    exact lv_pop hx hb hd (mm_cat ad v) (ih _ _ _ _ _ _ _ _ _ hg hLS hI)
  | dup2 =>
    have hlen : len = 1 := of_decide_eq_true he
    subst hlen
    obtain ⟨v, w2, s', rfl, hg⟩ := hw
    exact lv_dup2_11 hx hb hd (mm_cat ad v) (mm_cat ad w2) (ih _ _ _ _ _ _ _ _ _ hg hLS hI)
  | ifCond q off =>
    rw [Bool.and_eq_true] at he
    have hlen : len = 3 := of_decide_eq_true he.2
    have ht := of_decide_eq_true he.1
    subst hlen
    obtain ⟨x, s', rfl, hg1, hg2⟩ := hw
    cases q with
    | eq => exact lv_if_eq hx hb hd ht (fun hq => ih _ _ _ _ _ _ _ _ _ (hg1 hq) hLS hI) (fun hq => ih _ _ _ _ _ _ _ _ _ (hg2 hq) hLS hI)
    | ne => exact lv_if_ne hx hb hd ht (fun hq => ih _ _ _ _ _ _ _ _ _ (hg1 hq) hLS hI) (fun hq => ih _ _ _ _ _ _ _ _ _ (hg2 (fun z => z hq)) hLS hI)
    | lt => exact lv_if_lt hx hb hd ht (fun hq => ih _ _ _ _ _ _ _ _ _ (hg1 hq) hLS hI) (fun hq => ih _ _ _ _ _ _ _ _ _ (hg2 hq) hLS hI)
    | ge => exact lv_if_ge hx hb hd ht (fun hq => ih _ _ _ _ _ _ _ _ _ (hg1 hq) hLS hI) (fun hq => ih _ _ _ _ _ _ _ _ _ (hg2 hq) hLS hI)
    | gt => exact lv_if_gt hx hb hd ht (fun hq => ih _ _ _ _ _ _ _ _ _ (hg1 hq) hLS hI) (fun hq => ih _ _ _ _ _ _ _ _ _ (hg2 hq) hLS hI)
    | le => exact lv_if_le hx hb hd ht (fun hq => ih _ _ _ _ _ _ _ _ _ (hg1 hq) hLS hI) (fun hq => ih _ _ _ _ _ _ _ _ _ (hg2 hq) hLS hI)
  | if_icmp q off =>
    rw [Bool.and_eq_true] at he
    have hlen : len = 3 := of_decide_eq_true he.2
    have ht := of_decide_eq_true he.1
    subst hlen
    obtain ⟨x, y, s', rfl, hg1, hg2⟩ := hw
    cases q with
    | eq => exact lv_icmp_eq hx hb hd ht (fun hq => ih _ _ _ _ _ _ _ _ _ (hg1 hq) hLS hI) (fun hq => ih _ _ _ _ _ _ _ _ _ (hg2 hq) hLS hI)
    | ne => exact lv_icmp_ne hx hb hd ht (fun hq => ih _ _ _ _ _ _ _ _ _ (hg1 hq) hLS hI) (fun hq => ih _ _ _ _ _ _ _ _ _ (hg2 (fun z => z hq)) hLS hI)
    | lt => exact lv_icmp_lt hx hb hd ht (fun hq => ih _ _ _ _ _ _ _ _ _ (hg1 hq) hLS hI) (fun hq => ih _ _ _ _ _ _ _ _ _ (hg2 hq) hLS hI)
    | ge => exact lv_icmp_ge hx hb hd ht (fun hq => ih _ _ _ _ _ _ _ _ _ (hg1 hq) hLS hI) (fun hq => ih _ _ _ _ _ _ _ _ _ (hg2 hq) hLS hI)
    | gt => exact lv_icmp_gt hx hb hd ht (fun hq => ih _ _ _ _ _ _ _ _ _ (hg1 hq) hLS hI) (fun hq => ih _ _ _ _ _ _ _ _ _ (hg2 hq) hLS hI)
    | le => exact lv_icmp_le hx hb hd ht (fun hq => ih _ _ _ _ _ _ _ _ _ (hg1 hq) hLS hI) (fun hq => ih _ _ _ _ _ _ _ _ _ (hg2 hq) hLS hI)
  | goto off =>
    rw [Bool.and_eq_true] at he
    have hlen : len = 3 := of_decide_eq_true he.2
    have ht := of_decide_eq_true he.1
    subst hlen
    exact lv_goto hx hb hd ht (ih _ _ _ _ _ _ _ _ _ hw hLS hI)
  | tableswitch dd lo hi offs =>
    obtain ⟨x, s', rfl, hg1, hg2⟩ := hw
    by_cases hr : x.toInt < lo ∨ hi < x.toInt
    · obtain ⟨t, ht, hg⟩ := hg1 hr
      exact lv_tableOut hx hb hd hr ht (ih _ _ _ _ _ _ _ _ _ hg hLS hI)
    · obtain ⟨o, t, ho, ht, hg⟩ := hg2 hr
      exact lv_tableIn hx hb hd (fun z => hr (Or.inl z)) (fun z => hr (Or.inr z)) ho ht (ih _ _ _ _ _ _ _ _ _ hg hLS hI)
  | getfield k =>
    rw [Bool.and_eq_true] at he
    have hlen : len = 3 := of_decide_eq_true he.2
    subst hlen
    obtain ⟨C, T, N, hca, hbN, hlk⟩ := mm_fok he.1
    obtain ⟨r, fs, v, s', rfl, hr, hv, hg⟩ := hw
    obtain ⟨k1, -, -⟩ := mm_ck a _ hca
    exact va_get (D := D) (cl := mm_cl) (tys := mm_tys ca) (ref := (T b).1) (Ts := mm_GW) hx hb hts k1 hown hE.1 hI.1 r (mm_look had hr) hca b hbN (hts _ (mm_gw hlk rfl)) (fun _ h9 => h9) (v := mm_rv ad v) (by rw [List.getElem?_map, hv]; rfl) hd (ih _ _ _ _ _ _ _ _ _ hg hLS hI)
  | putfield k =>
    rw [Bool.and_eq_true, Bool.and_eq_true] at he
    have hlen : len = 3 := of_decide_eq_true he.2
    subst hlen
    obtain ⟨C, T, N, hca, hbN, hlk⟩ := mm_fok he.1.1
    obtain ⟨r, fs, v, s', rfl, hr, hbl, hfit, hg⟩ := hw
    obtain ⟨k1, ⟨ty0, k2, -⟩, k3, -⟩ := mm_ck a _ hca
    have hbl' : b < (fs.map (mm_rv ad)).length := by rw [List.length_map]; exact hbl
    have hset : (mm_rd ca ad base h).set r (ad (r + 3), .inr (a, (fs.map (mm_rv ad)).set b (mm_rv ad v))) = mm_rd ca ad base (h.set r (.inl (a, fs.set b v))) := by
      rw [← mm_rset had]
      show _ = List.set _ _ (_, Sum.inr (a, (fs.set b v).map (mm_rv ad)))
      rw [List.map_set]
    have hsz : mm_sz (h.set r (.inl (a, fs.set b v))) = mm_sz h := mm_sset hr (by simp [mm_csz])
    have hpc := he.1.2
    have hgo : ∀ (H1 : Heap) (locs1 : List Loc), H1.size = H.size → va_P D mm_cl ((mm_rd ca ad base h).set r (ad (r + 3), .inr (a, (fs.map (mm_rv ad)).set b (mm_rv ad v)))) H1 → va_S (fun q => base ≤ q) s.heap H1 locs1 → W p l e R s m args below meth c H1 locs1 cells slots Q (F0 m (pc + 3) lr (s'.map (mm_rv ad))) := fun H1 locs1 z hP1 hS1 => ih _ _ _ _ _ _ _ _ _ hg hLS ⟨by rw [← hset]; exact hP1, by rw [z, hI.2.1, List.length_set], hS1, by rw [List.length_set]; exact hI.2.2.2.1, by rw [hsz]; exact hI.2.2.2.2⟩
    match cx, hfit, hpc with
    | 0, hfit, hpc =>
      obtain ⟨x, rfl⟩ := hfit
      simp only [mm_pchk, hca, Bool.and_eq_true, decide_eq_true_eq, Bool.not_eq_true'] at hpc
      exact mm_vput (D := D) (cl := mm_cl) (tys := mm_tys ca) (ref := (T b).1) (Ts := mm_GW) (ty := .int) (v := .int x) hx hb hts k1 ty0 k2 k3 hown hE.1 hI.1 mm_rD hI.2.2.1 r (mm_look had hr) hca b hbN (hts _ (mm_gw hlk rfl)) (fun _ h9 => h9) hpc.2 (by rw [hpc.1]; decide +kernel) rfl rfl hbl' hd hgo
    | 1, hfit, hpc =>
      simp only [mm_pchk, hca, Bool.and_eq_true, decide_eq_true_eq, Bool.not_eq_true'] at hpc
      rcases hfit with rfl | rfl
      · exact mm_vput (D := D) (cl := mm_cl) (tys := mm_tys ca) (ref := (T b).1) (Ts := mm_GW) (ty := .boolean) (v := .int 0) hx hb hts k1 ty0 k2 k3 hown hE.1 hI.1 mm_rD hI.2.2.1 r (mm_look had hr) hca b hbN (hts _ (mm_gw hlk rfl)) (fun _ h9 => h9) hpc.2 (by rw [hpc.1]; decide +kernel) rfl (by decide +kernel) hbl' hd hgo
      · exact mm_vput (D := D) (cl := mm_cl) (tys := mm_tys ca) (ref := (T b).1) (Ts := mm_GW) (ty := .boolean) (v := .int 1) hx hb hts k1 ty0 k2 k3 hown hE.1 hI.1 mm_rD hI.2.2.1 r (mm_look had hr) hca b hbN (hts _ (mm_gw hlk rfl)) (fun _ h9 => h9) hpc.2 (by rw [hpc.1]; decide +kernel) (by decide +kernel) (by decide +kernel) hbl' hd hgo
    | n9 + 2, hfit, hpc =>
      obtain ⟨q9, rfl⟩ := hfit
      simp only [mm_pchk, hca, Bool.and_eq_true, decide_eq_true_eq] at hpc
      obtain ⟨⟨⟨⟨-, f1⟩, f2⟩, f3⟩, f4⟩ := hpc
      obtain ⟨t9, ht9, hr9⟩ := mm_rty f4
      obtain ⟨g1, g2⟩ := mm_rfit hr9 (ad q9)
      exact mm_vputF (D := D) (cl := mm_cl) (tys := mm_tys ca) (ref := (T b).1) (Ts := mm_GW) (ty := t9) (v := .ref (ad q9)) hx hb hts k1 ty0 k2 k3 hown hE.1 hI.1 mm_rD hI.2.2.1 r (mm_look had hr) hca b hbN (hts _ (mm_gw hlk rfl)) (fun _ h9 => h9) f1 (hname f3) f2 ht9 g1 g2 hbl' hd hgo
  | getstatic k =>
    rw [Bool.and_eq_true, Bool.and_eq_true] at he
    have hlen : len = 3 := of_decide_eq_true he.1.1
    have hcs : (mm_mn M).cls = "LineMap$Search" := of_decide_eq_true he.1.2
    subst hlen
    obtain ⟨-, hg⟩ := hw
    have h3 := he.2
    rw [Bool.or_eq_true, Bool.and_eq_true, Bool.and_eq_true] at h3
    rw [hcs] at hown
    rcases h3 with ⟨h31, h32⟩ | ⟨h31, h32⟩
    · have e1 : a = 1 := of_decide_eq_true h31
      have e2 : k = 123 := of_decide_eq_true h32
      subst e1; subst e2
      exact va_getsN (host := "LineMap") hx hb hE.2.2.2.2.2.2.2.2.1 hI.2.2.1 hown (va_Nw.use rfl hE.2.2.2.1) (fun _ h9 => h9) hd (ih _ _ _ _ _ _ _ _ _ hg hLS hI)
    · have e1 : a = 2 := of_decide_eq_true h31
      have e2 : k = 126 := of_decide_eq_true h32
      subst e1; subst e2
      exact va_getsN (host := "LineMap") hx hb hE.2.2.2.2.2.2.2.2.2 hI.2.2.1 hown (va_Nw.use rfl hE.2.2.2.2.1) (fun _ h9 => h9) hd (ih _ _ _ _ _ _ _ _ _ hg hLS hI)
  | iaload =>
    have hlen : len = 1 := of_decide_eq_true he
    subst hlen
    obtain ⟨i, r, s', rfl, ⟨hr3, hin, hg⟩ | ⟨q, xs, rfl, hq, hin, hg⟩⟩ := hw
    · exact va_ti hx hb (hE.2.2.2.2.2.2.2.1 r hr3) hI.2.2.1 hin rfl hd (ih _ _ _ _ _ _ _ _ _ hg hLS hI)
    · exact va_iald (D := D) (cl := mm_cl) (tys := mm_tys ca) hx hb hE.1 hI.1 q 0 (mm_look had hq) rfl hin hd (ih _ _ _ _ _ _ _ _ _ hg hLS hI)
  | arraylength =>
    have hlen : len = 1 := of_decide_eq_true he
    subst hlen
    obtain ⟨r, s', rfl, ⟨hr3, hg⟩ | ⟨q, xs, rfl, hq, hg⟩⟩ := hw
    · exact va_tlen hx hb (hE.2.2.2.2.2.2.2.1 r hr3) hI.2.2.1 rfl hd (ih _ _ _ _ _ _ _ _ _ hg hLS hI)
    · exact va_alen (D := D) (cl := mm_cl) (tys := mm_tys ca) hx hb hE.1 hI.1 q 0 (mm_look had hq) rfl rfl hd (ih _ _ _ _ _ _ _ _ _ hg hLS hI)
  | baload =>
    have hlen : len = 1 := of_decide_eq_true he
    subst hlen
    obtain ⟨i, r, s', xs, rfl, hq, hin, hg⟩ := hw
    exact va_zald (D := D) (cl := mm_cl) (tys := mm_tys ca) hx hb hE.1 hI.1 r 1 (mm_look had hq) rfl hin hd (ih _ _ _ _ _ _ _ _ _ hg hLS hI)
  | aaload =>
    have hlen : len = 1 := of_decide_eq_true he
    subst hlen
    obtain ⟨i, r, s', z, xs, rfl, hq, hin, hg⟩ := hw
    cases z with
    | false => exact mm_aald (D := D) (cl := mm_cl) (tys := mm_tys ca) hx hb hE.1 hI.1 r 3 (mm_look had hq) rfl rfl hin hd (ih _ _ _ _ _ _ _ _ _ hg hLS hI)
    | true => exact mm_aald (D := D) (cl := mm_cl) (tys := mm_tys ca) hx hb hE.1 hI.1 r 2 (mm_look had hq) rfl rfl hin hd (ih _ _ _ _ _ _ _ _ _ hg hLS hI)
  | iastore =>
    have hlen : len = 1 := of_decide_eq_true he
    subst hlen
    obtain ⟨x, i, r, s', xs, rfl, hq, hin, hg⟩ := hw
    have hlt : i.toNatClampNeg < xs.length := Nat.not_le.mp fun z => hin (Or.inr z)
    refine mm_viast (D := D) (cl := mm_cl) (tys := mm_tys ca) hx hb hE.1 hI.1 mm_rD hI.2.2.1 r 0 (mm_look had hq) rfl hin hd fun H1 locs1 z hP1 hS1 => ?_
    have hset : (mm_rd ca ad base h).set r (ad (r + 3), .inl (ca 0, xs.length, .inl (upd (fun j => xs.getD j 0) i.toNatClampNeg x))) = mm_rd ca ad base (h.set r (.inr (.inl (false, xs.set i.toNatClampNeg x)))) := by
      rw [← mm_rset had]
      show _ = List.set _ _ (_, Sum.inl (ca 0, (xs.set i.toNatClampNeg x).length, Sum.inl (fun j => (xs.set i.toNatClampNeg x).getD j 0)))
      rw [List.length_set, mm_updl hlt]
    exact ih _ _ _ _ _ _ _ _ _ hg hLS ⟨by rw [← hset]; exact hP1, by rw [z, hI.2.1, List.length_set], hS1, by rw [List.length_set]; exact hI.2.2.2.1, by rw [mm_sset hq (by simp [mm_csz])]; exact hI.2.2.2.2⟩
  | bastore =>
    have hlen : len = 1 := of_decide_eq_true he
    subst hlen
    obtain ⟨x, i, r, s', xs, rfl, hq, hin, hg⟩ := hw
    have hlt : i.toNatClampNeg < xs.length := Nat.not_le.mp fun z => hin (Or.inr z)
    refine mm_vzast (D := D) (cl := mm_cl) (tys := mm_tys ca) hx hb hE.1 hI.1 mm_rD hI.2.2.1 r 1 (mm_look had hq) rfl hin hd fun H1 locs1 z hP1 hS1 => ?_
    have hset : (mm_rd ca ad base h).set r (ad (r + 3), .inl (ca 1, xs.length, .inl (upd (fun j => xs.getD j 0) i.toNatClampNeg (vp_nar .boolean x)))) = mm_rd ca ad base (h.set r (.inr (.inl (true, xs.set i.toNatClampNeg (vp_nar .boolean x))))) := by
      rw [← mm_rset had]
      show _ = List.set _ _ (_, Sum.inl (ca 1, (xs.set i.toNatClampNeg (vp_nar .boolean x)).length, Sum.inl (fun j => (xs.set i.toNatClampNeg (vp_nar .boolean x)).getD j 0)))
      rw [List.length_set, mm_updl hlt]
    exact ih _ _ _ _ _ _ _ _ _ hg hLS ⟨by rw [← hset]; exact hP1, by rw [z, hI.2.1, List.length_set], hS1, by rw [List.length_set]; exact hI.2.2.2.1, by rw [mm_sset hq (by simp [mm_csz])]; exact hI.2.2.2.2⟩
  | aastore =>
    have hlen : len = 1 := of_decide_eq_true he
    subst hlen
    obtain ⟨v, i, r, s', xs, vs, rfl, hq, hv, hin, hg⟩ := hw
    have hlt : i.toNatClampNeg < xs.length := Nat.not_le.mp fun z => hin (Or.inr z)
    refine mm_vastq (D := D) (cl := mm_cl) (tys := mm_tys ca) hx hb hE.1 hI.1 mm_rD hI.2.2.1 r 2 v 3 (mm_look had hq) rfl (mm_look had hv) rfl hin hd fun H1 locs1 z hP1 hS1 => ?_
    have hset : (mm_rd ca ad base h).set r (ad (r + 3), .inl (ca 2, xs.length, .inr (.inr (.inr (.inr (va_up (fun j => (xs.getD j none).map ad) i.toNatClampNeg (some (ad (v + 3))))))))) = mm_rd ca ad base (h.set r (.inr (.inr (true, xs.set i.toNatClampNeg (some (v + 3)))))) := by
      rw [← mm_rset had]
      show _ = List.set _ _ (_, Sum.inl (ca 2, (xs.set i.toNatClampNeg (some (v + 3))).length, Sum.inr (Sum.inr (Sum.inr (Sum.inr (fun j => ((xs.set i.toNatClampNeg (some (v + 3))).getD j none).map ad))))))
      rw [List.length_set, mm_updr hlt]
    exact ih _ _ _ _ _ _ _ _ _ hg hLS ⟨by rw [← hset]; exact hP1, by rw [z, hI.2.1, List.length_set], hS1, by rw [List.length_set]; exact hI.2.2.2.1, by rw [mm_sset hq (by simp [mm_csz])]; exact hI.2.2.2.2⟩
  | new k =>
    rw [Bool.and_eq_true] at he
    have hlen : len = 3 := of_decide_eq_true he.1
    subst hlen
    obtain ⟨g1, g2, hg⟩ := hw
    have h2 := he.2
    cases hca : mm_cl[a]? with
    | none => simp [hca] at h2
    | some q =>
      obtain ⟨C, T, N⟩ := q
      simp only [hca, Bool.and_eq_true, decide_eq_true_eq] at h2
      obtain ⟨k1, ⟨ty0, k2, k4⟩, k3, k5, k6⟩ := mm_ck a _ hca
      obtain ⟨hc1, hc2⟩ := hI.2.2.2
      have hN : (mm_defs a).length = N := h2.2
      refine mm_vnew (C := C) (T := T) (N := N) (D := D) (cl := mm_cl) (tys := mm_tys ca) (ci := a) (Ts := mm_GW) (fs := (mm_defs a).map (mm_rv ad)) hx hb hts k1 ty0 k2 hown (hts _ (mm_gw h2.1 rfl)) (hts _ k5) (hts _ k6) hE.1 hI.1 hI.2.2.1 hca (k4 ad) (by omega) (by omega) hd fun H1 z hP1 hS1 => ?_
      have e1 : H.size = ad (h.length + 3) := by rw [had, hI.2.1]
      rw [e1]
      refine ih _ _ _ _ _ _ _ _ _ hg hLS ⟨?_, by rw [z, hI.2.1, List.length_append]; rfl, hS1, by rw [List.length_append]; simp; omega, by rw [mm_spush]; simp [mm_csz, hN]; omega⟩
      rw [mm_rpush, ← hI.2.1]
      exact hP1
  | newarray t =>
    have hlen : len = 2 := of_decide_eq_true he
    subst hlen
    obtain ⟨i, s', rfl, ht, hi, hib, g1, g2, hg⟩ := hw
    obtain ⟨hc1, hc2⟩ := hI.2.2.2
    have e1 : H.size = ad (h.length + 3) := by rw [had, hI.2.1]
    rcases ht with rfl | rfl
    · refine mm_vnewa (atype := .int) (D := D) (cl := mm_cl) (cA := ca 0) (a0 := (i.toNatClampNeg, .inl (fun _ => 0))) hx hb (hts _ (mm_gw mm_arr.1 rfl)) (hE.1.2 0 _ rfl).2 hI.1 hI.2.2.1 (fun cA => rfl) hi (by simp only [newarray.typeOf, componentBytes]; omega) (by omega) (by omega) hd fun H1 z hP1 hS1 => ?_
      rw [e1]
      refine ih _ _ _ _ _ _ _ _ _ hg hLS ⟨?_, by rw [z, hI.2.1, List.length_append]; rfl, hS1, by rw [List.length_append]; simp; omega, by rw [mm_spush]; simp [mm_csz]; omega⟩
      rw [mm_rpush, ← hI.2.1]
      have e2 : mm_rc ca ad (.inr (.inl (decide (ArrayType.int = ArrayType.boolean), List.replicate i.toNatClampNeg 0))) = .inl (ca 0, i.toNatClampNeg, .inl (fun _ => 0)) := by
        show Sum.inl (ca 0, (List.replicate i.toNatClampNeg (0 : Int32)).length, Sum.inl (fun j => (List.replicate i.toNatClampNeg (0 : Int32)).getD j 0)) = _
        rw [List.length_replicate, mm_rep0]
      rw [e2]
      exact hP1
    · refine mm_vnewa (atype := .boolean) (D := D) (cl := mm_cl) (cA := ca 1) (a0 := (i.toNatClampNeg, .inl (fun _ => 0))) hx hb (hts _ (mm_gw mm_arr.2.1 rfl)) (hE.1.2 1 _ rfl).2 hI.1 hI.2.2.1 (fun cA => rfl) hi (by simp only [newarray.typeOf, componentBytes]; omega) (by omega) (by omega) hd fun H1 z hP1 hS1 => ?_
      rw [e1]
      refine ih _ _ _ _ _ _ _ _ _ hg hLS ⟨?_, by rw [z, hI.2.1, List.length_append]; rfl, hS1, by rw [List.length_append]; simp; omega, by rw [mm_spush]; simp [mm_csz]; omega⟩
      rw [mm_rpush, ← hI.2.1]
      have e2 : mm_rc ca ad (.inr (.inl (decide (ArrayType.boolean = ArrayType.boolean), List.replicate i.toNatClampNeg 0))) = .inl (ca 1, i.toNatClampNeg, .inl (fun _ => 0)) := by
        show Sum.inl (ca 1, (List.replicate i.toNatClampNeg (0 : Int32)).length, Sum.inl (fun j => (List.replicate i.toNatClampNeg (0 : Int32)).getD j 0)) = _
        rw [List.length_replicate, mm_rep0]
      rw [e2]
      exact hP1
  | anewarray k =>
    rw [Bool.and_eq_true] at he
    have hlen : len = 3 := of_decide_eq_true he.1
    subst hlen
    obtain ⟨i, s', rfl, hi, hib, g1, g2, hg⟩ := hw
    obtain ⟨hc1, hc2⟩ := hI.2.2.2
    have e1 : H.size = ad (h.length + 3) := by rw [had, hI.2.1]
    obtain ⟨kA, comp, -, -, -, hcA⟩ := (hE.1.2 2 _ rfl).2
    refine mm_vnewq (D := D) (cl := mm_cl) (cA := ca 2) hx hb hown (hts _ (mm_gw (of_decide_eq_true he.2) rfl)) hE.2.2.2.2.2.2.1 hcA hI.1 hI.2.2.1 hi (by omega) (by omega) (by omega) hd fun H1 z hP1 hS1 => ?_
    rw [e1]
    refine ih _ _ _ _ _ _ _ _ _ hg hLS ⟨?_, by rw [z, hI.2.1, List.length_append]; rfl, hS1, by rw [List.length_append]; simp; omega, by rw [mm_spush]; simp [mm_csz]; omega⟩
    rw [mm_rpush, ← hI.2.1]
    have e2 : mm_rc ca ad (.inr (.inr (true, List.replicate i.toNatClampNeg none))) = .inl (ca 2, i.toNatClampNeg, .inr (.inr (.inr (.inr (fun _ => none))))) := by
      show Sum.inl (ca 2, (List.replicate i.toNatClampNeg (none : Option Nat)).length, Sum.inr (Sum.inr (Sum.inr (Sum.inr (fun j => ((List.replicate i.toNatClampNeg (none : Option Nat)).getD j none).map ad))))) = _
      rw [List.length_replicate, mm_repn]
    rw [e2]
    exact hP1
  | multianewarray k dm =>
    rw [Bool.and_eq_true, Bool.and_eq_true] at he
    have hlen : len = 4 := of_decide_eq_true he.1.1
    have hdm : dm = 2 := of_decide_eq_true he.1.2
    subst hlen; subst hdm
    obtain ⟨n1, k1, s', rfl, hn, hk, hnb, hkb, g1, g2, hg⟩ := hw
    obtain ⟨hc1, hc2⟩ := hI.2.2.2
    have e1 : H.size = ad (h.length + 3) := by rw [had, hI.2.1]
    refine mm_vmna (D := D) (cl := mm_cl) (cA := ca 3) (cy := ca 0) hx hb hown (hts _ (mm_gw (of_decide_eq_true he.2) rfl)) hE.2.2.2.2.2.1 (hts _ (mm_gw mm_arr.1 rfl)) (hE.1.2 3 _ rfl).2 (hE.1.2 0 _ rfl).2 hI.1 hI.2.2.1 hn hk (by omega) (by omega) (by omega) (by omega) hd fun H1 z hP1 hS1 => ?_
    have e3 : (h ++ mm_rows n1.toNatClampNeg k1.toNatClampNeg (h.length + 3)).length = h.length + 1 + n1.toNatClampNeg := by
      rw [List.length_append]; simp [mm_rows]; omega
    have e4 : mm_sz (h ++ mm_rows n1.toNatClampNeg k1.toNatClampNeg (h.length + 3)) = mm_sz h + n1.toNatClampNeg + n1.toNatClampNeg * k1.toNatClampNeg := mm_srows
    have e5 := mm_rrows (ca := ca) (ad := ad) (base := base) (h := h) (n := n1.toNatClampNeg) (k := k1.toNatClampNeg) had
    rw [← hI.2.1] at e5
    have hst : (F0 m (pc + 4) lr (.ref H.size :: s'.map (mm_rv ad))) = F0 m (pc + 4) lr ((.inr (some (h.length + 3)) :: s').map (mm_rv ad)) := by rw [e1]; rfl
    have hgo := ih _ _ _ _ H1 locs (cells + 1 + n1.toNatClampNeg) (slots + n1.toNatClampNeg + n1.toNatClampNeg * k1.toNatClampNeg) lr hg hLS ⟨by rw [e5]; exact hP1, by rw [z, hI.2.1, e3]; omega, hS1, by rw [e3]; omega, by rw [e4]; omega⟩
    rw [← hst] at hgo
    exact hgo
  | invokevirtual k =>
    rw [Bool.and_eq_true] at he
    have hlen : len = 3 := of_decide_eq_true he.1
    subst hlen
    obtain ⟨as, r, s', fs, ci, rv, h', rfl, hn, hs8, hr, hci, hcall, g1, g2, g3, g4, hg⟩ := hw
    obtain ⟨M', hM', hMet⟩ := hCa _ _ _ _ _ hcall
    have h2 := he.2
    rw [mm_nsof hM'] at h2
    simp only [Bool.and_eq_true, decide_eq_true_eq] at h2
    obtain ⟨⟨hlk, hnc⟩, hcc⟩ := h2
    have hnc : (parseMethodDescriptor (mm_mn M').desc).map (fun d => d.parameters.length) = some b := of_decide_eq_true hnc
    have hkq : (mm_mt[a]?).map (fun M => mm_mq M) = some 0 := of_decide_eq_true hkd
    rw [hM'] at hkq
    have hq : mm_mq M' = 0 := Option.some.inj hkq
    obtain ⟨m1, m2, m3, m4, m5, m6, m7, m8, m9, -⟩ := mm_mf hM'
    obtain ⟨i4, i5⟩ := hI.2.2.2
    subst hci
    obtain ⟨qc, hqc, hqn⟩ := Option.map_eq_some_iff.mp hcc
    have hst : (as.reverse ++ .inr (some (r + 3)) :: s').map (mm_rv ad) = (as.map (mm_rv ad)).reverse ++ .ref (ad (r + 3)) :: s'.map (mm_rv ad) := by
      rw [List.map_append, List.map_reverse]; rfl
    rw [hst]
    refine mm_post hI g1 g2 (va_runV (Ts := mm_GW) (own := (mm_mn M).cls) (C := (mm_mn M').cls) (n := b) (As := as.map (mm_rv ad)) ⟨hx, hb, hml, hown, hts⟩ hMet ⟨callB_of b hts (mm_wsin hM') rfl rfl rfl (hts _ m4) (hts _ (mm_gw hlk rfl)) ⟨m7, m8, hnc⟩ ⟨hRf, by show 8 + (mm_ml M' + 11) + 64 * d ≤ R.locals; omega⟩, hts _ (m9 hq).1, hts _ (m9 hq).2⟩ ⟨mm_blind, by rw [← hqn]; exact va_recv hE.1 hI.1 hqc (mm_look had hr), mm_pre (as := .inr (some (r + 3)) :: as) hE hbs hI⟩ rfl (by rw [List.length_map]; exact hn) hLS.1 rfl (lv_room (mm_csum hs8)) hd ⟨by omega, by omega⟩) (fun H1 locs1 cells1 slots1 hI1 => ?_)
    have h9 := ih _ _ _ _ H1 locs1 cells1 slots1 lr hg hLS hI1
    rw [List.map_append] at h9
    cases rv <;> exact h9
  | invokestatic k =>
    rw [Bool.and_eq_true] at he
    have hlen : len = 3 := of_decide_eq_true he.1
    subst hlen
    have h2 := he.2
    obtain ⟨i4, i5⟩ := hI.2.2.2
    have gen : (∃ as s' rv h', st = as.reverse ++ s' ∧ as.length = b ∧ s'.length ≤ 8 ∧ Ca a as h rv h' ∧ h.length ≤ h'.length ∧ mm_sz h ≤ mm_sz h' ∧ h'.length ≤ hl ∧ mm_sz h' ≤ hs ∧ mm_wp ro Ca (mm_mr M) (mm_mk M) hl hs K n (pc + 3) ls ((rv.map Sum.inl).toList ++ s') h') → decide ((mm_mt[a]?).map (fun M => mm_mq M) = some 1) = true → (∀ M', mm_mt[a]? = some M' → mm_nchk (mm_mn M') b = true ∧ ((cx = 0 ∧ lw_tbl[w]? = some (.methodLink (mm_mn M).cls k (mm_mn M'))) ∨ ((mm_mn M).cls = "LineMap$Search" ∧ k = 129 ∧ mm_mn M' = ⟨"LineMap", "isWithin", "(III)Z"⟩))) → W p l e R s m args below meth c H locs cells slots Q (F0 m pc lr (st.map (mm_rv ad))) := by
      intro hw hkd hlks
      obtain ⟨as, s', rv, h', rfl, hn, hs8, hcall, g1, g2, g3, g4, hg⟩ := hw
      obtain ⟨M', hM', hMet⟩ := hCa _ _ _ _ _ hcall
      obtain ⟨hnc, hlks⟩ := hlks M' hM'
      have hnc : (parseMethodDescriptor (mm_mn M').desc).map (fun d => d.parameters.length) = some b := of_decide_eq_true hnc
      have hkq : (mm_mt[a]?).map (fun M => mm_mq M) = some 1 := of_decide_eq_true hkd
      rw [hM'] at hkq
      have hq : mm_mq M' = 1 := Option.some.inj hkq
      obtain ⟨m1, m2, m3, m4, m5, m6, m7, m8, -, m10, -⟩ := mm_mf hM'
      have hst : (as.reverse ++ s').map (mm_rv ad) = (as.map (mm_rv ad)).reverse ++ s'.map (mm_rv ad) := by
        rw [List.map_append, List.map_reverse]
      rw [hst]
      have fin : ∀ (H1 : Heap) (locs1 : List Loc) (cells1 slots1 : Nat), mm_I base ad D ca s h0l h0s h' H1 locs1 cells1 slots1 → W p l e R s m args below meth c H1 locs1 cells1 slots1 Q (F0 m (pc + 3) lr ((rv.map Value.int).toList ++ s'.map (mm_rv ad))) := fun H1 locs1 cells1 slots1 hI1 => by
        have h9 := ih _ _ _ _ H1 locs1 cells1 slots1 lr hg hLS hI1
        rw [List.map_append] at h9
        cases rv <;> exact h9
      rcases hlks with ⟨-, hlk⟩ | ⟨hcs, hk, hy⟩
      · exact mm_post hI g1 g2 (va_runS (Ts := mm_GW) (own := (mm_mn M).cls) (n := b) (As := as.map (mm_rv ad)) ⟨hx, hb, hml, hown, hts⟩ hMet ⟨callB_of b hts (mm_wsin hM') rfl rfl rfl (hts _ m4) (hts _ (mm_gw hlk rfl)) ⟨m7, m8, hnc⟩ ⟨hRf, by show 8 + (mm_ml M' + 11) + 64 * d ≤ R.locals; omega⟩, hts _ (m10 hq)⟩ ⟨mm_blind, mm_pre (as := as) hE hbs hI⟩ rfl (by rw [List.length_map]; exact hn) hLS.1 rfl (lv_room (mm_csum hs8)) hd ⟨by omega, by omega⟩) fin
      · subst hk
        rw [hcs] at hown
        have hnw := hE.2.2.1
        rw [← hy] at hnw
        exact mm_post hI g1 g2 (va_runSN (Ts := mm_GW) (own := "LineMap$Search") (host := "LineMap") (n := b) (As := as.map (mm_rv ad)) ⟨hx, hb, hml, hown, hts⟩ hMet ⟨va_cnB b hts (mm_wsin hM') rfl rfl rfl hnw (hts _ m4) ⟨m7, m8, hnc⟩ ⟨hRf, by show 8 + (mm_ml M' + 11) + 64 * d ≤ R.locals; omega⟩, hts _ (m10 hq), trivial⟩ ⟨mm_blind, mm_pre (as := as) hE hbs hI⟩ rfl (by rw [List.length_map]; exact hn) hLS.1 rfl (lv_room (mm_csum hs8)) hd ⟨by omega, by omega⟩) fin
    cases hna : mm_ns[a]? with
    | none => rw [hna] at h2; cases h2
    | some y0 =>
      rw [hna] at h2
      have hys : ∀ M', mm_mt[a]? = some M' → mm_mn M' = y0 := fun M' h9 => Option.some.inj ((mm_nsof h9).symm.trans hna)
      have mth : ∀ {x : MethodName}, lw_tbl[w]? = some (.methodLink (mm_mn M).cls k x) → (Cond.methodLink (mm_mn M).cls k x).before args s = true := fun h9 => hts _ (mm_gw h9 rfl)
      have hini := hts _ (mm_gw mm_math.2.2.2.2.2.2 rfl)
      by_cases c10 : cx = 10
      · subst c10
        obtain ⟨x, s', rfl, hs8, hl1, hl2, hg⟩ := hw
        have hc9 := mm_csum (ad := ad) hs8
        exact va_mabs hx hb (hml.trans hLS.1.symm) hown (mth (of_decide_eq_true h2)) (hts _ (mm_gw mm_math.1 rfl)) hini (hts _ (mm_gw mm_math.2.2.2.1 rfl)) (by omega) (by omega) (by omega) (by omega) hd (ih _ _ _ _ _ _ _ _ _ hg hLS hI)
      by_cases c11 : cx = 11
      · subst c11
        obtain ⟨x, y, s', rfl, hs8, hl1, hl2, hg⟩ := hw
        have hc9 := mm_csum (ad := ad) hs8
        exact va_mmax hx hb (hml.trans hLS.1.symm) hown (mth (of_decide_eq_true h2)) (hts _ (mm_gw mm_math.2.1 rfl)) hini (hts _ (mm_gw mm_math.2.2.2.2.1 rfl)) (by omega) (by omega) (by omega) (by omega) hd (ih _ _ _ _ _ _ _ _ _ hg hLS hI)
      by_cases c12 : cx = 12
      · subst c12
        obtain ⟨x, y, s', rfl, hs8, hl1, hl2, hg⟩ := hw
        have hc9 := mm_csum (ad := ad) hs8
        exact va_mmin hx hb (hml.trans hLS.1.symm) hown (mth (of_decide_eq_true h2)) (hts _ (mm_gw mm_math.2.2.1 rfl)) hini (hts _ (mm_gw mm_math.2.2.2.2.2.1 rfl)) (by omega) (by omega) (by omega) (by omega) hd (ih _ _ _ _ _ _ _ _ _ hg hLS hI)
      have hw2 : ∃ as s' rv h', st = as.reverse ++ s' ∧ as.length = b ∧ s'.length ≤ 8 ∧ Ca a as h rv h' ∧ h.length ≤ h'.length ∧ mm_sz h ≤ mm_sz h' ∧ h'.length ≤ hl ∧ mm_sz h' ≤ hs ∧ mm_wp ro Ca (mm_mr M) (mm_mk M) hl hs K n (pc + 3) ls ((rv.map Sum.inl).toList ++ s') h' := by
        unfold mm_one at hw
        dsimp only at hw
        split at hw <;> first | exact absurd rfl c10 | exact absurd rfl c11 | exact absurd rfl c12 | exact hw
      have hkd2 : decide ((mm_mt[a]?).map (fun M => mm_mq M) = some 1) = true := by
        unfold mm_kchk at hkd
        dsimp only at hkd
        split at hkd <;> first | exact absurd rfl c10 | exact absurd rfl c11 | exact absurd rfl c12 | exact hkd
      refine gen hw2 hkd2 fun M' hM' => ?_
      have hy := hys M' hM'
      simp only at h2
      split at h2
      · rw [Bool.and_eq_true] at h2
        rw [hy]
        exact ⟨h2.1, Or.inl ⟨rfl, of_decide_eq_true h2.2⟩⟩
      · exact absurd rfl c10
      · exact absurd rfl c11
      · exact absurd rfl c12
      · rw [Bool.and_eq_true, Bool.and_eq_true, Bool.and_eq_true] at h2
        obtain ⟨⟨⟨q1, q2⟩, q3⟩, q4⟩ := h2
        rw [hy]
        exact ⟨q1, Or.inr ⟨of_decide_eq_true q2, of_decide_eq_true q3, of_decide_eq_true q4⟩⟩
  | invokespecial k =>
    rw [Bool.and_eq_true] at he
    have hlen : len = 3 := of_decide_eq_true he.1
    subst hlen
    have h2 := he.2
    obtain ⟨i4, i5⟩ := hI.2.2.2
    by_cases c2 : cx = 2
    · subst c2
      obtain ⟨r, s', rfl, hs8, hg⟩ := hw
      have hc9 := mm_csum (ad := ad) hs8
      refine W.objInit hx hb hown (hts _ (mm_gw (of_decide_eq_true h2) rfl)) (hts _ (mm_gw mm_obj.1 rfl)) (hts _ (mm_gw mm_obj.2 rfl)) rfl (hLS.1.trans hml.symm) rfl hd (by omega) (by show 2 * 0 + _ + 12 ≤ _; omega) ?_
      exact ih _ _ _ _ _ _ _ _ _ hg hLS hI
    · have hw2 : ∃ as r s' h', st = as.reverse ++ .inr (some r) :: s' ∧ as.length = b ∧ s'.length ≤ 8 ∧ Ca a (.inr (some r) :: as) h none h' ∧ h.length ≤ h'.length ∧ mm_sz h ≤ mm_sz h' ∧ h'.length ≤ hl ∧ mm_sz h' ≤ hs ∧ mm_wp ro Ca (mm_mr M) (mm_mk M) hl hs K n (pc + 3) ls s' h' := by
        unfold mm_one at hw
        dsimp only at hw
        split at hw <;> first | exact absurd rfl c2 | exact hw
      have hkd2 : decide ((mm_mt[a]?).map (fun M => (mm_mq M, mm_mr M)) = some (2, none)) = true := by
        unfold mm_kchk at hkd
        dsimp only at hkd
        split at hkd <;> first | exact absurd rfl c2 | exact hkd
      obtain ⟨as, r, s', h', rfl, hn, hs8, hcall, g1, g2, g3, g4, hg⟩ := hw2
      obtain ⟨M', hM', hMet⟩ := hCa _ _ _ _ _ hcall
      have hkq := of_decide_eq_true hkd2
      rw [hM'] at hkq
      have hq : mm_mq M' = 2 := congrArg Prod.fst (Option.some.inj hkq)
      have hret : mm_mr M' = none := congrArg Prod.snd (Option.some.inj hkq)
      obtain ⟨m1, m2, m3, m4, m5, m6, m7, m8, -, -, m11⟩ := mm_mf hM'
      have hst : (as.reverse ++ .inr (some r) :: s').map (mm_rv ad) = (as.map (mm_rv ad)).reverse ++ .ref (ad r) :: s'.map (mm_rv ad) := by
        rw [List.map_append, List.map_reverse]; rfl
      rw [hst]
      have fin : ∀ (H1 : Heap) (locs1 : List Loc) (cells1 slots1 : Nat), mm_I base ad D ca s h0l h0s h' H1 locs1 cells1 slots1 → W p l e R s m args below meth c H1 locs1 cells1 slots1 Q (F0 m (pc + 3) lr (((none : Option Int32).map Value.int).toList ++ s'.map (mm_rv ad))) := fun H1 locs1 cells1 slots1 hI1 => ih _ _ _ _ H1 locs1 cells1 slots1 lr hg hLS hI1
      have hwsr : mm_ws M' = .code (mm_mn M') (mm_mb M') (mm_ml M') none :: mm_GW := by rw [mm_ws, hret]
      rw [mm_nsof hM'] at h2
      simp only at h2
      split at h2
      · exact absurd rfl c2
      · rw [Bool.and_eq_true, Bool.and_eq_true] at h2
        obtain ⟨⟨q1, q2⟩, q3⟩ := h2
        have hnc : (parseMethodDescriptor (mm_mn M').desc).map (fun d => d.parameters.length) = some b := of_decide_eq_true q1
        exact mm_post hI g1 g2 (va_runI (Ts := mm_GW) (own := (mm_mn M).cls) (n := b) (As := as.map (mm_rv ad)) ⟨hx, hb, hml, hown, hts⟩ hMet ⟨callB_of b hts (mm_wsin hM') hwsr rfl rfl (hts _ m4) (hts _ (mm_gw (of_decide_eq_true q2) rfl)) ⟨m7, m8, hnc⟩ ⟨hRf, by show 8 + (mm_ml M' + 11) + 64 * d ≤ R.locals; omega⟩, of_decide_eq_true q3, hts _ (m11 hq)⟩ ⟨mm_blind, mm_pre (as := .inr (some r) :: as) hE hbs hI⟩ rfl (by rw [List.length_map]; exact hn) hLS.1 rfl (lv_room (mm_csum hs8)) hd ⟨by omega, by omega⟩) fin
      · rw [Bool.and_eq_true, Bool.and_eq_true, Bool.and_eq_true] at h2
        obtain ⟨⟨⟨q1, q2⟩, q3⟩, q4⟩ := h2
        have hnc : (parseMethodDescriptor (mm_mn M').desc).map (fun d => d.parameters.length) = some b := of_decide_eq_true q1
        have hk : k = 25 := of_decide_eq_true q3
        have hcs : (mm_mn M).cls = "LineMap" := of_decide_eq_true q2
        have hy : mm_mn M' = ⟨"LineMap$Terms", "<init>", "()V"⟩ := of_decide_eq_true q4
        subst hk
        rw [hcs] at hown
        have hnw := hE.2.1
        rw [← hy] at hnw
        exact mm_post hI g1 g2 (va_runIN (Ts := mm_GW) (own := "LineMap") (host := "LineMap") (n := b) (As := as.map (mm_rv ad)) ⟨hx, hb, hml, hown, hts⟩ hMet ⟨va_cnB b hts (mm_wsin hM') hwsr rfl rfl hnw (hts _ m4) ⟨m7, m8, hnc⟩ ⟨hRf, by show 8 + (mm_ml M' + 11) + 64 * d ≤ R.locals; omega⟩, by rw [hy], hts _ (m11 hq)⟩ ⟨mm_blind, mm_pre (as := .inr (some r) :: as) hE hbs hI⟩ rfl (by rw [List.length_map]; exact hn) hLS.1 rfl (lv_room (mm_csum hs8)) hd ⟨by omega, by omega⟩) fin
  | ireturn =>
    have hlen : len = 1 := of_decide_eq_true he
    subst hlen
    obtain ⟨v, rfl, hrt, hk⟩ := hw
    exact kI pc lr v h H locs cells slots hd hrt hk hI
  | return_ =>
    have hlen : len = 1 := of_decide_eq_true he
    subst hlen
    obtain ⟨rfl, hrt, hk⟩ := hw
    exact kV pc lr h H locs cells slots hd hrt hk hI
  | _ => exact False.elim hw
end MX
