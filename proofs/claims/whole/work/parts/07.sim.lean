/-! What the little machine does, the machine does. -/
section MS
theorem mm_outer (c : ClassId) (N h0 : Nat) : ∀ i : Nat, Jvm.Free.Multi.outerC c N h0 i = arrV c N (fun j => va_rf (if j < i then some (h0 + 1 + j) else none))
  | 0 => by
    show ({ cls := c, slots := Array.replicate N .null, vm := .none } : Cell) = _
    rw [arrV_new]
    refine congrArg (arrV c N) (funext fun j => ?_)
    simp [va_rf]
  | i + 1 => by
    show (Jvm.Free.Multi.outerC c N h0 i).setSlot i (.ref (h0 + 1 + i)) = _
    rw [mm_outer c N h0 i, arrV_store]
    refine congrArg (arrV c N) (funext fun j => ?_)
    by_cases e : j = i
    · subst e
      simp [updV, va_rf]
    · by_cases h : j < i
      · simp [updV, e, h, Nat.lt_succ_of_lt h]
      · simp [updV, e, h, show ¬ j < i + 1 by omega]
section MNA
variable {p : Program} {l : Launch} {e : Env} {R : Room} {s : State} {m : MethodId} {args : Array Value} {below : List Frame} {meth : Method} {c : Code} {H : Heap} {locs : List Loc} {cells slots : Nat} {Q : State → Prop}
variable {cc : ByteArray} {pc : Nat} {ls : Array Slot} {rest : List Value} {D : va_G} {cl : List vw_C} {A : Nat → Prop} {a : Nat} {tys : List (ClassId × FieldType)} {ws : va_W} {H0 : Heap}
theorem mm_vmna (hexec : p.tables.exec = Jvm.exec) (hb : c.code = cc) {own : String} {index : Nat} {cA cy : ClassId} (hown : s.vm.findClass own = some m.cls) (hclink : (Cond.classLink own index "[[I").before args s = true) (hover : (Cond.arrayOver (.array .int)).before args s = true) (harr : (Cond.arrayClass .int).before args s = true) (hcA : s.vm.findClass ("[" ++ (FieldType.array .int).toString) = some cA) (hcy : s.vm.findClass (FieldType.array .int).toString = some cy)
    (hP : va_P D cl ws H) (hS : va_S A H0 H locs) {n k : Int32} (hn : ¬ n < 0) (hk : ¬ k < 0)
    (hb1 : n.toNatClampNeg * 4 ≤ 536870912) (hb2 : k.toNatClampNeg * 4 ≤ 536870912) (hcells : cells + (1 + n.toNatClampNeg) ≤ R.cells) (hslots : slots + (n.toNatClampNeg + n.toNatClampNeg * k.toNatClampNeg) ≤ R.slots) (hdg : decode cc pc = .ok (.multianewarray index 2, 4))
    (kk : ∀ (H1 : Heap), H1.size = H.size + 1 + n.toNatClampNeg → va_P D cl ((ws ++ [(H.size, .inl (cA, n.toNatClampNeg, .inr (.inr (.inr (.inr (fun i => if i < n.toNatClampNeg then some (H.size + 1 + i) else none))))))]) ++ (List.range n.toNatClampNeg).map (fun i => (H.size + 1 + i, .inl (cy, k.toNatClampNeg, .inl (fun _ => 0))))) H1 → va_S A H0 H1 locs →
      W p l e R s m args below meth c H1 locs (cells + 1 + n.toNatClampNeg) (slots + n.toNatClampNeg + n.toNatClampNeg * k.toNatClampNeg) Q (F0 m (pc + 4) ls (.ref H.size :: rest))) : W p l e R s m args below meth c H locs cells slots Q (F0 m pc ls (.int k :: .int n :: rest)) := by
  intro T hT Xs
  obtain ⟨vm₁, cA', comp, -, fA, fC, hO, -, X', step⟩ := Xs.multianewarray2F hexec (ty := .int) hown hclink hover harr (g := F0 m pc ls (.int k :: .int n :: rest)) rfl (by rw [hb]; exact hdg) rfl hn hk hb1 hb2 (by omega) rfl rfl hcells hslots
  have e1 : cA' = cA := Option.some.inj (fA.symm.trans hcA)
  have e2 : comp = cy := Option.some.inj (fC.symm.trans hcy)
  subst e1; subst e2
  generalize hF : Jvm.Free.Multi.fill (T.setVm vm₁) cA' comp n.toNatClampNeg k.toNatClampNeg (defaultValue .int) n.toNatClampNeg = F at X' step
  have hTh : (T.setVm vm₁).heap = H := hT
  obtain ⟨f1, f2, -, -⟩ := Jvm.Free.Multi.fill_facts (T.setVm vm₁) cA' comp n.toNatClampNeg k.toNatClampNeg (defaultValue .int) n.toNatClampNeg
  rw [hF, hTh] at f1 f2
  have hold : ∀ x : Nat, x < H.size → F.heap[x]? = H[x]? := fun x hx => by
    have := Jvm.Free.Multi.fill_old (T.setVm vm₁) cA' comp n.toNatClampNeg k.toNatClampNeg (defaultValue .int) (a := x) (by rw [hTh]; exact hx) n.toNatClampNeg
    rw [hF, hTh] at this
    exact this
  have hz : Jvm.Free.Multi.innerC comp k.toNatClampNeg (defaultValue .int) = vp_cell comp (k.toNatClampNeg, .inl (fun _ => 0)) := by
    rw [vp_cell_i]
    exact arrV_new comp k.toNatClampNeg (.int 0)
  have hrow : ∀ j : Nat, j < n.toNatClampNeg → F.heap[H.size + 1 + j]? = some (vp_cell comp (k.toNatClampNeg, .inl (fun _ => 0))) := fun j hj => by
    have := Jvm.Free.Multi.fill_inner (T.setVm vm₁) cA' comp n.toNatClampNeg k.toNatClampNeg (defaultValue .int) n.toNatClampNeg j hj
    rw [hF, hTh, hz] at this
    exact this
  rw [mm_outer cA' n.toNatClampNeg H.size n.toNatClampNeg] at f2
  have hP1 := mm_pushP (x := .inl (cA', n.toNatClampNeg, .inr (.inr (.inr (.inr (fun i => if i < n.toNatClampNeg then some (H.size + 1 + i) else none)))))) hP hold f2
  have hP2 : va_P D cl ((ws ++ [(H.size, .inl (cA', n.toNatClampNeg, .inr (.inr (.inr (.inr (fun i => if i < n.toNatClampNeg then some (H.size + 1 + i) else none))))))]) ++ (List.range n.toNatClampNeg).map (fun i => (H.size + 1 + i, .inl (comp, k.toNatClampNeg, .inl (fun _ => 0))))) F.heap := hP1.app (fun k9 x hx => by
    obtain ⟨i, hi, rfl⟩ := List.mem_map.mp (List.mem_of_getElem? hx)
    exact hrow i (List.mem_range.mp hi))
  obtain ⟨t, a1, b1⟩ := kk F.heap f1 hP2 (mm_pushS hS (by rw [f1]; omega) hold) F rfl X'
  refine ⟨t, step t ?_, b1⟩
  have e : T.heap.size = H.size := by rw [hT]
  rw [e]
  exact a1
end MNA
/-! words -/
def mm_rv (ad : Nat → Nat) : mm_V → Value
  | .inl x => .int x
  | .inr r => va_rf (r.map ad)
def mm_GW : List Cond := lw_tbl.filter goodWord
theorem mm_gw {w : Cond} {i : Nat} (h : lw_tbl[i]? = some w) (hg : goodWord w = true) : w ∈ mm_GW := List.mem_filter.mpr ⟨List.mem_of_getElem? h, hg⟩
theorem mm_gin {ws : List Cond} (h : ∀ w ∈ ws, w ∈ mm_GW) : GoodIn mm_GW ws := fun w hw => ⟨h w hw, good_of_word (List.mem_filter.mp (h w hw)).2⟩
theorem mm_glay {C : String} {T : u_T} {N : Nat} (h : ∀ w ∈ u_ws C T N, w ∈ lw_tbl) : ∀ w ∈ u_ws C T N, w ∈ mm_GW := fun w hw => by
  refine List.mem_filter.mpr ⟨h w hw, ?_⟩
  obtain ⟨k, -, rfl⟩ := List.mem_map.mp hw
  unfold u_lay
  split <;> rfl
/-- all that is known of a class by its number -/
def mm_CK (a : Nat) (q : vw_C) : Prop := (∀ w ∈ u_ws q.1 q.2.1 q.2.2, w ∈ mm_GW) ∧ (∃ ty0 : Nat → FieldType, (∀ k, k < q.2.2 → parseFieldDescriptor (q.2.1 k).2.2.1 = some (ty0 k)) ∧ ∀ ad : Nat → Nat, ∀ j, j < q.2.2 → defaultValue (ty0 j) = vp_V ((mm_defs a).map (mm_rv ad)) j) ∧ (∀ a, a < q.2.2 → ∀ b, b < q.2.2 → a ≠ b → (q.2.1 a).2.1 ≠ (q.2.1 b).2.1) ∧ .instantiable q.1 q.2.2 ∈ mm_GW ∧ .initialized q.1 ∈ mm_GW
theorem mm_dv {N : Nat} {ty0 : Nat → FieldType} {ds : List (Int32 ⊕ Option Nat)} (h : ∀ j, j < N → (ds[j]? = some (.inl 0) ∧ (ty0 j = .int ∨ ty0 j = .boolean)) ∨ (ds[j]? = some (.inr none) ∧ (ty0 j).isReference = true)) (ad : Nat → Nat) : ∀ j, j < N → defaultValue (ty0 j) = vp_V (ds.map (mm_rv ad)) j := by
  intro j hj
  rcases h j hj with ⟨h1, h2 | h2⟩ | ⟨h1, h2⟩
  · rw [h2]
    simp [vp_V, List.getD_eq_getElem?_getD, List.getElem?_map, h1, defaultValue, mm_rv]
  · rw [h2]
    simp [vp_V, List.getD_eq_getElem?_getD, List.getElem?_map, h1, defaultValue, mm_rv]
  · have : defaultValue (ty0 j) = .null := by
      cases ht : ty0 j <;> rw [ht] at h2 <;> first | rfl | (simp [FieldType.isReference] at h2)
    rw [this]
    simp [vp_V, List.getD_eq_getElem?_getD, List.getElem?_map, h1, va_rf, mm_rv]
theorem mm_ck0 : mm_CK 0 ("LineMap$Law", mm_T0, 6) := ⟨mm_glay mm_lay0, ⟨mm_ty0, mm_tok0, fun ad => mm_dv (ty0 := mm_ty0) (by decide +kernel) ad⟩, mm_nm0, mm_gw mm_ins0.1 rfl, mm_gw mm_ins0.2 rfl⟩
theorem mm_ck1 : mm_CK 1 ("LineMap$Names", mm_T1, 8) := ⟨mm_glay mm_lay1, ⟨mm_ty1, mm_tok1, fun ad => mm_dv (ty0 := mm_ty1) (by decide +kernel) ad⟩, mm_nm1, mm_gw mm_ins1.1 rfl, mm_gw mm_ins1.2 rfl⟩
theorem mm_ck2 : mm_CK 2 ("LineMap$Net", mm_T2, 14) := ⟨mm_glay mm_lay2, ⟨mm_ty2, mm_tok2, fun ad => mm_dv (ty0 := mm_ty2) (by decide +kernel) ad⟩, mm_nm2, mm_gw mm_ins2.1 rfl, mm_gw mm_ins2.2 rfl⟩
theorem mm_ck3 : mm_CK 3 ("LineMap$Plan", mm_T3, 5) := ⟨mm_glay mm_lay3, ⟨mm_ty3, mm_tok3, fun ad => mm_dv (ty0 := mm_ty3) (by decide +kernel) ad⟩, mm_nm3, mm_gw mm_ins3.1 rfl, mm_gw mm_ins3.2 rfl⟩
theorem mm_ck4 : mm_CK 4 ("LineMap$Price", mm_T4, 3) := ⟨mm_glay mm_lay4, ⟨mm_ty4, mm_tok4, fun ad => mm_dv (ty0 := mm_ty4) (by decide +kernel) ad⟩, mm_nm4, mm_gw mm_ins4.1 rfl, mm_gw mm_ins4.2 rfl⟩
theorem mm_ck5 : mm_CK 5 ("LineMap$Search", mm_T5, 15) := ⟨mm_glay mm_lay5, ⟨mm_ty5, mm_tok5, fun ad => mm_dv (ty0 := mm_ty5) (by decide +kernel) ad⟩, mm_nm5, mm_gw mm_ins5.1 rfl, mm_gw mm_ins5.2 rfl⟩
theorem mm_ck6 : mm_CK 6 ("LineMap$Terms", mm_T6, 4) := ⟨mm_glay mm_lay6, ⟨mm_ty6, mm_tok6, fun ad => mm_dv (ty0 := mm_ty6) (by decide +kernel) ad⟩, mm_nm6, mm_gw mm_ins6.1 rfl, mm_gw mm_ins6.2 rfl⟩
theorem mm_ck7 : mm_CK 7 ("LineMap", mm_T7, 10) := ⟨mm_glay mm_lay7, ⟨mm_ty7, mm_tok7, fun ad => mm_dv (ty0 := mm_ty7) (by decide +kernel) ad⟩, mm_nm7, mm_gw mm_ins7.1 rfl, mm_gw mm_ins7.2 rfl⟩
theorem mm_ck8 : mm_CK 8 ("LineMapModel", mm_T8, 32) := ⟨mm_glay mm_lay8, ⟨mm_ty8, mm_tok8, fun ad => mm_dv (ty0 := mm_ty8) (by decide +kernel) ad⟩, mm_nm8, mm_gw mm_ins8.1 rfl, mm_gw mm_ins8.2 rfl⟩
theorem mm_ck : ∀ (a : Nat) (q : vw_C), mm_cl[a]? = some q → mm_CK a q
  | 0, q, h => by cases h; exact mm_ck0
  | 1, q, h => by cases h; exact mm_ck1
  | 2, q, h => by cases h; exact mm_ck2
  | 3, q, h => by cases h; exact mm_ck3
  | 4, q, h => by cases h; exact mm_ck4
  | 5, q, h => by cases h; exact mm_ck5
  | 6, q, h => by cases h; exact mm_ck6
  | 7, q, h => by cases h; exact mm_ck7
  | 8, q, h => by cases h; exact mm_ck8
  | n + 9, q, h => by simp [mm_cl] at h
/-! pictures -/
def mm_rc (ca : Nat → ClassId) (ad : Nat → Nat) : mm_C → va_E
  | .inl o => .inr (o.1, o.2.map (mm_rv ad))
  | .inr (.inl x) => .inl (bif x.1 then ca 1 else ca 0, x.2.length, .inl (fun j => x.2.getD j 0))
  | .inr (.inr x) => .inl (bif x.1 then ca 2 else ca 3, x.2.length, .inr (.inr (.inr (.inr (fun j => (x.2.getD j none).map ad)))))
def mm_rd (ca : Nat → ClassId) (ad : Nat → Nat) (base : Nat) (h : mm_H) : va_W := h.mapIdx (fun i c => (base + i, mm_rc ca ad c))
abbrev mm_tys (ca : Nat → ClassId) : List (ClassId × FieldType) := [(ca 0, .int), (ca 1, .boolean), (ca 2, .object "LineMap$Plan"), (ca 3, .array .int)]
theorem mm_look {ca : Nat → ClassId} {ad : Nat → Nat} {base : Nat} {h : mm_H} {r : Nat} {x : mm_C} (had : ∀ k, ad (k + 3) = base + k) (hr : h[r]? = some x) : (mm_rd ca ad base h)[r]? = some (ad (r + 3), mm_rc ca ad x) := by
  rw [had, mm_rd, List.getElem?_mapIdx, hr]
  rfl
theorem mm_rset {ca : Nat → ClassId} {ad : Nat → Nat} {base : Nat} {h : mm_H} {r : Nat} {x : mm_C} (had : ∀ k, ad (k + 3) = base + k) : (mm_rd ca ad base h).set r (ad (r + 3), mm_rc ca ad x) = mm_rd ca ad base (h.set r x) := by
  refine List.ext_getElem? fun i => ?_
  rw [had, mm_rd, mm_rd, List.getElem?_mapIdx, List.getElem?_set, List.getElem?_set, List.length_mapIdx, List.getElem?_mapIdx]
  by_cases hi : r = i
  · subst hi
    by_cases hl : r < h.length
    · simp [hl]
    · simp [hl]
  · simp [hi]
theorem mm_rpush {ca : Nat → ClassId} {ad : Nat → Nat} {base : Nat} {h : mm_H} {x : mm_C} : mm_rd ca ad base (h ++ [x]) = mm_rd ca ad base h ++ [(base + h.length, mm_rc ca ad x)] := by
  simp [mm_rd, List.mapIdx_append]
theorem mm_rD {ca : Nat → ClassId} {ad : Nat → Nat} {base : Nat} {h : mm_H} : va_D (fun q => base ≤ q) (mm_rd ca ad base h) := by
  have key : ∀ (k : Nat) (q : Nat × va_E), (mm_rd ca ad base h)[k]? = some q → q.1 = base + k := by
    intro k q hq
    rw [mm_rd, List.getElem?_mapIdx] at hq
    cases hk : h[k]? with
    | none => rw [hk] at hq; cases hq
    | some x => rw [hk] at hq; cases hq; rfl
  refine ⟨fun i j x y hi hj hxy => ?_, fun k q hq => ?_⟩
  · have := key i x hi
    have := key j y hj
    omega
  · have := key k q hq
    show base ≤ q.1
    omega
def mm_Env (ro : Nat → List Int32) (base : Nat) (ad : Nat → Nat) (D : va_G) (ca : Nat → ClassId) (U : State) : Prop :=
  va_K D mm_cl (mm_tys ca) U ∧ va_Nw (.methodLinkNest "LineMap" 25 ⟨"LineMap$Terms", "<init>", "()V"⟩ "LineMap") U ∧ va_Nw (.methodLinkNest "LineMap$Search" 129 ⟨"LineMap", "isWithin", "(III)Z"⟩ "LineMap") U ∧ va_Nw (.fieldLinkNest "LineMap$Search" 123 "LineMap" "STEP_X" "[I" "LineMap") U ∧ va_Nw (.fieldLinkNest "LineMap$Search" 126 "LineMap" "STEP_Y" "[I" "LineMap") U ∧ (Cond.arrayOver (.array .int)).before #[] U = true ∧ va_AO "LineMap$Plan" U ∧
  (∀ k, k < 3 → va_T .int (ad k) (ro k).length (fun j => .int ((ro k).getD j 0)) (fun q => base ≤ q) U U.heap) ∧ va_Z "LineMap" "STEP_X" "[I" (.ref (ad 1)) (fun q => base ≤ q) U U.heap ∧ va_Z "LineMap" "STEP_Y" "[I" (.ref (ad 2)) (fun q => base ≤ q) U U.heap
theorem mm_Env.go {ro : Nat → List Int32} {base : Nat} {ad : Nat → Nat} {D : va_G} {ca : Nat → ClassId} {s U : State} (h : mm_Env ro base ad D ca s) (hW : s.WarmedH U.vm) (hq : ∀ q : Nat, q < base → U.heap[q]? = s.heap[q]?) : mm_Env ro base ad D ca U := by
  obtain ⟨h1, h2, h3, h4, h5, h6, h7, h8, h9, h10⟩ := h
  have ha := hW.alike
  refine ⟨va_K.moved ha h1, va_Nw.warmM hW h2, va_Nw.warmM hW h3, va_Nw.warmF hW h4, va_Nw.warmF hW h5, over_moved ha h6, va_AO.moved ha h7, fun k hk => va_T.moved ha (va_T.kept (h8 k hk) fun q _ hn => hq q (Nat.not_le.mp hn)), va_Z.moved ha (va_Z.kept h9 fun q _ hn => hq q (Nat.not_le.mp hn)), va_Z.moved ha (va_Z.kept h10 fun q _ hn => hq q (Nat.not_le.mp hn))⟩
theorem mm_Env.same {ro : Nat → List Int32} {base : Nat} {ad : Nat → Nat} {D : va_G} {ca : Nat → ClassId} {s U : State} (h : mm_Env ro base ad D ca s) (hv : U.vm = s.vm) (hh : U.heap = s.heap) : mm_Env ro base ad D ca U := by
  obtain ⟨h1, h2, h3, h4, h5, h6, h7, h8, h9, h10⟩ := h
  have ha : s.vm.Alike U.vm := by rw [hv]; exact Vm.Alike.refl _
  have hq : ∀ q : Nat, U.heap[q]? = s.heap[q]? := fun q => by rw [hh]
  exact ⟨va_K.moved ha h1, va_Nw.same rfl hv.symm h2, va_Nw.same rfl hv.symm h3, va_Nw.same rfl hv.symm h4, va_Nw.same rfl hv.symm h5, over_moved ha h6, va_AO.moved ha h7, fun k hk => va_T.moved ha (va_T.kept (h8 k hk) fun q _ _ => hq q), va_Z.moved ha (va_Z.kept h9 fun q _ _ => hq q), va_Z.moved ha (va_Z.kept h10 fun q _ _ => hq q)⟩
def mm_Pc (ro : Nat → List Int32) (base : Nat) (ad : Nat → Nat) (D : va_G) (ca : Nat → ClassId) (as : List mm_V) (h : mm_H) : Array Value → State → Prop := va_Pc (as.map (mm_rv ad)) (fun U => U.heap.size = base + h.length ∧ va_P D mm_cl (mm_rd ca ad base h) U.heap ∧ mm_Env ro base ad D ca U)
def mm_Qc (base : Nat) (ad : Nat → Nat) (D : va_G) (ca : Nat → ClassId) (r : Option Int32) (h' : mm_H) : Array Value → State → Outcome → State → Prop := match r with
  | some x => va_Qi (S := Unit) (fun y _ => y = x) (fun _ t => t.heap.size = base + h'.length ∧ va_P D mm_cl (mm_rd ca ad base h') t.heap) (fun q => base ≤ q)
  | none => va_Qv (S := Unit) (fun _ => True) (fun _ t => t.heap.size = base + h'.length ∧ va_P D mm_cl (mm_rd ca ad base h') t.heap) (fun q => base ≤ q)
def mm_ws (M : mm_M) : List Cond := .code (mm_mn M) (mm_mb M) (mm_ml M) (mm_mr M) :: mm_GW
def mm_Mt (l : Launch) (ro : Nat → List Int32) (base : Nat) (ad : Nat → Nat) (D : va_G) (ca : Nat → ClassId) (M : mm_M) (d : Nat) (as : List mm_V) (h : mm_H) (r : Option Int32) (h' : mm_H) : Prop :=
  Met l (mm_mn M) (mm_ws M) ({ frames := d, cells := h'.length - h.length, slots := mm_sz h' - mm_sz h, locals := 64 * d }) (mm_Pc ro base ad D ca as h) (mm_Qc base ad D ca r h') (h'.length - h.length) (mm_sz h' - mm_sz h) (fun q => base ≤ q)
theorem mm_blind {ro : Nat → List Int32} {base : Nat} {ad : Nat → Nat} {D : va_G} {ca : Nat → ClassId} {as : List mm_V} {h : mm_H} : FrameBlind (mm_Pc ro base ad D ca as h) := fun a U g mk q => by
  obtain ⟨q0, q1, q2, q3⟩ := q
  exact ⟨q0, q1, q2, q3.same rfl rfl⟩
/-! locals -/
def mm_LH (ad : Nat → Nat) (nL : Nat) (ls : mm_L) (lr : Array Slot) : Prop := lr.size = nL ∧ lv_wf lr ∧ ls.length = nL ∧ ∀ (k : Nat) (v : mm_V), ls[k]? = some (some v) → lr[k]? = some (Slot.val (mm_rv ad v))
def mm_al (ad : Nat → Nat) (ls : mm_L) : List (Nat × Value) := (List.range ls.length).filterMap (fun k => (ls[k]?.join).map (fun v => (k, mm_rv ad v)))
theorem mm_cat (ad : Nat → Nat) (v : mm_V) : (mm_rv ad v).category = 1 := by
  rcases v with x | r
  · rfl
  · cases r <;> rfl
theorem mm_al_mem {ad : Nat → Nat} {ls : mm_L} {k : Nat} {v : mm_V} (h : ls[k]? = some (some v)) : (k, mm_rv ad v) ∈ mm_al ad ls := by
  refine List.mem_filterMap.mpr ⟨k, List.mem_range.mpr (List.getElem?_eq_some_iff.mp h).1, ?_⟩
  rw [h]
  rfl
theorem mm_al_of {ad : Nat → Nat} {ls : mm_L} {q : Nat × Value} (h : q ∈ mm_al ad ls) : ∃ v, ls[q.1]? = some (some v) ∧ q.2 = mm_rv ad v := by
  obtain ⟨k, -, hk⟩ := List.mem_filterMap.mp h
  cases hl : ls[k]? with
  | none => rw [hl] at hk; cases hk
  | some o =>
    cases o with
    | none => rw [hl] at hk; cases hk
    | some v =>
      rw [hl] at hk
      cases hk
      exact ⟨v, hl, rfl⟩
theorem mm_LH.has {ad : Nat → Nat} {nL : Nat} {ls : mm_L} {lr : Array Slot} (h : mm_LH ad nL ls lr) : lv_has lr nL (mm_al ad ls) := by
  refine ⟨h.1, h.2.1, fun q hq => ?_⟩
  obtain ⟨v, h1, h2⟩ := mm_al_of hq
  rw [h2]
  exact h.2.2.2 _ _ h1
theorem mm_LH.put {ad : Nat → Nat} {nL i : Nat} {ls : mm_L} {lr lr' : Array Slot} {v : mm_V} (h : mm_LH ad nL ls lr) (h' : lv_has lr' nL ((i, mm_rv ad v) :: (mm_al ad ls).filter (fun q => !(q.1 == i) && !(q.1 + 1 == i && q.2.category == 2)))) : mm_LH ad nL (ls.set i (some v)) lr' := by
  refine ⟨h'.1, h'.2.1, by rw [List.length_set]; exact h.2.2.1, fun k w hk => ?_⟩
  rw [List.getElem?_set] at hk
  by_cases hi : i = k
  · subst hi
    rw [if_pos rfl] at hk
    split at hk
    · cases hk
      exact h'.2.2 (i, mm_rv ad v) List.mem_cons_self
    · cases hk
  · rw [if_neg hi] at hk
    refine h'.2.2 (k, mm_rv ad w) (List.mem_cons_of_mem _ (List.mem_filter.mpr ⟨mm_al_mem hk, ?_⟩))
    have hk2 : ¬ k = i := fun e => hi e.symm
    simp [hk2, mm_cat]
theorem mm_sl (ad : Nat → Nat) (as : List mm_V) : (lg_sl (as.map (mm_rv ad))).length = as.length := by
  induction as with
  | nil => rfl
  | cons v t ih =>
    have hc := mm_cat ad v
    have h2 : lg_sl ((v :: t).map (mm_rv ad)) = [.val (mm_rv ad v)] ++ lg_sl (t.map (mm_rv ad)) := by
      simp [lg_sl, hc]
    rw [h2, List.length_append, ih]
    simp [Nat.add_comm]
theorem mm_args (ad : Nat → Nat) : ∀ (as : List mm_V) (i k : Nat) (v : mm_V), as[k]? = some v → (i + k, mm_rv ad v) ∈ lv_args i (as.map (mm_rv ad))
  | [], _, _, _, h => by simp at h
  | a :: t, i, 0, v, h => by
    simp at h
    subst h
    simp [lv_args]
  | a :: t, i, k + 1, v, h => by
    simp at h
    have h1 := mm_args ad t (i + 1) k v h
    have hc := mm_cat ad a
    simp only [List.map_cons, lv_args, hc]
    rw [if_neg (by decide)]
    refine List.mem_cons_of_mem _ ?_
    rw [show i + (k + 1) = i + 1 + k by omega]
    exact h1
theorem mm_entry {ad : Nat → Nat} {M : mm_M} {as : List mm_V} (h : as.length ≤ mm_ml M) : mm_LH ad (mm_ml M) (mm_ent M as) ((lg_sl (as.map (mm_rv ad)) ++ List.replicate (mm_ml M - (lg_sl (as.map (mm_rv ad))).length) Slot.unset).toArray) := by
  have h1 := lv_entry (as.map (mm_rv ad)) (n := mm_ml M) (by rw [mm_sl]; exact h)
  refine ⟨h1.1, h1.2.1, by simp [mm_ent]; omega, fun k v hk => ?_⟩
  have h2 : as[k]? = some v := by
    unfold mm_ent at hk
    rw [List.getElem?_append] at hk
    split at hk
    · rw [List.getElem?_map] at hk
      cases ha : as[k]? with
      | none => rw [ha] at hk; cases hk
      | some w => rw [ha] at hk; cases hk; rfl
    · rw [List.getElem?_replicate] at hk
      split at hk <;> cases hk
  have h3 := mm_args ad as 0 k v h2
  rw [Nat.zero_add] at h3
  exact h1.2.2 _ h3
end MS
