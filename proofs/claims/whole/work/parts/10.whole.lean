/-! THE CLAIM OUT OF ONE WALK OF THE LAW'S BODY (began as the kit's skeleton) -/
def R_law : String := "LineMapLaw"
def lw_P (b : Addr) (xs : List Int32) (args : Array Value) (s : State) : Prop := args = #[.ref b] ∧ s.IntsAt b xs ∧ xs.length ≤ 2048 ∧ (Jvm.Cond.and given_1 narrow_1).before args s = true
def lw_Q (_ : Array Value) (s : State) (o : Outcome) (t : State) : Prop := o = .returned (some (.int 1)) ∧ Framed s o t [] 600000 7302250
def lw_Z (below : List Frame) (a : Array Value) (s : State) : State → Prop := fun t => ∃ o, t.status = .running ∧ Ended t below o ∧ lw_Q a s o t
/-- the law's own end, with 1 on the stack, nothing written that was there before, its room as the claim has it -/
theorem lw_ret {p : Program} {l : Launch} {e : Env} {s : State} {m : MethodId} {below : List Frame} {meth : Method} {c : Code} {b : Nat} (hx : p.tables.exec = Jvm.exec) (hb : c.code = code) (hr : meth.sig.returnType = ret) (hlocks : meth.locks = false) {pc : Nat} {H : Heap} {ls : Array Slot} (hdg : decode code pc = .ok (.ireturn, 1)) : W p l e room_1 s m #[Value.ref b] below meth c H [] 600000 7302250 (lw_Z below #[Value.ref b] s) (F0 m pc ls [.int 1]) := by
  intro T hT X
  obtain ⟨fs, hret, hrun, hended, hW, hframe⟩ := X.leave (v := some (.int 1)) (hlocks := hlocks) (fun h => by rw [hr] at h; cases h)
  have hmeth' : T.vm.method? m = some meth := X.method'
  refine ⟨T.setFrames fs, ?_, .returned (some (.int 1)), hrun, hended, rfl, ⟨_, rfl⟩, hW, hframe⟩
  jvm_step X.here [X.here.top, hx, hb, hdg, hmeth', hr, ret, narrow_b1]
  (try refine ⟨rfl, ?_⟩); (try refine ⟨rfl, ?_⟩)
  first | (intro acts; rw [hret _ acts rfl rfl rfl]) | rw [hret _ _ rfl rfl rfl]
  exact Steps.refl _
/-- what holds at the law's entry: the machine, the code, the tables' words (any of lw_tbl by 'hts w (by decide +kernel)'), the script of L ints xs at the cell b, what the Statement gives of the start (any of its parts by flat_of_before) -/
def lw_At (p : Program) (s : State) (m : MethodId) (meth : Method) (c : Code) (b L : Nat) (xs : Nat → Int32) : Prop :=
  p.tables.exec = Jvm.exec ∧ c.code = code ∧ meth.sig.returnType = ret ∧ c.maxLocals = 4 ∧ s.vm.findClass R_law = some m.cls ∧ (∀ w ∈ lw_tbl, w.before #[Value.ref b] s = true) ∧ va_X b L xs s s.heap ∧ b < s.heap.size ∧ meth.locks = false ∧ (Jvm.Cond.and given_1 narrow_1).before #[Value.ref b] s = true
/-- the law's walk out of its run in the little machine -/
theorem whole_open {K : Option Int32 → mm_H → Prop} (hK : ∀ r h, K r h → r = some 1 ∧ h.length ≤ 600000 ∧ mm_sz h ≤ 7302250) (G : mm_Goal K) {p : Program} {e : Env} {s : State} {m : MethodId} {below : List Frame} {meth : Method} {c : Code} (l : Launch) {b L : Nat} {xs : Nat → Int32} (hL : L ≤ 2048) (C0 : lw_At p s m meth c b L xs) : W p l e room_1 s m #[Value.ref b] below meth c s.heap [] 0 0 (lw_Z below #[Value.ref b] s) (entryFrame m ([Value.ref b] : List Value).toArray 4) := by
  obtain ⟨hx, hb, hr, hml, hown, hts, hX, hbl, hlocks, hgv⟩ := C0
  obtain ⟨ad, D, ca, had, h0, hE⟩ := mm_env hL hts hX hbl hgv
  obtain ⟨n, hw⟩ := G ((List.range L).map xs) (by simpa using hL)
  have hargs : ([Value.ref b] : List Value) = ([.inr (some 0)] : List mm_V).map (mm_rv ad) := by
    show _ = [va_rf (some (ad 0))]
    rw [h0]
    rfl
  have hent : entryFrame m ([Value.ref b] : List Value).toArray 4 = F0 m 0 ((lg_sl (([.inr (some 0)] : List mm_V).map (mm_rv ad)) ++ List.replicate (mm_ml mm_law - (lg_sl (([.inr (some 0)] : List mm_V).map (mm_rv ad))).length) Slot.unset).toArray) [] := by
    rw [hargs, lg_entry_eq]
    rfl
  rw [hent]
  refine mm_sim (l := l) (ro := mm_ro ((List.range L).map xs)) (base := s.heap.size) (Q := lw_Z below #[Value.ref b] s) (R := room_1) had mm_law 30 (mm_EvT mm_mt (mm_ro ((List.range L).map xs)) 30) (fun y as h r h' h9 => mm_met had 30 y as h r h' h9) ⟨hx, hb, hml, hown, fun w hw => hts w (List.mem_filter.mp hw).1, fun h9 => absurd h9 (by decide), mm_kl_ok, mm_klall, hE, Nat.le_refl _, by decide, by decide⟩ 600000 7302250 0 0 (by decide) (by decide) _ ?_ ?_ n 0 (mm_ent mm_law [.inr (some 0)]) [] [] s.heap [] 0 0 _ hw (mm_entry (M := mm_law) (by decide)) ⟨fun k q hk => by simp [mm_rd] at hk, rfl, va_S.rf, rfl, rfl⟩
  · intro pc lr v h2 H locs cells slots hd hrt hk hI
    obtain ⟨hk1, hk2, hk3⟩ := hK _ _ hk
    cases hk1
    obtain ⟨i1, i2, i3, i4, i5⟩ := hI
    exact va_forget i3.2.2 (W.widen (by omega) (by omega) (lw_ret hx hb hr hlocks hd))
  · intro pc lr h2 H locs cells slots hd hrt hk hI
    cases (hK _ _ hk).1
