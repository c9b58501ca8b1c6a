/-! A call of the little machine is a contract of the machine; the law's entry. -/
section MC
variable {l : Launch} {ro : Nat → List Int32} {base : Nat} {ad : Nat → Nat} {D : va_G} {ca : Nat → ClassId}
theorem mm_met (had : ∀ k, ad (k + 3) = base + k) : ∀ (d y : Nat) (as : List mm_V) (h : mm_H) (r : Option Int32) (h' : mm_H), mm_EvT mm_mt ro d y as h r h' → ∃ M', mm_mt[y]? = some M' ∧ mm_Mt l ro base ad D ca M' d as h r h'
  | 0, _, _, _, _, _, hh => False.elim hh
  | d + 1, y, as, h, r, h', hh => by
    obtain ⟨M, hM, hlen, n, hw⟩ := hh
    refine ⟨M, hM, ?_⟩
    obtain ⟨m1, m2, m3, m4, m5, m6, m7, m8, -⟩ := mm_mf hM
    unfold mm_Mt
    refine Met.ofW (cc := mm_mb M) (maxL := mm_ml M) (ret := mm_mr M) m6 rfl ?_
    intro p e s m args below meth c s₁ B hml hv
    obtain ⟨rfl, hsz, hP, hE⟩ := hv
    have hx := B.exec
    have hb := B.bytes
    have hr := B.returns
    have hts0 := atoms_spec (ws := mm_ws M) B.pre
    have hown : s.vm.findClass (mm_mn M).cls = some m.cls := findClass_of_methodNamed B.named
    have hlocks := B.notSynchronized
    have hin : meth.name = (mm_mn M).name := (name_of_methodNamed B.named B.method).1
    rw [lg_entry_eq]
    refine mm_sim (l := l) (Q := MQ below (mm_Qc base ad D ca r h') _ s (h'.length - h.length) (mm_sz h' - mm_sz h) (fun q => base ≤ q)) had M d (mm_EvT mm_mt ro d) (fun y as h r h' h9 => mm_met had d y as h r h' h9) ⟨hx, hb, hml, hown, fun w hw => hts0 w (List.mem_cons_of_mem _ hw), fun h9 => hin.trans h9, m1, m2, hE, by omega, Nat.le_refl _, Nat.le_refl _⟩ h'.length (mm_sz h') h.length (mm_sz h) (by show _ ≤ h'.length - h.length + _; omega) (by show _ ≤ mm_sz h' - mm_sz h + _; omega) _ ?_ ?_ n 0 (mm_ent M as) [] h s.heap [] 0 0 _ hw (mm_entry hlen) ⟨hP, hsz, va_S.rf, by omega, by omega⟩
    · intro pc lr v h2 H locs cells slots hd hrt hk hI
      obtain ⟨rfl, rfl⟩ := hk
      obtain ⟨i1, i2, i3, i4, i5⟩ := hI
      have e1 : cells = h2.length - h.length := by omega
      have e2 : slots = mm_sz h2 - mm_sz h := by omega
      rw [e1, e2]
      have hq : ∀ t : State, t.heap = H → s.WarmedH t.vm → mm_Qc base ad D ca (some v) h2 (as.map (mm_rv ad)).toArray s (.returned (some (.int v))) t := fun t ht hW => ⟨⟨v, (), rfl, rfl, by rw [ht]; exact i2, by rw [ht]; exact i1⟩, i3.F ht⟩
      rcases hrt with hrt | ⟨hrt, hv01⟩
      · exact W.iret hx hb (hr.trans hrt) hq i3.2.2 hd hlocks
      · exact W.zret hx hb (hr.trans hrt) (by rcases hv01 with rfl | rfl <;> decide +kernel) hq i3.2.2 hd hlocks
    · intro pc lr h2 H locs cells slots hd hrt hk hI
      obtain ⟨rfl, rfl⟩ := hk
      obtain ⟨i1, i2, i3, i4, i5⟩ := hI
      have e1 : cells = h2.length - h.length := by omega
      have e2 : slots = mm_sz h2 - mm_sz h := by omega
      rw [e1, e2]
      exact W.vret hx hb (hr.trans hrt) (fun t ht hW => ⟨⟨(), rfl, trivial, by rw [ht]; exact i2, by rw [ht]; exact i1⟩, i3.F ht⟩) i3.2.2 hd hlocks
/-- the read-only arrays: the script, STEP_X, STEP_Y -/
def mm_ro (xs : List Int32) (k : Nat) : List Int32 := match k with
  | 0 => xs
  | 1 => [1, 1, 0, -1, -1, -1, 0, 1]
  | _ => [0, 1, 1, 1, 0, -1, -1, -1]
/-- all that is left: the law's run in the little machine, at calls of depth 30 -/
def mm_Goal (K : Option Int32 → mm_H → Prop) : Prop := ∀ xs : List Int32, xs.length ≤ 2048 → ∃ n, mm_wp (mm_ro xs) (mm_EvT mm_mt (mm_ro xs) 30) (some .boolean) mm_kl 600000 7302250 K n 0 (mm_ent mm_law [.inr (some 0)]) [] []
theorem mm_env {args : Array Value} {s : State} {b L : Nat} {f : Nat → Int32} (hL : L ≤ 2048) (hts : ∀ w ∈ lw_tbl, w.before args s = true) (hX : va_X b L f s s.heap) (hbl : b < s.heap.size) (hg : (Jvm.Cond.and given_1 narrow_1).before args s = true) :
    ∃ (ad : Nat → Nat) (D : va_G) (ca : Nat → ClassId), (∀ k, ad (k + 3) = s.heap.size + k) ∧ ad 0 = b ∧ mm_Env (mm_ro ((List.range L).map f)) s.heap.size ad D ca s := by
  have hs := flat_of_before _ hg
  have tb : ∀ {i : Nat} {w : Cond}, lw_tbl[i]? = some w → w.before args s = true := fun h => hts _ (List.mem_of_getElem? h)
  have hgw : ∀ w ∈ mm_GW, w.before args s = true := fun w hw => hts w (List.mem_filter.mp hw).1
  have hA : ∀ a : Nat, a < s.heap.size → ¬ (fun q : Nat => s.heap.size ≤ q) a := fun a ha h => absurd h (Nat.not_le.mpr ha)
  obtain ⟨w1, w2, w3, w4, w5, w6, w7, w8, w9, w10⟩ := mm_arr
  -- the classes
  have hcls : ∀ c : Nat, ∃ q : ClassId × (Nat → Nat), ∀ r : vw_C, mm_cl[c]? = some r → u_Kn s r.1 r.2.1 r.2.2 q.1 q.2 := by
    intro c
    cases hc : mm_cl[c]? with
    | none => exact ⟨(0, fun _ => 0), fun r hr => by cases hr⟩
    | some r =>
      obtain ⟨k1, -, -, k5, -⟩ := mm_ck c r hc
      obtain ⟨cC, iS, h⟩ := u_known hgw k1 (hgw _ k5)
      exact ⟨(cC, iS), fun r' hr => by cases hr; exact h⟩
  -- the array classes
  obtain ⟨c0, k0, p0, a1, a2, a3⟩ := Cond.arrayClass_spec (tb w1)
  obtain ⟨c1, k1, p1, b1, b2, b3⟩ := Cond.arrayClass_spec (tb w2)
  obtain ⟨p2, c2, k2, d1, -, d3, d4, d5⟩ := Cond.arrayOver_spec (tb w4)
  obtain ⟨p3, c3, k3, e1, -, e3, e4, e5⟩ := arrayOverA_spec (tb w3)
  -- the statics
  have sx : ∀ j : Nat, j < 8 → (Term.elem (.static "LineMap" "STEP_X" "[I") (.int (Int32.ofNat j))).eval args s none [] s = some (.int ((mm_ro [] 1).getD j 0)) := by
    intro j hj
    have hj' : j = 0 ∨ j = 1 ∨ j = 2 ∨ j = 3 ∨ j = 4 ∨ j = 5 ∨ j = 6 ∨ j = 7 := by omega
    rcases hj' with rfl | rfl | rfl | rfl | rfl | rfl | rfl | rfl <;> exact va_eqt (hs _ (by decide +kernel))
  have sy : ∀ j : Nat, j < 8 → (Term.elem (.static "LineMap" "STEP_Y" "[I") (.int (Int32.ofNat j))).eval args s none [] s = some (.int ((mm_ro [] 2).getD j 0)) := by
    intro j hj
    have hj' : j = 0 ∨ j = 1 ∨ j = 2 ∨ j = 3 ∨ j = 4 ∨ j = 5 ∨ j = 6 ∨ j = 7 := by omega
    rcases hj' with rfl | rfl | rfl | rfl | rfl | rfl | rfl | rfl <;> exact va_eqt (hs _ (by decide +kernel))
  obtain ⟨tx, hx1, hx2⟩ := va_Tof (A := fun q => s.heap.size ≤ q) (N := 8) (by decide) (hs (.arrayOf (.static "LineMap" "STEP_X" "[I") .int) (by decide +kernel)) (va_eqt (hs (.eq (.length (.static "LineMap" "STEP_X" "[I")) (.int 8)) (by decide +kernel))) sx hA
  obtain ⟨ty, hy1, hy2⟩ := va_Tof (A := fun q => s.heap.size ≤ q) (N := 8) (by decide) (hs (.arrayOf (.static "LineMap" "STEP_Y" "[I") .int) (by decide +kernel)) (va_eqt (hs (.eq (.length (.static "LineMap" "STEP_Y" "[I")) (.int 8)) (by decide +kernel))) sy hA
  have hini : (Cond.initialized "LineMap").before args s = true := tb mm_ins7.2
  have hzx := va_Zref (A := fun q => s.heap.size ≤ q) (tb w9) hini hx1 hA
  have hzy := va_Zref (A := fun q => s.heap.size ≤ q) (tb w10) hini hy1 hA
  have hscr : va_T .int b L (fun j => .int (((List.range L).map f).getD j 0)) (fun q => s.heap.size ≤ q) s s.heap := by
    obtain ⟨scr, q1, q2, q3, q4, q5⟩ := hX
    refine ⟨scr, q1, q2, q3, by omega, by rw [q4], fun j hj => ?_, hA b hbl⟩
    rw [q5 j hj]
    simp [List.getD_eq_getElem?_getD, hj]
  refine ⟨fun k => if k = 0 then b else if k = 1 then tx else if k = 2 then ty else s.heap.size + (k - 3), (fun c => (Classical.choose (hcls c)).1, fun c => (Classical.choose (hcls c)).2), fun k => if k = 0 then c0 else if k = 1 then c1 else if k = 2 then c2 else c3, fun k => ?_, rfl, ⟨fun c q hq => Classical.choose_spec (hcls c) q hq, fun k q hk => ?_⟩, va_Nw.of rfl (tb w5), va_Nw.of rfl (tb w6), va_Nw.of rfl (tb w7), va_Nw.of rfl (tb w8), tb w3, va_AO.of (tb w4), fun k hk => ?_, hzx, hzy⟩
  · show (if k + 3 = 0 then b else if k + 3 = 1 then tx else if k + 3 = 2 then ty else s.heap.size + (k + 3 - 3)) = _
    rw [if_neg (by omega), if_neg (by omega), if_neg (by omega)]
    omega
  · match k, hk with
    | 0, hk => cases hk; exact ⟨fun n z => ⟨fun k h => (by cases h), k0, a2, p0, a3⟩, a1⟩
    | 1, hk => cases hk; exact ⟨fun n z => ⟨fun k h => (by cases h), k1, b2, p1, b3⟩, b1⟩
    | 2, hk => cases hk; exact ⟨fun n z => ⟨fun k h => (by cases h), k2, d3, p2, d4⟩, k2, p2, d3, d4, d1, d5⟩
    | 3, hk => cases hk; exact ⟨fun n z => ⟨fun k h => (by cases h), k3, e3, p3, e4⟩, e5⟩
    | n + 4, hk => simp at hk
  · match k, hk with
    | 0, _ => simpa [mm_ro] using hscr
    | 1, _ => exact hx2
    | 2, _ => exact hy2
    | n + 3, hk => omega
end MC
