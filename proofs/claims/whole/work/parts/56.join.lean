theorem zz_CE_sy2 {S S0 : qq_S} {a b : Nat} (h : zz_CE S) (hab : ¬ a = b) (ha : (a : Int) < S 4 0) (hb : (b : Int) < S 4 0) (o1 : ∀ c : Nat, ¬ (38 ≤ c ∧ c < 48) → S0 c = S c) (o2 : ∀ x y : Nat, x < 10 → y < 10 → S0 (37 + 1 + x) y = if (x = a ∧ y = b) ∨ (x = b ∧ y = a) then 0 else S (37 + 1 + x) y) : zz_sy S0 := by
  have f4 : S0 4 = S 4 := o1 4 (by omega)
  have f5 : S0 5 = S 5 := o1 5 (by omega)
  have f6 : S0 6 = S 6 := o1 6 (by omega)
  unfold zz_sy
  rw [f4, f5, f6]
  refine ⟨h.1, h.2.1, h.2.2.1, fun x y hx hy => ?_⟩
  rw [o2 x y hx hy, o2 y x hy hx]
  have b1 := h.1
  have b4 := h.2.2.2.1
  have q := h.2.2.2.2.2.1 x y hx hy
  by_cases c : (x = a ∧ y = b) ∨ (x = b ∧ y = a)
  · rw [if_pos c, if_pos (by omega)]
    refine ⟨by omega, by omega, fun _ => ⟨by omega, by omega, by omega, by omega⟩⟩
  · rw [if_neg c, if_neg (by omega)]
    exact ⟨by omega, by omega, fun z => zz_CE_sy h hx hy z⟩
/-- join: one pair more -/
def zz_jn (S T : qq_S) (a b : Nat) : Prop := zz_CE T ∧ (∀ c : Nat, ¬ (c = 4 ∨ (22 ≤ c ∧ c ≤ 25) ∨ (27 ≤ c ∧ c < 37) ∨ (38 ≤ c ∧ c < 48)) → T c = S c) ∧ (∀ j : Nat, ¬ j = 2 → T 4 j = S 4 j) ∧ (∀ x y : Nat, x < 10 → y < 10 → (¬ T (37 + 1 + x) y = -1 ↔ ¬ S (37 + 1 + x) y = -1 ∨ (x = a ∧ y = b) ∨ (x = b ∧ y = a)))
set_option maxRecDepth 20000 in
theorem f37 {xs : List Int32} (hxs : xs.length ≤ 2048) (d : Nat) (S : qq_S) (a b : Int) (hab : ¬ a = b) (ha : 0 ≤ a ∧ a < S 4 0) (hb : 0 ≤ b ∧ b < S 4 0) (hC : zz_CE S) (hn : S (37 + 1 + a.toNat) b.toNat = -1) : ∃ S2, qq_E xs (d + 23) 37 [.inr (4, none), .inl a, .inl b] S none S2 ∧ zz_jn S S2 a.toNat b.toNat := by
  have b1 := hC.1
  have h : qq_p xs (d + 22) (mm_mr mm_m37) (mm_mk mm_m37) (fun r S2 => r = none ∧ zz_jn S S2 a.toNat b.toNat) 0 (qq_ent mm_m37 [.inr (4, none), .inl a, .inl b]) [] S := by
    refine qq_fsound hxs (sp_0_ok hxs (d + 22)) [19, 25, 31] 100 ?_
    repeat' first | apply And.intro | intro _
    all_goals first | omega | skip
    let S0 := qq_u (qq_u S (37 + 1 + a.toNat) b.toNat 0) (37 + 1 + b.toNat) a.toNat 0
    have o1 : ∀ c : Nat, ¬ (38 ≤ c ∧ c < 48) → S0 c = S c := fun c hc => by
      show qq_u (qq_u S (37 + 1 + a.toNat) b.toNat 0) (37 + 1 + b.toNat) a.toNat 0 c = S c
      rw [qq_ueq (by omega), qq_ueq (by omega)]
    have o2 : ∀ x y : Nat, x < 10 → y < 10 → S0 (37 + 1 + x) y = if (x = a.toNat ∧ y = b.toNat) ∨ (x = b.toNat ∧ y = a.toNat) then 0 else S (37 + 1 + x) y := fun x y hx hy => by
      show qq_u (qq_u S (37 + 1 + a.toNat) b.toNat 0) (37 + 1 + b.toNat) a.toNat 0 (37 + 1 + x) y = _
      unfold qq_u
      have i1 : (37 + 1 + x = 37 + 1 + b.toNat) ↔ x = b.toNat := by omega
      have i2 : (37 + 1 + x = 37 + 1 + a.toNat) ↔ x = a.toNat := by omega
      simp only [i1, i2]
      grind
    obtain ⟨T1, E1, J1, JE⟩ := f38 hxs (d + 0) S0 (zz_p1 (zz_CE_sy2 (a := a.toNat) (b := b.toNat) hC (by omega) (by omega) (by omega) o1 o2))
    obtain ⟨n1, n2, n3, n4, n5, n6, n7⟩ := zz_CE_num (a := a.toNat) (b := b.toNat) hC (by omega) (by omega) (by omega) o1 o2 J1 JE
    have t4 : T1 4 0 = S 4 0 := n2 0 (by decide)
    have t5 : T1 5 = S 5 := n1 5 (by omega)
    have t6 : T1 6 = S 6 := n1 6 (by omega)
    have t25 : T1 25 = S 25 := n1 25 (by omega)
    have rg : ∀ s : Nat, s < 10 → T1 (26 + 1 + s) = S (26 + 1 + s) := fun s hs => n1 _ (by omega)
    have rc := hC.2.2.2.2.2.2.2
    have nb : S (37 + 1 + b.toNat) a.toNat = -1 := by
      by_cases z : S (37 + 1 + b.toNat) a.toNat = -1
      · exact z
      · exact absurd hn (zz_CE_sy hC (by omega) (by omega) z).1
    have ra := rc a.toNat (by omega)
    have rb := rc b.toNat (by omega)
    have la := zz_rc_le ra (m := b.toNat) (not_not_intro hn) (by omega) (by omega) (by omega) (by omega)
    have lb := zz_rc_le rb (m := a.toNat) (not_not_intro nb) (by omega) (by omega) (by omega) (by omega)
    obtain ⟨T2, E2, k1, k2, k3, t, k4⟩ := f40 hxs (d + 0) T1 a b (by
      rw [t4, t5, t6, t25, rg a.toNat (by omega)]
      refine ⟨by omega, ⟨ra.1.1, la⟩, hC.2.1, hC.2.2.1, fun i hi => ?_, ra.2.2.2⟩
      have r := ra.2.1 i hi
      refine ⟨r.1, r.2.1, by omega, fun z => ?_⟩
      have := r.2.2.2
      rw [z] at this
      exact this hn)
    rw [t5, t6, t25, rg a.toNat (by omega)] at k4
    rw [t25] at k2 k3
    have u4 : T2 4 = T1 4 := k1 4 (by omega) (by omega)
    have u5 : T2 5 = S 5 := by rw [k1 5 (by omega) (by omega), t5]
    have u6 : T2 6 = S 6 := by rw [k1 6 (by omega) (by omega), t6]
    have ub : T2 (26 + 1 + b.toNat) = S (26 + 1 + b.toNat) := by rw [k1 _ (by omega) (by omega), rg _ (by omega)]
    have ub25 : T2 25 b.toNat = S 25 b.toNat := k3 _ (by omega)
    obtain ⟨T3, E3, m1, m2, m3, t2, m4⟩ := f40 hxs (d + 0) T2 b a (by
      rw [u4, t4, u5, u6, ub, ub25]
      refine ⟨by omega, ⟨rb.1.1, lb⟩, hC.2.1, hC.2.2.1, fun i hi => ?_, rb.2.2.2⟩
      have r := rb.2.1 i hi
      refine ⟨r.1, r.2.1, by omega, fun z => ?_⟩
      have := r.2.2.2
      rw [z] at this
      exact this nb)
    rw [u5, u6, ub, ub25] at m4
    rw [ub25] at m2
    refine qq_vcall rfl E1 (by omega) rfl rfl rfl (Nat.le_of_ble_eq_true rfl) ?_
    refine qq_fsound hxs (sp_0_ok hxs (d + 22)) [19, 25, 31] 100 ?_
    refine qq_vcall rfl E2 (by omega) rfl rfl rfl (Nat.le_of_ble_eq_true rfl) ?_
    refine qq_fsound hxs (sp_0_ok hxs (d + 22)) [19, 25, 31] 100 ?_
    refine qq_vcall rfl E3 (by omega) rfl rfl rfl (Nat.le_of_ble_eq_true rfl) ?_
    refine qq_fsound hxs (sp_0_ok hxs (d + 22)) [] 100 ?_
    have fr : ∀ c : Nat, ¬ (c = 25 ∨ (27 ≤ c ∧ c < 37)) → T3 c = T1 c := fun c hc => by rw [m1 c (by omega) (by omega), k1 c (by omega) (by omega)]
    have w4 : T3 4 = T1 4 := fr 4 (by omega)
    have w5 : T3 5 = S 5 := by rw [fr 5 (by omega), t5]
    have w6 : T3 6 = S 6 := by rw [fr 6 (by omega), t6]
    have w22 : T3 22 = T1 22 := fr 22 (by omega)
    have w23 : T3 23 = T1 23 := fr 23 (by omega)
    have w24 : T3 24 = T1 24 := fr 24 (by omega)
    have we : ∀ x : Nat, x < 10 → T3 (37 + 1 + x) = T1 (37 + 1 + x) := fun x hx => fr _ (by omega)
    refine ⟨rfl, ⟨?_, ?_, ?_, ?_, ?_, ?_, ?_, ?_⟩, ?_, ?_, ?_⟩
    · rw [w4, t4]; exact hC.1
    · rw [w4, t4, w5, w6]; exact hC.2.1
    · rw [w4, t4, w5, w6]; exact hC.2.2.1
    · rw [w4]; exact n3
    · intro e he
      rw [w4] at he
      have q := n4 e he
      rw [w4, w22, w23, w24, w5, w6, we _ (by omega), we _ (by omega)]
      rw [t5, t6] at q
      exact q
    · intro x y hx hy
      rw [we x hx, w4, w22, w23]
      exact n5 x y hx hy
    · rw [w4, w22, w23]; exact n6
    · intro s hs
      rw [w4, t4, w5, w6, we s hs]
      by_cases c1 : s = a.toNat
      · subst c1
        have e1 : T3 25 a.toNat = S 25 a.toNat + 1 := by rw [m3 _ (by omega), k2]
        have e2 : T3 (26 + 1 + a.toNat) = T2 (26 + 1 + a.toNat) := m1 _ (by omega) (by omega)
        rw [e1, e2]
        refine zz_rc_ins ra la (show ¬ b.toNat = a.toNat by omega) (by omega) k4 (fun k hk => ?_) (by omega)
        rw [n7 _ k hs hk]
        exact ⟨fun z => z.elim Or.inl (fun y => Or.inr (by omega)), fun z => z.elim Or.inl (fun y => Or.inr (Or.inl ⟨rfl, y⟩))⟩
      · by_cases c2 : s = b.toNat
        · subst c2
          rw [m2]
          refine zz_rc_ins rb lb (show ¬ a.toNat = b.toNat by omega) (by omega) m4 (fun k hk => ?_) (by omega)
          rw [n7 _ k hs hk]
          exact ⟨fun z => z.elim Or.inl (fun y => Or.inr (by omega)), fun z => z.elim Or.inl (fun y => Or.inr (Or.inr ⟨rfl, y⟩))⟩
        · have e1 : T3 25 s = S 25 s := by rw [m3 _ c2, k3 _ c1]
          have e2 : T3 (26 + 1 + s) = S (26 + 1 + s) := by rw [m1 _ (by omega) (by omega), k1 _ (by omega) (by omega), rg s hs]
          rw [e1, e2]
          refine zz_rc_c (rc s hs) (fun k hk => ?_) (by omega)
          rw [n7 _ k hs hk]
          exact ⟨fun z => z.elim id (fun y => by omega), Or.inl⟩
    · intro c hc
      rw [fr c (by omega)]
      exact n1 c (by omega)
    · intro j hj
      rw [w4]
      exact n2 j hj
    · intro x y hx hy
      rw [we x hx]
      exact n7 x y hx hy
  obtain ⟨r, S2, hE, e1, e2⟩ := qq_call_of (y := 37) rfl (Nat.le_of_ble_eq_true rfl) h
  rw [e1] at hE
  exact ⟨S2, hE, e2⟩
