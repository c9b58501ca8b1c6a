/-! Both find one change, over and over. -/
/-- the class's plan laid over T -/
def zz_ov (S T : qq_S) : qq_S := fun a => if a = 49 ∨ a = 50 then S a else T a
theorem zz_ov1 {S T : qq_S} {a : Nat} (h : a = 49 ∨ a = 50) : zz_ov S T a = S a := if_pos h
theorem zz_ov0 {S T : qq_S} {a : Nat} (h : ¬ (a = 49 ∨ a = 50)) : zz_ov S T a = T a := if_neg h
def zz_tm (U : qq_S) : Prop := U 115 14 = U 52 3 ∧ U 115 15 = U 52 0 ∧ U 115 16 = U 52 1 ∧ U 115 17 = U 52 2
theorem zz_cst_eq {S : qq_S} (hN : zz_N S) (hP : zz_PL S) (tm : zz_tm S) (ha : zz_al S (S 49) (S 50)) : zz_cst S (S 49) (S 50) = zz_mcst S := by
  have ce := zz_cost_eq hN hP (zz_al_vC.mpr ha)
  unfold zz_cst zz_mcst
  rw [ce.1, ce.2.1, ce.2.2, tm.2.1, tm.2.2.1, tm.2.2.2, Int.mul_comm, Int.mul_comm (zz_mlns S), Int.mul_comm (zz_mtrs S)]
/-- one station moved on both sides -/
def zz_mvb (U : qq_S) (s : Nat) (p : Int) : qq_S := qq_u (zz_mv U s p) 123 s p
theorem zz_mvb_N {U : qq_S} (hN : zz_N U) (s : Nat) (p : Int) : zz_N (zz_mvb U s p) := zz_N_c (zz_cN_u ⟨fun a ha => zz_mv_ne (by omega), fun j _ _ => by rw [zz_mv_ne (by omega)]⟩ (by omega)) hN
theorem zz_mvb_tm {U : qq_S} (tm : zz_tm U) (s : Nat) (p : Int) : zz_tm (zz_mvb U s p) := by
  unfold zz_tm zz_mvb
  rw [qq_ueq (show 115 ≠ 123 by decide), qq_ueq (show 52 ≠ 123 by decide), zz_mv_ne (by omega), zz_mv_ne (by omega)]
  exact tm
theorem zz_mvb_PL {U : qq_S} (hP : zz_PL U) (hN : zz_N U) {s : Nat} (hs : (s : Int) < U 4 0) {p : Int} (hp : 0 ≤ p ∧ p < U 48 0 * U 48 1) : zz_PL (zz_mvb U s p) := by
  have gb := hN.1.1
  obtain ⟨p1, p2, p3⟩ := hP
  have f : ∀ a : Nat, ¬ (a = 49 ∨ a = 50 ∨ a = 123) → zz_mvb U s p a = U a := fun a ha => by
    unfold zz_mvb
    rw [qq_ueq (by omega), zz_mv_ne (by omega)]
  have l : ∀ t : Nat, zz_mvb U s p 49 t = (if t = s then p % U 48 0 else U 49 t) ∧ zz_mvb U s p 50 t = (if t = s then p / U 48 0 else U 50 t) := fun t => by
    unfold zz_mvb
    rw [qq_ueq (by decide), qq_ueq (by decide)]
    exact zz_mv_at
  have l3 : ∀ t : Nat, zz_mvb U s p 123 t = if t = s then p else U 123 t := fun t => by
    unfold zz_mvb
    rw [qq_uat, zz_mv_ne (by omega)]
  have m1 := Int.emod_nonneg p (show U 48 0 ≠ 0 by omega)
  have m2 := Int.emod_lt_of_pos p (show 0 < U 48 0 by omega)
  have d1 := Int.ediv_nonneg hp.1 (show 0 ≤ U 48 0 by omega)
  have d2 : p / U 48 0 < U 48 1 := Int.ediv_lt_of_lt_mul (by omega) (by rw [Int.mul_comm]; exact hp.2)
  have me : p / U 48 0 * U 48 0 + p % U 48 0 = p := Int.ediv_mul_add_emod p (U 48 0)
  unfold zz_PL
  rw [f 4 (by omega), f 48 (by omega), f 51 (by omega), f 115 (by omega), f 124 (by omega)]
  refine ⟨p1, fun t ht => ?_, fun t ht => ?_⟩
  · have q := p2 t ht
    rw [(l t).1, (l t).2]
    by_cases c : t = s
    · rw [if_pos c, if_pos c]
      exact ⟨Or.inr ⟨m1, m2, d1, d2⟩, q.2.1, fun z => by omega, fun z => by omega⟩
    · rw [if_neg c, if_neg c]
      exact q
  · have q := p3 t ht
    rw [(l t).1, (l t).2, l3 t]
    by_cases c : t = s
    · rw [if_pos c, if_pos c, if_pos c]
      refine ⟨q.1, ?_⟩
      unfold zz_pt
      rw [if_neg (by omega)]
      omega
    · rw [if_neg c, if_neg c, if_neg c]
      exact q
theorem zz_mvb_cM (U : qq_S) (s : Nat) (p : Int) : zz_cM (qq_u U 123 s p) (zz_mvb U s p) := by
  refine ⟨fun a ha => ?_, fun j hj => ?_⟩
  · unfold zz_mvb
    by_cases e : a = 123
    · subst e
      funext t
      rw [qq_uat, qq_uat, zz_mv_ne (by omega)]
    · rw [qq_ueq e, qq_ueq e, zz_mv_ne (by omega)]
  · unfold zz_mvb
    rw [qq_ueq (by decide), qq_ueq (by decide), zz_mv_ne (by omega)]
theorem zz_mvb_al {U : qq_S} (hN : zz_N U) (s : Nat) (p : Int) : zz_al (zz_mvb U s p) (zz_mvb U s p 49) (zz_mvb U s p 50) ↔ zz_caA U s p := by
  have gb := hN.1.1
  have e1 : zz_mvb U s p 49 = zz_mv U s p 49 := qq_ueq (by decide)
  have e2 : zz_mvb U s p 50 = zz_mv U s p 50 := qq_ueq (by decide)
  unfold zz_caA
  rw [e1, e2]
  refine zz_al_c (fun a h1 h2 => ?_) ?_ (by omega)
  · unfold zz_mvb
    rw [qq_ueq (by omega), zz_mv_ne (by omega)]
  · unfold zz_mvb
    rw [qq_ueq (by omega), zz_mv_ne (by omega)]
theorem zz_mvb_cst {U : qq_S} (hN : zz_N U) (s : Nat) (p : Int) : zz_cst (zz_mvb U s p) (zz_mvb U s p 49) (zz_mvb U s p 50) = zz_caC U s p := by
  have gb := hN.1.1
  have e1 : zz_mvb U s p 49 = zz_mv U s p 49 := qq_ueq (by decide)
  have e2 : zz_mvb U s p 50 = zz_mv U s p 50 := qq_ueq (by decide)
  unfold zz_caC
  rw [e1, e2]
  refine zz_cst_c (fun a h1 h2 => ?_) ?_ (by omega)
  · unfold zz_mvb
    rw [qq_ueq (by omega), zz_mv_ne (by omega)]
  · unfold zz_mvb
    rw [qq_ueq (by omega), zz_mv_ne (by omega)]
theorem zz_cs_ms {U : qq_S} (hN : zz_N U) (hP : zz_PL U) (tm : zz_tm U) (ha : zz_al U (U 49) (U 50)) : ∀ s : Nat, s ≤ (U 4 0).toNat → zz_cs U s = zz_msc U s := by
  intro s hs
  have gb := hN.1.1
  have p1 := hP.1
  unfold zz_cs zz_msc
  rw [zz_cst_eq hN hP tm ha, p1.2.2.2.2.1, p1.2.2.2.2.2]
  refine zz_sc_c (n := (U 4 0).toNat) (fun t ht => ((hP.2.2 t (by omega)).1).symm) (fun t p ht _ hp => ?_) s hs
  have whb := zz_mb2 (show 0 ≤ U 48 0 ∧ U 48 0 ≤ 8 by omega) (show 0 ≤ U 48 1 ∧ U 48 1 ≤ 8 by omega)
  have mN := zz_mvb_N hN t p
  have mP := zz_mvb_PL hP hN (s := t) (by omega) (p := p) (by omega)
  have mt := zz_mvb_tm tm t p
  have ve := zz_v_eq mN mP mt.1
  have uN : zz_N (qq_u U 123 t p) := zz_N_c (zz_cN_123 U t p) hN
  have vm := zz_cM_vM (zz_mvb_cM U t p) uN
  have mc := zz_cM_mc (zz_mvb_cM U t p)
  have al := zz_mvb_al hN t p
  refine ⟨?_, fun z => ?_⟩
  · unfold zz_mA
    rw [← vm, ← ve, ← al]
    exact zz_al_vC.symm
  · have e := zz_cst_eq mN mP mt (al.mpr z)
    rw [zz_mvb_cst hN] at e
    unfold zz_mC
    rw [e, mc]
theorem zz_cs_c {S T : qq_S} (h : ∀ a : Nat, 4 ≤ a → a < 48 → T a = S a) (h48 : T 48 = S 48) (h49 : T 49 = S 49) (h50 : T 50 = S 50) (h51 : T 51 = S 51) (h52 : T 52 = S 52) (hn : S 4 0 ≤ 10) (hl : S 4 1 ≤ 6) : ∀ s : Nat, s ≤ (S 4 0).toNat → zz_cs T s = zz_cs S s := by
  intro s hs
  unfold zz_cs
  rw [h48, h49, h50, zz_cst_c h h52 hl]
  have mv : ∀ (t : Nat) (p : Int), zz_mv T t p 49 = zz_mv S t p 49 ∧ zz_mv T t p 50 = zz_mv S t p 50 := fun t p => by
    constructor
    · funext j; rw [(zz_mv_at).1, (zz_mv_at).1, h48, h49]
    · funext j; rw [(zz_mv_at).2, (zz_mv_at).2, h48, h50]
  refine zz_sc_c (n := (S 4 0).toNat) (fun t _ => by rw [h51]) (fun t p _ _ _ => ?_) s hs
  unfold zz_caA zz_caC
  rw [(mv t p).1, (mv t p).2, zz_al_c h (by rw [h52]) hn, zz_cst_c h h52 hl]
  exact ⟨Iff.rfl, fun _ => rfl⟩
/-- the class in S, the reference in T: one drawing, which is allowed -/
def zz_Ti (S T : qq_S) : Prop := zz_N S ∧ zz_N T ∧ (∀ a : Nat, 4 ≤ a → a ≤ 52 → ¬ a = 49 → ¬ a = 50 → T a = S a) ∧ zz_PL (zz_ov S T) ∧ zz_tm T ∧ zz_al S (S 49) (S 50) ∧ (0 ≤ S 52 0 ∧ S 52 0 ≤ 100 ∧ 0 ≤ S 52 1 ∧ S 52 1 ≤ 100 ∧ 0 ≤ S 52 2 ∧ S 52 2 ≤ 100 ∧ 0 ≤ S 52 3 ∧ S 52 3 ≤ 100)
theorem zz_Ti_N {S T : qq_S} (h : zz_Ti S T) : zz_N (zz_ov S T) := zz_N_c ⟨fun a ha => zz_ov0 (by omega), fun j _ _ => by rw [zz_ov0 (by omega)]⟩ h.2.1
theorem zz_Ti_al {S T : qq_S} (h : zz_Ti S T) : zz_al (zz_ov S T) (zz_ov S T 49) (zz_ov S T 50) := by
  have gb := h.1.1.1
  rw [zz_ov1 (Or.inl rfl), zz_ov1 (Or.inr rfl)]
  exact (zz_al_c (fun a h1 h2 => by rw [zz_ov0 (by omega)]; exact h.2.2.1 a h1 (by omega) (by omega) (by omega)) (by rw [zz_ov0 (by omega), h.2.2.1 52 (by omega) (by omega) (by omega) (by omega)]) (by omega)).mpr h.2.2.2.2.2.1
theorem zz_Ti_gp {S T : qq_S} (h : zz_Ti S T) : zz_gp S := by
  have gb := h.1.1.1
  have P := h.2.2.2.1
  have e4 : T 4 = S 4 := h.2.2.1 4 (by omega) (by omega) (by omega) (by omega)
  have e48 : T 48 = S 48 := h.2.2.1 48 (by omega) (by omega) (by omega) (by omega)
  have e51 : T 51 = S 51 := h.2.2.1 51 (by omega) (by omega) (by omega) (by omega)
  unfold zz_PL at P
  rw [zz_ov1 (a := 49) (Or.inl rfl), zz_ov1 (a := 50) (Or.inr rfl), zz_ov0 (a := 4) (by omega), zz_ov0 (a := 48) (by omega), zz_ov0 (a := 51) (by omega), zz_ov0 (a := 115) (by omega), zz_ov0 (a := 123) (by omega), zz_ov0 (a := 124) (by omega), e4, e48, e51] at P
  obtain ⟨p1, p2, p3⟩ := P
  refine ⟨by omega, h.2.2.2.2.2.2, fun t ht => (p2 t ht).2.1, fun t ht => ?_⟩
  have q := (p2 t (by omega)).1
  have := h.2.2.2.2.2.1.1 t (by omega)
  rcases q with q | q
  · omega
  · exact q
theorem zz_Ti_mg {S T : qq_S} (h : zz_Ti S T) : zz_mgr T := by
  have gb := h.1.1.1
  have g := zz_Ti_gp h
  have P := h.2.2.2.1
  have e4 : T 4 = S 4 := h.2.2.1 4 (by omega) (by omega) (by omega) (by omega)
  have e48 : T 48 = S 48 := h.2.2.1 48 (by omega) (by omega) (by omega) (by omega)
  have e51 : T 51 = S 51 := h.2.2.1 51 (by omega) (by omega) (by omega) (by omega)
  have e52 : T 52 = S 52 := h.2.2.1 52 (by omega) (by omega) (by omega) (by omega)
  unfold zz_PL at P
  rw [zz_ov1 (a := 49) (Or.inl rfl), zz_ov1 (a := 50) (Or.inr rfl), zz_ov0 (a := 4) (by omega), zz_ov0 (a := 48) (by omega), zz_ov0 (a := 51) (by omega), zz_ov0 (a := 115) (by omega), zz_ov0 (a := 123) (by omega), zz_ov0 (a := 124) (by omega), e4, e48, e51] at P
  obtain ⟨p1, p2, p3⟩ := P
  have tm := h.2.2.2.2.1
  unfold zz_tm at tm
  rw [e52] at tm
  have t := h.2.2.2.2.2.2
  unfold zz_mgr
  rw [e4]
  refine ⟨by omega, by omega, fun t ht => ?_, fun t ht => ?_⟩
  · have := (p2 t (by omega)).2.1
    have := (p3 t ht).1
    omega
  · have q := g.2.2.2 t ht
    have z := (p3 t ht).2
    unfold zz_pt at z
    rw [if_neg (by omega)] at z
    rw [z, p1.2.2.2.2.1, p1.2.2.2.2.2]
    have m := Int.mul_le_mul_of_nonneg_right (show S 50 t ≤ S 48 1 - 1 by omega) (show 0 ≤ S 48 0 by omega)
    have e : (S 48 1 - 1) * S 48 0 = S 48 0 * S 48 1 - S 48 0 := by rw [Int.sub_mul, Int.one_mul, Int.mul_comm]
    have m0 := Int.mul_nonneg (show 0 ≤ S 50 t by omega) (show 0 ≤ S 48 0 by omega)
    omega
theorem zz_Ti_eq {S T : qq_S} (h : zz_Ti S T) : (zz_co S (S 4 0).toNat).2 = (zz_msc T (T 4 0).toNat).2 := by
  have gb := h.1.1.1
  have e4 : T 4 = S 4 := h.2.2.1 4 (by omega) (by omega) (by omega) (by omega)
  have uN := zz_Ti_N h
  have c1 := zz_co_cs h.1 (zz_Ti_gp h) h.2.2.2.2.2.1 (S 4 0).toNat (Nat.le_refl _)
  have f : ∀ a : Nat, 4 ≤ a → a ≤ 52 → zz_ov S T a = S a := fun a h1 h2 => by
    by_cases c : a = 49 ∨ a = 50
    · exact zz_ov1 c
    · rw [zz_ov0 c]; exact h.2.2.1 a h1 h2 (by omega) (by omega)
  have c2 := zz_cs_c (S := S) (T := zz_ov S T) (fun a h1 h2 => f a h1 (by omega)) (f 48 (by omega) (by omega)) (f 49 (by omega) (by omega)) (f 50 (by omega) (by omega)) (f 51 (by omega) (by omega)) (f 52 (by omega) (by omega)) (by omega) (by omega) (S 4 0).toNat (Nat.le_refl _)
  have o4 : zz_ov S T 4 = S 4 := f 4 (by omega) (by omega)
  have tm : zz_tm (zz_ov S T) := by
    unfold zz_tm
    rw [zz_ov0 (by omega), zz_ov0 (by omega)]
    exact h.2.2.2.2.1
  have c3 := zz_cs_ms uN h.2.2.2.1 tm (zz_Ti_al h) (S 4 0).toNat (by rw [o4]; exact Nat.le_refl _)
  have c4 := zz_msc_c (S := T) (T := zz_ov S T) ⟨fun a ha => zz_ov0 (by omega), fun j _ => by rw [zz_ov0 (by omega)]⟩ h.2.1 (S 4 0).toNat (by rw [e4]; exact Nat.le_refl _)
  rw [c1.2, ← c2, c3, c4, e4]
/-- one change on both sides -/
theorem zz_Ti_step {S T : qq_S} (h : zz_Ti S T) : zz_Ti (zz_mbc S) (zz_mm T) := by
  have gb := h.1.1.1
  have e := zz_Ti_eq h
  have e4 : T 4 = S 4 := h.2.2.1 4 (by omega) (by omega) (by omega) (by omega)
  have e48 : T 48 = S 48 := h.2.2.1 48 (by omega) (by omega) (by omega) (by omega)
  have g := zz_Ti_gp h
  by_cases c : (zz_co S (S 4 0).toNat).2.1 = -1
  · have z1 : zz_mbc S = S := by unfold zz_mbc; rw [if_pos c]
    have z2 : zz_mm T = T := by unfold zz_mm; rw [← e, if_pos c]
    rw [z1, z2]
    exact h
  · have b := zz_co_bd (S := S) (n := (S 4 0).toNat) (S 4 0).toNat (Nat.le_refl _)
    have gw := g.1
    have whb := zz_mb2 (show 0 ≤ S 48 0 ∧ S 48 0 ≤ 8 by omega) (show 0 ≤ S 48 1 ∧ S 48 1 ≤ 8 by omega)
    have hal : zz_caA S (zz_co S (S 4 0).toNat).2.1.toNat (zz_co S (S 4 0).toNat).2.2 := by
      have c1 := zz_co_cs h.1 g h.2.2.2.2.2.1 (S 4 0).toNat (Nat.le_refl _)
      rw [c1.2] at c ⊢
      exact zz_sc_A _ c
    have z1 : zz_mbc S = zz_mv S (zz_co S (S 4 0).toNat).2.1.toNat (zz_co S (S 4 0).toNat).2.2 := by unfold zz_mbc; rw [if_neg c]
    have z2 : zz_mm T = qq_u T 123 (zz_co S (S 4 0).toNat).2.1.toNat (zz_co S (S 4 0).toNat).2.2 := by unfold zz_mm; rw [← e, if_neg c]
    rw [z1, z2]
    generalize hs : (zz_co S (S 4 0).toNat).2.1.toNat = s at *
    generalize hq : (zz_co S (S 4 0).toNat).2.2 = p at *
    have mN : zz_N (zz_mv S s p) := zz_N_c ⟨fun a ha => zz_mv_ne (by omega), fun j _ _ => by rw [zz_mv_ne (by omega)]⟩ h.1
    have n52 : zz_mv S s p 52 = S 52 := zz_mv_ne (by omega)
    refine ⟨mN, zz_N_c (zz_cN_123 T s p) h.2.1, fun a h1 h2 h3 h4 => ?_, ?_, ?_, ?_, ?_⟩
    · rw [qq_ueq (by omega), zz_mv_ne (by omega)]
      exact h.2.2.1 a h1 h2 h3 h4
    · have eo : zz_ov (zz_mv S s p) (qq_u T 123 s p) = zz_mvb (zz_ov S T) s p := by
        have ow : zz_ov S T 48 0 = S 48 0 := by rw [zz_ov0 (by omega), e48]
        funext a t
        by_cases ca : a = 49 ∨ a = 50
        · rw [zz_ov1 ca]
          have l1 := zz_mv_at (S := S) (s := s) (t := t) (p := p)
          have l2 := zz_mv_at (S := zz_ov S T) (s := s) (t := t) (p := p)
          rw [ow, zz_ov1 (Or.inl rfl), zz_ov1 (Or.inr rfl)] at l2
          unfold zz_mvb
          rw [qq_ueq (by omega)]
          rcases ca with e | e <;> subst e
          · rw [l1.1, l2.1]
          · rw [l1.2, l2.2]
        · rw [zz_ov0 ca]
          unfold zz_mvb
          by_cases c3 : a = 123
          · subst c3
            rw [qq_uat, qq_uat, zz_mv_ne (by omega), zz_ov0 (by omega)]
          · rw [qq_ueq c3, qq_ueq c3, zz_mv_ne ca, zz_ov0 ca]
      rw [eo]
      refine zz_mvb_PL h.2.2.2.1 (zz_Ti_N h) ?_ ?_
      · rw [zz_ov0 (by omega), e4]; omega
      · rw [zz_ov0 (by omega), e48]; omega
    · unfold zz_tm
      rw [qq_ueq (by decide), qq_ueq (by decide)]
      exact h.2.2.2.2.1
    · exact (zz_al_c zz_mv_n48 (by rw [n52]) (by omega)).mpr hal
    · rw [n52]; exact h.2.2.2.2.2.2
theorem zz_Ti_run : ∀ (k : Nat) {S T : qq_S}, zz_Ti S T → (zz_bt k S).1 = (zz_mt k T).1 ∧ zz_Ti (zz_bt k S).2 (zz_mt k T).2
  | 0, S, T, h => ⟨rfl, h⟩
  | k + 1, S, T, h => by
    have ih := zz_Ti_run k (zz_Ti_step h)
    have e := zz_Ti_eq h
    by_cases c : (zz_co S (S 4 0).toNat).2.1 = -1
    · rw [zz_bt_no c, zz_mt_no (by rw [← e]; exact c)]
      exact ⟨rfl, h⟩
    · rw [zz_bt_yes c, zz_mt_yes (by rw [← e]; exact c)]
      exact ⟨by show (zz_bt k (zz_mbc S)).1 + 1 = (zz_mt k (zz_mm T)).1 + 1; rw [ih.1], ih.2⟩
theorem zz_bt_fr : ∀ (k : Nat) (S : qq_S) (a : Nat), ¬ (a = 49 ∨ a = 50) → (zz_bt k S).2 a = S a
  | 0, S, a, ha => rfl
  | k + 1, S, a, ha => by
    by_cases c : (zz_co S (S 4 0).toNat).2.1 = -1
    · rw [zz_bt_no c]
    · rw [zz_bt_yes c]
      show (zz_bt k (zz_mbc S)).2 a = S a
      rw [zz_bt_fr k _ a ha]
      unfold zz_mbc
      rw [if_neg c, zz_mv_ne ha]
theorem zz_mt_fr : ∀ (k : Nat) (S : qq_S) (a : Nat), ¬ a = 123 → (zz_mt k S).2 a = S a
  | 0, S, a, ha => rfl
  | k + 1, S, a, ha => by
    by_cases c : (zz_msc S (S 4 0).toNat).2.1 = -1
    · rw [zz_mt_no c]
    · rw [zz_mt_yes c]
      show (zz_mt k (zz_mm S)).2 a = S a
      rw [zz_mt_fr k _ a ha]
      unfold zz_mm
      rw [if_neg c, qq_ueq ha]
theorem inv_pl {S T : qq_S} (f : ∀ a : Nat, ((4 ≤ a ∧ a ≤ 52) ∨ (95 ≤ a ∧ a ≤ 97) ∨ (102 ≤ a ∧ a ≤ 114) ∨ (116 ≤ a ∧ a ≤ 121) ∨ (123 ≤ a ∧ a ≤ 125) ∨ (130 ≤ a ∧ a ≤ 133)) → ¬ a = 49 → ¬ a = 50 → ¬ a = 123 → T a = S a) (g : ∀ j : Nat, ((1 ≤ j ∧ j ≤ 3) ∨ (12 ≤ j ∧ j ≤ 17) ∨ j = 26) → T 115 j = S 115 j) (st : T 115 0 = T 3 9 ∧ qq_in (T 3 9)) (hP : zz_PL T) (hI : inv S) : inv T := by
  have r : ∀ b n : Nat, 4 ≤ b → b + n ≤ 48 → qq_R T b n = qq_R S b n := fun b n h1 h2 => by
    funext l
    unfold qq_R
    split
    · exact f (b + l) (by omega) (by omega) (by omega) (by omega)
    · rfl
  obtain ⟨q1, q2, q3, q4, q5, q6, q7, q8, q9, q10, q11⟩ := hI
  refine ⟨?_, ?_, ?_, ?_, hP, ?_, ?_, ?_, ?_, ?_, ?_⟩
  · rw [f 4 (by omega) (by omega) (by omega) (by omega), f 5 (by omega) (by omega) (by omega) (by omega), f 6 (by omega) (by omega) (by omega) (by omega), f 116 (by omega) (by omega) (by omega) (by omega), f 117 (by omega) (by omega) (by omega) (by omega), g 1 (by omega), g 2 (by omega)]
    exact q1
  · rw [f 4 (by omega) (by omega) (by omega) (by omega), f 7 (by omega) (by omega) (by omega) (by omega), f 118 (by omega) (by omega) (by omega) (by omega), f 119 (by omega) (by omega) (by omega) (by omega), r 9 6 (by omega) (by omega), r 16 6 (by omega) (by omega)]
    exact q2
  · rw [f 4 (by omega) (by omega) (by omega) (by omega), f 5 (by omega) (by omega) (by omega) (by omega), f 6 (by omega) (by omega) (by omega) (by omega), f 7 (by omega) (by omega) (by omega) (by omega), f 22 (by omega) (by omega) (by omega) (by omega), f 23 (by omega) (by omega) (by omega) (by omega), f 24 (by omega) (by omega) (by omega) (by omega), f 120 (by omega) (by omega) (by omega) (by omega), f 121 (by omega) (by omega) (by omega) (by omega), r 9 6 (by omega) (by omega), r 38 10 (by omega) (by omega), g 3 (by omega)]
    exact q3
  · rw [f 4 (by omega) (by omega) (by omega) (by omega), f 5 (by omega) (by omega) (by omega) (by omega), f 6 (by omega) (by omega) (by omega) (by omega), f 25 (by omega) (by omega) (by omega) (by omega), r 27 10 (by omega) (by omega), r 38 10 (by omega) (by omega)]
    exact q4
  · rw [f 52 (by omega) (by omega) (by omega) (by omega), g 14 (by omega), g 15 (by omega), g 16 (by omega), g 17 (by omega)]
    exact q6
  · rw [f 4 (by omega) (by omega) (by omega) (by omega), f 95 (by omega) (by omega) (by omega) (by omega), f 96 (by omega) (by omega) (by omega) (by omega), f 97 (by omega) (by omega) (by omega) (by omega), f 125 (by omega) (by omega) (by omega) (by omega), f 130 (by omega) (by omega) (by omega) (by omega), f 131 (by omega) (by omega) (by omega) (by omega), g 26 (by omega)]
    exact q7
  · rw [f 4 (by omega) (by omega) (by omega) (by omega), f 114 (by omega) (by omega) (by omega) (by omega), f 132 (by omega) (by omega) (by omega) (by omega), f 102 (by omega) (by omega) (by omega) (by omega), f 103 (by omega) (by omega) (by omega) (by omega), f 104 (by omega) (by omega) (by omega) (by omega), f 105 (by omega) (by omega) (by omega) (by omega), f 133 (by omega) (by omega) (by omega) (by omega)]
    exact q8
  · rw [f 4 (by omega) (by omega) (by omega) (by omega), f 114 (by omega) (by omega) (by omega) (by omega), f 132 (by omega) (by omega) (by omega) (by omega), f 106 (by omega) (by omega) (by omega) (by omega), f 107 (by omega) (by omega) (by omega) (by omega), f 108 (by omega) (by omega) (by omega) (by omega), f 109 (by omega) (by omega) (by omega) (by omega), f 133 (by omega) (by omega) (by omega) (by omega)]
    exact q9
  · rw [f 4 (by omega) (by omega) (by omega) (by omega), f 114 (by omega) (by omega) (by omega) (by omega), f 132 (by omega) (by omega) (by omega) (by omega), f 110 (by omega) (by omega) (by omega) (by omega), f 111 (by omega) (by omega) (by omega) (by omega), f 112 (by omega) (by omega) (by omega) (by omega), f 113 (by omega) (by omega) (by omega) (by omega), f 133 (by omega) (by omega) (by omega) (by omega)]
    exact q10
  · exact st
