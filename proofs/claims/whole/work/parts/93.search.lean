/-! The search's states: what is fixed, what is placed, what may come of it. -/
def yy_fx (S T : qq_S) : Prop := (∀ a : Nat, ¬ a = 55 → ¬ a = 57 → ¬ a = 58 → ¬ a = 88 → T a = S a) ∧ (∀ j : Nat, ¬ j = 13 → T 55 j = S 55 j)
theorem yy_fx0 (S : qq_S) : yy_fx S S := ⟨fun _ _ _ _ _ => rfl, fun _ _ => rfl⟩
theorem yy_fx_t {S T U : qq_S} (h : yy_fx S T) (g : yy_fx T U) : yy_fx S U := ⟨fun a h1 h2 h3 h4 => by rw [g.1 a h1 h2 h3 h4, h.1 a h1 h2 h3 h4], fun j hj => by rw [g.2 j hj, h.2 j hj]⟩
theorem yy_fx_n {S T : qq_S} (h : yy_fx S T) : ∀ a : Nat, 4 ≤ a → a < 48 → T a = S a := fun a h1 h2 => h.1 a (by omega) (by omega) (by omega) (by omega)
def yy_C (S : qq_S) : Prop := zz_N S ∧ S 4 0 ≤ 5 ∧ (2 ≤ S 56 0 ∧ S 56 0 ≤ 8 ∧ 2 ≤ S 56 1 ∧ S 56 1 ≤ 8 ∧ S 56 0 * S 56 1 ≤ 25) ∧ yy_T S (S 56 0) (S 56 1) ∧ yy_ord S ∧ yy_rst S ∧ (∀ t : Nat, (t : Int) < S 4 0 → S 87 t = -1 ∨ (0 ≤ S 87 t ∧ S 87 t < S 56 0 * S 56 1)) ∧ (S 55 12 = 0 ∨ S 55 12 = 1) ∧ (0 ≤ S 52 0 ∧ S 52 0 ≤ 100 ∧ 0 ≤ S 52 1 ∧ S 52 1 ≤ 100 ∧ 0 ≤ S 52 2 ∧ S 52 2 ≤ 100 ∧ 1 ≤ S 52 3 ∧ S 52 3 ≤ 4) ∧ (0 ≤ S 55 14 ∧ S 55 14 ≤ 1000000)
theorem yy_oc_c {S T : qq_S} (h : ∀ a : Nat, 4 ≤ a → a < 48 → T a = S a) (h89 : T 89 = S 89) {k : Nat} (hk : 0 ≤ S 89 k ∧ S 89 k < 10) : yy_oc T k = yy_oc S k := by
  unfold yy_oc
  rw [h89, h 25 (by omega) (by omega), h (26 + 1 + (S 89 k).toNat) (by omega) (by omega)]
theorem yy_C_fx {S T : qq_S} (h : yy_fx S T) (c : yy_C S) : yy_C T := by
  obtain ⟨c1, c2, c3, c4, c5, c6, c7, c8, c9, c10⟩ := c
  have gb := c1.1.1
  have f4 : T 4 = S 4 := h.1 4 (by omega) (by omega) (by omega) (by omega)
  have f52 : T 52 = S 52 := h.1 52 (by omega) (by omega) (by omega) (by omega)
  have f56 : T 56 = S 56 := h.1 56 (by omega) (by omega) (by omega) (by omega)
  have f60 : T 60 = S 60 := h.1 60 (by omega) (by omega) (by omega) (by omega)
  have f87 : T 87 = S 87 := h.1 87 (by omega) (by omega) (by omega) (by omega)
  have f89 : T 89 = S 89 := h.1 89 (by omega) (by omega) (by omega) (by omega)
  have f91 : T 91 = S 91 := h.1 91 (by omega) (by omega) (by omega) (by omega)
  refine ⟨zz_N_c ⟨fun a ha => h.1 a (by omega) (by omega) (by omega) (by omega), fun j _ _ => by rw [h.1 115 (by omega) (by omega) (by omega) (by omega)]⟩ c1, by rw [f4]; exact c2, by rw [f56]; exact c3, ?_, ?_, ?_, by rw [f4, f56, f87]; exact c7, by rw [h.2 12 (by omega)]; exact c8, by rw [f52]; exact c9, by rw [h.2 14 (by omega)]; exact c10⟩
  · rw [f56]
    intro p hp
    have q := c4 p hp
    unfold yy_tb at q ⊢
    rw [f52, f60, h.1 (61 + 1 + p) (by omega) (by omega) (by omega) (by omega)]
    exact q
  · unfold yy_ord
    rw [f4, f89]; exact c5
  · unfold yy_rst
    rw [f4, f52, f91]
    refine ⟨c6.1, fun k hk => ?_⟩
    have ok := c5.1 k hk
    rw [yy_oc_c (yy_fx_n h) f89 (by omega)]
    exact c6.2 k hk
def yy_I (S : qq_S) (k : Nat) (sp tk : Int) : Prop := yy_tp S ∧ yy_plc S (S 57) k ∧ (∀ t : Nat, (t : Int) < S 4 0 → ¬ S 57 t = -1 → S 87 t = -1 ∨ S 87 t = S 58 t * S 56 0 + S 57 t) ∧ yy_pal S (S 57) (S 58) ∧ sp = yy_pc S (S 57) (S 58) ∧ yy_tk S (S 56 0) (S 56 1) (S 57) (S 58) tk ∧ ((k : Int) = S 4 0 → 0 < S 4 0 → S 55 12 = 0 → yy_fls (S 4 0) (S 57) (S 58))
def yy_Cd (S : qq_S) (Q : Nat → Int) : Prop := (∀ t : Nat, (t : Int) < S 4 0 → 0 ≤ Q t ∧ Q t < S 56 0 * S 56 1 ∧ (S 87 t = -1 ∨ S 87 t = Q t)) ∧ zz_al S (fun t => Q t % S 56 0) (fun t => Q t / S 56 0) ∧ (S 55 12 = 0 → 0 < S 4 0 → yy_fls (S 4 0) (fun t => Q t % S 56 0) (fun t => Q t / S 56 0))
def yy_cq (S : qq_S) (Q : Nat → Int) : Int := zz_cst S (fun t => Q t % S 56 0) (fun t => Q t / S 56 0)
def yy_ex (S : qq_S) (Q : Nat → Int) : Prop := ∀ t : Nat, (t : Int) < S 4 0 → ¬ S 57 t = -1 → S 57 t = Q t % S 56 0 ∧ S 58 t = Q t / S 56 0
theorem yy_Cd_fx {S T : qq_S} (h : yy_fx S T) (hN : zz_N S) {Q : Nat → Int} : yy_Cd T Q ↔ yy_Cd S Q := by
  have gb := hN.1.1
  unfold yy_Cd
  rw [h.1 4 (by omega) (by omega) (by omega) (by omega), h.1 56 (by omega) (by omega) (by omega) (by omega), h.1 87 (by omega) (by omega) (by omega) (by omega), h.2 12 (by omega), zz_al_c (yy_fx_n h) (by rw [h.1 52 (by omega) (by omega) (by omega) (by omega)]) (by omega)]
theorem yy_cq_fx {S T : qq_S} (h : yy_fx S T) (hN : zz_N S) {Q : Nat → Int} : yy_cq T Q = yy_cq S Q := by
  have gb := hN.1.1
  unfold yy_cq
  rw [h.1 56 (by omega) (by omega) (by omega) (by omega), zz_cst_c (yy_fx_n h) (h.1 52 (by omega) (by omega) (by omega) (by omega)) (by omega)]
/-- a station moved on the trial -/
def yy_mvt (S : qq_S) (s : Nat) (p : Int) : qq_S := if p < 0 then qq_u (qq_u S 57 s (-1)) 58 s (-1) else qq_u (qq_u S 57 s (p % S 56 0)) 58 s (p / S 56 0)
theorem yy_mvt_ne {S : qq_S} {s a : Nat} {p : Int} (h1 : ¬ a = 57) (h2 : ¬ a = 58) : yy_mvt S s p a = S a := by
  unfold yy_mvt
  split <;> rw [qq_ueq h2, qq_ueq h1]
theorem yy_mvt_at {S : qq_S} {s t : Nat} {p : Int} (hp : 0 ≤ p) : yy_mvt S s p 57 t = (if t = s then p % S 56 0 else S 57 t) ∧ yy_mvt S s p 58 t = (if t = s then p / S 56 0 else S 58 t) := by
  unfold yy_mvt
  rw [if_neg (by omega)]
  refine ⟨?_, ?_⟩
  · rw [qq_ueq (by decide), qq_uat]
  · rw [qq_uat, qq_ueq (by decide)]
theorem yy_mvt_un {S : qq_S} {s t : Nat} : yy_mvt S s (-1) 57 t = (if t = s then -1 else S 57 t) ∧ yy_mvt S s (-1) 58 t = (if t = s then -1 else S 58 t) := by
  unfold yy_mvt
  rw [if_pos (by omega)]
  refine ⟨?_, ?_⟩
  · rw [qq_ueq (by decide), qq_uat]
  · rw [qq_uat, qq_ueq (by decide)]
theorem yy_mvt_fx {S T : qq_S} (h : yy_fx S T) {s : Nat} {p : Int} : yy_fx S (yy_mvt T s p) := ⟨fun a h1 h2 h3 h4 => by rw [yy_mvt_ne h2 h3]; exact h.1 a h1 h2 h3 h4, fun j hj => by rw [yy_mvt_ne (by decide) (by decide)]; exact h.2 j hj⟩
/-- the open points of depth k -/
noncomputable def yy_ov (S : qq_S) (k : Int) (tk : Int) : Int := qq_and (if k = S 4 0 - 1 ∧ S 55 12 = 0 then qq_and (yy_op S (S 89 k.toNat).toNat (S 25 (S 89 k.toNat).toNat).toNat) (yy_fl S) else yy_op S (S 89 k.toNat).toNat (S 25 (S 89 k.toNat).toNat).toNat) (qq_xor tk (-1))
/-- s of depth k has been put to p -/
def yy_Mv (S M : qq_S) (k : Nat) (p : Int) : Prop := yy_fx S M ∧ (0 ≤ p ∧ p < S 56 0 * S 56 1) ∧ (∀ t : Nat, ¬ t = (S 89 k).toNat → S 57 t = M 57 t ∧ S 58 t = M 58 t) ∧ M 57 (S 89 k).toNat = p % S 56 0 ∧ M 58 (S 89 k).toNat = p / S 56 0
theorem yy_Mv_of {S T : qq_S} {k : Nat} {p : Int} (h : yy_fx S T) (ho : ∀ t : Nat, ¬ t = (S 89 k).toNat → T 57 t = S 57 t ∧ T 58 t = S 58 t) (hp : 0 ≤ p ∧ p < S 56 0 * S 56 1) : yy_Mv S (yy_mvt T (S 89 k).toNat p) k p := by
  have f56 : T 56 = S 56 := h.1 56 (by omega) (by omega) (by omega) (by omega)
  have l := fun t => yy_mvt_at (S := T) (s := (S 89 k).toNat) (t := t) hp.1
  refine ⟨yy_mvt_fx h, hp, fun t ht => ?_, ?_, ?_⟩
  · rw [(l t).1, (l t).2, if_neg ht, if_neg ht, (ho t ht).1, (ho t ht).2]
    exact ⟨rfl, rfl⟩
  · rw [(l _).1, if_pos rfl, f56]
  · rw [(l _).2, if_pos rfl, f56]
theorem yy_gE_c {S T : qq_S} (h : ∀ a : Nat, 4 ≤ a → a < 48 → T a = S a) (h3 : T 52 3 = S 52 3) {X Y : Nat → Int} {s : Nat} (hs : s < 10) : zz_gE X Y (T 25) (fun s => T (26 + 1 + s)) (T 52 3) s ↔ zz_gE X Y (S 25) (fun s => S (26 + 1 + s)) (S 52 3) s := by
  unfold zz_gE zz_bE
  show (∀ i : Nat, (i : Int) < T 25 s → ¬ (¬ X (T (26 + 1 + s) i).toNat = -1 ∧ (zz_ln X Y s (T (26 + 1 + s) i).toNat < T 52 3 ∨ zz_dr X Y s (T (26 + 1 + s) i).toNat = -1))) ↔ (∀ i : Nat, (i : Int) < S 25 s → ¬ (¬ X (S (26 + 1 + s) i).toNat = -1 ∧ (zz_ln X Y s (S (26 + 1 + s) i).toNat < S 52 3 ∨ zz_dr X Y s (S (26 + 1 + s) i).toNat = -1)))
  rw [h 25 (by omega) (by omega), h (26 + 1 + s) (by omega) (by omega), h3]
theorem yy_tk_c {S T : qq_S} (h : ∀ a : Nat, 4 ≤ a → a < 48 → T a = S a) {w h9 tk : Int} {X Y : Nat → Int} : yy_tk T w h9 X Y tk ↔ yy_tk S w h9 X Y tk := by
  unfold yy_tk yy_on9
  rw [h 4 (by omega) (by omega), h 22 (by omega) (by omega), h 23 (by omega) (by omega)]
theorem yy_pcc {S T : qq_S} (h : ∀ a : Nat, 4 ≤ a → a < 48 → T a = S a) (h3 : T 52 = S 52) (hl : S 4 1 ≤ 6) {X Y : Nat → Int} : yy_pc T X Y = yy_pc S X Y := by
  have e1 : yy_eS T X (yy_g T X Y) = yy_eS S X (yy_g S X Y) := by
    unfold yy_eS
    rw [h 4 (by omega) (by omega), h 22 (by omega) (by omega), h 23 (by omega) (by omega)]
    refine zz_sum_c (fun e _ => ?_)
    unfold yy_g zz_trn
    rw [h 22 (by omega) (by omega), h 23 (by omega) (by omega), h 24 (by omega) (by omega), h3]
  have e2 : yy_bS T X Y = yy_bS S X Y := by
    unfold yy_bS
    rw [h 4 (by omega) (by omega)]
    refine zz_sum_c (fun l hl2 => ?_)
    rw [h (8 + 1 + l) (by omega) (by omega), h 7 (by omega) (by omega)]
  unfold yy_pc
  rw [e1, e2, h3]
theorem yy_tp_gr {S : qq_S} (h : yy_tp S) (hn : S 4 0 ≤ 10) : yy_gr (S 4 0) (S 56 0) (S 56 1) (S 57) (S 58) := fun t ht => h.2 t (by omega)
theorem yy_Mv_tp {S M : qq_S} {k : Nat} {p sp tk : Int} (c : yy_C S) (i : yy_I S k sp tk) (m : yy_Mv S M k p) : yy_tp M := by
  have f56 : M 56 = S 56 := m.1.1 56 (by omega) (by omega) (by omega) (by omega)
  have w := c.2.2.1
  have m1 := Int.emod_nonneg p (show S 56 0 ≠ 0 by omega)
  have m2 := Int.emod_lt_of_pos p (show 0 < S 56 0 by omega)
  have d1 := Int.ediv_nonneg m.2.1.1 (show 0 ≤ S 56 0 by omega)
  have d2 : p / S 56 0 < S 56 1 := Int.ediv_lt_of_lt_mul (by omega) (by rw [Int.mul_comm]; exact m.2.1.2)
  unfold yy_tp
  rw [f56]
  refine ⟨w, fun t ht => ?_⟩
  by_cases e : t = (S 89 k).toNat
  · rw [e, m.2.2.2.1, m.2.2.2.2]
    exact Or.inr ⟨m1, m2, d1, d2⟩
  · rw [← (m.2.2.1 t e).1, ← (m.2.2.1 t e).2]
    exact i.1.2 t ht
/-- the facts of one step -/
theorem yy_step {S M : qq_S} {k : Nat} {p sp tk : Int} (c : yy_C S) (i : yy_I S k sp tk) (hk : (k : Int) < S 4 0) (m : yy_Mv S M k p) :
    ((S 89 k).toNat : Int) < S 4 0 ∧ S 57 (S 89 k).toNat = -1 ∧ S 58 (S 89 k).toNat = -1 ∧ ¬ M 57 (S 89 k).toNat = -1 ∧ M 58 (S 89 k).toNat * M 56 0 + M 57 (S 89 k).toNat = p ∧
    (yy_pal M (M 57) (M 58) ↔ zz_gE (M 57) (M 58) (M 25) (fun s => M (26 + 1 + s)) (M 52 3) (S 89 k).toNat ∧ zz_fits (M 4 0) (M 4 2) (M 57) (M 58) (M 22) (M 23) (M 25) (fun s => M (26 + 1 + s)) (S 89 k).toNat) ∧
    (zz_bit (yy_ov S k tk) p.toNat ↔ (S 87 (S 89 k).toNat = -1 ∨ S 87 (S 89 k).toNat = p) ∧ zz_gE (M 57) (M 58) (M 25) (fun s => M (26 + 1 + s)) (M 52 3) (S 89 k).toNat ∧ (zz_gA (M 4 0) (M 57) (M 58) (S 89 k).toNat ∧ zz_gO (M 4 2) (M 57) (M 58) (M 22) (M 23) (S 89 k).toNat) ∧ ((k : Int) = S 4 0 - 1 ∧ S 55 12 = 0 → yy_fls (S 4 0) (M 57) (M 58))) ∧
    sp + zz_ar M (M 57) (M 58) (S 89 k).toNat = yy_pc M (M 57) (M 58) ∧ yy_plc M (M 57) (k + 1) := by
  obtain ⟨c1, c2, c3, c4, c5, c6, c7, c8, c9, c10⟩ := c
  obtain ⟨i1, i2, i3, i4, i5, i6, i7⟩ := i
  obtain ⟨m1, m2, m3, m4, m5⟩ := m
  have gb := c1.1.1
  have ok := c5.1 k hk
  have hs : ((S 89 k).toNat : Int) < S 4 0 := by omega
  have nn := yy_fx_n m1
  have f4 : M 4 = S 4 := nn 4 (by omega) (by omega)
  have f22 : M 22 = S 22 := nn 22 (by omega) (by omega)
  have f23 : M 23 = S 23 := nn 23 (by omega) (by omega)
  have f52 : M 52 = S 52 := m1.1 52 (by omega) (by omega) (by omega) (by omega)
  have f56 : M 56 = S 56 := m1.1 56 (by omega) (by omega) (by omega) (by omega)
  have f89 : M 89 = S 89 := m1.1 89 (by omega) (by omega) (by omega) (by omega)
  have hu : S 57 (S 89 k).toNat = -1 := Classical.not_not.mp (fun z => by
    obtain ⟨j, j1, j2⟩ := (i2 _ hs).mp z
    exact c5.2.1 j k j1 hk (by omega))
  have hu2 : S 58 (S 89 k).toNat = -1 := by
    have := i1.2 (S 89 k).toNat (by omega)
    omega
  have e1 := Int.emod_nonneg p (show S 56 0 ≠ 0 by omega)
  have hp : ¬ M 57 (S 89 k).toNat = -1 := by rw [m4]; omega
  have mN : zz_N M := zz_N_c ⟨fun a ha => m1.1 a (by omega) (by omega) (by omega) (by omega), fun j _ _ => by rw [m1.1 115 (by omega) (by omega) (by omega) (by omega)]⟩ c1
  have palM : yy_pal M (S 57) (S 58) := (yy_pal_c nn (by rw [f52]) (by omega)).mpr i4
  have hsM : ((S 89 k).toNat : Int) < M 4 0 := by rw [f4]; exact hs
  have me : p / S 56 0 * S 56 0 + p % S 56 0 = p := Int.ediv_mul_add_emod p (S 56 0)
  refine ⟨hs, hu, hu2, hp, by rw [f56, m4, m5]; exact me, yy_pal_mv mN hsM palM m3 hu hp, ?_, ?_, ?_⟩
  · have T1 := yy_T1 mN (X := S 57) (Y := S 58) (X' := M 57) (Y' := M 58) (s := (S 89 k).toNat) (w := S 56 0) (h := S 56 1) (p := p) (tk := tk) hsM m3 hu (by omega) m2 ⟨m4, m5⟩ palM ((yy_tk_c nn).mpr i6)
    have T4 := yy_T4 c1 (X' := M 57) (Y' := M 58) (s := (S 89 k).toNat) (w := S 56 0) (h := S 56 1) (p := p) hs rfl (by omega) c4 (yy_tp_gr i1 (by omega)) m3 m2 ⟨m4, m5⟩
    have T5 := yy_T5 (S := S) (X' := M 57) (Y' := M 58) (s := (S 89 k).toNat) (w := S 56 0) (h := S 56 1) (p := p) hs rfl rfl (by omega) (by omega) (by omega) m3 ⟨hu, hu2⟩ m2 ⟨m4, m5⟩
    have f87 := c7 _ hs
    have ob := yy_op_bit (S := S) (s := (S 89 k).toNat) (p := p.toNat) (by omega) (by omega) (S 25 (S 89 k).toNat).toNat
    rw [show ((p.toNat : Nat) : Int) = p by omega, T4, ← yy_gE_c nn (by rw [f52]) (by omega)] at ob
    unfold yy_ov
    rw [zz_bit_and, zz_bit_not (by omega), T1, Int.toNat_natCast]
    by_cases fl : (k : Int) = S 4 0 - 1 ∧ S 55 12 = 0
    · rw [if_pos fl, zz_bit_and, ob, T5]
      exact ⟨fun ⟨⟨⟨a, b⟩, d⟩, e⟩ => ⟨a, b, e, fun _ => d⟩, fun ⟨a, b, d, e⟩ => ⟨⟨⟨a, b⟩, e fl⟩, d⟩⟩
    · rw [if_neg fl, ob]
      exact ⟨fun ⟨⟨a, b⟩, e⟩ => ⟨a, b, e, fun z => absurd z fl⟩, fun ⟨a, b, d, e⟩ => ⟨⟨a, b⟩, d⟩⟩
  · rw [yy_pc_mv mN (X := S 57) (Y := S 58) hsM m3 hu hp, i5, yy_pcc nn f52 (by omega)]
  · intro t ht
    rw [f4] at ht
    rw [f89]
    by_cases e : t = (S 89 k).toNat
    · rw [e]
      exact ⟨fun _ => ⟨k, by omega, by omega⟩, fun _ => hp⟩
    · rw [← (m3 t e).1, i2 t ht]
      exact ⟨fun ⟨j, j1, j2⟩ => ⟨j, by omega, j2⟩, fun ⟨j, j1, j2⟩ => ⟨j, by
        by_cases e2 : j = k
        · subst e2; omega
        · omega, j2⟩⟩
