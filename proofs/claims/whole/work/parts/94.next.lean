/-! What may come of a step, and what it leaves. -/
theorem yy_Mv_N {S M : qq_S} {k : Nat} {p : Int} (hN : zz_N S) (m : yy_Mv S M k p) : zz_N M := zz_N_c ⟨fun a ha => m.1.1 a (by omega) (by omega) (by omega) (by omega), fun j _ _ => by rw [m.1.1 115 (by omega) (by omega) (by omega) (by omega)]⟩ hN
/-- where an allowed drawing can come of it, no test fails, and it costs at least that much -/
theorem yy_nec {S M : qq_S} {k : Nat} {p sp tk : Int} {Q : Nat → Int} (c : yy_C S) (i : yy_I S k sp tk) (hk : (k : Int) < S 4 0) (m : yy_Mv S M k p) (hQ : yy_Cd S Q) (he : yy_ex S Q) (hq : Q (S 89 k).toNat = p) :
    zz_bit (yy_ov S k tk) p.toNat ∧ (∀ j : Nat, (j : Int) < M 25 (S 89 k).toNat → ¬ yy_pf M (S 89 k).toNat p.toNat tk j) ∧ zz_gR (M 57) (M 58) (M 25) (fun s => M (26 + 1 + s)) (S 89 k).toNat ∧ yy_pc M (M 57) (M 58) + M 91 (k + 1) ≤ yy_cq S Q := by
  have st := yy_step c i hk m
  have cM := yy_C_fx m.1 c
  have mN := cM.1
  have tpM := yy_Mv_tp c i m
  obtain ⟨hs, hu, hu2, hp, hpt, pm, ob, hc, hpl⟩ := st
  have gb := c.1.1.1
  have nn := yy_fx_n m.1
  have f4 : M 4 = S 4 := nn 4 (by omega) (by omega)
  have f52 : M 52 = S 52 := m.1.1 52 (by omega) (by omega) (by omega) (by omega)
  have f56 : M 56 = S 56 := m.1.1 56 (by omega) (by omega) (by omega) (by omega)
  have w := c.2.2.1
  have fullQ : ∀ t : Nat, (t : Int) < S 4 0 → ¬ (fun t => Q t % S 56 0) t = -1 := fun t ht => by
    have m1 := Int.emod_nonneg (Q t) (show S 56 0 ≠ 0 by omega)
    show ¬ Q t % S 56 0 = -1
    omega
  have palQ : yy_pal M (fun t => Q t % S 56 0) (fun t => Q t / S 56 0) := (yy_pal_c nn (by rw [f52]) (by omega)).mpr ((yy_pal_al c.1 fullQ).mpr hQ.2.1)
  have sub : yy_sub (M 4 0) (M 57) (M 58) (fun t => Q t % S 56 0) (fun t => Q t / S 56 0) := fun t h9 pt => by
    rw [f4] at h9
    show M 57 t = Q t % S 56 0 ∧ M 58 t = Q t / S 56 0
    by_cases e : t = (S 89 k).toNat
    · rw [e, m.2.2.2.1, m.2.2.2.2, hq]
      exact ⟨rfl, rfl⟩
    · rw [← (m.2.2.1 t e).1] at pt
      rw [← (m.2.2.1 t e).1, ← (m.2.2.1 t e).2]
      exact he t h9 pt
  have palM := yy_pal_res mN palQ sub
  obtain ⟨gE, gA, gO, gL, gR⟩ := pm.mp palM
  have hsM : ((S 89 k).toNat : Int) < M 4 0 := by rw [f4]; exact hs
  have gr := yy_tp_gr tpM (by rw [f4]; omega)
  have T2 := yy_T2 mN (X := S 57) (Y := S 58) (s := (S 89 k).toNat) (w := M 56 0) (h := M 56 1) (tk := tk) hsM rfl (by rw [f56]; omega) cM.2.2.2.1 gr m.2.2.1 hu hp ((yy_pal_c nn (by rw [f52]) (by omega)).mpr i.2.2.2.1) (by rw [f56]; exact (yy_tk_c nn).mpr i.2.2.2.2.2.1) gE gA gO
  rw [hpt] at T2
  refine ⟨ob.mpr ⟨?_, gE, ⟨gA, gO⟩, fun fl => ?_⟩, T2.mpr gL, gR, ?_⟩
  · have := (hQ.1 (S 89 k).toNat hs).2.2
    rw [hq] at this
    exact this
  · -- the last station: all stand as in Q
    have all : ∀ t : Nat, (t : Int) < S 4 0 → M 57 t = Q t % S 56 0 ∧ M 58 t = Q t / S 56 0 := fun t h9 => sub t (by rw [f4]; exact h9) ((hpl t (by rw [f4]; exact h9)).mpr (by
      obtain ⟨j, j1, j2⟩ := cM.2.2.2.2.1.2.2 t (by rw [f4]; exact h9)
      rw [f4] at j1
      exact ⟨j, by omega, j2⟩))
    obtain ⟨⟨t, t1, t2⟩, ⟨u, u1, u2⟩⟩ := hQ.2.2 fl.2 (by omega)
    exact ⟨⟨t, t1, by rw [(all t t1).1]; exact t2⟩, ⟨u, u1, by rw [(all u u1).2]; exact u2⟩⟩
  · have lo := yy_low mN cM.2.2.2.2.1 cM.2.2.2.2.2.1 (by rw [f52]; have := c.2.2.2.2.2.2.2.2.1; omega) palQ (fun t h9 => fullQ t (by rw [f4] at h9; exact h9)) (M 4 0 - (k + 1)).toNat (k + 1) (M 57) (M 58) (by rw [f4]; omega) hpl sub
    have e : zz_cst M (fun t => Q t % S 56 0) (fun t => Q t / S 56 0) = yy_cq S Q := by
      unfold yy_cq
      exact zz_cst_c nn f52 (by omega)
    rw [e] at lo
    exact lo
/-- a step that passes all tests -/
theorem yy_suf {S M : qq_S} {k : Nat} {p sp tk : Int} (c : yy_C S) (i : yy_I S k sp tk) (hk : (k : Int) < S 4 0) (m : yy_Mv S M k p) (ob9 : zz_bit (yy_ov S k tk) p.toNat) (pf : ∀ j : Nat, (j : Int) < M 25 (S 89 k).toNat → ¬ yy_pf M (S 89 k).toNat p.toNat tk j) (gR : zz_gR (M 57) (M 58) (M 25) (fun s => M (26 + 1 + s)) (S 89 k).toNat) : yy_I M (k + 1) (sp + zz_ar M (M 57) (M 58) (S 89 k).toNat) (qq_or (qq_or tk (yy_pp M (S 89 k).toNat p.toNat (M 25 (S 89 k).toNat).toNat)) (qq_shl 1 p)) := by
  have st := yy_step c i hk m
  have cM := yy_C_fx m.1 c
  have mN := cM.1
  have tpM := yy_Mv_tp c i m
  obtain ⟨hs, hu, hu2, hp, hpt, pm, ob, hc, hpl⟩ := st
  have gb := c.1.1.1
  have nn := yy_fx_n m.1
  have f4 : M 4 = S 4 := nn 4 (by omega) (by omega)
  have f52 : M 52 = S 52 := m.1.1 52 (by omega) (by omega) (by omega) (by omega)
  have f56 : M 56 = S 56 := m.1.1 56 (by omega) (by omega) (by omega) (by omega)
  have f87 : M 87 = S 87 := m.1.1 87 (by omega) (by omega) (by omega) (by omega)
  have w := c.2.2.1
  obtain ⟨fx, gE, ⟨gA, gO⟩, fl⟩ := ob.mp ob9
  have hsM : ((S 89 k).toNat : Int) < M 4 0 := by rw [f4]; exact hs
  have gr := yy_tp_gr tpM (by rw [f4]; omega)
  have tkM : yy_tk M (M 56 0) (M 56 1) (S 57) (S 58) tk := by rw [f56]; exact (yy_tk_c nn).mpr i.2.2.2.2.2.1
  have T2 := yy_T2 mN (X := S 57) (Y := S 58) (s := (S 89 k).toNat) (w := M 56 0) (h := M 56 1) (tk := tk) hsM rfl (by rw [f56]; omega) cM.2.2.2.1 gr m.2.2.1 hu hp ((yy_pal_c nn (by rw [f52]) (by omega)).mpr i.2.2.2.1) tkM gE gA gO
  have T3 := yy_T3 mN (X := S 57) (Y := S 58) (s := (S 89 k).toNat) (w := M 56 0) (h := M 56 1) (tk := tk) hsM rfl (by rw [f56]; omega) (by rw [f56]; omega) cM.2.2.2.1 gr m.2.2.1 hu hp tkM gE
  rw [hpt] at T2 T3
  refine ⟨tpM, hpl, fun t h9 pt => ?_, pm.mpr ⟨gE, gA, gO, T2.mp pf, gR⟩, hc, T3, fun e1 e2 e3 => ?_⟩
  · rw [f4] at h9
    rw [f87]
    by_cases e : t = (S 89 k).toNat
    · rw [e, hpt]; exact fx
    · rw [f56, ← (m.2.2.1 t e).1, ← (m.2.2.1 t e).2]
      rw [← (m.2.2.1 t e).1] at pt
      exact i.2.2.1 t h9 pt
  · rw [f4] at e1 e2 ⊢
    rw [m.1.2 12 (by omega)] at e3
    exact fl ⟨by omega, e3⟩
/-- all that are not taken: bits of points of the grid alone -/
theorem yy_pp_m1 {S : qq_S} (hN : zz_N S) {s : Nat} {w h : Int} (hs : (s : Int) < S 4 0) (hw : S 56 0 = w) (wp : 0 < w) (wb : w * h ≤ 25) (hT : yy_T S w h) (gr : yy_gr (S 4 0) w h (S 57) (S 58)) (hp : ¬ S 57 s = -1) (hE : zz_gE (S 57) (S 58) (S 25) (fun s => S (26 + 1 + s)) (S 52 3) s) : ¬ yy_pp S s (S 58 s * w + S 57 s).toNat (S 25 s).toNat = -1 := by
  have gb := hN.1.1
  have gd := (zz_N_nb hN).2.2.1 s (by omega)
  intro z
  have b : zz_bit (yy_pp S s (S 58 s * w + S 57 s).toNat (S 25 s).toNat) 31 := by rw [z]; exact zz_bit_m1.mpr (by omega)
  have k := (yy_pp_ins hN hs hw wp hT gr hp hE (by omega)).mp b
  omega
theorem yy_pc_bd {S : qq_S} (hN : zz_N S) (ht : 0 ≤ S 52 0 ∧ S 52 0 ≤ 100 ∧ 0 ≤ S 52 1 ∧ S 52 1 ≤ 100 ∧ 0 ≤ S 52 2 ∧ S 52 2 ≤ 100) {X Y : Nat → Int} (hl : zz_pl X Y) : 0 ≤ yy_pc S X Y ∧ yy_pc S X Y ≤ 200000 := by
  have gb := hN.1.1
  have gn := zz_N_nb hN
  have g0 := gn.1
  have a1 := zz_sum_bd (f := fun e => if zz_p (zz_dn X (S 22) (S 23) e) = 1 then yy_g S X Y e else 0) (n := (S 4 2).toNat) (a := 0) (b := 2000) (fun e he => by
    have n1 := gn.2.1 e (by omega)
    show 0 ≤ (if zz_p (zz_dn X (S 22) (S 23) e) = 1 then yy_g S X Y e else 0) ∧ (if zz_p (zz_dn X (S 22) (S 23) e) = 1 then yy_g S X Y e else 0) ≤ 2000
    split
    · have l := zz_ln_bd hl (a := (S 22 e).toNat) (b := (S 23 e).toNat) (by omega) (by omega)
      have t := zz_eb_bd (a := zz_dr X Y (S 22 e).toNat (S 23 e).toNat) (b := S 24 e) (zz_dr_bd _ _ _ _) (by omega)
      have m1 := zz_mb2 l (show 0 ≤ S 52 1 ∧ S 52 1 ≤ 100 by omega)
      have m2 := zz_mb2 t (show 0 ≤ S 52 2 ∧ S 52 2 ≤ 100 by omega)
      unfold yy_g zz_trn
      omega
    · omega)
  have a2 := zz_sum_bd (f := fun l => zz_sum (fun k => if zz_p (zz_b3 X (S (8 + 1 + l)) k) = 1 then zz_bnd X Y (S (8 + 1 + l)) k else 0) (S 7 l - 2).toNat) (n := (S 4 1).toNat) (a := 0) (b := 40) (fun l hl2 => by
    have n1 := gn.2.2.2 l (by omega)
    have b := zz_sum_bd (f := fun k => if zz_p (zz_b3 X (S (8 + 1 + l)) k) = 1 then zz_bnd X Y (S (8 + 1 + l)) k else 0) (n := (S 7 l - 2).toNat) (a := 0) (b := 4) (fun k _ => by
      show 0 ≤ (if zz_p (zz_b3 X (S (8 + 1 + l)) k) = 1 then zz_bnd X Y (S (8 + 1 + l)) k else 0) ∧ (if zz_p (zz_b3 X (S (8 + 1 + l)) k) = 1 then zz_bnd X Y (S (8 + 1 + l)) k else 0) ≤ 4
      split
      · unfold zz_bnd
        exact zz_eb_bd (zz_dr_bd _ _ _ _) (zz_dr_bd _ _ _ _)
      · omega)
    show 0 ≤ zz_sum (fun k => if zz_p (zz_b3 X (S (8 + 1 + l)) k) = 1 then zz_bnd X Y (S (8 + 1 + l)) k else 0) (S 7 l - 2).toNat ∧ zz_sum (fun k => if zz_p (zz_b3 X (S (8 + 1 + l)) k) = 1 then zz_bnd X Y (S (8 + 1 + l)) k else 0) (S 7 l - 2).toNat ≤ 40
    omega)
  have b2 : 0 ≤ yy_bS S X Y ∧ yy_bS S X Y ≤ 240 := by
    unfold yy_bS
    omega
  have m3 := zz_mb2 b2 (show 0 ≤ S 52 0 ∧ S 52 0 ≤ 100 by omega)
  unfold yy_pc yy_eS
  omega
theorem yy_rst_bd {S : qq_S} (hN : zz_N S) (hO : yy_ord S) (hR : yy_rst S) (ht : 0 ≤ S 52 1 ∧ S 52 1 ≤ 100 ∧ 0 ≤ S 52 3 ∧ S 52 3 ≤ 4) : ∀ k : Nat, (k : Int) ≤ S 4 0 → 0 ≤ S 91 k ∧ S 91 k ≤ 18000 := by
  have gb := hN.1.1
  have g0 := (zz_N_nb hN).1
  have z := yy_rst0 hN hO hR
  have oc : ∀ k : Nat, 0 ≤ yy_oc S k * S 52 3 * S 52 1 := fun k => by
    have a := zz_sum_bd (f := fun i => zz_p (∃ m : Nat, m < k ∧ S 89 m = S (26 + 1 + (S 89 k).toNat) i)) (n := (S 25 (S 89 k).toNat).toNat) (a := 0) (b := 1) (fun j _ => by
      rcases zz_p01 (∃ m : Nat, m < k ∧ S 89 m = S (26 + 1 + (S 89 k).toNat) j) with z | z <;> omega)
    have a1 : 0 ≤ yy_oc S k := by unfold yy_oc; omega
    exact Int.mul_nonneg (Int.mul_nonneg a1 ht.2.2.1) ht.1
  have dn : ∀ m : Nat, (m : Int) ≤ S 4 0 → 0 ≤ S 91 ((S 4 0).toNat - m) := by
    intro m
    induction m with
    | zero => intro _; rw [Nat.sub_zero, z]; omega
    | succ m ih =>
      intro hm
      have ih := ih (by omega)
      have r := hR.2 ((S 4 0).toNat - (m + 1)) (by omega)
      rw [show (S 4 0).toNat - (m + 1) + 1 = (S 4 0).toNat - m by omega] at r
      have := oc ((S 4 0).toNat - (m + 1))
      omega
  have up : ∀ k : Nat, (k : Int) ≤ S 4 0 → S 91 k ≤ 18000 := by
    intro k
    induction k with
    | zero =>
      intro _
      rw [hR.1]
      have m1 := zz_mb2 (show 0 ≤ S 4 2 ∧ S 4 2 ≤ 45 by omega) (show 0 ≤ S 52 3 ∧ S 52 3 ≤ 4 by omega)
      have m2 := zz_mb2 m1 (show 0 ≤ S 52 1 ∧ S 52 1 ≤ 100 by omega)
      omega
    | succ k ih =>
      intro hk
      have ih := ih (by omega)
      have r := hR.2 k (by omega)
      have := oc k
      omega
  intro k hk
  have d := dn ((S 4 0).toNat - k) (by omega)
  rw [show (S 4 0).toNat - ((S 4 0).toNat - k) = k by omega] at d
  exact ⟨d, up k hk⟩
