/-! The two scans of better are one. -/
/-- T is S in all that the reference's verdict and cost look at -/
def zz_cM (S T : qq_S) : Prop := (∀ a : Nat, ((4 ≤ a ∧ a < 48) ∨ (116 ≤ a ∧ a ≤ 121) ∨ a = 123 ∨ a = 124) → T a = S a) ∧ (∀ j : Nat, (j ≤ 3 ∨ (12 ≤ j ∧ j ≤ 17)) → T 115 j = S 115 j)
theorem zz_cM_vM {S T : qq_S} (h : zz_cM S T) (hN : zz_N S) : zz_vM T = zz_vM S := by
  have gb := hN.1.1
  have mx : zz_mx T = zz_mx S := by funext s; unfold zz_mx; rw [h.1 123 (by omega), h.2 12 (by omega)]
  have my : zz_my T = zz_my S := by funext s; unfold zz_my; rw [h.1 123 (by omega), h.2 12 (by omega)]
  unfold zz_vM
  have e2 : zz_msm T = zz_msm S := by funext a b; unfold zz_msm; rw [h.1 123 (by omega)]
  have e3 : zz_mstr T = zz_mstr S := by funext a; unfold zz_mstr; rw [mx, my, h.1 120 (by omega), h.1 121 (by omega)]
  have e6 : zz_mmt T = zz_mmt S := by funext a b; unfold zz_mmt; rw [mx, my, h.1 120 (by omega), h.1 121 (by omega)]
  rw [e2, e3, e6, mx, my, h.1 4 (by omega), h.1 120 (by omega), h.1 121 (by omega), h.1 123 (by omega), h.2 14 (by omega)]
  refine zz_vd_c (fun _ _ => Iff.rfl) (fun _ _ _ _ _ => Iff.rfl) (fun _ _ _ _ => Iff.rfl) (fun _ _ _ _ _ => Iff.rfl) (fun _ _ _ _ _ _ _ => Iff.rfl) (fun _ _ _ _ _ _ _ _ => Iff.rfl) (fun _ _ _ _ s hs => ?_)
  unfold zz_mtr
  rw [mx, my, h.1 25 (by omega), h.1 (26 + 1 + s) (by omega)]
theorem zz_cM_mc {S T : qq_S} (h : zz_cM S T) : zz_mcst T = zz_mcst S := by
  have mx : zz_mx T = zz_mx S := by funext s; unfold zz_mx; rw [h.1 123 (by omega), h.2 12 (by omega)]
  have my : zz_my T = zz_my S := by funext s; unfold zz_my; rw [h.1 123 (by omega), h.2 12 (by omega)]
  have a1 : zz_mbds T = zz_mbds S := by
    unfold zz_mbds
    rw [h.2 2 (by omega), h.1 118 (by omega)]
    refine zz_sum_c (fun l _ => zz_sum_c (fun i _ => ?_))
    unfold zz_mbnd
    rw [mx, my, h.1 119 (by omega)]
  have a2 : zz_mlns T = zz_mlns S := by
    unfold zz_mlns
    rw [h.2 3 (by omega), h.1 120 (by omega), h.1 121 (by omega), mx, my]
  have a3 : zz_mtrs T = zz_mtrs S := by
    unfold zz_mtrs
    rw [h.2 3 (by omega)]
    refine zz_sum_c (fun e _ => ?_)
    unfold zz_mtrn
    rw [mx, my, h.1 120 (by omega), h.1 121 (by omega), h.1 116 (by omega), h.1 117 (by omega)]
  unfold zz_mcst
  rw [a1, a2, a3, h.2 15 (by omega), h.2 16 (by omega), h.2 17 (by omega)]
theorem zz_cM_u {S T : qq_S} (h : zz_cM S T) (k : Nat) (x : Int) : zz_cM (qq_u S 123 k x) (qq_u T 123 k x) := by
  refine ⟨fun a ha => ?_, fun j hj => ?_⟩
  · by_cases e : a = 123
    · subst e
      funext t
      rw [qq_uat, qq_uat, h.1 123 (by omega)]
    · rw [qq_ueq e, qq_ueq e, h.1 a ha]
  · rw [qq_ueq (by decide), qq_ueq (by decide), h.2 j hj]
theorem zz_cM_cI {S T : qq_S} (h : zz_cI S T) : zz_cM S T := ⟨fun a ha => h.1 a (by omega), fun j hj => h.2 j (by omega)⟩
theorem zz_cM_N {S T : qq_S} (h : zz_cM S T) : zz_cN S T := ⟨fun a ha => h.1 a (by omega), fun j h1 h2 => h.2 j (by omega)⟩
theorem zz_msc_c {S T : qq_S} (h : zz_cM S T) (hN : zz_N S) : ∀ s : Nat, s ≤ (S 4 0).toNat → zz_msc T s = zz_msc S s := by
  intro s hs
  unfold zz_msc
  rw [zz_cM_mc h, h.2 12 (by omega), h.2 13 (by omega), h.1 124 (by omega)]
  refine zz_sc_c (n := (S 4 0).toNat) (fun _ _ => rfl) (fun s p _ _ _ => ?_) s hs
  have c := zz_cM_u h s p
  have uN : zz_N (qq_u S 123 s p) := zz_N_c (zz_cN_123 S s p) hN
  unfold zz_mA zz_mC
  rw [zz_cM_vM c uN, zz_cM_mc c]
  exact ⟨Iff.rfl, fun _ => rfl⟩
theorem zz_mm_c {S T : qq_S} (h : zz_cI S T) (hN : zz_N S) : zz_cI (zz_mm S) (zz_mm T) := by
  have e := zz_msc_c (zz_cM_cI h) hN (S 4 0).toNat (Nat.le_refl _)
  unfold zz_mm
  rw [h.1 4 (by omega), e]
  split
  · exact h
  · have q : zz_cI (qq_u S 123 (zz_msc S (S 4 0).toNat).2.1.toNat (S 123 (zz_msc S (S 4 0).toNat).2.1.toNat)) T := by rw [zz_u123]; exact h
    exact zz_cI_123 q
/-- the reference's changes, over and over -/
noncomputable def zz_mt : Nat → qq_S → Int × qq_S
  | 0, S => (0, S)
  | k + 1, S => if (zz_msc S (S 4 0).toNat).2.1 = -1 then (0, S) else ((zz_mt k (zz_mm S)).1 + 1, (zz_mt k (zz_mm S)).2)
theorem zz_mt_no {k : Nat} {S : qq_S} (h : (zz_msc S (S 4 0).toNat).2.1 = -1) : zz_mt (k + 1) S = (0, S) := if_pos h
theorem zz_mt_yes {k : Nat} {S : qq_S} (h : ¬ (zz_msc S (S 4 0).toNat).2.1 = -1) : zz_mt (k + 1) S = ((zz_mt k (zz_mm S)).1 + 1, (zz_mt k (zz_mm S)).2) := if_neg h
theorem zz_mm_N {S : qq_S} (hN : zz_N S) : zz_N (zz_mm S) := by
  unfold zz_mm
  split
  · exact hN
  · exact zz_N_c (zz_cN_123 S _ _) hN
theorem zz_msc_bd {S : qq_S} (hN : zz_N S) (hM : zz_mgr S) : -1 ≤ (zz_msc S (S 4 0).toNat).2.1 ∧ (zz_msc S (S 4 0).toNat).2.1 < S 4 0 ∧ ((zz_msc S (S 4 0).toNat).2.1 = -1 ∨ (0 ≤ (zz_msc S (S 4 0).toNat).2.2 ∧ (zz_msc S (S 4 0).toNat).2.2 < S 115 12 * S 115 13)) := by
  have gb := hN.1.1
  have w := hM.1
  have whb := zz_mb2 (show 0 ≤ S 115 12 ∧ S 115 12 ≤ 8 by omega) (show 0 ≤ S 115 13 ∧ S 115 13 ≤ 8 by omega)
  have b := zz_sc_bd (A := zz_mA S) (c := zz_mC S) (H := S 124) (w := (S 115 12 * S 115 13).toNat) (c0 := zz_mcst S) (n := (S 4 0).toNat) (S 4 0).toNat (Nat.le_refl _)
  have e : zz_sc (zz_mA S) (zz_mC S) (S 124) (S 115 12 * S 115 13).toNat (zz_mcst S) = zz_msc S := rfl
  rw [e] at b
  omega
theorem zz_mm_mg {S : qq_S} (hN : zz_N S) (hM : zz_mgr S) : zz_mgr (zz_mm S) := by
  have b := zz_msc_bd hN hM
  unfold zz_mm
  split
  · exact hM
  · exact zz_mgr_u hM (by omega)
theorem zz_mt_c : ∀ (k : Nat) {S T : qq_S}, zz_cI S T → zz_N S → (zz_mt k T).1 = (zz_mt k S).1 ∧ zz_cI (zz_mt k S).2 (zz_mt k T).2
  | 0, S, T, h, hN => ⟨rfl, h⟩
  | k + 1, S, T, h, hN => by
    have e := zz_msc_c (zz_cM_cI h) hN (S 4 0).toNat (Nat.le_refl _)
    have ih := zz_mt_c k (zz_mm_c h hN) (zz_mm_N hN)
    unfold zz_mt
    rw [h.1 4 (by omega), e]
    split
    · exact ⟨rfl, h⟩
    · exact ⟨by show (zz_mt k (zz_mm T)).1 + 1 = (zz_mt k (zz_mm S)).1 + 1; rw [ih.1], ih.2⟩
/-- a moved class state looks on one net -/
theorem zz_al_c {S T : qq_S} (h : ∀ a : Nat, 4 ≤ a → a < 48 → T a = S a) (h3 : T 52 3 = S 52 3) (hn : S 4 0 ≤ 10) {X Y : Nat → Int} : zz_al T X Y ↔ zz_al S X Y := by
  unfold zz_al
  rw [h 4 (by omega) (by omega), h 22 (by omega) (by omega), h 23 (by omega) (by omega), h3]
  have e : ∀ s, s < (S 4 0).toNat → (zz_tw X Y (T 25) (fun s => T (26 + 1 + s)) s ↔ zz_tw X Y (S 25) (fun s => S (26 + 1 + s)) s) := fun s hs => by
    unfold zz_tw
    show ¬ zz_rt (fun i => ¬ X (T (26 + 1 + s) i).toNat = -1) (fun i => zz_dr X Y s (T (26 + 1 + s) i).toNat) (T 25 s).toNat ↔ ¬ zz_rt (fun i => ¬ X (S (26 + 1 + s) i).toNat = -1) (fun i => zz_dr X Y s (S (26 + 1 + s) i).toNat) (S 25 s).toNat
    rw [h 25 (by omega) (by omega), h (26 + 1 + s) (by omega) (by omega)]
  constructor
  · rintro ⟨a1, a2, a3, a4, a5, a6, a7⟩
    exact ⟨a1, a2, a3, a4, a5, a6, fun s hs z => a7 s hs ((e s hs).mpr z)⟩
  · rintro ⟨a1, a2, a3, a4, a5, a6, a7⟩
    exact ⟨a1, a2, a3, a4, a5, a6, fun s hs z => a7 s hs ((e s hs).mp z)⟩
theorem zz_cst_c {S T : qq_S} (h : ∀ a : Nat, 4 ≤ a → a < 48 → T a = S a) (h3 : T 52 = S 52) (hl : S 4 1 ≤ 6) {X Y : Nat → Int} : zz_cst T X Y = zz_cst S X Y := by
  have e1 : zz_bds T X Y = zz_bds S X Y := by
    unfold zz_bds
    rw [h 4 (by omega) (by omega)]
    refine zz_sum_c (fun l hl2 => ?_)
    show zz_bln _ _ _ _ = zz_bln _ _ _ _
    rw [h (8 + 1 + l) (by omega) (by omega), h 7 (by omega) (by omega)]
  have e2 : zz_lns T X Y = zz_lns S X Y := by
    unfold zz_lns
    rw [h 4 (by omega) (by omega), h 22 (by omega) (by omega), h 23 (by omega) (by omega)]
  have e3 : zz_trs T X Y = zz_trs S X Y := by
    unfold zz_trs
    rw [h 4 (by omega) (by omega)]
    refine zz_sum_c (fun e _ => ?_)
    unfold zz_trn
    rw [h 22 (by omega) (by omega), h 23 (by omega) (by omega), h 24 (by omega) (by omega)]
  unfold zz_cst
  rw [e1, e2, e3, h3]
theorem zz_ar_c {S T : qq_S} (h : ∀ a : Nat, 4 ≤ a → a < 48 → T a = S a) (h3 : T 52 = S 52) (hl : S 4 1 ≤ 6) {X Y : Nat → Int} {s : Nat} (hs : s < 10) : zz_ar T X Y s = zz_ar S X Y s := by
  unfold zz_ar zz_ba
  rw [h 25 (by omega) (by omega), h3, h 4 (by omega) (by omega), h 7 (by omega) (by omega)]
  rw [zz_sum_c (f := zz_ar1 T X Y s) (g := zz_ar1 S X Y s) (fun i _ => by
    unfold zz_ar1 zz_trn
    rw [h (26 + 1 + s) (by omega) (by omega), h (37 + 1 + s) (by omega) (by omega), h3, h 22 (by omega) (by omega), h 23 (by omega) (by omega), h 24 (by omega) (by omega)]), zz_sum_c (f := fun l => zz_bl1 X Y (T (8 + 1 + l)) (T (15 + 1 + l) s) (S 7 l)) (g := fun l => zz_bl1 X Y (S (8 + 1 + l)) (S (15 + 1 + l) s) (S 7 l)) (fun l hl => by
    show zz_bl1 _ _ _ _ _ = zz_bl1 _ _ _ _ _
    rw [h (8 + 1 + l) (by omega) (by omega), h (15 + 1 + l) (by omega) (by omega)])]
/-- the class's scan by verdict and cost -/
noncomputable def zz_caA (S : qq_S) (s : Nat) (p : Int) : Prop := zz_al S (zz_mv S s p 49) (zz_mv S s p 50)
noncomputable def zz_caC (S : qq_S) (s : Nat) (p : Int) : Int := zz_cst S (zz_mv S s p 49) (zz_mv S s p 50)
noncomputable def zz_cs (S : qq_S) : Nat → Int × Int × Int := zz_sc (zz_caA S) (zz_caC S) (S 51) (S 48 0 * S 48 1).toNat (zz_cst S (S 49) (S 50))
theorem zz_mv_n48 {S : qq_S} {s : Nat} {p : Int} : ∀ a : Nat, 4 ≤ a → a < 48 → zz_mv S s p a = S a := fun a _ _ => zz_mv_ne (by omega)
theorem zz_mv_o {S : qq_S} {s : Nat} {p : Int} : ∀ t : Nat, ¬ t = s → S 49 t = zz_mv S s p 49 t ∧ S 50 t = zz_mv S s p 50 t := fun t ht => by
  have l := zz_mv_at (S := S) (s := s) (t := t) (p := p)
  rw [l.1, l.2, if_neg ht, if_neg ht]
  exact ⟨rfl, rfl⟩
theorem zz_mv_pp {S : qq_S} (h : zz_gp S) {s : Nat} {p : Int} : ¬ zz_mv S s p 49 s = -1 := by
  have l := zz_mv_at (S := S) (s := s) (t := s) (p := p)
  rw [l.1, if_pos rfl]
  have m1 := Int.emod_nonneg p (show S 48 0 ≠ 0 by have := h.1; omega)
  omega
theorem zz_gn_c {S : qq_S} (hN : zz_N S) (hg : zz_gp S) (ha : zz_al S (S 49) (S 50)) {s : Nat} {p : Int} (hs : (s : Int) < S 4 0) : (zz_caA S s p ↔ (¬ zz_p (zz_gE (zz_mv S s p 49) (zz_mv S s p 50) (zz_mv S s p 25) (fun s2 => zz_mv S s p (26 + 1 + s2)) (zz_mv S s p 52 3) s) = 0 ∧ ¬ zz_p (zz_ft S s p) = 0)) ∧ zz_caC S s p - zz_cst S (S 49) (S 50) = zz_ar (zz_mv S s p) (zz_mv S s p 49) (zz_mv S s p 50) s - zz_ar S (S 49) (S 50) s := by
  have gb := hN.1.1
  have mN : zz_N (zz_mv S s p) := zz_N_c ⟨fun a ha => zz_mv_ne (by omega), fun j _ _ => by rw [zz_mv_ne (by omega)]⟩ hN
  have e52 : zz_mv S s p 52 = S 52 := zz_mv_ne (by omega)
  have e4 : zz_mv S s p 4 = S 4 := zz_mv_ne (by omega)
  have ha2 : zz_al (zz_mv S s p) (S 49) (S 50) := (zz_al_c zz_mv_n48 (by rw [e52]) (by omega)).mpr ha
  have k := zz_al_mv mN (X := S 49) (Y := S 50) (X' := zz_mv S s p 49) (Y' := zz_mv S s p 50) (s := s) (by rw [e4]; exact hs) ha2 zz_mv_o (zz_mv_pp hg)
  have g := zz_gain mN (X := S 49) (Y := S 50) (X' := zz_mv S s p 49) (Y' := zz_mv S s p 50) (s := s) (by rw [e4]; exact hs) zz_mv_o (fun a h9 => ha2.1 a h9) (zz_mv_pp hg)
  rw [zz_cst_c zz_mv_n48 e52 (by omega), zz_cst_c zz_mv_n48 e52 (by omega), zz_ar_c (X := S 49) (Y := S 50) zz_mv_n48 e52 (by omega) (by omega)] at g
  refine ⟨?_, g⟩
  unfold zz_caA
  rw [← zz_al_c (T := zz_mv S s p) zz_mv_n48 (by rw [e52]) (by omega), k]
  unfold zz_ft
  rw [zz_pi0, zz_pi0, Classical.not_not, Classical.not_not]
theorem zz_deg0 {S : qq_S} (hN : zz_N S) {s l : Nat} (hs : s < 10) (hd : S 25 s = 0) (hl : (l : Int) < S 4 1) (hr : ¬ S (15 + 1 + l) s = -1) : S 7 l ≤ 1 := by
  have gb := hN.1.1
  have r := hN.2.1.2.2 l s (by omega) hs
  have q := hN.2.1.1 l hl
  rw [qq_R_at (show l < 6 by omega), qq_R_at (show l < 6 by omega)] at r
  have e9 : 8 + 1 + l = 9 + l := by omega
  have e16 : 15 + 1 + l = 16 + l := by omega
  rw [e16] at hr
  by_cases c : S 7 l ≤ 1
  · exact c
  · exfalso
    have no : ∀ e : Nat, (e : Int) < S 4 2 → ¬ S 22 e = s ∧ ¬ S 23 e = s := fun e he => by
      have w := zz_edge_ring hN he
      have n1 := (zz_N_nb hN).2.1 e he
      refine ⟨fun z => ?_, fun z => ?_⟩
      · obtain ⟨i, hi, _⟩ := w.1
        rw [show (S 22 e).toNat = s by omega, hd] at hi
        omega
      · obtain ⟨i, hi, _⟩ := w.2
        rw [show (S 23 e).toNat = s by omega, hd] at hi
        omega
    rcases r with r | ⟨r1, r2, r3⟩
    · exact hr r
    · by_cases c0 : S (16 + l) s = 0
      · obtain ⟨e, he, hh, -, -⟩ := zz_row_edge hN (l := l) (i := 0) hl (by omega)
        rw [e9] at hh
        rw [c0] at r3
        have r3 : S (9 + l) 0 = s := r3
        have := no e he
        omega
      · obtain ⟨e, he, hh, -, -⟩ := zz_row_edge hN (l := l) (i := (S (16 + l) s - 1).toNat) hl (by omega)
        rw [e9, show (S (16 + l) s - 1).toNat + 1 = (S (16 + l) s).toNat by omega, r3] at hh
        have := no e he
        omega
theorem zz_ar0 {S : qq_S} (hN : zz_N S) {s : Nat} (hs : s < 10) (hd : S 25 s = 0) (X Y : Nat → Int) : zz_ar S X Y s = 0 := by
  have gb := hN.1.1
  have e : zz_ba S X Y s = 0 := by
    unfold zz_ba
    refine zz_sum_z0 (fun l hl => ?_)
    show zz_bl1 _ _ _ _ _ = 0
    unfold zz_bl1
    split
    · rfl
    · rename_i c
      have := zz_deg0 hN hs hd (l := l) (by omega) c
      rw [show (S 7 l - 2).toNat = 0 by omega]
      rfl
  unfold zz_ar
  rw [e, hd]
  show zz_sum _ 0 + 0 * S 52 0 = 0
  simp [zz_sum]
theorem zz_co_cs {S : qq_S} (hN : zz_N S) (hg : zz_gp S) (ha : zz_al S (S 49) (S 50)) : ∀ s : Nat, s ≤ (S 4 0).toNat → (zz_co S s).1 = zz_cst S (S 49) (S 50) - (zz_cs S s).1 ∧ (zz_co S s).2 = (zz_cs S s).2
  | 0, _ => ⟨by show (0 : Int) = zz_cst S (S 49) (S 50) - zz_cst S (S 49) (S 50); omega, rfl⟩
  | s + 1, hs => by
    have gb := hN.1.1
    have ih := zz_co_cs hN hg ha s (by omega)
    have b0 := zz_co_bd (S := S) (n := (S 4 0).toNat) s (by omega)
    have b1 := zz_sc_bd (A := zz_caA S) (c := zz_caC S) (H := S 51) (w := (S 48 0 * S 48 1).toNat) (c0 := zz_cst S (S 49) (S 50)) (n := (S 4 0).toNat) s (by omega)
    have b1 : (zz_cs S s).1 ≤ zz_cst S (S 49) (S 50) := b1.1
    have e1 : zz_cs S (s + 1) = if ¬ S 51 s = 0 then zz_cs S s else zz_si (zz_caA S) (zz_caC S) s (zz_cs S s) (S 48 0 * S 48 1).toNat := rfl
    have e2 : zz_co S (s + 1) = if ¬ S 51 s = 0 ∨ S 25 s = 0 then zz_co S s else zz_ci S s (zz_co S s) (S 48 0 * S 48 1).toNat := rfl
    rw [e1, e2]
    by_cases c1 : S 51 s = 0
    · rw [if_neg (not_not_intro c1)]
      by_cases c2 : S 25 s = 0
      · rw [if_pos (Or.inr c2)]
        have st : ∀ p : Nat, zz_si (zz_caA S) (zz_caC S) s (zz_cs S s) p = zz_cs S s := by
          intro p
          induction p with
          | zero => rfl
          | succ p ihp =>
            rw [zz_si_no, ihp]
            rw [ihp]
            intro z
            have g := (zz_gn_c hN hg ha (s := s) (p := p) (by omega)).2
            rw [zz_ar0 hN (by omega) c2, zz_ar_c zz_mv_n48 (zz_mv_ne (by omega)) (by omega) (by omega), zz_ar0 hN (by omega) c2] at g
            have := z.1
            omega
        rw [st]
        exact ih
      · rw [if_neg (by omega)]
        have st : ∀ p : Nat, (0 ≤ (zz_ci S s (zz_co S s) p).1) ∧ (zz_ci S s (zz_co S s) p).1 = zz_cst S (S 49) (S 50) - (zz_si (zz_caA S) (zz_caC S) s (zz_cs S s) p).1 ∧ (zz_ci S s (zz_co S s) p).2 = (zz_si (zz_caA S) (zz_caC S) s (zz_cs S s) p).2 := by
          intro p
          induction p with
          | zero => exact ⟨b0.1, ih⟩
          | succ p ihp =>
            obtain ⟨i0, i1, i2⟩ := ihp
            have g := zz_gn_c hN hg ha (s := s) (p := p) (by omega)
            by_cases cA : zz_caA S s p
            · have cB := g.1.mp cA
              have eg : zz_gn S s p = zz_cst S (S 49) (S 50) - zz_caC S s p := by
                unfold zz_gn
                rw [if_neg cB.1]
                omega
              by_cases cl : zz_caC S s p < (zz_si (zz_caA S) (zz_caC S) s (zz_cs S s) p).1
              · rw [zz_si_yes ⟨cl, zz_p1 cA⟩, zz_ci_yes ⟨by omega, cB.2⟩]
                exact ⟨by show 0 ≤ zz_gn S s p; omega, by show zz_gn S s p = _ - zz_caC S s p; omega, rfl⟩
              · rw [zz_si_no (fun z => cl z.1), zz_ci_no (fun z => by have := z.1; omega)]
                exact ⟨i0, i1, i2⟩
            · rw [zz_si_no (fun z => cA (zz_pi1.mp z.2)), zz_ci_no (fun z => by
                by_cases c3 : zz_p (zz_gE (zz_mv S s p 49) (zz_mv S s p 50) (zz_mv S s p 25) (fun s2 => zz_mv S s p (26 + 1 + s2)) (zz_mv S s p 52 3) s) = 0
                · have : zz_gn S s p = 0 := by unfold zz_gn; rw [if_pos c3]
                  have := z.1
                  omega
                · exact cA (g.1.mpr ⟨c3, z.2⟩))]
              exact ⟨i0, i1, i2⟩
        exact (st _).2
    · rw [if_pos (Or.inl c1), if_pos c1]
      exact ih
