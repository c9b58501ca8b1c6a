/-! descend. -/
theorem yy_or_in (x y : Int) : qq_in (qq_or x y) := by
  unfold qq_in qq_or
  have h1 : -2147483648 ≤ (Int32.ofInt x ||| Int32.ofInt y).toInt := Int32.le_toInt _
  have h2 : (Int32.ofInt x ||| Int32.ofInt y).toInt ≤ 2147483647 := Int32.toInt_le _
  exact ⟨h1, h2⟩
theorem yy_pp_in (S : qq_S) (s p : Nat) : ∀ m : Nat, qq_in (yy_pp S s p m)
  | 0 => by unfold yy_pp qq_in; omega
  | m + 1 => by
    unfold yy_pp
    split
    · exact yy_pp_in S s p m
    · exact yy_or_in _ _
theorem yy_ps_in (S : qq_S) (s p : Nat) (tk : Int) : qq_in (yy_ps S s p tk) := by
  unfold yy_ps
  split
  · unfold qq_in; omega
  · exact yy_pp_in _ _ _ _
theorem f48t {xs : List Int32} (hxs : xs.length ≤ 2048) (d : Nat) (S : qq_S) (a : Int) (p : Int) (hp : (0 ≤ a ∧ a < 10 ∧ -1 ≤ p ∧ p ≤ 1000) ∧ 1 ≤ S 56 0 ∧ S 56 0 ≤ 8) : qq_E xs (d + 1) 48 [.inr (56, none), .inl a, .inl p] S none (yy_mvt S a.toNat p) := by
  have h := f48_56 hxs d S a p ⟨by omega, by omega, by unfold qq_in; omega, by omega, by omega⟩
  have e : (if p < 0 ∨ S 56 0 < 1 then qq_u (qq_u S 57 a.toNat (-1)) 58 a.toNat (-1) else qq_u (qq_u S 57 a.toNat (p % S 56 0)) 58 a.toNat (p / S 56 0)) = yy_mvt S a.toNat p := by
    unfold yy_mvt
    by_cases c : p < 0
    · rw [if_pos c, if_pos (Or.inl c)]
    · rw [if_neg c, if_neg (by omega)]
  rw [e] at h
  exact h
noncomputable def sp_73 : qq_P := fun y as S => match y, as with
  | 48, [.inr (56, none), .inl a, .inl p] => some ((0 ≤ a ∧ a < 10 ∧ -1 ≤ p ∧ p ≤ 1000) ∧ 1 ≤ S 56 0 ∧ S 56 0 ≤ 8, none, yy_mvt S a.toNat p)
  | 80, [.inr (55, none), .inl k] => some ((0 ≤ k ∧ k < S 4 0 ∧ 0 ≤ S 89 k.toNat ∧ S 89 k.toNat < S 4 0 ∧ -1 ≤ S 87 (S 89 k.toNat).toNat ∧ S 87 (S 89 k.toNat).toNat < 32 ∧ 0 ≤ S 55 12 ∧ S 55 12 ≤ 1) ∧ zz_p (zz_nb S) = 1 ∧ zz_p (yy_tp S) = 1, some (if k = S 4 0 - 1 ∧ S 55 12 = 0 then qq_and (yy_op S (S 89 k.toNat).toNat (S 25 (S 89 k.toNat).toNat).toNat) (yy_fl S) else yy_op S (S 89 k.toNat).toNat (S 25 (S 89 k.toNat).toNat).toNat), S)
  | 82, [.inr (55, none), .inl s, .inl p, .inl tk] => some ((0 ≤ s ∧ s < 10 ∧ 0 ≤ p ∧ p < 25) ∧ zz_p (zz_nb S) = 1 ∧ zz_p (yy_tp S) = 1, some (yy_ps S s.toNat p.toNat tk), S)
  | 21, [.inr (92, none), .inl s] => some ((0 ≤ s ∧ s < 10) ∧ zz_p (zz_nb S) = 1 ∧ zz_p (zz_pl (S 57) (S 58)) = 1, some (zz_p (zz_gR (S 57) (S 58) (S 25) (fun s => S (26 + 1 + s)) s.toNat)), S)
  | _, _ => sp_58 y as S
theorem sp_73_ok {xs : List Int32} (hxs : xs.length ≤ 2048) (d : Nat) : qq_ok xs (d + 20) sp_73 := by
  intro y as S pre r S2 h hp
  unfold sp_73 at h
  split at h
  · cases h; exact f48t hxs (d + 19) S _ _ hp
  · cases h; exact f80 hxs (d + 11) S _ hp
  · cases h; exact f82 hxs (d + 10) S _ _ _ hp
  · cases h; exact f21_92 hxs (d + 11) S _ hp
  · exact sp_58_ok hxs (d + 0) y as S pre r S2 h hp
set_option maxRecDepth 20000 in
theorem f78 {xs : List Int32} (hxs : xs.length ≤ 2048) : ∀ (m d : Nat) (S : qq_S) (k : Nat) (sp tk : Int), (k : Int) + m = S 4 0 → yy_C S → yy_I S k sp tk → ((k : Int) = S 4 0 → sp < S 55 13) → (0 ≤ S 55 13 ∧ S 55 13 ≤ 2147483647) → ∃ r T, qq_E xs (d + m + 21) 78 [.inr (55, none), .inl (k : Int), .inl sp, .inl tk] S (some r) T ∧ (r = 0 ∨ r = 1) ∧ yy_Po S T r
  | 0, d, S, k, sp, tk, hk, c, i, hl, hb => by
    have nb := zz_N_nb c.1
    have gb := c.1.1.1
    have pcb := yy_pc_bd c.1 (by have := c.2.2.2.2.2.2.2.2.1; omega) (yy_tp_pl i.1)
    have spe := i.2.2.2.2.1
    have c10 := c.2.2.2.2.2.2.2.2.2
    obtain ⟨T, E, K⟩ := f79 hxs (d + 12) S sp ⟨⟨by unfold qq_in; omega, by unfold qq_in; omega⟩, zz_p1 nb, zz_p1 (yy_tp_pl i.1)⟩
    have P := yy_Po_kp c i (by omega) (hl (by omega)) K
    have h : qq_p xs (d + 20) (mm_mr mm_m78) (mm_mk mm_m78) (fun r S2 => r = some (if sp ≤ S 55 14 then 1 else 0) ∧ S2 = T) 0 (qq_ent mm_m78 [.inr (55, none), .inl (k : Int), .inl sp, .inl tk]) [] S := by
      refine qq_fsound hxs (sp_73_ok hxs (d + 0)) [13, 17] 300 ?_
      repeat' first | apply And.intro | intro _ | (simp only [qq_tab]) | (simp only [qq_pl])
      all_goals (first
        | omega
        | (show qq_p xs (d + 20) (mm_mr mm_m78) (mm_mk mm_m78) _ 13 _ [.inl sp, .inr (55, none)] S
           refine qq_vcall rfl E (by omega) rfl rfl rfl (Nat.le_of_ble_eq_true rfl) ?_
           refine qq_fsound hxs (sp_73_ok hxs (d + 0)) [] 300 ?_
           repeat' first | apply And.intro | intro _
           all_goals (first
             | omega
             | rfl
             | (by_cases z : sp ≤ S 55 14
                · rw [if_pos z]; omega
                · rw [if_neg z]; omega)))
        | (exfalso; omega)
        | contradiction)
    obtain ⟨r, S2, hE, e1, e2⟩ := qq_call_of (y := 78) rfl (Nat.le_of_ble_eq_true rfl) h
    rw [e1, e2] at hE
    refine ⟨_, T, hE, ?_, P⟩
    by_cases z : sp ≤ S 55 14
    · rw [if_pos z]; exact Or.inr rfl
    · rw [if_neg z]; exact Or.inl rfl
  | m + 1, d, S, k, sp, tk, hk, c, i, hl, hb => by
    have hN := c.1
    have nb := zz_N_nb hN
    have gb := hN.1.1
    have w := c.2.2.1
    have c7 := c.2.2.2.2.2.2.1
    have c8 := c.2.2.2.2.2.2.2.1
    have c9 := c.2.2.2.2.2.2.2.2.1
    have c10 := c.2.2.2.2.2.2.2.2.2
    have hO := c.2.2.2.2.1
    have ok := hO.1 k (by omega)
    have c7s := c7 (S 89 k).toNat (by omega)
    have pcb := yy_pc_bd hN (by omega) (yy_tp_pl i.1)
    have spe := i.2.2.2.2.1
    have rb := yy_rst_bd hN hO c.2.2.2.2.2.1 (by omega) (k + 1) (by omega)
    have L : ∀ (k9 : Nat) (p r : Int) (u8 u9 : Option qq_V) (T : qq_S), S 56 0 * S 56 1 - p < (k9 : Int) → (0 ≤ p ∧ p ≤ S 56 0 * S 56 1) → (r = 0 ∨ r = 1) → yy_fx S T → (∀ t : Nat, ¬ t = (S 89 k).toNat → T 57 t = S 57 t ∧ T 58 t = S 58 t) → yy_L S T (S 89 k).toNat p r → qq_p xs (d + m + 21) (mm_mr mm_m78) (mm_mk mm_m78) (fun r S2 => zz_p (∃ v, r = some v ∧ (v = 0 ∨ v = 1) ∧ yy_Po S S2 v) = 1) 42 [some (.inr (55, none)), some (.inl (k : Int)), some (.inl sp), some (.inl tk), some (.inl (S 89 k)), some (.inl (yy_ov S k tk)), some (.inl r), some (.inl p), u8, u9] [] T := by
      intro k9
      induction k9 with
      | zero =>
        intro p r u8 u9 T hm h1 h2 h3 h4 h5
        exfalso
        omega
      | succ k9 ih =>
        intro p r u8 u9 T hm h1 h2 h3 h4 h5
        have f56 : T 56 = S 56 := h3.1 56 (by omega) (by omega) (by omega) (by omega)
        have twh : T 56 0 * T 56 1 = S 56 0 * S 56 1 := by rw [f56]
        have t560 : T 56 0 = S 56 0 := by rw [f56]
        have whp : 0 < S 56 0 * S 56 1 := Int.mul_pos (by omega) (by omega)
        have st0 := yy_step (M := yy_mvt S (S 89 k).toNat 0) (p := 0) c i (by omega) (yy_Mv_of (yy_fx0 S) (fun _ _ => ⟨rfl, rfl⟩) (by omega))
        obtain ⟨hs, hu, hu2, -, -, -, -, -, -⟩ := st0
        refine qq_fsound hxs (sp_73_ok hxs (d + m + 1)) [42, 158] 300 ?_
        repeat' first | apply And.intro | intro _ | (simp only [qq_tab]) | (simp only [qq_pl])
        all_goals (
          first
          | omega
          | exact Or.inl trivial
          | exact Or.inr trivial
          | exact (yy_and_in _ _).1
          | exact (yy_and_in _ _).2
          | exact (zz_pin _).1
          | exact (zz_pin _).2
          | exact (yy_ps_in _ _ _ _).1
          | exact (yy_ps_in _ _ _ _).2
          | (have ew : T 56 0 * T 56 1 ≤ p := by assumption
             exact zz_p1 ⟨r, rfl, h2, yy_L_end c h5 h3 h4 ⟨hu, hu2⟩ hs (fun _ => by omega)⟩)
          | (have er : ¬ r = 0 := by assumption
             exact zz_p1 ⟨r, rfl, h2, yy_L_end c h5 h3 h4 ⟨hu, hu2⟩ hs (fun e => absurd e er)⟩)
          | (have er : r = 0 := by assumption
             subst er
             have pl : p < S 56 0 * S 56 1 := by omega
             have mv : yy_Mv S (yy_mvt T (S 89 k).toNat p) k p := yy_Mv_of h3 h4 ⟨h1.1, pl⟩
             have cM := yy_C_fx mv.1 c
             have tpM := yy_Mv_tp c i mv
             have nbM := zz_N_nb cM.1
             have m13 : (yy_mvt T (S 89 k).toNat p) 55 13 = T 55 13 := by rw [yy_mvt_ne (by decide) (by decide)]
             have m88 : (yy_mvt T (S 89 k).toNat p) 88 = T 88 := yy_mvt_ne (by decide) (by decide)
             have st := yy_step c i (by omega) mv
             have f52 : (yy_mvt T (S 89 k).toNat p) 52 = S 52 := mv.1.1 52 (by omega) (by omega) (by omega) (by omega)
             have f91 : (yy_mvt T (S 89 k).toNat p) 91 ((k : Int) + 1).toNat = S 91 (k + 1) := by rw [mv.1.1 91 (by omega) (by omega) (by omega) (by omega), show ((k : Int) + 1).toNat = k + 1 by omega]
             have pcM := yy_pc_bd cM.1 (by rw [f52]; omega) (yy_tp_pl tpM)
             have hc := st.2.2.2.2.2.2.2.1
             have l13 := h5.1
             have nec := fun Q a b e => yy_nec (Q := Q) c i (by omega) mv a b e
             have fxM : yy_fx S (yy_mvt T (S 89 k).toNat p) := mv.1
             have foM : ∀ t : Nat, ¬ t = (S 89 k).toNat → (yy_mvt T (S 89 k).toNat p) 57 t = S 57 t ∧ (yy_mvt T (S 89 k).toNat p) 58 t = S 58 t := fun t ht => ⟨((mv.2.2.1 t ht).1).symm, ((mv.2.2.1 t ht).2).symm⟩
             first
             | omega
             | exact zz_p1 nbM
             | exact zz_p1 (yy_tp_pl tpM)
             | exact zz_p1 tpM
             | (have z : qq_and (qq_shr (yy_ov S (k : Int) tk) p) 1 = 0 := by assumption
                have z := (zz_bit_shr (by omega)).mp z
                exact ih (p + 1) 0 _ _ T (by omega) (by omega) (Or.inl rfl) h3 h4 (yy_L_no h5 rfl rfl (fun Q a b e => absurd (nec Q a b e).1 z)))
             | (have z0 : ¬ qq_and (qq_shr (yy_ov S (k : Int) tk) p) 1 = 0 := by assumption
                have ob := Classical.not_not.mp (fun y => z0 ((zz_bit_shr (by omega)).mpr y))
                first
                | (have z : (yy_mvt T (S 89 k).toNat p) 55 13 ≤ sp + zz_ar (yy_mvt T (S 89 k).toNat p) ((yy_mvt T (S 89 k).toNat p) 57) ((yy_mvt T (S 89 k).toNat p) 58) (S 89 k).toNat + (yy_mvt T (S 89 k).toNat p) 91 ((k : Int) + 1).toNat := by assumption
                   refine ih (p + 1) 0 _ _ (yy_mvt T (S 89 k).toNat p) (by omega) (by omega) (Or.inl rfl) fxM foM (yy_L_no h5 m13 m88 (fun Q a b e => ?_))
                   have := (nec Q a b e).2.2.2
                   have f92 : (yy_mvt T (S 89 k).toNat p) 91 (k + 1) = S 91 (k + 1) := by rw [mv.1.1 91 (by omega) (by omega) (by omega) (by omega)]
                   omega)
                | (have z1 : ¬ (yy_mvt T (S 89 k).toNat p) 55 13 ≤ sp + zz_ar (yy_mvt T (S 89 k).toNat p) ((yy_mvt T (S 89 k).toNat p) 57) ((yy_mvt T (S 89 k).toNat p) 58) (S 89 k).toNat + (yy_mvt T (S 89 k).toNat p) 91 ((k : Int) + 1).toNat := by assumption
                   have gE := (st.2.2.2.2.2.2.1.mp ob).2.1
                   have f4 : (yy_mvt T (S 89 k).toNat p) 4 = S 4 := mv.1.1 4 (by omega) (by omega) (by omega) (by omega)
                   have pm1 := yy_pp_m1 cM.1 (s := (S 89 k).toNat) (w := (yy_mvt T (S 89 k).toNat p) 56 0) (h := (yy_mvt T (S 89 k).toNat p) 56 1) (by rw [f4]; omega) rfl (by have := cM.2.2.1; omega) (by have := cM.2.2.1; omega) cM.2.2.2.1 (yy_tp_gr tpM (by rw [f4]; omega)) st.2.2.2.1 gE
                   rw [st.2.2.2.2.1] at pm1
                   have psE : yy_ps (yy_mvt T (S 89 k).toNat p) (S 89 k).toNat p.toNat tk = -1 ↔ ∃ j : Nat, (j : Int) < (yy_mvt T (S 89 k).toNat p) 25 (S 89 k).toNat ∧ yy_pf (yy_mvt T (S 89 k).toNat p) (S 89 k).toNat p.toNat tk j := by
                     unfold yy_ps
                     by_cases y : ∃ j : Nat, (j : Int) < (yy_mvt T (S 89 k).toNat p) 25 (S 89 k).toNat ∧ yy_pf (yy_mvt T (S 89 k).toNat p) (S 89 k).toNat p.toNat tk j
                     · rw [zz_p1 y, if_pos rfl]; exact ⟨fun _ => y, fun _ => rfl⟩
                     · rw [zz_p0 y, if_neg (by decide)]; exact ⟨fun x => absurd x pm1, fun x => absurd x y⟩
                   first
                   | (have z : yy_ps (yy_mvt T (S 89 k).toNat p) (S 89 k).toNat p.toNat tk = -1 := by assumption
                      obtain ⟨j, j1, j2⟩ := psE.mp z
                      exact ih (p + 1) 0 _ _ (yy_mvt T (S 89 k).toNat p) (by omega) (by omega) (Or.inl rfl) fxM foM (yy_L_no h5 m13 m88 (fun Q a b e => absurd j2 ((nec Q a b e).2.1 j j1))))
                   | (have z2 : ¬ yy_ps (yy_mvt T (S 89 k).toNat p) (S 89 k).toNat p.toNat tk = -1 := by assumption
                      first
                      | (have z : ¬ zz_gR ((yy_mvt T (S 89 k).toNat p) 57) ((yy_mvt T (S 89 k).toNat p) 58) ((yy_mvt T (S 89 k).toNat p) 25) (fun s => (yy_mvt T (S 89 k).toNat p) (26 + 1 + s)) (S 89 k).toNat := zz_pi0.mp (by assumption)
                         exact ih (p + 1) 0 _ _ (yy_mvt T (S 89 k).toNat p) (by omega) (by omega) (Or.inl rfl) fxM foM (yy_L_no h5 m13 m88 (fun Q a b e => absurd (nec Q a b e).2.2.1 z)))
                      | (have z : zz_gR ((yy_mvt T (S 89 k).toNat p) 57) ((yy_mvt T (S 89 k).toNat p) 58) ((yy_mvt T (S 89 k).toNat p) 25) (fun s => (yy_mvt T (S 89 k).toNat p) (26 + 1 + s)) (S 89 k).toNat := Classical.not_not.mp (fun y => absurd (zz_pi0.mpr y) (by assumption))
                         have pf : ∀ j : Nat, (j : Int) < (yy_mvt T (S 89 k).toNat p) 25 (S 89 k).toNat → ¬ yy_pf (yy_mvt T (S 89 k).toNat p) (S 89 k).toNat p.toNat tk j := fun j j1 j2 => z2 (psE.mpr ⟨j, j1, j2⟩)
                         have eps : yy_ps (yy_mvt T (S 89 k).toNat p) (S 89 k).toNat p.toNat tk = yy_pp (yy_mvt T (S 89 k).toNat p) (S 89 k).toNat p.toNat ((yy_mvt T (S 89 k).toNat p) 25 (S 89 k).toNat).toNat := by
                           unfold yy_ps
                           rw [zz_p0 (fun ⟨j, j1, j2⟩ => pf j j1 j2), if_neg (by decide)]
                         have iM := yy_suf c i (by omega) mv ob pf z
                         rw [← eps] at iM
                         obtain ⟨r2, T2, E2, b2, P2⟩ := f78 hxs m d (yy_mvt T (S 89 k).toNat p) (k + 1) _ _ (by rw [f4]; omega) cM iM (fun e9 => by
                           have z9 := yy_rst0 hN hO c.2.2.2.2.2.1
                           rw [f4] at e9
                           rw [show (S 4 0).toNat = k + 1 by omega] at z9
                           omega) (by omega)
                         rw [show ((k + 1 : Nat) : Int) = (k : Int) + 1 by omega] at E2
                         have LL := yy_L_go c i (by omega) mv h5 m13 m88 P2
                         have fx2 := yy_fx_t mv.1 P2.1
                         have fo2 : ∀ t : Nat, ¬ t = (S 89 k).toNat → T2 57 t = S 57 t ∧ T2 58 t = S 58 t := fun t ht => by rw [P2.2.1, P2.2.2.1]; exact foM t ht
                         show qq_p xs (d + m + 21) (mm_mr mm_m78) (mm_mk mm_m78) _ 158 _ [.inl (qq_or (qq_or tk (yy_ps (yy_mvt T (S 89 k).toNat p) (S 89 k).toNat p.toNat tk)) (qq_shl 1 p)), .inl (sp + zz_ar (yy_mvt T (S 89 k).toNat p) ((yy_mvt T (S 89 k).toNat p) 57) ((yy_mvt T (S 89 k).toNat p) 58) (S 89 k).toNat), .inl ((k : Int) + 1), .inr (55, none)] (yy_mvt T (S 89 k).toNat p)
                         refine qq_vcall rfl E2 (by omega) rfl rfl rfl (Nat.le_of_ble_eq_true rfl) ?_
                         refine qq_fsound hxs (sp_73_ok hxs (d + m + 1)) [42] 300 ?_
                         repeat' first | apply And.intro | intro _
                         all_goals (first
                           | omega
                           | (have e0 : r2 = 0 := by assumption
                              rw [e0] at LL
                              exact ih (p + 1) 0 _ _ T2 (by omega) (by omega) (Or.inl rfl) fx2 fo2 LL)
                           | (have e0 : r2 = 1 := by omega
                              rw [e0] at LL
                              exact ih (p + 1) 1 _ _ T2 (by omega) (by omega) (Or.inr rfl) fx2 fo2 LL)))))))
          | skip)
    have h : qq_p xs (d + m + 21) (mm_mr mm_m78) (mm_mk mm_m78) (fun r S2 => zz_p (∃ v, r = some v ∧ (v = 0 ∨ v = 1) ∧ yy_Po S S2 v) = 1) 0 (qq_ent mm_m78 [.inr (55, none), .inl (k : Int), .inl sp, .inl tk]) [] S := by
      have kn : ((k : Int)).toNat = k := by omega
      refine qq_fsound hxs (sp_73_ok hxs (d + m + 1)) [42] 300 ?_
      repeat' first | apply And.intro | intro _ | (simp only [qq_tab]) | (simp only [qq_pl])
      all_goals (
        (try rw [kn])
        first
        | omega
        | exact zz_p1 nb
        | exact zz_p1 i.1
        | (exfalso; omega)
        | (have L0 := L (S 56 0 * S 56 1 + 1).toNat 0 0 none none S (by have := Int.mul_pos (show 0 < S 56 0 by omega) (show 0 < S 56 1 by omega); omega) (by have := Int.mul_pos (show 0 < S 56 0 by omega) (show 0 < S 56 1 by omega); omega) (Or.inl rfl) (yy_fx0 S) (fun _ _ => ⟨rfl, rfl⟩) ⟨by omega, Or.inl ⟨rfl, fun _ _ => rfl⟩, fun e => absurd e (by decide), fun _ => ⟨fun Q a b e => by
             have := (a.1 (S 89 k).toNat (by omega)).1
             omega, Or.inl rfl⟩⟩
           exact L0)
        | skip)
    obtain ⟨r, S2, hE, e⟩ := qq_call_of (y := 78) rfl (Nat.le_of_ble_eq_true rfl) h
    obtain ⟨v, e1, e2, e3⟩ := zz_pi1.mp e
    rw [e1] at hE
    exact ⟨v, S2, hE, e2, e3⟩
