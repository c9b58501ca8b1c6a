/-! better of the reference, and the tie. -/
set_option maxRecDepth 20000 in
theorem f162 {xs : List Int32} (hxs : xs.length ≤ 2048) (d : Nat) (S : qq_S) (hp : zz_p (zz_N S) = 1 ∧ zz_p (zz_mpt S) = 1 ∧ zz_p ((zz_vM S).1 = 0 → zz_mgr S) = 1) : ∃ S2, qq_E xs (d + 23) 162 [.inr (115, none)] S (some (if (zz_vM S).1 = 0 then (zz_mt 50 S).1 else -6)) S2 ∧ ∃ T, zz_cI (if (zz_vM S).1 = 0 then (zz_mt 50 S).2 else S) T ∧ S2 = qq_u T 115 0 (if (zz_vM S).1 = 0 then 0 else -6) := by
  have gN := zz_pi1.mp hp.1
  have gM := zz_pi1.mp hp.2.2
  have gb := gN.1.1
  have vb := zz_vM_bd gN
  have cW := zz_cI_wS S
  have L : ∀ (k9 : Nat) (c : Int) (T : qq_S), 50 - c < (k9 : Int) → (0 ≤ c ∧ c ≤ 50) → (zz_N T) → (zz_mgr T) → ((zz_vM S).1 = 0) → (c + (zz_mt (50 - c).toNat T).1 = (zz_mt 50 S).1) → (zz_cI (zz_mt 50 S).2 (zz_mt (50 - c).toNat T).2) → qq_p xs (d + 22) (mm_mr mm_m162) (mm_mk mm_m162) (fun r S2 => r = some (if (zz_vM S).1 = 0 then (zz_mt 50 S).1 else -6) ∧ zz_p (∃ T, zz_cI (if (zz_vM S).1 = 0 then (zz_mt 50 S).2 else S) T ∧ S2 = qq_u T 115 0 (if (zz_vM S).1 = 0 then 0 else -6)) = 1) 16 [some (.inr (115, none)), some (.inl c)] [] (T) := by
    intro k9
    induction k9 with
    | zero =>
      intro c T hm h1 h2 h4 cv h5 h6
      exfalso
      omega
    | succ k9 ih =>
      intro c T hm h1 h2 h4 cv h5 h6
      refine qq_fsound hxs (sp_31_ok hxs (d + 1)) [16, 23] 300 ?_
      repeat' first | apply And.intro | intro _ | (simp only [qq_tab]) | (simp only [qq_pl])
      all_goals (
        (obtain ⟨T2, E2, C2⟩ := f163 hxs (d + 0) T ⟨zz_p1 h2, zz_p1 h4⟩
         have N2 := zz_mm_N h2
         have M2 := zz_mm_mg h2 h4
         have N3 := zz_N_c (zz_cI_N C2) N2
         have M3 := zz_mgr_c C2 M2
         first
         | omega
         | (unfold qq_in; omega)
         | (have ec : (50 - c).toNat = 0 := by omega
            rw [ec] at h5 h6
            have h5 : c + 0 = (zz_mt 50 S).1 := h5
            have h6 : zz_cI (zz_mt 50 S).2 T := h6
            first
            | (rw [if_pos cv, ← h5, Int.add_zero]; done)
            | (refine zz_p1 ⟨T, ?_, ?_⟩
               · rw [if_pos cv]; exact h6
               · rw [if_pos cv, if_neg (by omega)]))
         | (have ec : (50 - c).toNat = (49 - c).toNat + 1 := by omega
            refine qq_vcall rfl E2 (by omega) rfl rfl rfl (Nat.le_of_ble_eq_true rfl) ?_
            by_cases cz : (zz_msc T (T 4 0).toNat).2.1 = -1
            · rw [ec, zz_mt_no cz] at h5 h6
              have h5 : c + 0 = (zz_mt 50 S).1 := h5
              have h6 : zz_cI (zz_mt 50 S).2 T := h6
              have em : zz_mm T = T := by unfold zz_mm; rw [if_pos cz]
              rw [em] at C2
              rw [if_pos cz]
              refine qq_fsound hxs (sp_31_ok hxs (d + 1)) [16, 23] 300 ?_
              repeat' first | apply And.intro | intro _
              all_goals first
                | omega
                | (unfold qq_in; omega)
                | (rw [if_pos cv, ← h5, Int.add_zero]; done)
                | (refine zz_p1 ⟨T2, ?_, ?_⟩
                   · rw [if_pos cv]; exact zz_cI_t h6 C2
                   · rw [if_pos cv, if_neg (by omega)])
                | contradiction
            · rw [ec, zz_mt_yes cz] at h5 h6
              have h5 : c + ((zz_mt (49 - c).toNat (zz_mm T)).1 + 1) = (zz_mt 50 S).1 := h5
              have k := zz_mt_c (49 - c).toNat C2 N2
              have e9 : (50 - (c + 1)).toNat = (49 - c).toNat := by omega
              rw [if_neg cz]
              refine qq_fsound hxs (sp_31_ok hxs (d + 1)) [16, 23] 300 ?_
              repeat' first | apply And.intro | intro _
              all_goals first
                | omega
                | exact ih (c + 1) T2 (by omega) (by omega) N3 M3 cv (by rw [e9, k.1]; omega) (by rw [e9]; exact zz_cI_t h6 k.2)
                | contradiction)))
  have h : qq_p xs (d + 22) (mm_mr mm_m162) (mm_mk mm_m162) (fun r S2 => r = some (if (zz_vM S).1 = 0 then (zz_mt 50 S).1 else -6) ∧ zz_p (∃ T, zz_cI (if (zz_vM S).1 = 0 then (zz_mt 50 S).2 else S) T ∧ S2 = qq_u T 115 0 (if (zz_vM S).1 = 0 then 0 else -6)) = 1) 0 (qq_ent mm_m162 [.inr (115, none)]) [] S := by
    refine qq_fsound hxs (sp_31_ok hxs (d + 1)) [16, 23] 300 ?_
    repeat' first | apply And.intro | intro _ | (simp only [qq_tab]) | (simp only [qq_pl])
    all_goals (
      first
      | omega
      | exact hp.1
      | exact hp.2.1
      | (have cv : ¬ (zz_vM S).1 = 0 := by assumption
         first
         | (rw [if_neg cv]; done)
         | (unfold qq_in; omega)
         | (refine zz_p1 ⟨zz_wS S, ?_, ?_⟩
            · rw [if_neg cv]; exact cW
            · rw [if_neg cv, if_pos (by omega)]))
      | (have cv : (zz_vM S).1 = 0 := by assumption
         have k := zz_mt_c 50 cW gN
         exact L 51 0 (zz_wS S) (by omega) (by omega) (zz_N_c (zz_cI_N cW) gN) (zz_mgr_c cW (gM cv)) cv (by show 0 + (zz_mt 50 (zz_wS S)).1 = _; rw [k.1]; omega) k.2)
      | skip)
  obtain ⟨r, S2, hE, e1, e2⟩ := qq_call_of (y := 162) rfl (Nat.le_of_ble_eq_true rfl) h
  rw [e1] at hE
  exact ⟨S2, hE, zz_pi1.mp e2⟩
theorem o_better {xs : List Int32} (hxs : xs.length ≤ 2048) (S : qq_S) (hI : inv S) : qq_op xs 29 100 162 [] S := by
  have hN := inv_N hI
  have hP := inv_PL hI
  have gb := hN.1.1
  have tm := inv_tm hI
  have sp := inv_sp hI
  have ve := zz_v_eq hN hP sp.1
  have pre := inv_pre hI
  have C0 := zz_cI_eC S
  have hI0 := inv_c C0 hI
  have N0 := inv_N hI0
  have P0 := inv_PL hI0
  have ov0 : zz_ov (zz_eC S) (zz_eC S) = zz_eC S := by funext a; unfold zz_ov; split <;> rfl
  have x52 := zz_eC_ne S (show 52 ≠ 53 by decide)
  have x49 := zz_eC_ne S (show 49 ≠ 53 by decide)
  have x50 := zz_eC_ne S (show 50 ≠ 53 by decide)
  have tmt : zz_tm (zz_eC S) := by
    have := inv_tm hI0
    have := inv_sp hI0
    unfold zz_tm
    omega
  have T0 : (zz_vC S).1 = 0 → zz_Ti (zz_eC S) (zz_eC S) := fun cv => ⟨N0, N0, fun _ _ _ _ _ => rfl, by rw [ov0]; exact P0, tmt, (zz_al_c (fun a h1 h2 => zz_eC_ne S (by omega)) (by rw [x52]) (by omega)).mpr (by rw [x49, x50]; exact zz_al_vC.mp cv), by rw [x52]; omega⟩
  have e1 := f100 hxs 0 S ⟨pre.1, pre.2.1, pre.2.2, zz_p1 (fun cv => zz_Ti_gp (T0 cv))⟩
  by_cases cv : (zz_vC S).1 = 0
  · rw [if_pos cv, if_pos cv] at e1
    -- the class's end, where the reference begins
    have Tw : zz_Ti (zz_eC S) (qq_u (zz_bt 50 (zz_eC S)).2 3 9 0) := by
      have t0 := T0 cv
      have fr : ∀ a : Nat, ¬ (a = 49 ∨ a = 50 ∨ a = 3) → qq_u (zz_bt 50 (zz_eC S)).2 3 9 0 a = zz_eC S a := fun a ha => by
        rw [qq_ueq (by omega), zz_bt_fr _ _ _ (by omega)]
      refine ⟨N0, zz_N_c ⟨fun a ha => fr a (by omega), fun j _ _ => by rw [fr 115 (by omega)]⟩ N0, fun a h1 h2 h3 h4 => fr a (by omega), ?_, ?_, t0.2.2.2.2.2.1, t0.2.2.2.2.2.2⟩
      · have e : zz_PL (zz_ov (zz_eC S) (qq_u (zz_bt 50 (zz_eC S)).2 3 9 0)) = zz_PL (zz_eC S) := by
          unfold zz_PL
          rw [zz_ov1 (a := 49) (Or.inl rfl), zz_ov1 (a := 50) (Or.inr rfl), zz_ov0 (a := 4) (by omega), zz_ov0 (a := 48) (by omega), zz_ov0 (a := 51) (by omega), zz_ov0 (a := 115) (by omega), zz_ov0 (a := 123) (by omega), zz_ov0 (a := 124) (by omega), fr 4 (by omega), fr 48 (by omega), fr 51 (by omega), fr 115 (by omega), fr 123 (by omega), fr 124 (by omega)]
        rw [e]; exact P0
      · unfold zz_tm
        rw [fr 115 (by omega), fr 52 (by omega)]
        exact tmt
    generalize hW : qq_u (zz_bt 50 (zz_eC S)).2 3 9 0 = W at *
    have cM : zz_cM (zz_eC S) W := ⟨fun a ha => by rw [← hW, qq_ueq (by omega), zz_bt_fr _ _ _ (by omega)], fun j _ => by rw [← hW, qq_ueq (by omega), zz_bt_fr _ _ _ (by omega)]⟩
    have vW : (zz_vM W).1 = 0 := by
      rw [zz_cM_vM cM N0, zz_cI_vM C0 hN, ← ve]
      exact cv
    have gW := zz_Ti_mg Tw
    obtain ⟨S2, e2, T2, C2, E2⟩ := f162 hxs 0 W ⟨zz_p1 Tw.2.1, zz_p1 (zz_mgr_mpt gW), zz_p1 (fun _ => gW)⟩
    rw [if_pos vW] at e2 C2 E2
    obtain ⟨r1, r2⟩ := zz_Ti_run 50 Tw
    have bb := zz_bt_bd 50 (zz_eC S)
    refine qq_op_of e1 e2 (by decide) (by decide) r1.symm (by unfold qq_in; omega) ?_
    have f1 : ∀ a : Nat, ((3 ≤ a ∧ a ≤ 52) ∨ (95 ≤ a ∧ a ≤ 97) ∨ (102 ≤ a ∧ a ≤ 114) ∨ (116 ≤ a ∧ a ≤ 121) ∨ (123 ≤ a ∧ a ≤ 125) ∨ (130 ≤ a ∧ a ≤ 133)) → ¬ a = 123 → S2 a = W a := fun a h1 h2 => by
      rw [E2, qq_ueq (by omega), C2.1 a h1, zz_mt_fr _ _ _ h2]
    have f2 : ∀ j : Nat, (j ≤ 3 ∨ (12 ≤ j ∧ j ≤ 17) ∨ j = 26) → ¬ j = 0 → S2 115 j = W 115 j := fun j h1 h2 => by
      rw [E2, qq_un (by omega), C2.2 j h1, zz_mt_fr _ _ _ (by decide)]
    have f123 : S2 123 = (zz_mt 50 W).2 123 := by rw [E2, qq_ueq (by omega), C2.1 123 (by omega)]
    have w49 : W 49 = (zz_bt 50 (zz_eC S)).2 49 := by rw [← hW, qq_ueq (by omega)]
    have w50 : W 50 = (zz_bt 50 (zz_eC S)).2 50 := by rw [← hW, qq_ueq (by omega)]
    have wfr : ∀ a : Nat, ¬ (a = 49 ∨ a = 50 ∨ a = 3) → W a = zz_eC S a := fun a ha => by rw [← hW, qq_ueq (by omega), zz_bt_fr _ _ _ (by omega)]
    have PE : zz_PL S2 := by
      have q := r2.2.2.2.1
      unfold zz_PL at q ⊢
      rw [zz_ov1 (a := 49) (Or.inl rfl), zz_ov1 (a := 50) (Or.inr rfl), zz_ov0 (a := 4) (by omega), zz_ov0 (a := 48) (by omega), zz_ov0 (a := 51) (by omega), zz_ov0 (a := 115) (by omega), zz_ov0 (a := 123) (by omega), zz_ov0 (a := 124) (by omega), zz_mt_fr _ _ 4 (by decide), zz_mt_fr _ _ 48 (by decide), zz_mt_fr _ _ 51 (by decide), zz_mt_fr _ _ 115 (by decide), zz_mt_fr _ _ 124 (by decide)] at q
      rw [f1 4 (by omega) (by omega), f1 48 (by omega) (by omega), f1 49 (by omega) (by omega), f1 50 (by omega) (by omega), f1 51 (by omega) (by omega), f1 124 (by omega) (by omega), f123, f2 12 (by omega) (by omega), f2 13 (by omega) (by omega), w49, w50]
      exact q
    refine inv_pl (fun a ha h1 h2 h3 => ?_) (fun j hj => ?_) ?_ PE hI0
    · rw [f1 a (by omega) h3, wfr a (by omega)]
    · rw [f2 j (by omega) (by omega), wfr 115 (by omega)]
    · have w3 : S2 3 9 = 0 := by rw [f1 3 (by omega) (by omega), ← hW, qq_uat, if_pos rfl]
      rw [w3, E2, qq_uat, if_pos rfl]
      exact ⟨rfl, by unfold qq_in; omega⟩
  · rw [if_neg cv, if_neg cv] at e1
    have cW : zz_cM (zz_eC S) (qq_u (zz_eC S) 3 9 (-6)) := ⟨fun a ha => by rw [qq_ueq (by omega)], fun j _ => by rw [qq_ueq (by omega)]⟩
    have nW := zz_N_c (zz_cM_N cW) N0
    have vW : ¬ (zz_vM (qq_u (zz_eC S) 3 9 (-6))).1 = 0 := by
      rw [zz_cM_vM cW N0, zz_cI_vM C0 hN, ← ve]
      exact cv
    have pm := zz_pi1.mp (inv_prm hI0).2
    obtain ⟨S2, e2, T2, C2, E2⟩ := f162 hxs 0 (qq_u (zz_eC S) 3 9 (-6)) ⟨zz_p1 nW, zz_p1 (by unfold zz_mpt; rw [qq_ueq (by decide), qq_ueq (by decide), qq_ueq (by decide)]; exact pm), zz_p1 (fun z => absurd z vW)⟩
    rw [if_neg vW] at e2 C2 E2
    refine qq_op_of e1 e2 (by decide) (by decide) rfl (by unfold qq_in; omega) ?_
    have f1 : ∀ a : Nat, ((4 ≤ a ∧ a ≤ 52) ∨ (95 ≤ a ∧ a ≤ 97) ∨ (102 ≤ a ∧ a ≤ 114) ∨ (116 ≤ a ∧ a ≤ 121) ∨ (123 ≤ a ∧ a ≤ 125) ∨ (130 ≤ a ∧ a ≤ 133)) → S2 a = zz_eC S a := fun a ha => by
      rw [E2, qq_ueq (by omega), C2.1 a (by omega), qq_ueq (by omega)]
    have f2 : ∀ j : Nat, ((1 ≤ j ∧ j ≤ 3) ∨ (12 ≤ j ∧ j ≤ 17) ∨ j = 26) → S2 115 j = zz_eC S 115 j := fun j hj => by
      rw [E2, qq_un (by omega), C2.2 j (by omega), qq_ueq (by decide)]
    refine inv_pl (fun a ha _ _ _ => f1 a ha) f2 ?_ ?_ hI0
    · have w3 : S2 3 9 = -6 := by rw [E2, qq_ueq (by decide), C2.1 3 (by omega), qq_uat, if_pos rfl]
      rw [w3, E2, qq_uat, if_pos rfl]
      exact ⟨rfl, by unfold qq_in; omega⟩
    · unfold zz_PL at P0 ⊢
      rw [f1 4 (by omega), f1 48 (by omega), f1 49 (by omega), f1 50 (by omega), f1 51 (by omega), f1 123 (by omega), f1 124 (by omega), f2 12 (by omega), f2 13 (by omega)]
      exact P0
