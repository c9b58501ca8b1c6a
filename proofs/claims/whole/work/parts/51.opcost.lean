/-! Both find one cost for an allowed drawing. -/
theorem zz_row_edge {S : qq_S} (h : zz_N S) {l i : Nat} (hl : (l : Int) < S 4 1) (hi : (i : Int) + 1 < S 7 l) : ∃ e : Nat, (e : Int) < S 4 2 ∧ ((S 22 e = S (8 + 1 + l) i ∧ S 23 e = S (8 + 1 + l) (i + 1)) ∨ (S 23 e = S (8 + 1 + l) i ∧ S 22 e = S (8 + 1 + l) (i + 1))) ∧ (0 ≤ S (8 + 1 + l) i ∧ S (8 + 1 + l) i < S 4 0) ∧ (0 ≤ S (8 + 1 + l) (i + 1) ∧ S (8 + 1 + l) (i + 1) < S 4 0) := by
  obtain ⟨h1, h2, h3, h4⟩ := h
  have b := h1.1
  have q := h2.1 l hl
  have q1 := q.2.2.2 i (by omega)
  have q2 := q.2.2.2 (i + 1) (by omega)
  rw [qq_R_at (show l < 6 by omega)] at q1 q2
  have e9 : 8 + 1 + l = 9 + l := by omega
  rw [e9]
  have led : i_led (S 4 1) (S 7) (qq_R S 9 6) (S (9 + l) i).toNat (S (9 + l) (i + 1)).toNat := by
    refine ⟨l, i, hl, hi, Or.inl ⟨?_, ?_⟩⟩
    · rw [qq_R_at (show l < 6 by omega)]; omega
    · rw [qq_R_at (show l < 6 by omega)]; omega
  have ne := (h3.2.2.2.2 (S (9 + l) i).toNat (S (9 + l) (i + 1)).toNat (by omega) (by omega)).mpr led
  have q3 := h3.2.2.1 (S (9 + l) i).toNat (S (9 + l) (i + 1)).toNat (by omega) (by omega)
  rcases q3 with q3 | ⟨q4, q5, q6⟩
  · exact absurd q3 ne
  · exact ⟨(qq_R S 38 10 (S (9 + l) i).toNat (S (9 + l) (i + 1)).toNat).toNat, by omega, by omega, by omega, by omega⟩
theorem zz_allow {S : qq_S} (hN : zz_N S) (hv : (zz_vC S).1 = 0) : (∀ a, a < (S 4 0).toNat → ¬ S 49 a = -1) ∧ (∀ e, e < (S 4 2).toNat → ¬ zz_dr (S 49) (S 50) (S 22 e).toNat (S 23 e).toNat = -1 ∧ ¬ zz_dr (S 49) (S 50) (S 23 e).toNat (S 22 e).toNat = -1) := by
  have k := zz_vd_ok.mp hv
  exact ⟨k.1, fun e he => ⟨k.2.2.1 e he, fun z => k.2.2.1 e he (zz_dr_sw.mp z)⟩⟩
theorem zz_cost_eq {S : qq_S} (hN : zz_N S) (hP : zz_PL S) (hv : (zz_vC S).1 = 0) : zz_bds S (S 49) (S 50) = zz_mbds S ∧ zz_lns S (S 49) (S 50) = zz_mlns S ∧ zz_trs S (S 49) (S 50) = zz_mtrs S := by
  have gb := hN.1.1
  have gE := hN.2.2.1.1
  have k := zz_allow hN hv
  have pz : ∀ a : Nat, a < (S 4 0).toNat → (zz_mx S a = S 49 a ∧ zz_my S a = S 50 a) := fun a ha => zz_PL_at hP (by omega) (by omega) (k.1 a ha)
  refine ⟨?_, ?_, ?_⟩
  · unfold zz_bds zz_mbds
    rw [show S 115 2 = S 4 1 by omega]
    refine zz_sum_c (fun l hl => ?_)
    have q := hN.2.1.1 l (by omega)
    rw [q.2.2.1]
    unfold zz_bln
    refine zz_sum_c (fun i hi => ?_)
    have r0 := q.2.2.2 i (by omega)
    have r1 := q.2.2.2 (i + 1) (by omega)
    have r2 := q.2.2.2 (i + 2) (by omega)
    rw [qq_R_at (show l < 6 by omega)] at r0 r1 r2
    have e9 : 8 + 1 + l = 9 + l := by omega
    unfold zz_bnd zz_mbnd
    rw [r0.2.2.1, r1.2.2.1, r2.2.2.1, e9]
    have dd : ∀ j : Nat, (j : Int) + 1 < S 7 l → zz_mdr (zz_mx S) (zz_my S) (S (9 + l) j).toNat (S (9 + l) (j + 1)).toNat = zz_dr (S 49) (S 50) (S (9 + l) j).toNat (S (9 + l) (j + 1)).toNat ∧ ¬ zz_dr (S 49) (S 50) (S (9 + l) j).toNat (S (9 + l) (j + 1)).toNat = -1 := fun j hj => by
      obtain ⟨e, he, hh, b1, b2⟩ := zz_row_edge hN (l := l) (i := j) (by omega) hj
      rw [e9] at hh b1 b2
      have p1 := pz (S (9 + l) j).toNat (by omega)
      have p2 := pz (S (9 + l) (j + 1)).toNat (by omega)
      have c := k.2 e (by omega)
      have ne : ¬ zz_dr (S 49) (S 50) (S (9 + l) j).toNat (S (9 + l) (j + 1)).toNat = -1 := by
        rcases hh with ⟨u, v⟩ | ⟨u, v⟩
        · rw [u, v] at c; exact c.1
        · rw [u, v] at c; exact c.2
      refine ⟨?_, ne⟩
      rw [zz_mdr_c p1 p2]
      exact zz_md_dir ne
    have d0 := dd i (by omega)
    have d1 := dd (i + 1) (by omega)
    rw [d0.1, d1.1]
    have b0 := zz_dr_bd (S 49) (S 50) (S (9 + l) i).toNat (S (9 + l) (i + 1)).toNat
    have b1 := zz_dr_bd (S 49) (S 50) (S (9 + l) (i + 1)).toNat (S (9 + l) (i + 2)).toNat
    have d2 : ¬ zz_dr (S 49) (S 50) (S (9 + l) (i + 1)).toNat (S (9 + l) (i + 2)).toNat = -1 := d1.2
    exact zz_eb_ap (by omega) (by omega)
  · unfold zz_lns zz_mlns
    rw [show S 115 3 = S 4 2 by omega]
    refine zz_sum_c (fun e he => ?_)
    have m := zz_N_me hN (e := e) (by omega)
    have p1 := pz (S 22 e).toNat (by omega)
    have p2 := pz (S 23 e).toNat (by omega)
    show zz_ln _ _ _ _ = zz_ln _ _ _ _
    rw [m.2.2.2.1, m.2.2.2.2, zz_ln_c p1 p2]
  · unfold zz_trs zz_mtrs
    rw [show S 115 3 = S 4 2 by omega]
    refine zz_sum_c (fun e he => ?_)
    have m := zz_N_me hN (e := e) (by omega)
    have p1 := pz (S 22 e).toNat (by omega)
    have p2 := pz (S 23 e).toNat (by omega)
    have c := k.2 e he
    have q := hN.2.2.1.2.1 e (by omega)
    have x1 := hN.1.2.1 (S 22 e).toNat (by omega)
    have x2 := hN.1.2.1 (S 23 e).toNat (by omega)
    unfold zz_trn zz_mtrn
    have t := zz_td_bd (S 5 (S 23 e).toNat - S 5 (S 22 e).toNat) (S 6 (S 23 e).toNat - S 6 (S 22 e).toNat)
    have b0 := zz_dr_bd (S 49) (S 50) (S 22 e).toNat (S 23 e).toNat
    rw [m.2.2.2.1, m.2.2.2.2, zz_mdr_c p1 p2, x1.2.2.2.2.1, x1.2.2.2.2.2, x2.2.2.2.2.1, x2.2.2.2.2.2, q.2.2.2.2.2.1]
    have e : zz_mdr (S 49) (S 50) (S 22 e).toNat (S 23 e).toNat = zz_dr (S 49) (S 50) (S 22 e).toNat (S 23 e).toNat := zz_md_dir c.1
    rw [e]
    exact zz_eb_ap (by omega) t
theorem zz_mc_bd {S : qq_S} (hN : zz_N S) (hA : zz_mall S) : (0 ≤ zz_mbds S ∧ zz_mbds S ≤ 240) ∧ (0 ≤ zz_mlns S ∧ zz_mlns S ≤ 4500) ∧ (0 ≤ zz_mtrs S ∧ zz_mtrs S ≤ 180) := by
  have gb := hN.1.1
  have gE := hN.2.2.1.1
  refine ⟨?_, ?_, ?_⟩
  · have h := zz_sum_bd (f := fun l => zz_sum (zz_mbnd S l) (S 118 l - 2).toNat) (n := (S 115 2).toNat) (a := 0) (b := 40) (fun l hl => by
      have q := hN.2.1.1 l (by omega)
      have h2 := zz_sum_bd (f := zz_mbnd S l) (n := (S 118 l - 2).toNat) (a := 0) (b := 4) (fun i _ => by
        unfold zz_mbnd
        exact zz_ap_bd (zz_mdr_bd _ _ _ _) (zz_mdr_bd _ _ _ _))
      omega)
    unfold zz_mbds
    omega
  · have h := zz_sum_bd (f := fun e => zz_ln (zz_mx S) (zz_my S) (S 120 e).toNat (S 121 e).toNat) (n := (S 115 3).toNat) (a := 0) (b := 100) (fun e he => by
      have m := zz_N_me hN (e := e) (by omega)
      exact zz_mln (zz_mall_ok hA (by omega) (by omega) (by omega)) (zz_mall_ok hA (by omega) (by omega) (by omega)))
    unfold zz_mlns
    omega
  · have h := zz_sum_bd (f := zz_mtrn S) (n := (S 115 3).toNat) (a := 0) (b := 4) (fun e he => by
      unfold zz_mtrn
      exact zz_ap_bd (zz_mdr_bd _ _ _ _) (zz_td_bd _ _))
    unfold zz_mtrs
    omega
theorem inv_tm {S : qq_S} (h : inv S) : (0 ≤ S 52 0 ∧ S 52 0 ≤ 100) ∧ (0 ≤ S 52 1 ∧ S 52 1 ≤ 100) ∧ (0 ≤ S 52 2 ∧ S 52 2 ≤ 100) ∧ S 115 15 = S 52 0 ∧ S 115 16 = S 52 1 ∧ S 115 17 = S 52 2 := by
  have := h.2.2.2.2.2.1
  unfold i_terms at this
  omega
theorem zz_mb2 {x y a b : Int} (hx : 0 ≤ x ∧ x ≤ a) (hy : 0 ≤ y ∧ y ≤ b) : 0 ≤ x * y ∧ x * y ≤ a * b := ⟨Int.mul_nonneg hx.1 hy.1, Int.mul_le_mul hx.2 hy.2 hy.1 (by omega)⟩
theorem zz_mcst_bd {S : qq_S} (hN : zz_N S) (hA : zz_mall S) (t1 : 0 ≤ S 115 15 ∧ S 115 15 ≤ 100) (t2 : 0 ≤ S 115 16 ∧ S 115 16 ≤ 100) (t3 : 0 ≤ S 115 17 ∧ S 115 17 ≤ 100) : 0 ≤ zz_mcst S ∧ zz_mcst S ≤ 1000000 := by
  have b := zz_mc_bd hN hA
  have m1 := zz_mb2 t1 b.1
  have m2 := zz_mb2 t2 b.2.1
  have m3 := zz_mb2 t3 b.2.2
  unfold zz_mcst
  omega
theorem o_cost {xs : List Int32} (hxs : xs.length ≤ 2048) (S : qq_S) (a : Int) (ha : qq_in a) (hI : inv S) : qq_op xs 29 98 156 [.inl a] S := by
  have hN := inv_N hI
  have hP := inv_PL hI
  have gb := hN.1.1
  have e1 := f98 hxs 0 S a ⟨ha, inv_pre hI⟩
  have ve := zz_v_eq hN hP (inv_sp hI).1
  have tm := inv_tm hI
  have hM := zz_pi1.mp (inv_prm hI).2
  by_cases c : 0 ≤ a ∧ a ≤ 3
  · have hI2 := inv_c (zz_cI_eC S) hI
    have e2 := f156 hxs 0 (zz_eC S) a ⟨ha, inv_prm hI2⟩
    have mc := zz_cI_mc (zz_cI_eC S)
    rw [if_neg (not_not_intro c), if_neg (not_not_intro c)] at e1 e2
    rw [zz_cI_vM (zz_cI_eC S) hN, ← ve, mc.1, mc.2.1, mc.2.2.1, mc.2.2.2] at e2
    by_cases cv : (zz_vC S).1 = 0
    · rw [if_neg (not_not_intro cv)] at e1 e2
      have ce := zz_cost_eq hN hP cv
      have ct : zz_cst S (S 49) (S 50) = zz_mcst S := by
        unfold zz_cst zz_mcst
        rw [ce.1, ce.2.1, ce.2.2, tm.2.2.2.1, tm.2.2.2.2.1, tm.2.2.2.2.2, Int.mul_comm, Int.mul_comm (zz_mlns S), Int.mul_comm (zz_mtrs S)]
      rw [ce.1, ce.2.1, ce.2.2, ct] at e1
      have hA := zz_vM_mall hM (by omega) (by rw [← ve]; exact cv)
      have bd := zz_mc_bd hN hA
      have bc := zz_mcst_bd hN hA (by omega) (by omega) (by omega)
      refine qq_op_of e1 e2 (by decide) (by decide) ?_ ?_ (inv_c (zz_cI_wS _) hI2)
      · by_cases a0 : a = 0
        · rw [if_pos a0, if_neg (by omega), if_neg (by omega), if_neg (by omega)]
        · by_cases a1 : a = 1
          · rw [if_neg a0, if_pos a1, if_pos a1]
          · by_cases a2 : a = 2
            · rw [if_neg a0, if_neg a1, if_neg a1, if_pos a2, if_pos a2]
            · rw [if_neg a0, if_neg a1, if_neg a1, if_neg a2, if_neg a2, if_pos (by omega)]
      · unfold qq_in
        repeat' split
        all_goals omega
    · rw [if_pos cv] at e1 e2
      exact qq_op_of e1 e2 (by decide) (by decide) rfl (by unfold qq_in; omega) (inv_c (zz_cI_wS _) hI2)
  · have e2 := f156 hxs 0 S a ⟨ha, inv_prm hI⟩
    rw [if_pos c, if_pos c] at e1 e2
    exact qq_op_of e1 e2 (by decide) (by decide) rfl (by unfold qq_in; omega) hI
