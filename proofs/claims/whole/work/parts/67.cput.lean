noncomputable def zz_ctr (S : qq_S) : Int := if (zz_vC S).1 = 0 then (zz_pa (zz_f0 (zz_eC S)) (S 4 0).toNat).2 else -6
noncomputable def zz_cts (S : qq_S) : qq_S := if (zz_vC S).1 = 0 then qq_u (zz_pa (zz_f0 (zz_eC S)) (S 4 0).toNat).1 3 9 0 else qq_u (zz_eC S) 3 9 (-6)
set_option maxRecDepth 20000 in
theorem f102 {xs : List Int32} (hxs : xs.length ≤ 2048) (d : Nat) (S : qq_S) (hp : zz_p (zz_nb S) = 1 ∧ zz_p (zz_pl (S 49) (S 50)) = 1 ∧ qq_in (S 52 3) ∧ zz_p (∀ t : Nat, t < 10 → 0 ≤ S 95 t ∧ S 95 t ≤ 12) = 1) : qq_E xs (d + 28) 102 [.inr (3, none)] S (some (zz_ctr S)) (zz_cts S) := by
  have g1 := zz_pi1.mp hp.1
  have g2 := zz_pi1.mp hp.2.1
  have g3 := zz_pi1.mp hp.2.2.2
  have n0 := g1.1
  have x49 := zz_eC_ne S (show 49 ≠ 53 by decide)
  have x50 := zz_eC_ne S (show 50 ≠ 53 by decide)
  have x95 := zz_eC_ne S (show 95 ≠ 53 by decide)
  have x4 := zz_eC_ne S (show 4 ≠ 53 by decide)
  have pb : zz_p (zz_nb (zz_eC S)) = 1 := zz_p1 (zz_eC_nb g1)
  have pl : zz_p (zz_pl (zz_eC S 49) (zz_eC S 50)) = 1 := by rw [x49, x50]; exact hp.2.1
  have pn : zz_p (∀ t : Nat, t < 10 → 0 ≤ zz_eC S 95 t ∧ zz_eC S 95 t ≤ 12) = 1 := by rw [x95]; exact hp.2.2.2
  have x40 : zz_eC S 4 0 = S 4 0 := by rw [x4]
  have h : qq_p xs (d + 27) (mm_mr mm_m102) (mm_mk mm_m102) (fun r S' => r = some (zz_ctr S) ∧ S' = zz_cts S) 0 (qq_ent mm_m102 [.inr (3, none)]) [] S := by
    refine qq_fsound hxs (sp_39_ok hxs (d + 0)) [] 300 ?_
    repeat' first | apply And.intro | intro _ | (simp only [qq_tab]) | (simp only [qq_pl])
    all_goals (
      first
      | omega
      | exact pb
      | exact pl
      | exact pn
      | exact hp.1
      | exact hp.2.1
      | exact hp.2.2.1.1
      | exact hp.2.2.1.2
      | exact (zz_pin _).1
      | exact (zz_pin _).2
      | (have cv : ¬ (zz_vC S).1 = 0 := zz_pi0.mp (by assumption)
         first
         | (unfold zz_ctr; rw [if_neg cv]; done)
         | (unfold zz_cts; rw [if_neg cv]; done))
      | (have cv : (zz_vC S).1 = 0 := Classical.not_not.mp (fun z => absurd (zz_pi0.mpr z) (by assumption))
         first
         | (unfold zz_ctr; rw [if_pos cv, x40]; done)
         | (unfold zz_cts; rw [if_pos cv, x40]; done)))
  obtain ⟨r, S', hE, e1, e2⟩ := qq_call_of (y := 102) rfl (Nat.le_of_ble_eq_true rfl) h
  rw [e1, e2] at hE
  exact hE
