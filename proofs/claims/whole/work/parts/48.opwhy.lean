/-- T is S in all that the tie speaks of -/
def zz_cI (S T : qq_S) : Prop := (∀ a : Nat, ((3 ≤ a ∧ a ≤ 52) ∨ (95 ≤ a ∧ a ≤ 97) ∨ (102 ≤ a ∧ a ≤ 114) ∨ (116 ≤ a ∧ a ≤ 121) ∨ (123 ≤ a ∧ a ≤ 125) ∨ (130 ≤ a ∧ a ≤ 133)) → T a = S a) ∧ (∀ j : Nat, (j ≤ 3 ∨ (12 ≤ j ∧ j ≤ 17) ∨ j = 26) → T 115 j = S 115 j)
theorem zz_cI0 (S : qq_S) : zz_cI S S := ⟨fun _ _ => rfl, fun _ _ => rfl⟩
theorem zz_cI_t {S T U : qq_S} (h : zz_cI S T) (g : zz_cI T U) : zz_cI S U := ⟨fun a ha => by rw [g.1 a ha, h.1 a ha], fun j hj => by rw [g.2 j hj, h.2 j hj]⟩
theorem zz_cI_N {S T : qq_S} (h : zz_cI S T) : zz_cN S T := ⟨fun a ha => h.1 a (by omega), fun j h1 h2 => h.2 j (by omega)⟩
theorem zz_cI_u {S T : qq_S} (h : zz_cI S T) {q k : Nat} {x : Int} (hq : (53 ≤ q ∧ q ≤ 94) ∨ (98 ≤ q ∧ q ≤ 101) ∨ q = 122 ∨ (126 ≤ q ∧ q ≤ 129) ∨ (q = 115 ∧ ((4 ≤ k ∧ k ≤ 11) ∨ (18 ≤ k ∧ k ≤ 25) ∨ 27 ≤ k))) : zz_cI S (qq_u T q k x) := by
  refine ⟨fun a ha => ?_, fun j hj => ?_⟩
  · rw [qq_ueq (by omega)]
    exact h.1 a ha
  · rw [qq_un (by omega)]
    exact h.2 j hj
theorem zz_cI_fr {S T : qq_S} (h : zz_fr S T) : zz_cI S T := ⟨fun a ha => h.1 a (by omega) (by omega), fun j hj => h.2 j (by omega)⟩
theorem inv_c {S T : qq_S} (h : zz_cI S T) (hI : inv S) : inv T := by
  have hR := zz_cI_N h
  unfold inv at *
  rw [h.1 3 (by omega), h.1 4 (by omega), h.1 5 (by omega), h.1 6 (by omega), h.1 7 (by omega), h.1 22 (by omega), h.1 23 (by omega), h.1 24 (by omega), h.1 25 (by omega), h.1 48 (by omega), h.1 49 (by omega), h.1 50 (by omega), h.1 51 (by omega), h.1 52 (by omega), h.1 95 (by omega), h.1 96 (by omega), h.1 97 (by omega), h.1 102 (by omega), h.1 103 (by omega), h.1 104 (by omega), h.1 105 (by omega), h.1 106 (by omega), h.1 107 (by omega), h.1 108 (by omega), h.1 109 (by omega), h.1 110 (by omega), h.1 111 (by omega), h.1 112 (by omega), h.1 113 (by omega), h.1 114 (by omega), h.1 116 (by omega), h.1 117 (by omega), h.1 118 (by omega), h.1 119 (by omega), h.1 120 (by omega), h.1 121 (by omega), h.1 123 (by omega), h.1 124 (by omega), h.1 125 (by omega), h.1 130 (by omega), h.1 131 (by omega), h.1 132 (by omega), h.1 133 (by omega), h.2 0 (by omega), h.2 1 (by omega), h.2 2 (by omega), h.2 3 (by omega), h.2 12 (by omega), h.2 13 (by omega), h.2 14 (by omega), h.2 15 (by omega), h.2 16 (by omega), h.2 17 (by omega), h.2 26 (by omega), zz_cR hR (by omega), zz_cR hR (by omega), zz_cR hR (by omega), zz_cR hR (by omega)]
  exact hI
theorem zz_cI_eC (S : qq_S) : zz_cI S (zz_eC S) := zz_cI_u (zz_cI_u (zz_cI_u (zz_cI0 S) (by omega)) (by omega)) (by omega)
theorem zz_cI_wS (S : qq_S) : zz_cI S (zz_wS S) := zz_cI_u (zz_cI_u (zz_cI_fr (zz_rgs_fr S _)) (by omega)) (by omega)
theorem inv_PL {S : qq_S} (h : inv S) : zz_PL S := h.2.2.2.2.1
theorem inv_sp {S : qq_S} (h : inv S) : S 115 14 = S 52 3 ∧ 1 ≤ S 52 3 ∧ S 52 3 ≤ 4 := by
  have := h.2.2.2.2.2.1
  unfold i_terms at this
  omega
theorem inv_pre {S : qq_S} (h : inv S) : zz_p (zz_nb S) = 1 ∧ zz_p (zz_pl (S 49) (S 50)) = 1 ∧ qq_in (S 52 3) := ⟨zz_p1 (zz_N_nb (inv_N h)), zz_p1 (zz_PL_pl (inv_PL h)), by have := inv_sp h; unfold qq_in; omega⟩
theorem inv_prm {S : qq_S} (h : inv S) : zz_p (zz_N S) = 1 ∧ zz_p (zz_mpt S) = 1 := ⟨zz_p1 (inv_N h), zz_p1 (zz_PL_mpt (inv_PL h) (inv_N h).1.1.2.1 (by have := inv_sp h; omega))⟩
theorem zz_cI_vM {S T : qq_S} (h : zz_cI S T) (hN : zz_N S) : zz_vM T = zz_vM S := by
  have gb := hN.1.1
  have mx : zz_mx T = zz_mx S := by funext s; unfold zz_mx; rw [h.1 123 (by omega), h.2 12 (by omega)]
  have my : zz_my T = zz_my S := by funext s; unfold zz_my; rw [h.1 123 (by omega), h.2 12 (by omega)]
  unfold zz_vM
  have e2 : zz_msm T = zz_msm S := by funext a b; unfold zz_msm; rw [h.1 123 (by omega)]
  have e3 : zz_mstr T = zz_mstr S := by funext a; unfold zz_mstr; rw [mx, my, h.1 120 (by omega), h.1 121 (by omega)]
  have e6 : zz_mmt T = zz_mmt S := by funext a b; unfold zz_mmt; rw [mx, my, h.1 120 (by omega), h.1 121 (by omega)]
  rw [e2, e3, e6, mx, my, h.1 4 (by omega), h.1 120 (by omega), h.1 121 (by omega), h.1 123 (by omega), h.2 14 (by omega)]
  refine zz_vd_c (fun _ _ => Iff.rfl) (fun _ _ _ _ _ => Iff.rfl) (fun _ _ _ _ => Iff.rfl) (fun _ _ _ _ _ => Iff.rfl) (fun _ _ _ _ _ _ _ => Iff.rfl) (fun _ _ _ _ _ _ _ _ => Iff.rfl) (fun _ _ _ _ s hs => ?_)
  unfold zz_mtr
  rw [mx, my, h.1 25 (by omega), h.1 (26 + 1 + s) (by omega)]
set_option maxRecDepth 20000 in
theorem f130 {xs : List Int32} (hxs : xs.length ≤ 2048) (d : Nat) (S : qq_S) (a : Int) (b : Int) (hp : qq_in a ∧ qq_in b ∧ zz_p (zz_N S) = 1) : qq_E xs (d + 17) 130 [.inr (115, none), .inl a, .inl b] S (some (if ¬ (0 ≤ a ∧ a < S 4 0) then -1 else if b = -1 then S 25 a.toNat else if 0 ≤ b ∧ b < S 25 a.toNat then S (26 + 1 + a.toNat) b.toNat else -1)) (if ¬ (0 ≤ a ∧ a < S 4 0) then S else zz_rg S a.toNat) := by
  have gN := zz_pi1.mp hp.2.2
  have gb := gN.1.1
  have e1 : S 115 1 = S 4 0 := by omega
  have e11 := zz_rg11 S a.toNat
  have h : qq_p xs (d + 16) (mm_mr mm_m130) (mm_mk mm_m130) (fun r S' => r = some (if ¬ (0 ≤ a ∧ a < S 4 0) then -1 else if b = -1 then S 25 a.toNat else if 0 ≤ b ∧ b < S 25 a.toNat then S (26 + 1 + a.toNat) b.toNat else -1) ∧ S' = if ¬ (0 ≤ a ∧ a < S 4 0) then S else zz_rg S a.toNat) 0 (qq_ent mm_m130 [.inr (115, none), .inl a, .inl b]) [] S := by
    refine qq_fsound hxs (sp_25_ok hxs (d + 0)) [] 300 ?_
    repeat' first | apply And.intro | intro _ | (simp only [qq_tab]) | (simp only [qq_pl])
    all_goals (
      ((try simp only [e1, e11] at *)
       first
       | omega
       | exact hp.2.2
       | exact (zz_bin _).1
       | exact (zz_bin _).2
       | exact hp.1.1
       | exact hp.1.2
       | exact hp.2.1.1
       | exact hp.2.1.2
       | (have c0 : ¬ (0 ≤ a ∧ a < S 4 0) := zz_bi0.mp (by assumption)
          rw [if_pos c0])
       | (have c0 : (0 ≤ a ∧ a < S 4 0) := Classical.not_not.mp (fun z => absurd (zz_bi0.mpr z) (by assumption))
          have gd := (zz_N_nb gN).2.2.1 a.toNat (by omega)
          have nc0 := not_not_intro c0
          first
          | omega
          | (rw [if_neg nc0]; done)
          | (unfold qq_in; omega)
          | (have cb : b = -1 := by assumption
             rw [if_neg nc0, if_pos cb]; done)
          | (have cb : ¬ b = -1 := by assumption
             first
             | (have c1 : ¬ (0 ≤ b ∧ b ≤ S 25 a.toNat - 1) := zz_bi0.mp (by assumption)
                rw [if_neg nc0, if_neg cb, if_neg (by omega)]; done)
             | (have c1 : (0 ≤ b ∧ b ≤ S 25 a.toNat - 1) := Classical.not_not.mp (fun z => absurd (zz_bi0.mpr z) (by assumption))
                first
                | omega
                | (rw [if_neg nc0, if_neg cb, if_pos (by omega), zz_rg122 S a.toNat b.toNat (by omega)]; done))))))
  obtain ⟨r, S', hE, e1, e2⟩ := qq_call_of (y := 130) rfl (Nat.le_of_ble_eq_true rfl) h
  rw [e1, e2] at hE
  exact hE
set_option maxRecDepth 20000 in
theorem f150 {xs : List Int32} (hxs : xs.length ≤ 2048) (d : Nat) (S : qq_S) (a : Int) (hp : qq_in a ∧ zz_p (zz_N S) = 1 ∧ zz_p (zz_mpt S) = 1) : qq_E xs (d + 17) 150 [.inr (115, none), .inl a] S (some (if 0 ≤ a ∧ a ≤ 2 then (if a = 0 then (zz_vM S).1 else if a = 1 then (zz_vM S).2.1 else (zz_vM S).2.2) else -1)) (if 0 ≤ a ∧ a ≤ 2 then zz_wS S else S) := by
  have w1 : zz_wS S 115 21 = (zz_vM S).2.1 := by unfold zz_wS qq_u; simp
  have w2 : zz_wS S 115 22 = (zz_vM S).2.2 := by unfold zz_wS qq_u; simp
  have h : qq_p xs (d + 16) (mm_mr mm_m150) (mm_mk mm_m150) (fun r S' => r = some (if 0 ≤ a ∧ a ≤ 2 then (if a = 0 then (zz_vM S).1 else if a = 1 then (zz_vM S).2.1 else (zz_vM S).2.2) else -1) ∧ S' = if 0 ≤ a ∧ a ≤ 2 then zz_wS S else S) 0 (qq_ent mm_m150 [.inr (115, none), .inl a]) [] S := by
    refine qq_fsound hxs (sp_25_ok hxs (d + 0)) [] 300 ?_
    repeat' first | apply And.intro | intro _ | (simp only [qq_tab]) | (simp only [qq_pl])
    all_goals (first | rfl | omega | exact hp.2.1 | exact hp.2.2 | exact (zz_bin _).1 | exact (zz_bin _).2 | exact hp.1.1 | exact hp.1.2 | grind [zz_b] | grind [qq_in, zz_b])
  obtain ⟨r, S', hE, e1, e2⟩ := qq_call_of (y := 150) rfl (Nat.le_of_ble_eq_true rfl) h
  rw [e1, e2] at hE
  exact hE
theorem o_why {xs : List Int32} (hxs : xs.length ≤ 2048) (S : qq_S) (a : Int) (ha : qq_in a) (hI : inv S) : qq_op xs 29 97 150 [.inl a] S := by
  have e1 := f97 hxs 0 S a ⟨ha, inv_pre hI⟩
  have ve := zz_v_eq (inv_N hI) (inv_PL hI) (inv_sp hI).1
  have gb := (inv_N hI).1.1
  have gE := (inv_N hI).2.2.1.1
  by_cases c : 0 ≤ a ∧ a ≤ 2
  · rw [if_pos c, if_pos c] at e1
    have hI2 := inv_c (zz_cI_eC S) hI
    have e2 := f150 hxs 0 (zz_eC S) a ⟨ha, inv_prm hI2⟩
    rw [if_pos c, if_pos c, zz_cI_vM (zz_cI_eC S) (inv_N hI), ← ve] at e2
    refine qq_op_of e1 e2 (by decide) (by decide) rfl ?_ (inv_c (zz_cI_wS _) hI2)
    have k := zz_vd_bd (n := (S 4 0).toNat) (E := (S 4 2).toNat) (p1 := (fun j : Nat => S 49 j = -1)) (p2 := (zz_sm (S 49) (S 50))) (p3 := (zz_cr (S 49) (S 50) (S 22) (S 23))) (p4 := (zz_sho (S 49) (S 50) (S 22) (S 23) (S 52 3))) (p5 := (zz_cov (S 49) (S 50) (S 22) (S 23))) (p6 := (zz_cx (S 49) (S 50) (S 22) (S 23))) (p7 := (zz_tw (S 49) (S 50) (S 25) (fun s => S (26 + 1 + s)))) (by omega) (by omega)
    have k2 : (0 ≤ (zz_vC S).1 ∧ (zz_vC S).1 ≤ 7) ∧ (-1 ≤ (zz_vC S).2.1 ∧ (zz_vC S).2.1 ≤ 45) ∧ (-1 ≤ (zz_vC S).2.2 ∧ (zz_vC S).2.2 ≤ 45) := k
    unfold qq_in
    repeat' split
    all_goals omega
  · rw [if_neg c, if_neg c] at e1
    have e2 := f150 hxs 0 S a ⟨ha, inv_prm hI⟩
    rw [if_neg c, if_neg c] at e2
    exact qq_op_of e1 e2 (by decide) (by decide) rfl (by unfold qq_in; omega) hI
theorem o_round {xs : List Int32} (hxs : xs.length ≤ 2048) (S : qq_S) (a b : Int) (ha : qq_in a) (hb : qq_in b) (hI : inv S) : qq_op xs 29 90 130 [.inl a, .inl b] S := by
  have hN := inv_N hI
  have gb := hN.1.1
  have gn := zz_N_nb hN
  have e1 := f90 hxs 0 S a b ⟨ha, hb, by omega, fun z => by have := gn.2.2.1 a.toNat (by omega); omega⟩
  have e2 := f130 hxs 0 S a b ⟨ha, hb, zz_p1 hN⟩
  refine qq_op_of e1 e2 (by decide) (by decide) rfl ?_ ?_
  · unfold qq_in
    by_cases c : 0 ≤ a ∧ a < S 4 0
    · have q := gn.2.2.1 a.toNat (by omega)
      repeat' split
      all_goals first | omega | (have := q.2.2 b.toNat (by omega); omega)
    · rw [if_pos c]
      omega
  · split
    · exact hI
    · exact inv_c (zz_cI_fr (zz_rg_fr S a.toNat)) hI
