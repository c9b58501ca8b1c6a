/-- the reference's points and span are in their bounds -/
def zz_mpt (S : qq_S) : Prop := (2 ≤ S 115 12 ∧ S 115 12 ≤ 8) ∧ (0 ≤ S 115 14 ∧ S 115 14 ≤ 100) ∧ ∀ i : Nat, (i : Int) < S 4 0 → -1 ≤ S 123 i ∧ S 123 i ≤ 63
theorem zz_N_me {S : qq_S} (h : zz_N S) {e : Nat} (he : (e : Int) < S 4 2) : 0 ≤ S 120 e ∧ S 120 e < S 121 e ∧ S 121 e < S 4 0 ∧ S 120 e = S 22 e ∧ S 121 e = S 23 e := by
  have q := h.2.2.1.2.1 e he
  omega
theorem zz_wS_lt {S : qq_S} {j a b : Int} (h : zz_vM S = (j, a, b)) (h7 : ¬ j = 7) (h0 : ¬ j = 0) : zz_wS S = qq_u (qq_u S 115 21 a) 115 22 b := by
  unfold zz_wS
  rw [h]
  dsimp only
  rw [if_neg h7, if_neg h0]
  rfl
theorem zz_wS_7 {S : qq_S} {a b : Int} (h : zz_vM S = (7, a, b)) : zz_wS S = qq_u (qq_u (zz_rgs S (a + 1).toNat) 115 21 a) 115 22 b := by
  unfold zz_wS
  rw [h]
  dsimp only
  rw [if_pos rfl]
theorem zz_wS_0 {S : qq_S} {a b : Int} (h : zz_vM S = (0, a, b)) : zz_wS S = qq_u (qq_u (zz_rgs S (S 4 0).toNat) 115 21 a) 115 22 b := by
  unfold zz_wS
  rw [h]
  dsimp only
  rw [if_neg (by decide), if_pos rfl]
set_option maxRecDepth 20000 in
theorem f149 {xs : List Int32} (hxs : xs.length ≤ 2048) (d : Nat) (S : qq_S) (s : Int) (hp : (0 ≤ s ∧ s < S 4 0) ∧ zz_p (zz_N S) = 1 ∧ zz_p (zz_mall S) = 1) : qq_E xs (d + 15) 149 [.inr (115, none), .inl s] S (some (zz_p (zz_mtr S s.toNat))) (zz_rg S s.toNat) := by
  have gN := zz_pi1.mp hp.2.1
  have gA := zz_pi1.mp hp.2.2
  have gb := gN.1.1
  have gn := (zz_N_nb gN).2.2.1 s.toNat (by omega)
  have e11 := zz_rg11 S s.toNat
  have hF := zz_rg_fr S s.toNat
  have em := zz_fr_mx hF
  have ok : ∀ a : Int, 0 ≤ a → a < S 4 0 → zz_p (zz_mok (zz_rg S s.toNat) a) = 1 := fun a a0 a1 => by
    rw [zz_fr_mok hF]
    exact zz_mall_ok gA (by omega) a0 a1
  have L : ∀ (k9 : Nat) (i c : Int) (u : Option qq_V), S 25 s.toNat - i < (k9 : Int) → (0 ≤ i ∧ i ≤ S 25 s.toNat ∧ 3 ≤ S 25 s.toNat) → (c = zz_sum (fun i => zz_mg ((fun i => zz_mdr (zz_mx S) (zz_my S) s.toNat (S (26 + 1 + s.toNat) i).toNat) ((i + 1) % (S 25 s.toNat).toNat) - (fun i => zz_mdr (zz_mx S) (zz_my S) s.toNat (S (26 + 1 + s.toNat) i).toNat) i)) i.toNat) → (0 ≤ c ∧ c ≤ 8 * i) → qq_p xs (d + 14) (mm_mr mm_m149) (mm_mk mm_m149) (fun r S' => r = some (zz_p (zz_mtr S s.toNat)) ∧ S' = zz_rg S s.toNat) 19 [some (.inr (115, none)), some (.inl s), some (.inl c), some (.inl i), u] [] (zz_rg S s.toNat) := by
    intro k9
    induction k9 with
    | zero =>
      intro i c u hm h1 h2 h3
      exfalso
      omega
    | succ k9 ih =>
      intro i c u hm h1 h2 h3
      refine qq_fsound hxs (sp_23_ok hxs (d + 0)) [19] 300 ?_
      repeat' first | apply And.intro | intro _ | (simp only [qq_tab]) | (simp only [qq_pl])
      all_goals (
        ((try simp only [e11] at *)
         first
         | omega
         | exact Or.inr trivial
         | exact Or.inl trivial
         | rfl
         | (have ei : i = S 25 s.toNat := by omega
            subst ei
            first
            | omega
            | exact congrArg some (zz_p1 (Or.inr (by rw [← h2]; omega))).symm
            | exact congrArg some (zz_p0 (fun z => z.elim (fun y => by omega) (fun y => by rw [← h2] at y; omega))).symm)
         | (have il : i < S 25 s.toNat := by omega
            have m0 := Int.emod_nonneg (i + 1) (show S 25 s.toNat ≠ 0 by omega)
            have m1 := Int.emod_lt_of_pos (i + 1) (show 0 < S 25 s.toNat by omega)
            have v1 := zz_rg122 S s.toNat ((i + 1) % S 25 s.toNat).toNat (by omega)
            have v2 := zz_rg122 S s.toNat i.toNat (by omega)
            have r1 := gn.2.2 ((i + 1) % S 25 s.toNat).toNat (by omega)
            have r2 := gn.2.2 i.toNat (by omega)
            have em1 : ((i + 1) % S 25 s.toNat).toNat = (i.toNat + 1) % (S 25 s.toNat).toNat := by
              have : (i + 1) % S 25 s.toNat = (((i.toNat + 1) % (S 25 s.toNat).toNat : Nat) : Int) := by
                rw [Int.natCast_emod, show ((i.toNat + 1 : Nat) : Int) = i + 1 by omega, show (((S 25 s.toNat).toNat : Nat) : Int) = S 25 s.toNat by omega]
              rw [this, Int.toNat_natCast]
            (try simp only [v1, v2, em.1, em.2] at *)
            first
            | omega
            | (apply ok <;> omega)
            | (have d1 := zz_md_bd (zz_mx S (S (26 + 1 + s.toNat) ((i + 1) % S 25 s.toNat).toNat).toNat - zz_mx S s.toNat) (zz_my S (S (26 + 1 + s.toNat) ((i + 1) % S 25 s.toNat).toNat).toNat - zz_my S s.toNat)
               have d2 := zz_md_bd (zz_mx S (S (26 + 1 + s.toNat) i.toNat).toNat - zz_mx S s.toNat) (zz_my S (S (26 + 1 + s.toNat) i.toNat).toNat - zz_my S s.toNat)
               have d3 : zz_mdr (zz_mx S) (zz_my S) s.toNat (S (26 + 1 + s.toNat) ((i + 1) % S 25 s.toNat).toNat).toNat = zz_md (zz_mx S (S (26 + 1 + s.toNat) ((i + 1) % S 25 s.toNat).toNat).toNat - zz_mx S s.toNat) (zz_my S (S (26 + 1 + s.toNat) ((i + 1) % S 25 s.toNat).toNat).toNat - zz_my S s.toNat) := rfl
               have d4 : zz_mdr (zz_mx S) (zz_my S) s.toNat (S (26 + 1 + s.toNat) i.toNat).toNat = zz_md (zz_mx S (S (26 + 1 + s.toNat) i.toNat).toNat - zz_mx S s.toNat) (zz_my S (S (26 + 1 + s.toNat) i.toNat).toNat - zz_my S s.toNat) := rfl
               have sm : zz_sum (fun i => zz_mg ((fun i => zz_mdr (zz_mx S) (zz_my S) s.toNat (S (26 + 1 + s.toNat) i).toNat) ((i + 1) % (S 25 s.toNat).toNat) - (fun i => zz_mdr (zz_mx S) (zz_my S) s.toNat (S (26 + 1 + s.toNat) i).toNat) i)) (i + 1).toNat = zz_sum (fun i => zz_mg ((fun i => zz_mdr (zz_mx S) (zz_my S) s.toNat (S (26 + 1 + s.toNat) i).toNat) ((i + 1) % (S 25 s.toNat).toNat) - (fun i => zz_mdr (zz_mx S) (zz_my S) s.toNat (S (26 + 1 + s.toNat) i).toNat) i)) i.toNat + zz_mg (zz_mdr (zz_mx S) (zz_my S) s.toNat (S (26 + 1 + s.toNat) ((i + 1) % S 25 s.toNat).toNat).toNat - zz_mdr (zz_mx S) (zz_my S) s.toNat (S (26 + 1 + s.toNat) i.toNat).toNat) := by
                 rw [zz_sum_s _ i (by omega), em1]
               first
               | omega
               | (refine ih _ _ _ ?_ ?_ ?_ ?_ <;> first | omega | (rw [sm, ← h2]; unfold zz_mg; first | rw [if_pos (by omega)] | (rw [if_neg (by omega)]; try omega)))))))
  have h : qq_p xs (d + 14) (mm_mr mm_m149) (mm_mk mm_m149) (fun r S' => r = some (zz_p (zz_mtr S s.toNat)) ∧ S' = zz_rg S s.toNat) 0 (qq_ent mm_m149 [.inr (115, none), .inl s]) [] S := by
    refine qq_fsound hxs (sp_23_ok hxs (d + 0)) [19] 300 ?_
    repeat' first | apply And.intro | intro _ | (simp only [qq_tab]) | (simp only [qq_pl])
    all_goals (first
      | omega
      | exact hp.2.1
      | rfl
      | exact Or.inr trivial
      | exact Or.inl trivial
      | (rw [e11]; omega)
      | (rw [e11] at *; exact congrArg some (zz_p1 (Or.inl (by omega))).symm)
      | (rw [e11] at *; refine L (S 25 s.toNat + 1).toNat 0 0 _ ?_ ?_ ?_ ?_ <;> first | omega | rfl))
  obtain ⟨r, S', hE, e1, e2⟩ := qq_call_of (y := 149) rfl (Nat.le_of_ble_eq_true rfl) h
  rw [e1, e2] at hE
  exact hE
noncomputable def sp_24 : qq_P := fun y as S => match y, as with
  | 149, [.inr (115, none), .inl s] => some ((0 ≤ s ∧ s < S 4 0) ∧ zz_p (zz_N S) = 1 ∧ zz_p (zz_mall S) = 1, some (zz_p (zz_mtr S s.toNat)), zz_rg S s.toNat)
  | _, _ => sp_23 y as S
theorem sp_24_ok {xs : List Int32} (hxs : xs.length ≤ 2048) (d : Nat) : qq_ok xs (d + 15) sp_24 := by
  intro y as S pre r S2 h hp
  unfold sp_24 at h
  split at h
  · cases h; exact f149 hxs (d + 0) S _ hp
  · exact sp_23_ok hxs (d + 1) y as S pre r S2 h hp
