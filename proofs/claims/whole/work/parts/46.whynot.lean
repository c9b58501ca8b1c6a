theorem zz_mln {S : qq_S} {a b : Int} (ha : zz_p (zz_mok S a) = 1) (hb : zz_p (zz_mok S b) = 1) : 0 ≤ zz_ln (zz_mx S) (zz_my S) a.toNat b.toNat ∧ zz_ln (zz_mx S) (zz_my S) a.toNat b.toNat ≤ 100 := by
  have h1 := zz_mbd ha
  have h2 := zz_mbd hb
  unfold zz_ln zz_len zz_abs
  repeat' split
  all_goals omega
set_option maxRecDepth 20000 in
theorem f148 {xs : List Int32} (hxs : xs.length ≤ 2048) (d : Nat) (S : qq_S) (hp : zz_p (zz_N S) = 1 ∧ zz_p (zz_mpt S) = 1) : qq_E xs (d + 16) 148 [.inr (115, none)] S (some ((zz_vM S).1)) (zz_wS S) := by
  have gN := zz_pi1.mp hp.1
  have gP := zz_pi1.mp hp.2
  have gb := gN.1.1
  have gE := gN.2.2.1.1
  have e1 : S 115 1 = S 4 0 := by omega
  have e3 : S 115 3 = S 4 2 := by omega
  have gs := gP.2.1
  have mall : zz_fst (fun j : Nat => S 123 j = -1) (S 4 0).toNat = -1 → zz_mall S := fun k1 => ⟨gP.1, fun i hi => by
    have := gP.2.2 i hi
    have := zz_fst_no.mp k1 i (by omega)
    omega⟩
  have ok : zz_fst (fun j : Nat => S 123 j = -1) (S 4 0).toNat = -1 → ∀ a : Int, 0 ≤ a → a < S 4 0 → zz_p (zz_mok S a) = 1 := fun k1 a a0 a1 => zz_mall_ok (mall k1) (by omega) a0 a1
  have L7 : ∀ (k9 : Nat) (i : Int) (u : Option qq_V), S 4 0 - i < (k9 : Int) → (0 ≤ i ∧ i ≤ S 4 0) → (∀ j : Nat, (j : Int) < i → ¬ (fun s : Nat => ¬ zz_mtr S s) j) → (zz_fst (fun j : Nat => S 123 j = -1) (S 4 0).toNat = -1) → (zz_fst (fun a : Nat => ∃ j : Nat, j < (S 4 0).toNat ∧ (zz_msm S) a j) (S 4 0).toNat = -1) → (zz_fst (zz_mstr S) (S 4 2).toNat = -1) → (zz_fst (zz_sho (zz_mx S) (zz_my S) (S 120) (S 121) (S 115 14)) (S 4 2).toNat = -1) → (zz_fst (fun a : Nat => ∃ j : Nat, j < (S 4 0).toNat ∧ (zz_cov (zz_mx S) (zz_my S) (S 120) (S 121)) a j) (S 4 2).toNat = -1) → (zz_fst (fun a : Nat => ∃ j : Nat, j < (S 4 2).toNat ∧ (zz_mmt S) a j) (S 4 2).toNat = -1) → qq_p xs (d + 15) (mm_mr mm_m148) (mm_mk mm_m148) (fun r S' => r = some ((zz_vM S).1) ∧ S' = zz_wS S) 337 [some (.inr (115, none)), some (.inl i), u] [] (zz_rgs S i.toNat) := by
    intro k9
    induction k9 with
    | zero =>
      intro i u hm h1 h2 k1 k2 k3 k4 k5 k6
      exfalso
      omega
    | succ k9 ih =>
      intro i u hm h1 h2 k1 k2 k3 k4 k5 k6
      refine qq_fsound hxs (sp_24_ok hxs (d + 0)) [337, 275, 263, 193, 183, 136, 93, 48, 36, 2] 60 ?_
      repeat' first | apply And.intro | intro _ | (simp only [qq_tab]) | (simp only [qq_pl])
      all_goals (
        (have hF := zz_rgs_fr S i.toNat
         have t1 : zz_rgs S i.toNat 115 1 = S 4 0 := by rw [hF.2 1 (by decide)]; exact e1
         have t2 : zz_rgs S i.toNat 4 0 = S 4 0 := by rw [hF.1 4 (by decide) (by decide)]
         have t3 : zz_rgs S (i + 1).toNat = zz_rg (zz_rgs S i.toNat) i.toNat := by rw [show (i + 1).toNat = i.toNat + 1 by omega]; rfl
         have t4 : i < S 4 0 → (zz_mtr (zz_rgs S i.toNat) i.toNat ↔ zz_mtr S i.toNat) := fun il => by
           have e26 : zz_rgs S i.toNat (26 + 1 + i.toNat) = S (26 + 1 + i.toNat) := hF.1 _ (by omega) (by omega)
           unfold zz_mtr
           rw [(zz_fr_mx hF).1, (zz_fr_mx hF).2, hF.1 25 (by decide) (by decide), e26]
         first
         | omega
         | exact Or.inl trivial
         | exact Or.inr trivial
         | exact (zz_pin _).1
         | exact (zz_pin _).2
         | exact zz_p1 (zz_N_c (zz_cN_fr hF) gN)
         | exact zz_p1 (zz_fr_mall hF (mall k1))
         | (have ei : i = S 4 0 := by omega
            have eK : zz_fst (fun s : Nat => ¬ zz_mtr S s) (S 4 0).toNat = -1 := zz_fst_no.mpr (fun j hj => h2 j (by omega))
            have ev : zz_vM S = (0, -1, -1) := zz_vd0 k1 k2 k3 k4 k5 k6 eK
            first | (rw [ev]; done) | (rw [zz_wS_0 ev, ei]; done))
         | (have il : i < S 4 0 := by omega
            have t4 := t4 il
            first
            | (have z0 : zz_p (zz_mtr (zz_rgs S i.toNat) i.toNat) = 0 := by assumption
               have z9 : ¬ zz_mtr S i.toNat := fun z => absurd (t4.mpr z) (zz_pi0.mp z0)
               have e : zz_fst (fun s : Nat => ¬ zz_mtr S s) (S 4 0).toNat = (i.toNat : Nat) := zz_fst_at (p := (fun s : Nat => ¬ zz_mtr S s)) z9 (fun j hj => h2 j (by omega)) (by omega)
               have e2 : ((i.toNat : Nat) : Int) = i := by omega
               have ev : zz_vM S = (7, zz_fst (fun s : Nat => ¬ zz_mtr S s) (S 4 0).toNat, -1) := zz_vd7 k1 k2 k3 k4 k5 k6 (by rw [e]; omega)
               rw [e, e2] at ev
               first | (rw [ev]; done) | (rw [zz_wS_7 ev, t3]; done))
            | (have z0 : ¬ zz_p (zz_mtr (zz_rgs S i.toNat) i.toNat) = 0 := by assumption
               have z9 : zz_mtr S i.toNat := t4.mp (Classical.not_not.mp (fun w => z0 (zz_pi0.mpr w)))
               have q := ih (i + 1) u (by omega) (by omega) (zz_ext h2 (not_not_intro z9) (by omega)) k1 k2 k3 k4 k5 k6
               rw [t3] at q
               exact q))))
  have L6i : ∀ (k9 : Nat) (i b : Int), S 4 2 - b < (k9 : Int) → (0 ≤ i ∧ i < S 4 2 ∧ 0 ≤ b ∧ b ≤ S 4 2 ∧ i < b) → (∀ j : Nat, (j : Int) < i → ¬ (fun a : Nat => ∃ j : Nat, j < (S 4 2).toNat ∧ (zz_mmt S) a j) j) → (∀ j : Nat, (j : Int) < b → ¬ (zz_mmt S) i.toNat j) → (¬ (fun a : Nat => ∃ j : Nat, j < (S 4 2).toNat ∧ (zz_mmt S) a j) i.toNat → ∀ u, qq_p xs (d + 15) (mm_mr mm_m148) (mm_mk mm_m148) (fun r S' => r = some ((zz_vM S).1) ∧ S' = zz_wS S) 263 [some (.inr (115, none)), some (.inl (i + 1)), u] [] S) → (zz_fst (fun j : Nat => S 123 j = -1) (S 4 0).toNat = -1) → (zz_fst (fun a : Nat => ∃ j : Nat, j < (S 4 0).toNat ∧ (zz_msm S) a j) (S 4 0).toNat = -1) → (zz_fst (zz_mstr S) (S 4 2).toNat = -1) → (zz_fst (zz_sho (zz_mx S) (zz_my S) (S 120) (S 121) (S 115 14)) (S 4 2).toNat = -1) → (zz_fst (fun a : Nat => ∃ j : Nat, j < (S 4 0).toNat ∧ (zz_cov (zz_mx S) (zz_my S) (S 120) (S 121)) a j) (S 4 2).toNat = -1) → qq_p xs (d + 15) (mm_mr mm_m148) (mm_mk mm_m148) (fun r S' => r = some ((zz_vM S).1) ∧ S' = zz_wS S) 275 [some (.inr (115, none)), some (.inl i), some (.inl b)] [] (S) := by
    intro k9
    induction k9 with
    | zero =>
      intro i b hm h1 h2 h3 h4 k1 k2 k3 k4 k5
      exfalso
      omega
    | succ k9 ih =>
      intro i b hm h1 h2 h3 h4 k1 k2 k3 k4 k5
      refine qq_fsound hxs (sp_24_ok hxs (d + 0)) [337, 275, 263, 193, 183, 136, 93, 48, 36, 2] 60 ?_
      repeat' first | apply And.intro | intro _ | (simp only [qq_tab]) | (simp only [qq_pl])
      all_goals (first
        | omega
        | exact Or.inl trivial
        | exact Or.inr trivial
        | exact (zz_pin _).1
        | exact (zz_pin _).2
        | exact hp.1
        | exact hp.2
        | (simp only [e1, e3] at *; omega)
        | (have eb : b = S 4 2 := by omega
           exact h4 (fun ⟨j, hj, z⟩ => h3 j (by omega) z) _)
        | (have bl : b < S 4 2 := by omega
           have m1 := zz_N_me gN (e := i.toNat) (by omega); have m2 := zz_N_me gN (e := b.toNat) (by omega)
           first
           | omega
           | (apply ok k1 <;> omega)
           | (have z9 : (zz_mmt S) i.toNat b.toNat := by ((try simp only [zz_pi0, Classical.not_not] at *); unfold zz_mmt; exact ⟨by omega, by assumption⟩)
              have e : zz_fst (fun a : Nat => ∃ j : Nat, j < (S 4 2).toNat ∧ (zz_mmt S) a j) (S 4 2).toNat = (i.toNat : Nat) := zz_fst_at (p := (fun a : Nat => ∃ j : Nat, j < (S 4 2).toNat ∧ (zz_mmt S) a j)) ⟨b.toNat, by omega, z9⟩ (fun j hj => h2 j (by omega)) (by omega)
              have e2 : ((i.toNat : Nat) : Int) = i := by omega
              have e4 : zz_fst ((zz_mmt S) i.toNat) (S 4 2).toNat = (b.toNat : Nat) := zz_fst_at (p := (zz_mmt S) i.toNat) z9 (fun j hj => h3 j (by omega)) (by omega)
              have e5 : ((b.toNat : Nat) : Int) = b := by omega
              have ev : zz_vM S = (6, zz_fst (fun a : Nat => ∃ j : Nat, j < (S 4 2).toNat ∧ (zz_mmt S) a j) (S 4 2).toNat, zz_fst ((zz_mmt S) (zz_fst (fun a : Nat => ∃ j : Nat, j < (S 4 2).toNat ∧ (zz_mmt S) a j) (S 4 2).toNat).toNat) (S 4 2).toNat) := zz_vd6 k1 k2 k3 k4 k5 (by rw [e]; omega)
              rw [e, Int.toNat_natCast, e4, e2, e5] at ev
              first | (rw [ev]; done) | (rw [zz_wS_lt ev (by decide) (by decide)]; done))
           | (refine ih _ _ ?_ ?_ h2 (zz_ext h3 (show ¬ (zz_mmt S) i.toNat b.toNat by ((try simp only [zz_pi0, Classical.not_not] at *); exact fun z => absurd z.2 (by assumption))) (by omega)) h4 k1 k2 k3 k4 k5 <;> omega)))
  have L6 : ∀ (k9 : Nat) (i : Int) (u : Option qq_V), S 4 2 - i < (k9 : Int) → (0 ≤ i ∧ i ≤ S 4 2) → (∀ j : Nat, (j : Int) < i → ¬ (fun a : Nat => ∃ j : Nat, j < (S 4 2).toNat ∧ (zz_mmt S) a j) j) → (zz_fst (fun j : Nat => S 123 j = -1) (S 4 0).toNat = -1) → (zz_fst (fun a : Nat => ∃ j : Nat, j < (S 4 0).toNat ∧ (zz_msm S) a j) (S 4 0).toNat = -1) → (zz_fst (zz_mstr S) (S 4 2).toNat = -1) → (zz_fst (zz_sho (zz_mx S) (zz_my S) (S 120) (S 121) (S 115 14)) (S 4 2).toNat = -1) → (zz_fst (fun a : Nat => ∃ j : Nat, j < (S 4 0).toNat ∧ (zz_cov (zz_mx S) (zz_my S) (S 120) (S 121)) a j) (S 4 2).toNat = -1) → qq_p xs (d + 15) (mm_mr mm_m148) (mm_mk mm_m148) (fun r S' => r = some ((zz_vM S).1) ∧ S' = zz_wS S) 263 [some (.inr (115, none)), some (.inl i), u] [] (S) := by
    intro k9
    induction k9 with
    | zero =>
      intro i u hm h1 h2 k1 k2 k3 k4 k5
      exfalso
      omega
    | succ k9 ih =>
      intro i u hm h1 h2 k1 k2 k3 k4 k5
      refine qq_fsound hxs (sp_24_ok hxs (d + 0)) [337, 275, 263, 193, 183, 136, 93, 48, 36, 2] 60 ?_
      repeat' first | apply And.intro | intro _ | (simp only [qq_tab]) | (simp only [qq_pl])
      all_goals (first
        | omega
        | exact Or.inl trivial
        | exact Or.inr trivial
        | exact (zz_pin _).1
        | exact (zz_pin _).2
        | exact hp.1
        | exact hp.2
        | (simp only [e1, e3] at *; omega)
        | (have ei : i = S 4 2 := by omega
           have eK : zz_fst (fun a : Nat => ∃ j : Nat, j < (S 4 2).toNat ∧ (zz_mmt S) a j) (S 4 2).toNat = -1 := zz_fst_no.mpr (fun j hj => h2 j (by omega))
           exact L7 (S 4 0 + 1).toNat 0 _ (by omega) (by omega) (fun j hj => by omega) k1 k2 k3 k4 k5 eK)
        | exact L6i (S 4 2 + 1).toNat i (i + 1) (by omega) (by omega) h2 (fun j hj z => by have := z.1; omega) (fun no u => ih _ u (by omega) (by omega) (zz_ext h2 no (by omega)) k1 k2 k3 k4 k5) k1 k2 k3 k4 k5)
  have L5i : ∀ (k9 : Nat) (i b : Int), S 4 0 - b < (k9 : Int) → (0 ≤ i ∧ i < S 4 2 ∧ 0 ≤ b ∧ b ≤ S 4 0) → (∀ j : Nat, (j : Int) < i → ¬ (fun a : Nat => ∃ j : Nat, j < (S 4 0).toNat ∧ (zz_cov (zz_mx S) (zz_my S) (S 120) (S 121)) a j) j) → (∀ j : Nat, (j : Int) < b → ¬ (zz_cov (zz_mx S) (zz_my S) (S 120) (S 121)) i.toNat j) → (¬ (fun a : Nat => ∃ j : Nat, j < (S 4 0).toNat ∧ (zz_cov (zz_mx S) (zz_my S) (S 120) (S 121)) a j) i.toNat → ∀ u, qq_p xs (d + 15) (mm_mr mm_m148) (mm_mk mm_m148) (fun r S' => r = some ((zz_vM S).1) ∧ S' = zz_wS S) 183 [some (.inr (115, none)), some (.inl (i + 1)), u] [] S) → (zz_fst (fun j : Nat => S 123 j = -1) (S 4 0).toNat = -1) → (zz_fst (fun a : Nat => ∃ j : Nat, j < (S 4 0).toNat ∧ (zz_msm S) a j) (S 4 0).toNat = -1) → (zz_fst (zz_mstr S) (S 4 2).toNat = -1) → (zz_fst (zz_sho (zz_mx S) (zz_my S) (S 120) (S 121) (S 115 14)) (S 4 2).toNat = -1) → qq_p xs (d + 15) (mm_mr mm_m148) (mm_mk mm_m148) (fun r S' => r = some ((zz_vM S).1) ∧ S' = zz_wS S) 193 [some (.inr (115, none)), some (.inl i), some (.inl b)] [] (S) := by
    intro k9
    induction k9 with
    | zero =>
      intro i b hm h1 h2 h3 h4 k1 k2 k3 k4
      exfalso
      omega
    | succ k9 ih =>
      intro i b hm h1 h2 h3 h4 k1 k2 k3 k4
      refine qq_fsound hxs (sp_24_ok hxs (d + 0)) [337, 275, 263, 193, 183, 136, 93, 48, 36, 2] 60 ?_
      repeat' first | apply And.intro | intro _ | (simp only [qq_tab]) | (simp only [qq_pl])
      all_goals (first
        | omega
        | exact Or.inl trivial
        | exact Or.inr trivial
        | exact (zz_pin _).1
        | exact (zz_pin _).2
        | exact hp.1
        | exact hp.2
        | (simp only [e1, e3] at *; omega)
        | (have eb : b = S 4 0 := by omega
           exact h4 (fun ⟨j, hj, z⟩ => h3 j (by omega) z) _)
        | (have bl : b < S 4 0 := by omega
           have m1 := zz_N_me gN (e := i.toNat) (by omega)
           first
           | omega
           | (apply ok k1 <;> omega)
           | (have z9 : (zz_cov (zz_mx S) (zz_my S) (S 120) (S 121)) i.toNat b.toNat := by ((try simp only [zz_pi0, Classical.not_not] at *); have e9 : ((b.toNat : Nat) : Int) = b := (by omega); unfold zz_cov; rw [e9]; exact ⟨⟨by assumption, by assumption⟩, by assumption⟩)
              have e : zz_fst (fun a : Nat => ∃ j : Nat, j < (S 4 0).toNat ∧ (zz_cov (zz_mx S) (zz_my S) (S 120) (S 121)) a j) (S 4 2).toNat = (i.toNat : Nat) := zz_fst_at (p := (fun a : Nat => ∃ j : Nat, j < (S 4 0).toNat ∧ (zz_cov (zz_mx S) (zz_my S) (S 120) (S 121)) a j)) ⟨b.toNat, by omega, z9⟩ (fun j hj => h2 j (by omega)) (by omega)
              have e2 : ((i.toNat : Nat) : Int) = i := by omega
              have e4 : zz_fst ((zz_cov (zz_mx S) (zz_my S) (S 120) (S 121)) i.toNat) (S 4 0).toNat = (b.toNat : Nat) := zz_fst_at (p := (zz_cov (zz_mx S) (zz_my S) (S 120) (S 121)) i.toNat) z9 (fun j hj => h3 j (by omega)) (by omega)
              have e5 : ((b.toNat : Nat) : Int) = b := by omega
              have ev : zz_vM S = (5, zz_fst (fun a : Nat => ∃ j : Nat, j < (S 4 0).toNat ∧ (zz_cov (zz_mx S) (zz_my S) (S 120) (S 121)) a j) (S 4 2).toNat, zz_fst ((zz_cov (zz_mx S) (zz_my S) (S 120) (S 121)) (zz_fst (fun a : Nat => ∃ j : Nat, j < (S 4 0).toNat ∧ (zz_cov (zz_mx S) (zz_my S) (S 120) (S 121)) a j) (S 4 2).toNat).toNat) (S 4 0).toNat) := zz_vd5 k1 k2 k3 k4 (by rw [e]; omega)
              rw [e, Int.toNat_natCast, e4, e2, e5] at ev
              first | (rw [ev]; done) | (rw [zz_wS_lt ev (by decide) (by decide)]; done))
           | (refine ih _ _ ?_ ?_ h2 (zz_ext h3 (show ¬ (zz_cov (zz_mx S) (zz_my S) (S 120) (S 121)) i.toNat b.toNat by ((try simp only [zz_pi0, Classical.not_not] at *); have e9 : ((b.toNat : Nat) : Int) = b := (by omega); unfold zz_cov; rw [e9]; first | exact fun z => absurd z.2 (by assumption) | exact fun z => absurd (by assumption) z.1.1 | exact fun z => absurd (by assumption) z.1.2)) (by omega)) h4 k1 k2 k3 k4 <;> omega)))
  have L5 : ∀ (k9 : Nat) (i : Int) (u : Option qq_V), S 4 2 - i < (k9 : Int) → (0 ≤ i ∧ i ≤ S 4 2) → (∀ j : Nat, (j : Int) < i → ¬ (fun a : Nat => ∃ j : Nat, j < (S 4 0).toNat ∧ (zz_cov (zz_mx S) (zz_my S) (S 120) (S 121)) a j) j) → (zz_fst (fun j : Nat => S 123 j = -1) (S 4 0).toNat = -1) → (zz_fst (fun a : Nat => ∃ j : Nat, j < (S 4 0).toNat ∧ (zz_msm S) a j) (S 4 0).toNat = -1) → (zz_fst (zz_mstr S) (S 4 2).toNat = -1) → (zz_fst (zz_sho (zz_mx S) (zz_my S) (S 120) (S 121) (S 115 14)) (S 4 2).toNat = -1) → qq_p xs (d + 15) (mm_mr mm_m148) (mm_mk mm_m148) (fun r S' => r = some ((zz_vM S).1) ∧ S' = zz_wS S) 183 [some (.inr (115, none)), some (.inl i), u] [] (S) := by
    intro k9
    induction k9 with
    | zero =>
      intro i u hm h1 h2 k1 k2 k3 k4
      exfalso
      omega
    | succ k9 ih =>
      intro i u hm h1 h2 k1 k2 k3 k4
      refine qq_fsound hxs (sp_24_ok hxs (d + 0)) [337, 275, 263, 193, 183, 136, 93, 48, 36, 2] 60 ?_
      repeat' first | apply And.intro | intro _ | (simp only [qq_tab]) | (simp only [qq_pl])
      all_goals (first
        | omega
        | exact Or.inl trivial
        | exact Or.inr trivial
        | exact (zz_pin _).1
        | exact (zz_pin _).2
        | exact hp.1
        | exact hp.2
        | (simp only [e1, e3] at *; omega)
        | (have ei : i = S 4 2 := by omega
           have eK : zz_fst (fun a : Nat => ∃ j : Nat, j < (S 4 0).toNat ∧ (zz_cov (zz_mx S) (zz_my S) (S 120) (S 121)) a j) (S 4 2).toNat = -1 := zz_fst_no.mpr (fun j hj => h2 j (by omega))
           exact L6 (S 4 2 + 1).toNat 0 _ (by omega) (by omega) (fun j hj => by omega) k1 k2 k3 k4 eK)
        | exact L5i (S 4 0 + 1).toNat i (0) (by omega) (by omega) h2 (fun j hj => by omega) (fun no u => ih _ u (by omega) (by omega) (zz_ext h2 no (by omega)) k1 k2 k3 k4) k1 k2 k3 k4)
  have L4 : ∀ (k9 : Nat) (i : Int) (u : Option qq_V), S 4 2 - i < (k9 : Int) → (0 ≤ i ∧ i ≤ S 4 2) → (∀ j : Nat, (j : Int) < i → ¬ (zz_sho (zz_mx S) (zz_my S) (S 120) (S 121) (S 115 14)) j) → (zz_fst (fun j : Nat => S 123 j = -1) (S 4 0).toNat = -1) → (zz_fst (fun a : Nat => ∃ j : Nat, j < (S 4 0).toNat ∧ (zz_msm S) a j) (S 4 0).toNat = -1) → (zz_fst (zz_mstr S) (S 4 2).toNat = -1) → qq_p xs (d + 15) (mm_mr mm_m148) (mm_mk mm_m148) (fun r S' => r = some ((zz_vM S).1) ∧ S' = zz_wS S) 136 [some (.inr (115, none)), some (.inl i), u] [] (S) := by
    intro k9
    induction k9 with
    | zero =>
      intro i u hm h1 h2 k1 k2 k3
      exfalso
      omega
    | succ k9 ih =>
      intro i u hm h1 h2 k1 k2 k3
      refine qq_fsound hxs (sp_24_ok hxs (d + 0)) [337, 275, 263, 193, 183, 136, 93, 48, 36, 2] 60 ?_
      repeat' first | apply And.intro | intro _ | (simp only [qq_tab]) | (simp only [qq_pl])
      all_goals (first
        | omega
        | exact Or.inl trivial
        | exact Or.inr trivial
        | exact (zz_pin _).1
        | exact (zz_pin _).2
        | exact hp.1
        | exact hp.2
        | (simp only [e1, e3] at *; omega)
        | (have ei : i = S 4 2 := by omega
           have eK : zz_fst (zz_sho (zz_mx S) (zz_my S) (S 120) (S 121) (S 115 14)) (S 4 2).toNat = -1 := zz_fst_no.mpr (fun j hj => h2 j (by omega))
           exact L5 (S 4 2 + 1).toNat 0 _ (by omega) (by omega) (fun j hj => by omega) k1 k2 k3 eK)
        | (have il : i < S 4 2 := by omega
           have m1 := zz_N_me gN (e := i.toNat) (by omega); have lb := zz_mln (ok k1 (S 120 i.toNat) (by omega) (by omega)) (ok k1 (S 121 i.toNat) (by omega) (by omega))
           first
           | omega
           | (apply ok k1 <;> omega)
           | (have e : zz_fst (zz_sho (zz_mx S) (zz_my S) (S 120) (S 121) (S 115 14)) (S 4 2).toNat = (i.toNat : Nat) := zz_fst_at (p := (zz_sho (zz_mx S) (zz_my S) (S 120) (S 121) (S 115 14))) (show (zz_sho (zz_mx S) (zz_my S) (S 120) (S 121) (S 115 14)) i.toNat by (unfold zz_sho; omega)) (fun j hj => h2 j (by omega)) (by omega)
              have e2 : ((i.toNat : Nat) : Int) = i := by omega
              have ev : zz_vM S = (4, zz_fst (zz_sho (zz_mx S) (zz_my S) (S 120) (S 121) (S 115 14)) (S 4 2).toNat, -1) := zz_vd4 k1 k2 k3 (by rw [e]; omega)
              rw [e, e2] at ev
              first | (rw [ev]; done) | (rw [zz_wS_lt ev (by decide) (by decide)]; done))
           | (refine ih _ _ ?_ ?_ (zz_ext h2 (show ¬ (zz_sho (zz_mx S) (zz_my S) (S 120) (S 121) (S 115 14)) i.toNat by (unfold zz_sho; omega)) (by omega)) k1 k2 k3 <;> omega)))
  have L3 : ∀ (k9 : Nat) (i : Int) (u : Option qq_V), S 4 2 - i < (k9 : Int) → (0 ≤ i ∧ i ≤ S 4 2) → (∀ j : Nat, (j : Int) < i → ¬ (zz_mstr S) j) → (zz_fst (fun j : Nat => S 123 j = -1) (S 4 0).toNat = -1) → (zz_fst (fun a : Nat => ∃ j : Nat, j < (S 4 0).toNat ∧ (zz_msm S) a j) (S 4 0).toNat = -1) → qq_p xs (d + 15) (mm_mr mm_m148) (mm_mk mm_m148) (fun r S' => r = some ((zz_vM S).1) ∧ S' = zz_wS S) 93 [some (.inr (115, none)), some (.inl i), u] [] (S) := by
    intro k9
    induction k9 with
    | zero =>
      intro i u hm h1 h2 k1 k2
      exfalso
      omega
    | succ k9 ih =>
      intro i u hm h1 h2 k1 k2
      refine qq_fsound hxs (sp_24_ok hxs (d + 0)) [337, 275, 263, 193, 183, 136, 93, 48, 36, 2] 60 ?_
      repeat' first | apply And.intro | intro _ | (simp only [qq_tab]) | (simp only [qq_pl])
      all_goals (first
        | omega
        | exact Or.inl trivial
        | exact Or.inr trivial
        | exact (zz_pin _).1
        | exact (zz_pin _).2
        | exact hp.1
        | exact hp.2
        | (simp only [e1, e3] at *; omega)
        | (have ei : i = S 4 2 := by omega
           have eK : zz_fst (zz_mstr S) (S 4 2).toNat = -1 := zz_fst_no.mpr (fun j hj => h2 j (by omega))
           exact L4 (S 4 2 + 1).toNat 0 _ (by omega) (by omega) (fun j hj => by omega) k1 k2 eK)
        | (have il : i < S 4 2 := by omega
           have m1 := zz_N_me gN (e := i.toNat) (by omega)
           first
           | omega
           | (apply ok k1 <;> omega)
           | (have e : zz_fst (zz_mstr S) (S 4 2).toNat = (i.toNat : Nat) := zz_fst_at (p := (zz_mstr S)) (show (zz_mstr S) i.toNat by ((try simp only [zz_pi0, Classical.not_not] at *); unfold zz_mstr; assumption)) (fun j hj => h2 j (by omega)) (by omega)
              have e2 : ((i.toNat : Nat) : Int) = i := by omega
              have ev : zz_vM S = (3, zz_fst (zz_mstr S) (S 4 2).toNat, -1) := zz_vd3 k1 k2 (by rw [e]; omega)
              rw [e, e2] at ev
              first | (rw [ev]; done) | (rw [zz_wS_lt ev (by decide) (by decide)]; done))
           | (refine ih _ _ ?_ ?_ (zz_ext h2 (show ¬ (zz_mstr S) i.toNat by ((try simp only [zz_pi0, Classical.not_not] at *); unfold zz_mstr; exact not_not_intro (by assumption))) (by omega)) k1 k2 <;> omega)))
  have L2i : ∀ (k9 : Nat) (i b : Int), S 4 0 - b < (k9 : Int) → (0 ≤ i ∧ i < S 4 0 ∧ 0 ≤ b ∧ b ≤ S 4 0 ∧ i < b) → (∀ j : Nat, (j : Int) < i → ¬ (fun a : Nat => ∃ j : Nat, j < (S 4 0).toNat ∧ (zz_msm S) a j) j) → (∀ j : Nat, (j : Int) < b → ¬ (zz_msm S) i.toNat j) → (¬ (fun a : Nat => ∃ j : Nat, j < (S 4 0).toNat ∧ (zz_msm S) a j) i.toNat → ∀ u, qq_p xs (d + 15) (mm_mr mm_m148) (mm_mk mm_m148) (fun r S' => r = some ((zz_vM S).1) ∧ S' = zz_wS S) 36 [some (.inr (115, none)), some (.inl (i + 1)), u] [] S) → (zz_fst (fun j : Nat => S 123 j = -1) (S 4 0).toNat = -1) → qq_p xs (d + 15) (mm_mr mm_m148) (mm_mk mm_m148) (fun r S' => r = some ((zz_vM S).1) ∧ S' = zz_wS S) 48 [some (.inr (115, none)), some (.inl i), some (.inl b)] [] (S) := by
    intro k9
    induction k9 with
    | zero =>
      intro i b hm h1 h2 h3 h4 k1
      exfalso
      omega
    | succ k9 ih =>
      intro i b hm h1 h2 h3 h4 k1
      refine qq_fsound hxs (sp_24_ok hxs (d + 0)) [337, 275, 263, 193, 183, 136, 93, 48, 36, 2] 60 ?_
      repeat' first | apply And.intro | intro _ | (simp only [qq_tab]) | (simp only [qq_pl])
      all_goals (first
        | omega
        | exact Or.inl trivial
        | exact Or.inr trivial
        | exact (zz_pin _).1
        | exact (zz_pin _).2
        | exact hp.1
        | exact hp.2
        | (simp only [e1, e3] at *; omega)
        | (have eb : b = S 4 0 := by omega
           exact h4 (fun ⟨j, hj, z⟩ => h3 j (by omega) z) _)
        | (have bl : b < S 4 0 := by omega
           have q1 := gP.2.2 i.toNat (by omega); have q2 := gP.2.2 b.toNat (by omega)
           first
           | omega
           | (apply ok k1 <;> omega)
           | (have z9 : (zz_msm S) i.toNat b.toNat := by (unfold zz_msm; omega)
              have e : zz_fst (fun a : Nat => ∃ j : Nat, j < (S 4 0).toNat ∧ (zz_msm S) a j) (S 4 0).toNat = (i.toNat : Nat) := zz_fst_at (p := (fun a : Nat => ∃ j : Nat, j < (S 4 0).toNat ∧ (zz_msm S) a j)) ⟨b.toNat, by omega, z9⟩ (fun j hj => h2 j (by omega)) (by omega)
              have e2 : ((i.toNat : Nat) : Int) = i := by omega
              have e4 : zz_fst ((zz_msm S) i.toNat) (S 4 0).toNat = (b.toNat : Nat) := zz_fst_at (p := (zz_msm S) i.toNat) z9 (fun j hj => h3 j (by omega)) (by omega)
              have e5 : ((b.toNat : Nat) : Int) = b := by omega
              have ev : zz_vM S = (2, zz_fst (fun a : Nat => ∃ j : Nat, j < (S 4 0).toNat ∧ (zz_msm S) a j) (S 4 0).toNat, zz_fst ((zz_msm S) (zz_fst (fun a : Nat => ∃ j : Nat, j < (S 4 0).toNat ∧ (zz_msm S) a j) (S 4 0).toNat).toNat) (S 4 0).toNat) := zz_vd2 k1 (by rw [e]; omega)
              rw [e, Int.toNat_natCast, e4, e2, e5] at ev
              first | (rw [ev]; done) | (rw [zz_wS_lt ev (by decide) (by decide)]; done))
           | (refine ih _ _ ?_ ?_ h2 (zz_ext h3 (show ¬ (zz_msm S) i.toNat b.toNat by (unfold zz_msm; omega)) (by omega)) h4 k1 <;> omega)))
  have L2 : ∀ (k9 : Nat) (i : Int) (u : Option qq_V), S 4 0 - i < (k9 : Int) → (0 ≤ i ∧ i ≤ S 4 0) → (∀ j : Nat, (j : Int) < i → ¬ (fun a : Nat => ∃ j : Nat, j < (S 4 0).toNat ∧ (zz_msm S) a j) j) → (zz_fst (fun j : Nat => S 123 j = -1) (S 4 0).toNat = -1) → qq_p xs (d + 15) (mm_mr mm_m148) (mm_mk mm_m148) (fun r S' => r = some ((zz_vM S).1) ∧ S' = zz_wS S) 36 [some (.inr (115, none)), some (.inl i), u] [] (S) := by
    intro k9
    induction k9 with
    | zero =>
      intro i u hm h1 h2 k1
      exfalso
      omega
    | succ k9 ih =>
      intro i u hm h1 h2 k1
      refine qq_fsound hxs (sp_24_ok hxs (d + 0)) [337, 275, 263, 193, 183, 136, 93, 48, 36, 2] 60 ?_
      repeat' first | apply And.intro | intro _ | (simp only [qq_tab]) | (simp only [qq_pl])
      all_goals (first
        | omega
        | exact Or.inl trivial
        | exact Or.inr trivial
        | exact (zz_pin _).1
        | exact (zz_pin _).2
        | exact hp.1
        | exact hp.2
        | (simp only [e1, e3] at *; omega)
        | (have ei : i = S 4 0 := by omega
           have eK : zz_fst (fun a : Nat => ∃ j : Nat, j < (S 4 0).toNat ∧ (zz_msm S) a j) (S 4 0).toNat = -1 := zz_fst_no.mpr (fun j hj => h2 j (by omega))
           exact L3 (S 4 2 + 1).toNat 0 _ (by omega) (by omega) (fun j hj => by omega) k1 eK)
        | exact L2i (S 4 0 + 1).toNat i (i + 1) (by omega) (by omega) h2 (fun j hj z => by have := z.1; omega) (fun no u => ih _ u (by omega) (by omega) (zz_ext h2 no (by omega)) k1) k1)
  have L1 : ∀ (k9 : Nat) (i : Int) (u : Option qq_V), S 4 0 - i < (k9 : Int) → (0 ≤ i ∧ i ≤ S 4 0) → (∀ j : Nat, (j : Int) < i → ¬ (fun j : Nat => S 123 j = -1) j) → qq_p xs (d + 15) (mm_mr mm_m148) (mm_mk mm_m148) (fun r S' => r = some ((zz_vM S).1) ∧ S' = zz_wS S) 2 [some (.inr (115, none)), some (.inl i), u] [] (S) := by
    intro k9
    induction k9 with
    | zero =>
      intro i u hm h1 h2
      exfalso
      omega
    | succ k9 ih =>
      intro i u hm h1 h2
      refine qq_fsound hxs (sp_24_ok hxs (d + 0)) [337, 275, 263, 193, 183, 136, 93, 48, 36, 2] 60 ?_
      repeat' first | apply And.intro | intro _ | (simp only [qq_tab]) | (simp only [qq_pl])
      all_goals (first
        | omega
        | exact Or.inl trivial
        | exact Or.inr trivial
        | exact (zz_pin _).1
        | exact (zz_pin _).2
        | exact hp.1
        | exact hp.2
        | (simp only [e1, e3] at *; omega)
        | (have ei : i = S 4 0 := by omega
           have eK : zz_fst (fun j : Nat => S 123 j = -1) (S 4 0).toNat = -1 := zz_fst_no.mpr (fun j hj => h2 j (by omega))
           exact L2 (S 4 0 + 1).toNat 0 _ (by omega) (by omega) (fun j hj => by omega)  eK)
        | (have il : i < S 4 0 := by omega
           have q1 := gP.2.2 i.toNat (by omega)
           first
           | omega
           | (apply ok k1 <;> omega)
           | (have e : zz_fst (fun j : Nat => S 123 j = -1) (S 4 0).toNat = (i.toNat : Nat) := zz_fst_at (p := (fun j : Nat => S 123 j = -1)) (show (fun j : Nat => S 123 j = -1) i.toNat by assumption) (fun j hj => h2 j (by omega)) (by omega)
              have e2 : ((i.toNat : Nat) : Int) = i := by omega
              have ev : zz_vM S = (1, zz_fst (fun j : Nat => S 123 j = -1) (S 4 0).toNat, -1) := zz_vd1  (by rw [e]; omega)
              rw [e, e2] at ev
              first | (rw [ev]; done) | (rw [zz_wS_lt ev (by decide) (by decide)]; done))
           | (refine ih _ _ ?_ ?_ (zz_ext h2 (show ¬ (fun j : Nat => S 123 j = -1) i.toNat by assumption) (by omega))  <;> omega)))
  have h : qq_p xs (d + 15) (mm_mr mm_m148) (mm_mk mm_m148) (fun r S' => r = some ((zz_vM S).1) ∧ S' = zz_wS S) 0 (qq_ent mm_m148 [.inr (115, none)]) [] S := by
    refine qq_fsound hxs (sp_24_ok hxs (d + 0)) [337, 275, 263, 193, 183, 136, 93, 48, 36, 2] 60 ?_
    repeat' first | apply And.intro | intro _ | (simp only [qq_tab]) | (simp only [qq_pl])
    all_goals (first | omega | exact L1 (S 4 0 + 1).toNat 0 _ (by omega) (by omega) (fun j hj => by omega))
  obtain ⟨r, S', hE, e1, e2⟩ := qq_call_of (y := 148) rfl (Nat.le_of_ble_eq_true rfl) h
  rw [e1, e2] at hE
  exact hE
noncomputable def sp_25 : qq_P := fun y as S => match y, as with
  | 148, [.inr (115, none)] => some (zz_p (zz_N S) = 1 ∧ zz_p (zz_mpt S) = 1, some ((zz_vM S).1), zz_wS S)
  | _, _ => sp_24 y as S
theorem sp_25_ok {xs : List Int32} (hxs : xs.length ≤ 2048) (d : Nat) : qq_ok xs (d + 16) sp_25 := by
  intro y as S pre r S2 h hp
  unfold sp_25 at h
  split at h
  · cases h; exact f148 hxs (d + 0) S hp
  · exact sp_24_ok hxs (d + 1) y as S pre r S2 h hp
