def zz_mcc (S : qq_S) (a b : Int) : Prop := (0 ≤ a ∧ a < S 115 2) ∧ (0 ≤ b ∧ b < S 115 1)
def zz_mfd (S : qq_S) (a b : Int) : Prop := ∃ i : Nat, (i : Int) < S 118 a.toNat ∧ S 119 (10 * a.toNat + i) = b
noncomputable def zz_mlr (S : qq_S) (a b : Int) : Int := if ¬ zz_p (zz_mcc S a b) = 1 then -2 else if zz_p (zz_mfd S a b) = 1 then -4 else if S 118 a.toNat = 10 then -5 else S 118 a.toNat + 1
def zz_mU (S : qq_S) (a b : Int) : qq_S := qq_u (qq_u S 119 (10 * a + S 118 a.toNat).toNat b) 118 a.toNat (qq_u S 119 (10 * a + S 118 a.toNat).toNat b 118 a.toNat + 1)
noncomputable def zz_mls (S : qq_S) (a b : Int) : qq_S := if zz_mlr S a b < 0 then qq_u S 115 0 (zz_mlr S a b) else qq_u (zz_fd (zz_mU S a b)) 115 0 0
theorem zz_mlr2 {S : qq_S} {a b : Int} (h : ¬ zz_mcc S a b) : zz_mlr S a b = -2 := by unfold zz_mlr; rw [if_pos (fun z => h (zz_pi1.mp z))]
theorem zz_mlr4 {S : qq_S} {a b : Int} (h : zz_mcc S a b) (h2 : zz_mfd S a b) : zz_mlr S a b = -4 := by unfold zz_mlr; rw [if_neg (not_not_intro (zz_p1 h)), if_pos (zz_p1 h2)]
theorem zz_mlr5 {S : qq_S} {a b : Int} (h : zz_mcc S a b) (h2 : ¬ zz_mfd S a b) (h3 : S 118 a.toNat = 10) : zz_mlr S a b = -5 := by unfold zz_mlr; rw [if_neg (not_not_intro (zz_p1 h)), if_neg (fun z => h2 (zz_pi1.mp z)), if_pos h3]
theorem zz_mlr0 {S : qq_S} {a b : Int} (h : zz_mcc S a b) (h2 : ¬ zz_mfd S a b) (h3 : ¬ S 118 a.toNat = 10) : zz_mlr S a b = S 118 a.toNat + 1 := by unfold zz_mlr; rw [if_neg (not_not_intro (zz_p1 h)), if_neg (fun z => h2 (zz_pi1.mp z)), if_neg h3]
set_option maxRecDepth 20000 in
theorem f119 {xs : List Int32} (hxs : xs.length ≤ 2048) (d : Nat) (S : qq_S) (a : Int) (b : Int) (hp : qq_in a ∧ qq_in b ∧ zz_p (zz_ml S) = 1 ∧ (0 ≤ S 115 1 ∧ S 115 1 ≤ 10) ∧ zz_p (zz_mcc S a b → ¬ zz_mfd S a b → ¬ S 118 a.toNat = 10 → zz_ml (zz_mU S a b) ∧ zz_fp (zz_mU S a b)) = 1) : qq_E xs (d + 23) 119 [.inr (115, none), .inl a, .inl b] S (some (zz_mlr S a b)) (zz_mls S a b) := by
  have gm := zz_pi1.mp hp.2.2.1
  have gu := zz_pi1.mp hp.2.2.2.2
  have g1 := gm.1
  have g2 := hp.2.2.2.1
  have rs : ∀ v : Int, v < 0 → zz_mlr S a b = v → zz_mls S a b = qq_u S 115 0 (if v < 0 then v else 0) := fun v hv e => by
    unfold zz_mls
    rw [e, if_pos hv, if_pos hv]
  have L : ∀ (k9 : Nat) (i : Int), S 118 a.toNat - i < (k9 : Int) → (zz_mcc S a b) → (0 ≤ i ∧ i ≤ S 118 a.toNat) → (∀ j : Nat, (j : Int) < i → ¬ S 119 (10 * a.toNat + j) = b) → qq_p xs (d + 22) (mm_mr mm_m119) (mm_mk mm_m119) (fun r S' => r = some (zz_mlr S a b) ∧ S' = zz_mls S a b) 31 [some (.inr (115, none)), some (.inl a), some (.inl b), some (.inl i)] [] (S) := by
    intro k9
    induction k9 with
    | zero =>
      intro i hm h0 h1 h2
      exfalso
      omega
    | succ k9 ih =>
      intro i hm h0 h1 h2
      refine qq_fsound hxs (sp_33_ok hxs (d + 0)) [31] 300 ?_
      repeat' first | apply And.intro | intro _ | (simp only [qq_tab]) | (simp only [qq_pl])
      all_goals (
        (have c1 := h0.1
         have c2 := h0.2
         have q := gm.2 a.toNat (by omega)
         first
         | omega
         | exact Or.inl trivial
         | (have il : i < S 118 a.toNat := by omega
            have q2 := q.2.2 i.toNat (by omega)
            have e1 : (10 * a + i).toNat = 10 * a.toNat + i.toNat := by omega
            (try simp only [e1] at *)
            first
            | omega
            | (have z9 : S 119 (10 * a.toNat + i.toNat) = b := by assumption
               have er : zz_mlr S a b = -4 := zz_mlr4 h0 ⟨i.toNat, by omega, z9⟩
               first | (rw [er]; done) | (rw [rs (-4) (by decide) er]; done))
            | (have z9 : ¬ S 119 (10 * a.toNat + i.toNat) = b := by assumption
               exact ih _ (by omega) h0 (by omega) (zz_ext (P := fun j => S 119 (10 * a.toNat + j) = b) h2 z9 (by omega))))
         | (have ei : i = S 118 a.toNat := by omega
            have nf : ¬ zz_mfd S a b := fun ⟨k, hk, z⟩ => h2 k (by omega) z
            first
            | (have z9 : S 118 a.toNat = 10 := by assumption
               have er : zz_mlr S a b = -5 := zz_mlr5 h0 nf z9
               first | (rw [er]; done) | (rw [rs (-5) (by decide) er]; done))
            | (have z9 : ¬ S 118 a.toNat = 10 := by assumption
               have er : zz_mlr S a b = S 118 a.toNat + 1 := zz_mlr0 h0 nf z9
               have gu2 := gu h0 nf z9
               have v1 : zz_fd (zz_mU S a b) 118 a.toNat = S 118 a.toNat + 1 := by
                 unfold zz_fd
                 rw [if_neg (by omega), if_neg (by omega), if_neg (by omega)]
                 unfold zz_mU
                 rw [qq_us, qq_un' (by decide)]
               have v2 : zz_mls S a b = qq_u (zz_fd (zz_mU S a b)) 115 0 0 := by
                 unfold zz_mls
                 rw [er, if_neg (by omega)]
               rw [show qq_u (qq_u S 119 (10 * a + S 118 a.toNat).toNat b) 118 a.toNat (qq_u S 119 (10 * a + S 118 a.toNat).toNat b 118 a.toNat + 1) = zz_mU S a b from rfl] at *
               first
               | omega
               | exact zz_p1 gu2.1
               | exact zz_p1 gu2.2
               | (rw [v1, er]; done)
               | (rw [v1, v2, if_neg (by omega)]; done)
               | (rw [v1]; unfold qq_in; omega)
               | (rw [v1]; omega))
            | (have z9 : ¬ S 118 a.toNat = 10 := by assumption
               have er : zz_mlr S a b = S 118 a.toNat + 1 := zz_mlr0 h0 nf z9
               have gu2 := gu h0 nf z9
               have v1 : zz_fd (zz_mU S a b) 118 a.toNat = S 118 a.toNat + 1 := by
                 unfold zz_fd
                 rw [if_neg (by omega), if_neg (by omega), if_neg (by omega)]
                 unfold zz_mU
                 rw [qq_us, qq_un' (by decide)]
               have v2 : zz_mls S a b = qq_u (zz_fd (zz_mU S a b)) 115 0 0 := by
                 unfold zz_mls
                 rw [er, if_neg (by omega)]
               first
               | omega
               | exact zz_p1 gu2.1
               | exact zz_p1 gu2.2
               | (show some (zz_fd (zz_mU S a b) 118 a.toNat) = _; rw [v1, er]; done)
               | (show qq_u (zz_fd (zz_mU S a b)) 115 0 (if zz_fd (zz_mU S a b) 118 a.toNat < 0 then zz_fd (zz_mU S a b) 118 a.toNat else 0) = _; rw [v1, v2, if_neg (by omega)]; done)
               | (show -2147483648 ≤ zz_fd (zz_mU S a b) 118 a.toNat; rw [v1]; omega)
               | (show zz_fd (zz_mU S a b) 118 a.toNat ≤ 2147483647; rw [v1]; omega)))))
  have h : qq_p xs (d + 22) (mm_mr mm_m119) (mm_mk mm_m119) (fun r S' => r = some (zz_mlr S a b) ∧ S' = zz_mls S a b) 0 (qq_ent mm_m119 [.inr (115, none), .inl a, .inl b]) [] S := by
    refine qq_fsound hxs (sp_33_ok hxs (d + 0)) [31] 300 ?_
    repeat' first | apply And.intro | intro _ | (simp only [qq_tab]) | (simp only [qq_pl])
    all_goals (
      first
      | omega
      | exact hp.1.1
      | exact hp.1.2
      | exact hp.2.1.1
      | exact hp.2.1.2
      | exact (zz_bin _).1
      | exact (zz_bin _).2
      | (have c1 : ¬ (0 ≤ a ∧ a ≤ S 115 2 - 1) := zz_bi0.mp (by assumption)
         have er : zz_mlr S a b = -2 := zz_mlr2 (fun z => c1 ⟨z.1.1, by have := z.1.2; omega⟩)
         first | (rw [er]; done) | (rw [rs (-2) (by decide) er]; done))
      | (have c1 : (0 ≤ a ∧ a ≤ S 115 2 - 1) := Classical.not_not.mp (fun z => absurd (zz_bi0.mpr z) (by assumption))
         first
         | (have c2 : ¬ (0 ≤ b ∧ b < S 115 1) := zz_bi0.mp (by assumption)
            have er : zz_mlr S a b = -2 := zz_mlr2 (fun z => c2 z.2)
            first | (rw [er]; done) | (rw [rs (-2) (by decide) er]; done))
         | (have c2 : (0 ≤ b ∧ b < S 115 1) := Classical.not_not.mp (fun z => absurd (zz_bi0.mpr z) (by assumption))
            have q := gm.2 a.toNat (by omega)
            exact L (S 118 a.toNat + 1).toNat 0 (by omega) ⟨⟨c1.1, by omega⟩, c2⟩ (by omega) (fun j hj => by omega))))
  obtain ⟨r, S', hE, e1, e2⟩ := qq_call_of (y := 119) rfl (Nat.le_of_ble_eq_true rfl) h
  rw [e1, e2] at hE
  exact hE
