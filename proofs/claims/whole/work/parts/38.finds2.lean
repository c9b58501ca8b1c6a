noncomputable def sp_14 : qq_P := fun y as S => match y, as with
  | 12, [.inr (53, none), .inl s] => some ((0 ≤ s ∧ s < 10) ∧ zz_p (zz_nb S) = 1 ∧ zz_p (zz_pl (S 49) (S 50)) = 1, some (zz_p (zz_rt (fun i => ¬ S 49 (S (26 + 1 + s.toNat) i).toNat = -1) (fun i => zz_dr (S 49) (S 50) s.toNat (S (26 + 1 + s.toNat) i).toNat) (S 25 s.toNat).toNat)), S)
  | 12, [.inr (92, none), .inl s] => some ((0 ≤ s ∧ s < 10) ∧ zz_p (zz_nb S) = 1 ∧ zz_p (zz_pl (S 57) (S 58)) = 1, some (zz_p (zz_rt (fun i => ¬ S 57 (S (26 + 1 + s.toNat) i).toNat = -1) (fun i => zz_dr (S 57) (S 58) s.toNat (S (26 + 1 + s.toNat) i).toNat) (S 25 s.toNat).toNat)), S)
  | 9, [.inr (53, none), .inl s, .inl e] => some ((0 ≤ s ∧ s < 10 ∧ 0 ≤ e ∧ e < S 4 2) ∧ zz_p (zz_nb S) = 1 ∧ zz_p (zz_pl (S 49) (S 50)) = 1, some (zz_p ((¬ s = S 22 e.toNat ∧ ¬ s = S 23 e.toNat) ∧ zz_lies (S 49) (S 50) s.toNat (S 22 e.toNat).toNat (S 23 e.toNat).toNat)), S)
  | 4, [.inr (53, none)] => some (zz_p (zz_nb S) = 1 ∧ zz_p (zz_pl (S 49) (S 50)) = 1 ∧ qq_in (S 52 3), some (if zz_fst (fun j : Nat => S 49 j = -1) (S 4 0).toNat = -1 then 0 else 1), if zz_fst (fun j : Nat => S 49 j = -1) (S 4 0).toNat = -1 then S else zz_bl S 1 (zz_fst (fun j : Nat => S 49 j = -1) (S 4 0).toNat) (-1))
  | 6, [.inr (53, none)] => some (zz_p (zz_nb S) = 1 ∧ zz_p (zz_pl (S 49) (S 50)) = 1 ∧ qq_in (S 52 3), some (if zz_fst (fun j : Nat => zz_cr (S 49) (S 50) (S 22) (S 23) j) (S 4 2).toNat = -1 then 0 else 1), if zz_fst (fun j : Nat => zz_cr (S 49) (S 50) (S 22) (S 23) j) (S 4 2).toNat = -1 then S else zz_bl S 3 (zz_fst (fun j : Nat => zz_cr (S 49) (S 50) (S 22) (S 23) j) (S 4 2).toNat) (-1))
  | 7, [.inr (53, none)] => some (zz_p (zz_nb S) = 1 ∧ zz_p (zz_pl (S 49) (S 50)) = 1 ∧ qq_in (S 52 3), some (if zz_fst (fun j : Nat => zz_sho (S 49) (S 50) (S 22) (S 23) (S 52 3) j) (S 4 2).toNat = -1 then 0 else 1), if zz_fst (fun j : Nat => zz_sho (S 49) (S 50) (S 22) (S 23) (S 52 3) j) (S 4 2).toNat = -1 then S else zz_bl S 4 (zz_fst (fun j : Nat => zz_sho (S 49) (S 50) (S 22) (S 23) (S 52 3) j) (S 4 2).toNat) (-1))
  | _, _ => sp_13b y as S
theorem sp_14_ok {xs : List Int32} (hxs : xs.length ≤ 2048) (d : Nat) : qq_ok xs (d + 7) sp_14 := by
  intro y as S pre r S2 h hp
  unfold sp_14 at h
  split at h
  · cases h; exact f12_53 hxs (d + 0) S _ hp
  · cases h; exact f12_92 hxs (d + 0) S _ hp
  · cases h; exact f9 hxs (d + 0) S _ _ hp
  · cases h; exact f4 hxs (d + 0) S hp
  · cases h; exact f6 hxs (d + 0) S hp
  · cases h; exact f7 hxs (d + 0) S hp
  · exact sp_13b_ok hxs (d + 1) y as S pre r S2 h hp
set_option maxRecDepth 20000 in
theorem f5 {xs : List Int32} (hxs : xs.length ≤ 2048) (d : Nat) (S : qq_S) (hp : zz_p (zz_nb S) = 1 ∧ zz_p (zz_pl (S 49) (S 50)) = 1) : qq_E xs (d + 8) 5 [.inr (53, none)] S (some (if zz_fst (fun a : Nat => ∃ j : Nat, j < (S 4 0).toNat ∧ zz_sm (S 49) (S 50) a j) (S 4 0).toNat = -1 then 0 else 1)) (if zz_fst (fun a : Nat => ∃ j : Nat, j < (S 4 0).toNat ∧ zz_sm (S 49) (S 50) a j) (S 4 0).toNat = -1 then S else zz_bl S 2 (zz_fst (fun a : Nat => ∃ j : Nat, j < (S 4 0).toNat ∧ zz_sm (S 49) (S 50) a j) (S 4 0).toNat) (zz_fst (fun j : Nat => zz_sm (S 49) (S 50) (zz_fst (fun a : Nat => ∃ j : Nat, j < (S 4 0).toNat ∧ zz_sm (S 49) (S 50) a j) (S 4 0).toNat).toNat j) (S 4 0).toNat)) := by
  have g1 := zz_pi1.mp hp.1
  have g2 := zz_pi1.mp hp.2
  have Li : ∀ (k9 : Nat) (i b : Int), S 4 0 - b < (k9 : Int) → (0 ≤ i ∧ i < S 4 0 ∧ 0 ≤ b ∧ b ≤ S 4 0 ∧ i < b) → (∀ j : Nat, (j : Int) < i → ¬ ((fun a : Nat => ∃ j : Nat, j < (S 4 0).toNat ∧ zz_sm (S 49) (S 50) a j)) j) → (∀ j : Nat, (j : Int) < b → ¬ ((fun j : Nat => zz_sm (S 49) (S 50) i.toNat j)) j) → (¬ ((fun a : Nat => ∃ j : Nat, j < (S 4 0).toNat ∧ zz_sm (S 49) (S 50) a j)) i.toNat → ∀ u, qq_p xs (d + 7) (mm_mr mm_m5) (mm_mk mm_m5) (fun r S' => r = some (if zz_fst (fun a : Nat => ∃ j : Nat, j < (S 4 0).toNat ∧ zz_sm (S 49) (S 50) a j) (S 4 0).toNat = -1 then 0 else 1) ∧ S' = if zz_fst (fun a : Nat => ∃ j : Nat, j < (S 4 0).toNat ∧ zz_sm (S 49) (S 50) a j) (S 4 0).toNat = -1 then S else zz_bl S 2 (zz_fst (fun a : Nat => ∃ j : Nat, j < (S 4 0).toNat ∧ zz_sm (S 49) (S 50) a j) (S 4 0).toNat) (zz_fst (fun j : Nat => zz_sm (S 49) (S 50) (zz_fst (fun a : Nat => ∃ j : Nat, j < (S 4 0).toNat ∧ zz_sm (S 49) (S 50) a j) (S 4 0).toNat).toNat j) (S 4 0).toNat)) 2 [some (.inr (53, none)), some (.inl (i + 1)), u] [] S) → qq_p xs (d + 7) (mm_mr mm_m5) (mm_mk mm_m5) (fun r S' => r = some (if zz_fst (fun a : Nat => ∃ j : Nat, j < (S 4 0).toNat ∧ zz_sm (S 49) (S 50) a j) (S 4 0).toNat = -1 then 0 else 1) ∧ S' = if zz_fst (fun a : Nat => ∃ j : Nat, j < (S 4 0).toNat ∧ zz_sm (S 49) (S 50) a j) (S 4 0).toNat = -1 then S else zz_bl S 2 (zz_fst (fun a : Nat => ∃ j : Nat, j < (S 4 0).toNat ∧ zz_sm (S 49) (S 50) a j) (S 4 0).toNat) (zz_fst (fun j : Nat => zz_sm (S 49) (S 50) (zz_fst (fun a : Nat => ∃ j : Nat, j < (S 4 0).toNat ∧ zz_sm (S 49) (S 50) a j) (S 4 0).toNat).toNat j) (S 4 0).toNat)) 17 [some (.inr (53, none)), some (.inl i), some (.inl b)] [] (S) := by
    intro k9
    induction k9 with
    | zero =>
      intro i b hm h1 h2 h3 h4
      exfalso
      omega
    | succ k9 ih =>
      intro i b hm h1 h2 h3 h4
      refine qq_fsound hxs (sp_14_ok hxs (d + 0)) [17, 2] 300 ?_
      repeat' first | apply And.intro | intro _ | (simp only [qq_tab]) | (simp only [qq_pl])
      all_goals (
        first
        | omega
        | exact (zz_pin _).1 | exact (zz_pin _).2
        | exact Or.inl trivial
        | exact Or.inr trivial
        | exact hp.1
        | exact hp.2.1
        | (have n0 := g1.1; first | omega | (unfold qq_in; omega))
        | (have n0 := g1.1; have eb : b = S 4 0 := by omega
           exact h4 (fun ⟨j, hj, z⟩ => h3 j (by omega) z) _)
        | (have n0 := g1.1; have bl : b < S 4 0 := by omega
           skip
           first
           | omega
           | (unfold qq_in; omega)
           | (have z9 : zz_sm (S 49) (S 50) i.toNat b.toNat := by ((try simp only [zz_pi0, Classical.not_not] at *); unfold zz_sm; omega)
              have e : zz_fst (fun a : Nat => ∃ j : Nat, j < (S 4 0).toNat ∧ zz_sm (S 49) (S 50) a j) (S 4 0).toNat = (i.toNat : Nat) := zz_fst_at (p := (fun a : Nat => ∃ j : Nat, j < (S 4 0).toNat ∧ zz_sm (S 49) (S 50) a j)) (show ((fun a : Nat => ∃ j : Nat, j < (S 4 0).toNat ∧ zz_sm (S 49) (S 50) a j)) i.toNat from ⟨b.toNat, by omega, z9⟩) (fun j hj => h2 j (by omega)) (by omega)
              have e2 : ((i.toNat : Nat) : Int) = i := by omega
              have e4 : zz_fst (fun j : Nat => zz_sm (S 49) (S 50) i.toNat j) (S 4 0).toNat = (b.toNat : Nat) := zz_fst_at (p := (fun j : Nat => zz_sm (S 49) (S 50) i.toNat j)) z9 (fun j hj => h3 j (by omega)) (by omega)
              have e5 : ((b.toNat : Nat) : Int) = b := by omega
              have e3 : ¬ zz_fst (fun a : Nat => ∃ j : Nat, j < (S 4 0).toNat ∧ zz_sm (S 49) (S 50) a j) (S 4 0).toNat = -1 := by rw [e]; omega
              rw [if_neg e3]
              first | done | (rw [e, Int.toNat_natCast, e4, e2, e5]; done))
           | (refine ih _ _ ?_ ?_ h2 (zz_ext h3 (show ¬ (zz_sm (S 49) (S 50) i.toNat b.toNat) by ((try simp only [zz_pi0, Classical.not_not] at *); unfold zz_sm; omega)) (by omega)) h4 <;> omega)))
  have L : ∀ (k9 : Nat) (i : Int) (u : Option qq_V), S 4 0 - i < (k9 : Int) → (0 ≤ i ∧ i ≤ S 4 0) → (∀ j : Nat, (j : Int) < i → ¬ ((fun a : Nat => ∃ j : Nat, j < (S 4 0).toNat ∧ zz_sm (S 49) (S 50) a j)) j) → qq_p xs (d + 7) (mm_mr mm_m5) (mm_mk mm_m5) (fun r S' => r = some (if zz_fst (fun a : Nat => ∃ j : Nat, j < (S 4 0).toNat ∧ zz_sm (S 49) (S 50) a j) (S 4 0).toNat = -1 then 0 else 1) ∧ S' = if zz_fst (fun a : Nat => ∃ j : Nat, j < (S 4 0).toNat ∧ zz_sm (S 49) (S 50) a j) (S 4 0).toNat = -1 then S else zz_bl S 2 (zz_fst (fun a : Nat => ∃ j : Nat, j < (S 4 0).toNat ∧ zz_sm (S 49) (S 50) a j) (S 4 0).toNat) (zz_fst (fun j : Nat => zz_sm (S 49) (S 50) (zz_fst (fun a : Nat => ∃ j : Nat, j < (S 4 0).toNat ∧ zz_sm (S 49) (S 50) a j) (S 4 0).toNat).toNat j) (S 4 0).toNat)) 2 [some (.inr (53, none)), some (.inl i), u] [] (S) := by
    intro k9
    induction k9 with
    | zero =>
      intro i u hm h1 h2
      exfalso
      omega
    | succ k9 ih =>
      intro i u hm h1 h2
      refine qq_fsound hxs (sp_14_ok hxs (d + 0)) [17, 2] 300 ?_
      repeat' first | apply And.intro | intro _ | (simp only [qq_tab]) | (simp only [qq_pl])
      all_goals (
        first
        | omega
        | exact Or.inl trivial
        | exact Or.inr trivial
        | (have n0 := g1.1; first | omega | (unfold qq_in; omega))
        | (have n0 := g1.1; have ei : i = S 4 0 := by omega
           have e : zz_fst (fun a : Nat => ∃ j : Nat, j < (S 4 0).toNat ∧ zz_sm (S 49) (S 50) a j) (S 4 0).toNat = -1 := zz_fst_no.mpr (fun j hj => h2 j (by omega))
           rw [if_pos e]; done)
        | (have n0 := g1.1
           refine Li (S 4 0 + 1).toNat i (i + 1) ?_ ?_ h2 (fun j hj z => by have := z.1; omega) (fun no u => ih _ u ?_ ?_ (zz_ext h2 no (by omega))) <;> omega))
  have h : qq_p xs (d + 7) (mm_mr mm_m5) (mm_mk mm_m5) (fun r S' => r = some (if zz_fst (fun a : Nat => ∃ j : Nat, j < (S 4 0).toNat ∧ zz_sm (S 49) (S 50) a j) (S 4 0).toNat = -1 then 0 else 1) ∧ S' = if zz_fst (fun a : Nat => ∃ j : Nat, j < (S 4 0).toNat ∧ zz_sm (S 49) (S 50) a j) (S 4 0).toNat = -1 then S else zz_bl S 2 (zz_fst (fun a : Nat => ∃ j : Nat, j < (S 4 0).toNat ∧ zz_sm (S 49) (S 50) a j) (S 4 0).toNat) (zz_fst (fun j : Nat => zz_sm (S 49) (S 50) (zz_fst (fun a : Nat => ∃ j : Nat, j < (S 4 0).toNat ∧ zz_sm (S 49) (S 50) a j) (S 4 0).toNat).toNat j) (S 4 0).toNat)) 0 (qq_ent mm_m5 [.inr (53, none)]) [] S := by
    refine qq_fsound hxs (sp_14_ok hxs (d + 0)) [17, 2] 300 ?_
    repeat' first | apply And.intro | intro _ | (simp only [qq_tab]) | (simp only [qq_pl])
    all_goals (first | omega | (refine L (S 4 0 + 1).toNat 0 _ ?_ ?_ ?_ <;> first | omega | (have := g1.1; omega) | (intro j hj; omega)))
  obtain ⟨r, S', hE, e1, e2⟩ := qq_call_of (y := 5) rfl (Nat.le_of_ble_eq_true rfl) h
  rw [e1, e2] at hE
  exact hE
set_option maxRecDepth 20000 in
theorem f8 {xs : List Int32} (hxs : xs.length ≤ 2048) (d : Nat) (S : qq_S) (hp : zz_p (zz_nb S) = 1 ∧ zz_p (zz_pl (S 49) (S 50)) = 1) : qq_E xs (d + 8) 8 [.inr (53, none)] S (some (if zz_fst (fun a : Nat => ∃ j : Nat, j < (S 4 0).toNat ∧ zz_cov (S 49) (S 50) (S 22) (S 23) a j) (S 4 2).toNat = -1 then 0 else 1)) (if zz_fst (fun a : Nat => ∃ j : Nat, j < (S 4 0).toNat ∧ zz_cov (S 49) (S 50) (S 22) (S 23) a j) (S 4 2).toNat = -1 then S else zz_bl S 5 (zz_fst (fun a : Nat => ∃ j : Nat, j < (S 4 0).toNat ∧ zz_cov (S 49) (S 50) (S 22) (S 23) a j) (S 4 2).toNat) (zz_fst (fun j : Nat => zz_cov (S 49) (S 50) (S 22) (S 23) (zz_fst (fun a : Nat => ∃ j : Nat, j < (S 4 0).toNat ∧ zz_cov (S 49) (S 50) (S 22) (S 23) a j) (S 4 2).toNat).toNat j) (S 4 0).toNat)) := by
  have g1 := zz_pi1.mp hp.1
  have g2 := zz_pi1.mp hp.2
  have Li : ∀ (k9 : Nat) (i b : Int), S 4 0 - b < (k9 : Int) → (0 ≤ i ∧ i < S 4 2 ∧ 0 ≤ b ∧ b ≤ S 4 0) → (∀ j : Nat, (j : Int) < i → ¬ ((fun a : Nat => ∃ j : Nat, j < (S 4 0).toNat ∧ zz_cov (S 49) (S 50) (S 22) (S 23) a j)) j) → (∀ j : Nat, (j : Int) < b → ¬ ((fun j : Nat => zz_cov (S 49) (S 50) (S 22) (S 23) i.toNat j)) j) → (¬ ((fun a : Nat => ∃ j : Nat, j < (S 4 0).toNat ∧ zz_cov (S 49) (S 50) (S 22) (S 23) a j)) i.toNat → ∀ u, qq_p xs (d + 7) (mm_mr mm_m8) (mm_mk mm_m8) (fun r S' => r = some (if zz_fst (fun a : Nat => ∃ j : Nat, j < (S 4 0).toNat ∧ zz_cov (S 49) (S 50) (S 22) (S 23) a j) (S 4 2).toNat = -1 then 0 else 1) ∧ S' = if zz_fst (fun a : Nat => ∃ j : Nat, j < (S 4 0).toNat ∧ zz_cov (S 49) (S 50) (S 22) (S 23) a j) (S 4 2).toNat = -1 then S else zz_bl S 5 (zz_fst (fun a : Nat => ∃ j : Nat, j < (S 4 0).toNat ∧ zz_cov (S 49) (S 50) (S 22) (S 23) a j) (S 4 2).toNat) (zz_fst (fun j : Nat => zz_cov (S 49) (S 50) (S 22) (S 23) (zz_fst (fun a : Nat => ∃ j : Nat, j < (S 4 0).toNat ∧ zz_cov (S 49) (S 50) (S 22) (S 23) a j) (S 4 2).toNat).toNat j) (S 4 0).toNat)) 2 [some (.inr (53, none)), some (.inl (i + 1)), u] [] S) → qq_p xs (d + 7) (mm_mr mm_m8) (mm_mk mm_m8) (fun r S' => r = some (if zz_fst (fun a : Nat => ∃ j : Nat, j < (S 4 0).toNat ∧ zz_cov (S 49) (S 50) (S 22) (S 23) a j) (S 4 2).toNat = -1 then 0 else 1) ∧ S' = if zz_fst (fun a : Nat => ∃ j : Nat, j < (S 4 0).toNat ∧ zz_cov (S 49) (S 50) (S 22) (S 23) a j) (S 4 2).toNat = -1 then S else zz_bl S 5 (zz_fst (fun a : Nat => ∃ j : Nat, j < (S 4 0).toNat ∧ zz_cov (S 49) (S 50) (S 22) (S 23) a j) (S 4 2).toNat) (zz_fst (fun j : Nat => zz_cov (S 49) (S 50) (S 22) (S 23) (zz_fst (fun a : Nat => ∃ j : Nat, j < (S 4 0).toNat ∧ zz_cov (S 49) (S 50) (S 22) (S 23) a j) (S 4 2).toNat).toNat j) (S 4 0).toNat)) 15 [some (.inr (53, none)), some (.inl i), some (.inl b)] [] (S) := by
    intro k9
    induction k9 with
    | zero =>
      intro i b hm h1 h2 h3 h4
      exfalso
      omega
    | succ k9 ih =>
      intro i b hm h1 h2 h3 h4
      refine qq_fsound hxs (sp_14_ok hxs (d + 0)) [15, 2] 300 ?_
      repeat' first | apply And.intro | intro _ | (simp only [qq_tab]) | (simp only [qq_pl])
      all_goals (
        first
        | omega
        | exact (zz_pin _).1 | exact (zz_pin _).2
        | exact Or.inl trivial
        | exact Or.inr trivial
        | exact hp.1
        | exact hp.2.1
        | (have n0 := g1.1; first | omega | (unfold qq_in; omega))
        | (have n0 := g1.1; have eb : b = S 4 0 := by omega
           exact h4 (fun ⟨j, hj, z⟩ => h3 j (by omega) z) _)
        | (have n0 := g1.1; have bl : b < S 4 0 := by omega
           skip
           first
           | omega
           | (unfold qq_in; omega)
           | (have z9 : zz_cov (S 49) (S 50) (S 22) (S 23) i.toNat b.toNat := by ((try simp only [zz_pi0, Classical.not_not] at *); have e9 : ((b.toNat : Nat) : Int) = b := (by omega); unfold zz_cov; rw [e9]; assumption)
              have e : zz_fst (fun a : Nat => ∃ j : Nat, j < (S 4 0).toNat ∧ zz_cov (S 49) (S 50) (S 22) (S 23) a j) (S 4 2).toNat = (i.toNat : Nat) := zz_fst_at (p := (fun a : Nat => ∃ j : Nat, j < (S 4 0).toNat ∧ zz_cov (S 49) (S 50) (S 22) (S 23) a j)) (show ((fun a : Nat => ∃ j : Nat, j < (S 4 0).toNat ∧ zz_cov (S 49) (S 50) (S 22) (S 23) a j)) i.toNat from ⟨b.toNat, by omega, z9⟩) (fun j hj => h2 j (by omega)) (by omega)
              have e2 : ((i.toNat : Nat) : Int) = i := by omega
              have e4 : zz_fst (fun j : Nat => zz_cov (S 49) (S 50) (S 22) (S 23) i.toNat j) (S 4 0).toNat = (b.toNat : Nat) := zz_fst_at (p := (fun j : Nat => zz_cov (S 49) (S 50) (S 22) (S 23) i.toNat j)) z9 (fun j hj => h3 j (by omega)) (by omega)
              have e5 : ((b.toNat : Nat) : Int) = b := by omega
              have e3 : ¬ zz_fst (fun a : Nat => ∃ j : Nat, j < (S 4 0).toNat ∧ zz_cov (S 49) (S 50) (S 22) (S 23) a j) (S 4 2).toNat = -1 := by rw [e]; omega
              rw [if_neg e3]
              first | done | (rw [e, Int.toNat_natCast, e4, e2, e5]; done))
           | (refine ih _ _ ?_ ?_ h2 (zz_ext h3 (show ¬ (zz_cov (S 49) (S 50) (S 22) (S 23) i.toNat b.toNat) by ((try simp only [zz_pi0, Classical.not_not] at *); have e9 : ((b.toNat : Nat) : Int) = b := (by omega); unfold zz_cov; rw [e9]; assumption)) (by omega)) h4 <;> omega)))
  have L : ∀ (k9 : Nat) (i : Int) (u : Option qq_V), S 4 2 - i < (k9 : Int) → (0 ≤ i ∧ i ≤ S 4 2) → (∀ j : Nat, (j : Int) < i → ¬ ((fun a : Nat => ∃ j : Nat, j < (S 4 0).toNat ∧ zz_cov (S 49) (S 50) (S 22) (S 23) a j)) j) → qq_p xs (d + 7) (mm_mr mm_m8) (mm_mk mm_m8) (fun r S' => r = some (if zz_fst (fun a : Nat => ∃ j : Nat, j < (S 4 0).toNat ∧ zz_cov (S 49) (S 50) (S 22) (S 23) a j) (S 4 2).toNat = -1 then 0 else 1) ∧ S' = if zz_fst (fun a : Nat => ∃ j : Nat, j < (S 4 0).toNat ∧ zz_cov (S 49) (S 50) (S 22) (S 23) a j) (S 4 2).toNat = -1 then S else zz_bl S 5 (zz_fst (fun a : Nat => ∃ j : Nat, j < (S 4 0).toNat ∧ zz_cov (S 49) (S 50) (S 22) (S 23) a j) (S 4 2).toNat) (zz_fst (fun j : Nat => zz_cov (S 49) (S 50) (S 22) (S 23) (zz_fst (fun a : Nat => ∃ j : Nat, j < (S 4 0).toNat ∧ zz_cov (S 49) (S 50) (S 22) (S 23) a j) (S 4 2).toNat).toNat j) (S 4 0).toNat)) 2 [some (.inr (53, none)), some (.inl i), u] [] (S) := by
    intro k9
    induction k9 with
    | zero =>
      intro i u hm h1 h2
      exfalso
      omega
    | succ k9 ih =>
      intro i u hm h1 h2
      refine qq_fsound hxs (sp_14_ok hxs (d + 0)) [15, 2] 300 ?_
      repeat' first | apply And.intro | intro _ | (simp only [qq_tab]) | (simp only [qq_pl])
      all_goals (
        first
        | omega
        | exact Or.inl trivial
        | exact Or.inr trivial
        | (have n0 := g1.1; first | omega | (unfold qq_in; omega))
        | (have n0 := g1.1; have ei : i = S 4 2 := by omega
           have e : zz_fst (fun a : Nat => ∃ j : Nat, j < (S 4 0).toNat ∧ zz_cov (S 49) (S 50) (S 22) (S 23) a j) (S 4 2).toNat = -1 := zz_fst_no.mpr (fun j hj => h2 j (by omega))
           rw [if_pos e]; done)
        | (have n0 := g1.1
           refine Li (S 4 0 + 1).toNat i (0) ?_ ?_ h2 (fun j hj => by omega) (fun no u => ih _ u ?_ ?_ (zz_ext h2 no (by omega))) <;> omega))
  have h : qq_p xs (d + 7) (mm_mr mm_m8) (mm_mk mm_m8) (fun r S' => r = some (if zz_fst (fun a : Nat => ∃ j : Nat, j < (S 4 0).toNat ∧ zz_cov (S 49) (S 50) (S 22) (S 23) a j) (S 4 2).toNat = -1 then 0 else 1) ∧ S' = if zz_fst (fun a : Nat => ∃ j : Nat, j < (S 4 0).toNat ∧ zz_cov (S 49) (S 50) (S 22) (S 23) a j) (S 4 2).toNat = -1 then S else zz_bl S 5 (zz_fst (fun a : Nat => ∃ j : Nat, j < (S 4 0).toNat ∧ zz_cov (S 49) (S 50) (S 22) (S 23) a j) (S 4 2).toNat) (zz_fst (fun j : Nat => zz_cov (S 49) (S 50) (S 22) (S 23) (zz_fst (fun a : Nat => ∃ j : Nat, j < (S 4 0).toNat ∧ zz_cov (S 49) (S 50) (S 22) (S 23) a j) (S 4 2).toNat).toNat j) (S 4 0).toNat)) 0 (qq_ent mm_m8 [.inr (53, none)]) [] S := by
    refine qq_fsound hxs (sp_14_ok hxs (d + 0)) [15, 2] 300 ?_
    repeat' first | apply And.intro | intro _ | (simp only [qq_tab]) | (simp only [qq_pl])
    all_goals (first | omega | (refine L (S 4 2 + 1).toNat 0 _ ?_ ?_ ?_ <;> first | omega | (have := g1.1; omega) | (intro j hj; omega)))
  obtain ⟨r, S', hE, e1, e2⟩ := qq_call_of (y := 8) rfl (Nat.le_of_ble_eq_true rfl) h
  rw [e1, e2] at hE
  exact hE
set_option maxRecDepth 20000 in
theorem f10 {xs : List Int32} (hxs : xs.length ≤ 2048) (d : Nat) (S : qq_S) (hp : zz_p (zz_nb S) = 1 ∧ zz_p (zz_pl (S 49) (S 50)) = 1) : qq_E xs (d + 8) 10 [.inr (53, none)] S (some (if zz_fst (fun a : Nat => ∃ j : Nat, j < (S 4 2).toNat ∧ zz_cx (S 49) (S 50) (S 22) (S 23) a j) (S 4 2).toNat = -1 then 0 else 1)) (if zz_fst (fun a : Nat => ∃ j : Nat, j < (S 4 2).toNat ∧ zz_cx (S 49) (S 50) (S 22) (S 23) a j) (S 4 2).toNat = -1 then S else zz_bl S 6 (zz_fst (fun a : Nat => ∃ j : Nat, j < (S 4 2).toNat ∧ zz_cx (S 49) (S 50) (S 22) (S 23) a j) (S 4 2).toNat) (zz_fst (fun j : Nat => zz_cx (S 49) (S 50) (S 22) (S 23) (zz_fst (fun a : Nat => ∃ j : Nat, j < (S 4 2).toNat ∧ zz_cx (S 49) (S 50) (S 22) (S 23) a j) (S 4 2).toNat).toNat j) (S 4 2).toNat)) := by
  have g1 := zz_pi1.mp hp.1
  have g2 := zz_pi1.mp hp.2
  have Li : ∀ (k9 : Nat) (i b : Int), S 4 2 - b < (k9 : Int) → (0 ≤ i ∧ i < S 4 2 ∧ 0 ≤ b ∧ b ≤ S 4 2 ∧ i < b) → (∀ j : Nat, (j : Int) < i → ¬ ((fun a : Nat => ∃ j : Nat, j < (S 4 2).toNat ∧ zz_cx (S 49) (S 50) (S 22) (S 23) a j)) j) → (∀ j : Nat, (j : Int) < b → ¬ ((fun j : Nat => zz_cx (S 49) (S 50) (S 22) (S 23) i.toNat j)) j) → (¬ ((fun a : Nat => ∃ j : Nat, j < (S 4 2).toNat ∧ zz_cx (S 49) (S 50) (S 22) (S 23) a j)) i.toNat → ∀ u, qq_p xs (d + 7) (mm_mr mm_m10) (mm_mk mm_m10) (fun r S' => r = some (if zz_fst (fun a : Nat => ∃ j : Nat, j < (S 4 2).toNat ∧ zz_cx (S 49) (S 50) (S 22) (S 23) a j) (S 4 2).toNat = -1 then 0 else 1) ∧ S' = if zz_fst (fun a : Nat => ∃ j : Nat, j < (S 4 2).toNat ∧ zz_cx (S 49) (S 50) (S 22) (S 23) a j) (S 4 2).toNat = -1 then S else zz_bl S 6 (zz_fst (fun a : Nat => ∃ j : Nat, j < (S 4 2).toNat ∧ zz_cx (S 49) (S 50) (S 22) (S 23) a j) (S 4 2).toNat) (zz_fst (fun j : Nat => zz_cx (S 49) (S 50) (S 22) (S 23) (zz_fst (fun a : Nat => ∃ j : Nat, j < (S 4 2).toNat ∧ zz_cx (S 49) (S 50) (S 22) (S 23) a j) (S 4 2).toNat).toNat j) (S 4 2).toNat)) 2 [some (.inr (53, none)), some (.inl (i + 1)), u] [] S) → qq_p xs (d + 7) (mm_mr mm_m10) (mm_mk mm_m10) (fun r S' => r = some (if zz_fst (fun a : Nat => ∃ j : Nat, j < (S 4 2).toNat ∧ zz_cx (S 49) (S 50) (S 22) (S 23) a j) (S 4 2).toNat = -1 then 0 else 1) ∧ S' = if zz_fst (fun a : Nat => ∃ j : Nat, j < (S 4 2).toNat ∧ zz_cx (S 49) (S 50) (S 22) (S 23) a j) (S 4 2).toNat = -1 then S else zz_bl S 6 (zz_fst (fun a : Nat => ∃ j : Nat, j < (S 4 2).toNat ∧ zz_cx (S 49) (S 50) (S 22) (S 23) a j) (S 4 2).toNat) (zz_fst (fun j : Nat => zz_cx (S 49) (S 50) (S 22) (S 23) (zz_fst (fun a : Nat => ∃ j : Nat, j < (S 4 2).toNat ∧ zz_cx (S 49) (S 50) (S 22) (S 23) a j) (S 4 2).toNat).toNat j) (S 4 2).toNat)) 17 [some (.inr (53, none)), some (.inl i), some (.inl b)] [] (S) := by
    intro k9
    induction k9 with
    | zero =>
      intro i b hm h1 h2 h3 h4
      exfalso
      omega
    | succ k9 ih =>
      intro i b hm h1 h2 h3 h4
      refine qq_fsound hxs (sp_14_ok hxs (d + 0)) [17, 2] 300 ?_
      repeat' first | apply And.intro | intro _ | (simp only [qq_tab]) | (simp only [qq_pl])
      all_goals (
        first
        | omega
        | exact (zz_pin _).1 | exact (zz_pin _).2
        | exact Or.inl trivial
        | exact Or.inr trivial
        | exact hp.1
        | exact hp.2.1
        | (have n0 := g1.1; first | omega | (unfold qq_in; omega))
        | (have n0 := g1.1; have eb : b = S 4 2 := by omega
           exact h4 (fun ⟨j, hj, z⟩ => h3 j (by omega) z) _)
        | (have n0 := g1.1; have bl : b < S 4 2 := by omega
           have n1 := g1.2.1 i.toNat (by omega); have n2 := g1.2.1 b.toNat (by omega)
           first
           | omega
           | (unfold qq_in; omega)
           | (have z9 : zz_cx (S 49) (S 50) (S 22) (S 23) i.toNat b.toNat := by ((try simp only [zz_pi0, Classical.not_not] at *); unfold zz_cx; first | exact ⟨by omega, by assumption⟩ | (intro z; exact absurd z.2 (by assumption)))
              have e : zz_fst (fun a : Nat => ∃ j : Nat, j < (S 4 2).toNat ∧ zz_cx (S 49) (S 50) (S 22) (S 23) a j) (S 4 2).toNat = (i.toNat : Nat) := zz_fst_at (p := (fun a : Nat => ∃ j : Nat, j < (S 4 2).toNat ∧ zz_cx (S 49) (S 50) (S 22) (S 23) a j)) (show ((fun a : Nat => ∃ j : Nat, j < (S 4 2).toNat ∧ zz_cx (S 49) (S 50) (S 22) (S 23) a j)) i.toNat from ⟨b.toNat, by omega, z9⟩) (fun j hj => h2 j (by omega)) (by omega)
              have e2 : ((i.toNat : Nat) : Int) = i := by omega
              have e4 : zz_fst (fun j : Nat => zz_cx (S 49) (S 50) (S 22) (S 23) i.toNat j) (S 4 2).toNat = (b.toNat : Nat) := zz_fst_at (p := (fun j : Nat => zz_cx (S 49) (S 50) (S 22) (S 23) i.toNat j)) z9 (fun j hj => h3 j (by omega)) (by omega)
              have e5 : ((b.toNat : Nat) : Int) = b := by omega
              have e3 : ¬ zz_fst (fun a : Nat => ∃ j : Nat, j < (S 4 2).toNat ∧ zz_cx (S 49) (S 50) (S 22) (S 23) a j) (S 4 2).toNat = -1 := by rw [e]; omega
              rw [if_neg e3]
              first | done | (rw [e, Int.toNat_natCast, e4, e2, e5]; done))
           | (refine ih _ _ ?_ ?_ h2 (zz_ext h3 (show ¬ (zz_cx (S 49) (S 50) (S 22) (S 23) i.toNat b.toNat) by ((try simp only [zz_pi0, Classical.not_not] at *); unfold zz_cx; first | exact ⟨by omega, by assumption⟩ | (intro z; exact absurd z.2 (by assumption)))) (by omega)) h4 <;> omega)))
  have L : ∀ (k9 : Nat) (i : Int) (u : Option qq_V), S 4 2 - i < (k9 : Int) → (0 ≤ i ∧ i ≤ S 4 2) → (∀ j : Nat, (j : Int) < i → ¬ ((fun a : Nat => ∃ j : Nat, j < (S 4 2).toNat ∧ zz_cx (S 49) (S 50) (S 22) (S 23) a j)) j) → qq_p xs (d + 7) (mm_mr mm_m10) (mm_mk mm_m10) (fun r S' => r = some (if zz_fst (fun a : Nat => ∃ j : Nat, j < (S 4 2).toNat ∧ zz_cx (S 49) (S 50) (S 22) (S 23) a j) (S 4 2).toNat = -1 then 0 else 1) ∧ S' = if zz_fst (fun a : Nat => ∃ j : Nat, j < (S 4 2).toNat ∧ zz_cx (S 49) (S 50) (S 22) (S 23) a j) (S 4 2).toNat = -1 then S else zz_bl S 6 (zz_fst (fun a : Nat => ∃ j : Nat, j < (S 4 2).toNat ∧ zz_cx (S 49) (S 50) (S 22) (S 23) a j) (S 4 2).toNat) (zz_fst (fun j : Nat => zz_cx (S 49) (S 50) (S 22) (S 23) (zz_fst (fun a : Nat => ∃ j : Nat, j < (S 4 2).toNat ∧ zz_cx (S 49) (S 50) (S 22) (S 23) a j) (S 4 2).toNat).toNat j) (S 4 2).toNat)) 2 [some (.inr (53, none)), some (.inl i), u] [] (S) := by
    intro k9
    induction k9 with
    | zero =>
      intro i u hm h1 h2
      exfalso
      omega
    | succ k9 ih =>
      intro i u hm h1 h2
      refine qq_fsound hxs (sp_14_ok hxs (d + 0)) [17, 2] 300 ?_
      repeat' first | apply And.intro | intro _ | (simp only [qq_tab]) | (simp only [qq_pl])
      all_goals (
        first
        | omega
        | exact Or.inl trivial
        | exact Or.inr trivial
        | (have n0 := g1.1; first | omega | (unfold qq_in; omega))
        | (have n0 := g1.1; have ei : i = S 4 2 := by omega
           have e : zz_fst (fun a : Nat => ∃ j : Nat, j < (S 4 2).toNat ∧ zz_cx (S 49) (S 50) (S 22) (S 23) a j) (S 4 2).toNat = -1 := zz_fst_no.mpr (fun j hj => h2 j (by omega))
           rw [if_pos e]; done)
        | (have n0 := g1.1
           refine Li (S 4 2 + 1).toNat i (i + 1) ?_ ?_ h2 (fun j hj z => by have := z.1; omega) (fun no u => ih _ u ?_ ?_ (zz_ext h2 no (by omega))) <;> omega))
  have h : qq_p xs (d + 7) (mm_mr mm_m10) (mm_mk mm_m10) (fun r S' => r = some (if zz_fst (fun a : Nat => ∃ j : Nat, j < (S 4 2).toNat ∧ zz_cx (S 49) (S 50) (S 22) (S 23) a j) (S 4 2).toNat = -1 then 0 else 1) ∧ S' = if zz_fst (fun a : Nat => ∃ j : Nat, j < (S 4 2).toNat ∧ zz_cx (S 49) (S 50) (S 22) (S 23) a j) (S 4 2).toNat = -1 then S else zz_bl S 6 (zz_fst (fun a : Nat => ∃ j : Nat, j < (S 4 2).toNat ∧ zz_cx (S 49) (S 50) (S 22) (S 23) a j) (S 4 2).toNat) (zz_fst (fun j : Nat => zz_cx (S 49) (S 50) (S 22) (S 23) (zz_fst (fun a : Nat => ∃ j : Nat, j < (S 4 2).toNat ∧ zz_cx (S 49) (S 50) (S 22) (S 23) a j) (S 4 2).toNat).toNat j) (S 4 2).toNat)) 0 (qq_ent mm_m10 [.inr (53, none)]) [] S := by
    refine qq_fsound hxs (sp_14_ok hxs (d + 0)) [17, 2] 300 ?_
    repeat' first | apply And.intro | intro _ | (simp only [qq_tab]) | (simp only [qq_pl])
    all_goals (first | omega | (refine L (S 4 2 + 1).toNat 0 _ ?_ ?_ ?_ <;> first | omega | (have := g1.1; omega) | (intro j hj; omega)))
  obtain ⟨r, S', hE, e1, e2⟩ := qq_call_of (y := 10) rfl (Nat.le_of_ble_eq_true rfl) h
  rw [e1, e2] at hE
  exact hE
set_option maxRecDepth 20000 in
theorem f11 {xs : List Int32} (hxs : xs.length ≤ 2048) (d : Nat) (S : qq_S) (hp : zz_p (zz_nb S) = 1 ∧ zz_p (zz_pl (S 49) (S 50)) = 1 ∧ qq_in (S 52 3)) : qq_E xs (d + 8) 11 [.inr (53, none)] S (some (if zz_fst (fun j : Nat => zz_tw (S 49) (S 50) (S 25) (fun s => S (26 + 1 + s)) j) (S 4 0).toNat = -1 then 0 else 1)) (if zz_fst (fun j : Nat => zz_tw (S 49) (S 50) (S 25) (fun s => S (26 + 1 + s)) j) (S 4 0).toNat = -1 then S else zz_bl S 7 (zz_fst (fun j : Nat => zz_tw (S 49) (S 50) (S 25) (fun s => S (26 + 1 + s)) j) (S 4 0).toNat) (-1)) := by
  have g1 := zz_pi1.mp hp.1
  have g2 := zz_pi1.mp hp.2.1
  have L : ∀ (k9 : Nat) (i : Int), S 4 0 - i < (k9 : Int) → (0 ≤ i ∧ i ≤ S 4 0) → (∀ j : Nat, (j : Int) < i → ¬ ((fun j : Nat => zz_tw (S 49) (S 50) (S 25) (fun s => S (26 + 1 + s)) j)) j) → qq_p xs (d + 7) (mm_mr mm_m11) (mm_mk mm_m11) (fun r S' => r = some (if zz_fst (fun j : Nat => zz_tw (S 49) (S 50) (S 25) (fun s => S (26 + 1 + s)) j) (S 4 0).toNat = -1 then 0 else 1) ∧ S' = if zz_fst (fun j : Nat => zz_tw (S 49) (S 50) (S 25) (fun s => S (26 + 1 + s)) j) (S 4 0).toNat = -1 then S else zz_bl S 7 (zz_fst (fun j : Nat => zz_tw (S 49) (S 50) (S 25) (fun s => S (26 + 1 + s)) j) (S 4 0).toNat) (-1)) 2 [some (.inr (53, none)), some (.inl i)] [] (S) := by
    intro k9
    induction k9 with
    | zero =>
      intro i hm h1 h2
      exfalso
      omega
    | succ k9 ih =>
      intro i hm h1 h2
      refine qq_fsound hxs (sp_14_ok hxs (d + 0)) [2] 300 ?_
      repeat' first | apply And.intro | intro _ | (simp only [qq_tab]) | (simp only [qq_pl])
      all_goals (
        first
        | omega
        | exact (zz_pin _).1 | exact (zz_pin _).2 | exact (zz_bin _).1 | exact (zz_bin _).2
        | exact Or.inl trivial
        | exact Or.inr trivial
        | exact hp.1
        | exact hp.2.1
        | exact hp.2.2.1
        | exact hp.2.2.2
        | (have n0 := g1.1; first | omega | (unfold qq_in; omega))
        | (have n0 := g1.1; have ei : i = S 4 0 := by omega
           have e : zz_fst (fun j : Nat => zz_tw (S 49) (S 50) (S 25) (fun s => S (26 + 1 + s)) j) (S 4 0).toNat = -1 := zz_fst_no.mpr (fun j hj => h2 j (by omega))
           rw [if_pos e]; done)
        | (have n0 := g1.1; have il : i < S 4 0 := by omega
           skip
           first
           | omega
           | (unfold qq_in; omega)
           | (have e : zz_fst (fun j : Nat => zz_tw (S 49) (S 50) (S 25) (fun s => S (26 + 1 + s)) j) (S 4 0).toNat = (i.toNat : Nat) := zz_fst_at (p := (fun j : Nat => zz_tw (S 49) (S 50) (S 25) (fun s => S (26 + 1 + s)) j)) (show zz_tw (S 49) (S 50) (S 25) (fun s => S (26 + 1 + s)) i.toNat by ((try simp only [zz_pi0, Classical.not_not] at *); unfold zz_tw; first | assumption | exact fun z => z (by assumption))) (fun j hj => h2 j (by omega)) (by omega)
              have e2 : ((i.toNat : Nat) : Int) = i := by omega
              have e3 : ¬ zz_fst (fun j : Nat => zz_tw (S 49) (S 50) (S 25) (fun s => S (26 + 1 + s)) j) (S 4 0).toNat = -1 := by rw [e]; omega
              rw [if_neg e3]
              first | done | (rw [e, e2]; done))
           | (refine ih _ ?_ ?_ (zz_ext h2 (show ¬ (zz_tw (S 49) (S 50) (S 25) (fun s => S (26 + 1 + s)) i.toNat) by ((try simp only [zz_pi0, Classical.not_not] at *); unfold zz_tw; first | assumption | exact fun z => z (by assumption))) (by omega)) <;> omega)))
  have h : qq_p xs (d + 7) (mm_mr mm_m11) (mm_mk mm_m11) (fun r S' => r = some (if zz_fst (fun j : Nat => zz_tw (S 49) (S 50) (S 25) (fun s => S (26 + 1 + s)) j) (S 4 0).toNat = -1 then 0 else 1) ∧ S' = if zz_fst (fun j : Nat => zz_tw (S 49) (S 50) (S 25) (fun s => S (26 + 1 + s)) j) (S 4 0).toNat = -1 then S else zz_bl S 7 (zz_fst (fun j : Nat => zz_tw (S 49) (S 50) (S 25) (fun s => S (26 + 1 + s)) j) (S 4 0).toNat) (-1)) 0 (qq_ent mm_m11 [.inr (53, none)]) [] S := by
    refine qq_fsound hxs (sp_14_ok hxs (d + 0)) [2] 300 ?_
    repeat' first | apply And.intro | intro _ | (simp only [qq_tab]) | (simp only [qq_pl])
    all_goals (first | omega | (refine L (S 4 0 + 1).toNat 0 ?_ ?_ ?_ <;> first | omega | (have := g1.1; omega) | (intro j hj; omega)))
  obtain ⟨r, S', hE, e1, e2⟩ := qq_call_of (y := 11) rfl (Nat.le_of_ble_eq_true rfl) h
  rw [e1, e2] at hE
  exact hE
