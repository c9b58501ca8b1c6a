set_option maxRecDepth 20000 in
theorem f26 {xs : List Int32} (hxs : xs.length ≤ 2048) (d : Nat) (S : qq_S) (s : Int) (k : Int) (hp : (0 ≤ s ∧ s < 10 ∧ 0 ≤ k ∧ k < 8) ∧ (0 ≤ S 95 s.toNat ∧ S 95 s.toNat ≤ 12)) : qq_E xs (d + 1) 26 [.inr (94, none), .inl s, .inl k] S (none) (zz_lay S s.toNat k) := by
  have h : qq_p xs (d + 0) (mm_mr mm_m26) (mm_mk mm_m26) (fun r S' => r = none ∧ S' = zz_lay S s.toNat k) 0 (qq_ent mm_m26 [.inr (94, none), .inl s, .inl k]) [] S := by
    refine qq_fsound hxs (sp_0_ok hxs (d + 0)) [] 300 ?_
    repeat' first | apply And.intro | intro _ | (simp only [qq_tab]) | (simp only [qq_pl])
    all_goals (
      first
      | omega
      | (simp (disch := decide) only [qq_ueq]; omega)
      | (simp (disch := decide) only [qq_ueq, qq_us]
         unfold zz_lay zz_nx zz_ny
         grind))
  obtain ⟨r, S', hE, e1, e2⟩ := qq_call_of (y := 26) rfl (Nat.le_of_ble_eq_true rfl) h
  rw [e1, e2] at hE
  exact hE
noncomputable def sp_36 : qq_P := fun y as S => match y, as with
  | 29, [.inr (94, none), .inl s, .inl a, .inl b] => some ((0 ≤ s ∧ s < 10 ∧ 0 ≤ a ∧ a < 10 ∧ 0 ≤ b ∧ b < 10) ∧ zz_p (zz_pl (S 49) (S 50)) = 1 ∧ zz_p (zz_bn S s.toNat) = 1, some (zz_p (zz_oe (S 98 s.toNat) (S 99 s.toNat) (S 100 s.toNat) (4 * S 49 a.toNat) (4 * S 50 a.toNat) (4 * S 49 b.toNat) (4 * S 50 b.toNat))), S)
  | 26, [.inr (94, none), .inl s, .inl k] => some ((0 ≤ s ∧ s < 10 ∧ 0 ≤ k ∧ k < 8) ∧ (0 ≤ S 95 s.toNat ∧ S 95 s.toNat ≤ 12), none, zz_lay S s.toNat k)
  | _, _ => sp_35 y as S
theorem sp_36_ok {xs : List Int32} (hxs : xs.length ≤ 2048) (d : Nat) : qq_ok xs (d + 24) sp_36 := by
  intro y as S pre r S2 h hp
  unfold sp_36 at h
  split at h
  · cases h; exact f29 hxs (d + 0) S _ _ _ hp
  · cases h; exact f26 hxs (d + 23) S _ _ hp
  · exact sp_35_ok hxs (d + 1) y as S pre r S2 h hp
theorem zz_ob1 {n E s : Nat} {A B C : Nat → Prop} (h : ¬ zz_fst A n = -1) : zz_ob n E s A B C = zz_fst A n := if_pos h
theorem zz_ob2 {n E s : Nat} {A B C : Nat → Prop} (h1 : zz_fst A n = -1) (h : ¬ zz_fst B E = -1) : zz_ob n E s A B C = 100 + zz_fst B E := by
  unfold zz_ob
  rw [if_neg (not_not_intro h1), if_pos h]
theorem zz_ob3 {n E s : Nat} {A B C : Nat → Prop} (h1 : zz_fst A n = -1) (h2 : zz_fst B E = -1) (h : ¬ zz_fst C s = -1) : zz_ob n E s A B C = 200 + zz_fst C s := by
  unfold zz_ob
  rw [if_neg (not_not_intro h1), if_neg (not_not_intro h2), if_pos h]
theorem zz_ob0 {n E s : Nat} {A B C : Nat → Prop} (h1 : zz_fst A n = -1) (h2 : zz_fst B E = -1) (h : zz_fst C s = -1) : zz_ob n E s A B C = -1 := by
  unfold zz_ob
  rw [if_neg (not_not_intro h1), if_neg (not_not_intro h2), if_neg (not_not_intro h)]
theorem zz_ob_c {n E s : Nat} {A B C A' B' C' : Nat → Prop} (hA : ∀ j, j < n → (A j ↔ A' j)) (hB : ∀ j, j < E → (B j ↔ B' j)) (hC : ∀ j, j < s → (C j ↔ C' j)) : zz_ob n E s A B C = zz_ob n E s A' B' C' := by
  unfold zz_ob
  rw [zz_fst_c hA, zz_fst_c hB, zz_fst_c hC]
theorem zz_ob_bd {n E s : Nat} {A B C : Nat → Prop} (hn : n ≤ 10) (hE : E ≤ 45) (hs : s ≤ 10) : -1 ≤ zz_ob n E s A B C ∧ zz_ob n E s A B C ≤ 300 := by
  have b1 := zz_fst_bd A n
  have b2 := zz_fst_bd B E
  have b3 := zz_fst_bd C s
  unfold zz_ob
  repeat' split
  all_goals omega
set_option maxRecDepth 20000 in
theorem f27 {xs : List Int32} (hxs : xs.length ≤ 2048) (d : Nat) (S : qq_S) (s : Int) (hp : (0 ≤ s ∧ s < S 4 0) ∧ zz_p (zz_nb S) = 1 ∧ zz_p (zz_pl (S 49) (S 50)) = 1 ∧ zz_p (zz_nm S s.toNat) = 1) : qq_E xs (d + 25) 27 [.inr (94, none), .inl s] S (some (zz_cO S s.toNat)) (S) := by
  have g1 := zz_pi1.mp hp.2.1
  have g2 := zz_pi1.mp hp.2.2.1
  have g3 := zz_pi1.mp hp.2.2.2
  have n0 := g1.1
  have gs := g3.1
  unfold zz_bn at gs
  have L3 : ∀ (k9 : Nat) (i : Int), s - i < (k9 : Int) → (0 ≤ i ∧ i ≤ s) → (∀ j : Nat, (j : Int) < i → ¬ (zz_cC S s.toNat) j) → (zz_fst (zz_cA S s.toNat) (S 4 0).toNat = -1) → (zz_fst (zz_cB S s.toNat) (S 4 2).toNat = -1) → qq_p xs (d + 24) (mm_mr mm_m27) (mm_mk mm_m27) (fun r S' => r = some (zz_cO S s.toNat) ∧ S' = S) 123 [some (.inr (94, none)), some (.inl s), some (.inl i)] [] (S) := by
    intro k9
    induction k9 with
    | zero =>
      intro i hm h1 h2 kA kB
      exfalso
      omega
    | succ k9 ih =>
      intro i hm h1 h2 kA kB
      refine qq_fsound hxs (sp_36_ok hxs (d + 0)) [123, 73, 2] 300 ?_
      repeat' first | apply And.intro | intro _ | (simp only [qq_tab]) | (simp only [qq_pl])
      all_goals (
        (first
         | omega
         | exact (zz_pin _).1
         | exact (zz_pin _).2
         | exact hp.2.1
         | exact hp.2.2.1
         | exact zz_p1 g3.1
         | (have ei : i = s := by omega
            have eK : zz_fst (zz_cC S s.toNat) s.toNat = -1 := zz_fst_no.mpr (fun j hj => h2 j (by omega))
            exact congrArg some (show (-1 : Int) = zz_cO S s.toNat from (zz_ob0 kA kB eK).symm))
         | (have il : i < s := by omega
            have t1 := g3.2 i.toNat (by omega); have t2 := t1.2; unfold zz_bn at t2
            first
            | omega
            | (have e : zz_fst (zz_cC S s.toNat) s.toNat = (i.toNat : Nat) := zz_fst_at (p := (zz_cC S s.toNat)) (show (zz_cC S s.toNat) i.toNat by ((try simp only [zz_pi0, Classical.not_not] at *); unfold zz_cC; exact ⟨by assumption, by assumption, by omega, by omega⟩)) (fun j hj => h2 j (by omega)) (by omega)
               have e2 : ((i.toNat : Nat) : Int) = i := by omega
               have ev := zz_ob3 (s := s.toNat) kA kB (by rw [e]; omega)
               refine congrArg some ?_
               unfold zz_cO
               rw [ev, e, e2])
            | (refine ih _ (by omega) (by omega) (zz_ext h2 (show ¬ (zz_cC S s.toNat) i.toNat by ((try simp only [zz_pi0, Classical.not_not] at *); unfold zz_cC; grind)) (by omega)) kA kB))))
  have L2 : ∀ (k9 : Nat) (i : Int), S 4 2 - i < (k9 : Int) → (0 ≤ i ∧ i ≤ S 4 2) → (∀ j : Nat, (j : Int) < i → ¬ (zz_cB S s.toNat) j) → (zz_fst (zz_cA S s.toNat) (S 4 0).toNat = -1) → qq_p xs (d + 24) (mm_mr mm_m27) (mm_mk mm_m27) (fun r S' => r = some (zz_cO S s.toNat) ∧ S' = S) 73 [some (.inr (94, none)), some (.inl s), some (.inl i)] [] (S) := by
    intro k9
    induction k9 with
    | zero =>
      intro i hm h1 h2 kA
      exfalso
      omega
    | succ k9 ih =>
      intro i hm h1 h2 kA
      refine qq_fsound hxs (sp_36_ok hxs (d + 0)) [123, 73, 2] 300 ?_
      repeat' first | apply And.intro | intro _ | (simp only [qq_tab]) | (simp only [qq_pl])
      all_goals (
        (first
         | omega
         | exact (zz_pin _).1
         | exact (zz_pin _).2
         | exact hp.2.1
         | exact hp.2.2.1
         | exact zz_p1 g3.1
         | (have ei : i = S 4 2 := by omega
            have eK : zz_fst (zz_cB S s.toNat) (S 4 2).toNat = -1 := zz_fst_no.mpr (fun j hj => h2 j (by omega))
            exact L3 (s + 1).toNat 0 (by omega) (by omega) (fun j hj => by omega) kA eK)
         | (have il : i < S 4 2 := by omega
            have n1 := g1.2.1 i.toNat (by omega)
            first
            | omega
            | (have e : zz_fst (zz_cB S s.toNat) (S 4 2).toNat = (i.toNat : Nat) := zz_fst_at (p := (zz_cB S s.toNat)) (show (zz_cB S s.toNat) i.toNat by ((try simp only [zz_pi0, Classical.not_not] at *); unfold zz_cB; assumption)) (fun j hj => h2 j (by omega)) (by omega)
               have e2 : ((i.toNat : Nat) : Int) = i := by omega
               have ev := zz_ob2 (s := s.toNat) (C := (zz_cC S s.toNat)) kA (by rw [e]; omega)
               refine congrArg some ?_
               unfold zz_cO
               rw [ev, e, e2])
            | (refine ih _ (by omega) (by omega) (zz_ext h2 (show ¬ (zz_cB S s.toNat) i.toNat by ((try simp only [zz_pi0, Classical.not_not] at *); unfold zz_cB; assumption)) (by omega)) kA))))
  have L1 : ∀ (k9 : Nat) (i : Int), S 4 0 - i < (k9 : Int) → (0 ≤ i ∧ i ≤ S 4 0) → (∀ j : Nat, (j : Int) < i → ¬ (zz_cA S s.toNat) j) → qq_p xs (d + 24) (mm_mr mm_m27) (mm_mk mm_m27) (fun r S' => r = some (zz_cO S s.toNat) ∧ S' = S) 2 [some (.inr (94, none)), some (.inl s), some (.inl i)] [] (S) := by
    intro k9
    induction k9 with
    | zero =>
      intro i hm h1 h2
      exfalso
      omega
    | succ k9 ih =>
      intro i hm h1 h2
      refine qq_fsound hxs (sp_36_ok hxs (d + 0)) [123, 73, 2] 300 ?_
      repeat' first | apply And.intro | intro _ | (simp only [qq_tab]) | (simp only [qq_pl])
      all_goals (
        (first
         | omega
         | exact (zz_pin _).1
         | exact (zz_pin _).2
         | exact hp.2.1
         | exact hp.2.2.1
         | exact zz_p1 g3.1
         | (have ei : i = S 4 0 := by omega
            have eK : zz_fst (zz_cA S s.toNat) (S 4 0).toNat = -1 := zz_fst_no.mpr (fun j hj => h2 j (by omega))
            exact L2 (S 4 2 + 1).toNat 0 (by omega) (by omega) (fun j hj => by omega) eK)
         | (have il : i < S 4 0 := by omega
            have q1 := g2 i.toNat (by omega)
            first
            | omega
            | (have e : zz_fst (zz_cA S s.toNat) (S 4 0).toNat = (i.toNat : Nat) := zz_fst_at (p := (zz_cA S s.toNat)) (show (zz_cA S s.toNat) i.toNat by ((try simp only [zz_pi0, Classical.not_not] at *); unfold zz_cA; exact ⟨by assumption, by omega, by omega⟩)) (fun j hj => h2 j (by omega)) (by omega)
               have e2 : ((i.toNat : Nat) : Int) = i := by omega
               have ev := zz_ob1 (E := (S 4 2).toNat) (s := s.toNat) (B := (zz_cB S s.toNat)) (C := (zz_cC S s.toNat)) (by rw [e]; omega)
               refine congrArg some ?_
               unfold zz_cO
               rw [ev, e, e2])
            | (refine ih _ (by omega) (by omega) (zz_ext h2 (show ¬ (zz_cA S s.toNat) i.toNat by ((try simp only [zz_pi0, Classical.not_not] at *); unfold zz_cA; grind)) (by omega)) ))))
  have h : qq_p xs (d + 24) (mm_mr mm_m27) (mm_mk mm_m27) (fun r S' => r = some (zz_cO S s.toNat) ∧ S' = S) 0 (qq_ent mm_m27 [.inr (94, none), .inl s]) [] S := by
    refine qq_fsound hxs (sp_36_ok hxs (d + 0)) [123, 73, 2] 300 ?_
    repeat' first | apply And.intro | intro _ | (simp only [qq_tab]) | (simp only [qq_pl])
    all_goals (first | omega | exact L1 (S 4 0 + 1).toNat 0 (by omega) (by omega) (fun j hj => by omega))
  obtain ⟨r, S', hE, e1, e2⟩ := qq_call_of (y := 27) rfl (Nat.le_of_ble_eq_true rfl) h
  rw [e1, e2] at hE
  exact hE
noncomputable def sp_37 : qq_P := fun y as S => match y, as with
  | 27, [.inr (94, none), .inl s] => some ((0 ≤ s ∧ s < S 4 0) ∧ zz_p (zz_nb S) = 1 ∧ zz_p (zz_pl (S 49) (S 50)) = 1 ∧ zz_p (zz_nm S s.toNat) = 1, some (zz_cO S s.toNat), S)
  | _, _ => sp_36 y as S
theorem sp_37_ok {xs : List Int32} (hxs : xs.length ≤ 2048) (d : Nat) : qq_ok xs (d + 25) sp_37 := by
  intro y as S pre r S2 h hp
  unfold sp_37 at h
  split at h
  · cases h; exact f27 hxs (d + 0) S _ hp
  · exact sp_36_ok hxs (d + 1) y as S pre r S2 h hp
