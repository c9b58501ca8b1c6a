theorem zz_rf_yes {pl : Nat → Prop} {dr : Nat → Int} {i : Nat} {c1 c2 c3 c4 : Int} (h : zz_rf pl dr i = (c1, c2, c3, c4)) (hp : pl i) : zz_rf pl dr (i + 1) = (c1 + 1, (if c1 = 0 then dr i else c2), dr i, (if c1 = 0 then c4 else c4 + qq_and (dr i - c3) 7)) := by
  show @ite _ (pl i) (Classical.propDecidable _) _ _ = _
  rw [if_pos hp, h]
theorem zz_rf_no {pl : Nat → Prop} {dr : Nat → Int} {i : Nat} {c1 c2 c3 c4 : Int} (h : zz_rf pl dr i = (c1, c2, c3, c4)) (hp : ¬ pl i) : zz_rf pl dr (i + 1) = (c1, c2, c3, c4) := by
  show @ite _ (pl i) (Classical.propDecidable _) _ _ = _
  rw [if_neg hp, h]
theorem zz_bin (p : Prop) [Decidable p] : qq_in (zz_b p) := by
  unfold qq_in zz_b
  split <;> omega
theorem zz_bi0 {p : Prop} [Decidable p] : zz_b p = 0 ↔ ¬ p := by
  unfold zz_b
  split <;> simp_all
def zz_bl (S : qq_S) (a b c : Int) : qq_S := qq_u (qq_u (qq_u S 53 3 a) 53 4 b) 53 5 c
def zz_cr (X Y lo hi : Nat → Int) (e : Nat) : Prop := zz_dr X Y (lo e).toNat (hi e).toNat = -1
def zz_sho (X Y lo hi : Nat → Int) (sp : Int) (e : Nat) : Prop := zz_ln X Y (lo e).toNat (hi e).toNat < sp
theorem zz_ln_bd {X Y : Nat → Int} (h : zz_pl X Y) {a b : Nat} (ha : a < 10) (hb : b < 10) : 0 ≤ zz_ln X Y a b ∧ zz_ln X Y a b ≤ 9 := by
  have h1 := h a ha
  have h2 := h b hb
  unfold zz_ln zz_len zz_abs
  grind
/-- the neighbours of s go round truly -/
noncomputable def zz_tw (X Y : Nat → Int) (dg : Nat → Int) (ring : Nat → Nat → Int) (s : Nat) : Prop := ¬ zz_rt (fun i => ¬ X (ring s i).toNat = -1) (fun i => zz_dr X Y s (ring s i).toNat) (dg s).toNat
def zz_cov (X Y lo hi : Nat → Int) (e s : Nat) : Prop := (¬ (s : Int) = lo e ∧ ¬ (s : Int) = hi e) ∧ zz_lies X Y s (lo e).toNat (hi e).toNat
def zz_cx (X Y lo hi : Nat → Int) (e f : Nat) : Prop := e < f ∧ zz_crs X Y (lo e).toNat (hi e).toNat (lo f).toNat (hi f).toNat
def zz_sm (X Y : Nat → Int) (a b : Nat) : Prop := a < b ∧ X a = X b ∧ Y a = Y b
set_option maxRecDepth 20000 in
theorem f3 {xs : List Int32} (hxs : xs.length ≤ 2048) (d : Nat) (S : qq_S) (a : Int) (b : Int) (c : Int) (hp : True) : qq_E xs (d + 1) 3 [.inr (53, none), .inl a, .inl b, .inl c] S (some (1)) (zz_bl S a b c) := by
  have h : qq_p xs (d + 0) (mm_mr mm_m3) (mm_mk mm_m3) (fun r S' => r = some (1) ∧ S' = zz_bl S a b c) 0 (qq_ent mm_m3 [.inr (53, none), .inl a, .inl b, .inl c]) [] S := by
    refine qq_fsound hxs (sp_0_ok hxs (d + 0)) [] 300 ?_
    repeat' first | apply And.intro | intro _ | (simp only [qq_tab]) | (simp only [qq_pl])
    all_goals (first | rfl | omega | exact Or.inr trivial)
  obtain ⟨r, S', hE, e1, e2⟩ := qq_call_of (y := 3) rfl (Nat.le_of_ble_eq_true rfl) h
  rw [e1, e2] at hE
  exact hE
noncomputable def sp_13b : qq_P := fun y as S => match y, as with
  | 3, [.inr (53, none), .inl a, .inl b, .inl c] => some (True, some (1), zz_bl S a b c)
  | _, _ => sp_13 y as S
theorem sp_13b_ok {xs : List Int32} (hxs : xs.length ≤ 2048) (d : Nat) : qq_ok xs (d + 6) sp_13b := by
  intro y as S pre r S2 h hp
  unfold sp_13b at h
  split at h
  · cases h; exact f3 hxs (d + 5) S _ _ _ hp
  · exact sp_13_ok hxs (d + 0) y as S pre r S2 h hp
set_option maxRecDepth 20000 in
theorem f12_53 {xs : List Int32} (hxs : xs.length ≤ 2048) (d : Nat) (S : qq_S) (s : Int) (hp : (0 ≤ s ∧ s < 10) ∧ zz_p (zz_nb S) = 1 ∧ zz_p (zz_pl (S 49) (S 50)) = 1) : qq_E xs (d + 7) 12 [.inr (53, none), .inl s] S (some (zz_p (zz_rt (fun i => ¬ S 49 (S (26 + 1 + s.toNat) i).toNat = -1) (fun i => zz_dr (S 49) (S 50) s.toNat (S (26 + 1 + s.toNat) i).toNat) (S 25 s.toNat).toNat))) (S) := by
  have g1 := zz_pi1.mp hp.2.1
  have g2 := zz_pi1.mp hp.2.2
  have L : ∀ (k9 : Nat) (i c1 c2 c3 c4 : Int) (u v : Option qq_V), S 25 s.toNat - i < (k9 : Int) → (0 ≤ i ∧ i ≤ S 25 s.toNat) → ((zz_rf (fun i => ¬ S 49 (S (26 + 1 + s.toNat) i).toNat = -1) (fun i => zz_dr (S 49) (S 50) s.toNat (S (26 + 1 + s.toNat) i).toNat) i.toNat) = (c1, c2, c3, c4)) → (-1 ≤ c2 ∧ c2 ≤ 7 ∧ -1 ≤ c3 ∧ c3 ≤ 7) → (0 ≤ c1 ∧ c1 ≤ i ∧ 0 ≤ c4 ∧ c4 ≤ 7 * i) → qq_p xs (d + 6) (mm_mr mm_m12) (mm_mk mm_m12) (fun r S' => r = some (zz_p (zz_rt (fun i => ¬ S 49 (S (26 + 1 + s.toNat) i).toNat = -1) (fun i => zz_dr (S 49) (S 50) s.toNat (S (26 + 1 + s.toNat) i).toNat) (S 25 s.toNat).toNat)) ∧ S' = S) 13 [some (.inr (53, none)), some (.inl s), some (.inl c1), some (.inl c2), some (.inl c3), some (.inl c4), some (.inl i), u, v] [] (S) := by
    intro k9
    induction k9 with
    | zero =>
      intro i c1 c2 c3 c4 u v hm h1 h2 h3 h4
      exfalso
      omega
    | succ k9 ih =>
      intro i c1 c2 c3 c4 u v hm h1 h2 h3 h4
      refine qq_fsound hxs (sp_13b_ok hxs (d + 0)) [13] 300 ?_
      repeat' first | apply And.intro | intro _ | (simp only [qq_tab]) | (simp only [qq_pl])
      all_goals (
        first
        | omega
        | exact (zz_bin _).1
        | exact (zz_bin _).2
        | exact Or.inl trivial
        | exact Or.inr trivial
        | (have n1 := g1.2.2.1 s.toNat (by omega); first | omega | (unfold qq_in; omega))
        | (have n1 := g1.2.2.1 s.toNat (by omega); have n2 := n1.2.2 i.toNat (by omega); have q1 := g2 (S (26 + 1 + s.toNat) i.toNat).toNat (by have := g1.1; omega); have q2 := g2 s.toNat (by omega); have g0 := g1.1;
           have db := zz_dir_bd (S 49 (S (26 + 1 + s.toNat) i.toNat).toNat - S 49 s.toNat) (S 50 (S (26 + 1 + s.toNat) i.toNat).toNat - S 50 s.toNat)
           have a7 := zz_and7 (zz_dir (S 49 (S (26 + 1 + s.toNat) i.toNat).toNat - S 49 s.toNat) (S 50 (S (26 + 1 + s.toNat) i.toNat).toNat - S 50 s.toNat) - c3) (by omega)
           first
           | omega
           | (unfold qq_in; omega)
           | (have e1 : (i + 1).toNat = i.toNat + 1 := by omega
              (try simp only [zz_bi0, Classical.not_not] at *)
              first
              | (have z0 : S 49 (S (26 + 1 + s.toNat) i.toNat).toNat = -1 := by assumption
                 refine ih _ _ _ _ _ _ _ ?_ ?_ ?_ ?_ ?_ <;> first | omega | (rw [e1]; exact zz_rf_no h2 (fun z => z z0)))
              | (have z0 : ¬ S 49 (S (26 + 1 + s.toNat) i.toNat).toNat = -1 := by assumption
                 have z1 : c1 = 0 := by assumption
                 refine ih _ _ _ _ _ _ _ ?_ ?_ ?_ ?_ ?_ <;> first | omega | (rw [e1, zz_rf_yes h2 z0, if_pos z1, if_pos z1]; rfl))
              | (have z0 : ¬ S 49 (S (26 + 1 + s.toNat) i.toNat).toNat = -1 := by assumption
                 have z1 : ¬ c1 = 0 := by assumption
                 refine ih _ _ _ _ _ _ _ ?_ ?_ ?_ ?_ ?_ <;> first | omega | (rw [e1, zz_rf_yes h2 z0, if_neg z1, if_neg z1]; rfl))))
        | (have ei : i = S 25 s.toNat := (by have n1 := g1.2.2.1 s.toNat (by omega); omega)
           have n1 := g1.2.2.1 s.toNat (by omega)
           subst ei
           have a7 := zz_and7 (c2 - c3) (by omega)
           first
           | omega
           | (unfold qq_in; omega)
           | exact congrArg some (zz_p1 (by unfold zz_rt; rw [h2]; dsimp only; omega)).symm
           | exact congrArg some (zz_p0 (by unfold zz_rt; rw [h2]; dsimp only; omega)).symm))
  have h : qq_p xs (d + 6) (mm_mr mm_m12) (mm_mk mm_m12) (fun r S' => r = some (zz_p (zz_rt (fun i => ¬ S 49 (S (26 + 1 + s.toNat) i).toNat = -1) (fun i => zz_dr (S 49) (S 50) s.toNat (S (26 + 1 + s.toNat) i).toNat) (S 25 s.toNat).toNat)) ∧ S' = S) 0 (qq_ent mm_m12 [.inr (53, none), .inl s]) [] S := by
    refine qq_fsound hxs (sp_13b_ok hxs (d + 0)) [13] 300 ?_
    repeat' first | apply And.intro | intro _ | (simp only [qq_tab]) | (simp only [qq_pl])
    all_goals (first | rfl | omega | (refine L (S 25 s.toNat + 1).toNat 0 0 0 0 0 none none ?_ ?_ ?_ ?_ ?_ <;> first | omega | rfl | (have n1 := g1.2.2.1 s.toNat (by omega); omega)))
  obtain ⟨r, S', hE, e1, e2⟩ := qq_call_of (y := 12) rfl (Nat.le_of_ble_eq_true rfl) h
  rw [e1, e2] at hE
  exact hE
set_option maxRecDepth 20000 in
theorem f12_92 {xs : List Int32} (hxs : xs.length ≤ 2048) (d : Nat) (S : qq_S) (s : Int) (hp : (0 ≤ s ∧ s < 10) ∧ zz_p (zz_nb S) = 1 ∧ zz_p (zz_pl (S 57) (S 58)) = 1) : qq_E xs (d + 7) 12 [.inr (92, none), .inl s] S (some (zz_p (zz_rt (fun i => ¬ S 57 (S (26 + 1 + s.toNat) i).toNat = -1) (fun i => zz_dr (S 57) (S 58) s.toNat (S (26 + 1 + s.toNat) i).toNat) (S 25 s.toNat).toNat))) (S) := by
  have g1 := zz_pi1.mp hp.2.1
  have g2 := zz_pi1.mp hp.2.2
  have L : ∀ (k9 : Nat) (i c1 c2 c3 c4 : Int) (u v : Option qq_V), S 25 s.toNat - i < (k9 : Int) → (0 ≤ i ∧ i ≤ S 25 s.toNat) → ((zz_rf (fun i => ¬ S 57 (S (26 + 1 + s.toNat) i).toNat = -1) (fun i => zz_dr (S 57) (S 58) s.toNat (S (26 + 1 + s.toNat) i).toNat) i.toNat) = (c1, c2, c3, c4)) → (-1 ≤ c2 ∧ c2 ≤ 7 ∧ -1 ≤ c3 ∧ c3 ≤ 7) → (0 ≤ c1 ∧ c1 ≤ i ∧ 0 ≤ c4 ∧ c4 ≤ 7 * i) → qq_p xs (d + 6) (mm_mr mm_m12) (mm_mk mm_m12) (fun r S' => r = some (zz_p (zz_rt (fun i => ¬ S 57 (S (26 + 1 + s.toNat) i).toNat = -1) (fun i => zz_dr (S 57) (S 58) s.toNat (S (26 + 1 + s.toNat) i).toNat) (S 25 s.toNat).toNat)) ∧ S' = S) 13 [some (.inr (92, none)), some (.inl s), some (.inl c1), some (.inl c2), some (.inl c3), some (.inl c4), some (.inl i), u, v] [] (S) := by
    intro k9
    induction k9 with
    | zero =>
      intro i c1 c2 c3 c4 u v hm h1 h2 h3 h4
      exfalso
      omega
    | succ k9 ih =>
      intro i c1 c2 c3 c4 u v hm h1 h2 h3 h4
      refine qq_fsound hxs (sp_13b_ok hxs (d + 0)) [13] 300 ?_
      repeat' first | apply And.intro | intro _ | (simp only [qq_tab]) | (simp only [qq_pl])
      all_goals (
        first
        | omega
        | exact (zz_bin _).1
        | exact (zz_bin _).2
        | exact Or.inl trivial
        | exact Or.inr trivial
        | (have n1 := g1.2.2.1 s.toNat (by omega); first | omega | (unfold qq_in; omega))
        | (have n1 := g1.2.2.1 s.toNat (by omega); have n2 := n1.2.2 i.toNat (by omega); have q1 := g2 (S (26 + 1 + s.toNat) i.toNat).toNat (by have := g1.1; omega); have q2 := g2 s.toNat (by omega); have g0 := g1.1;
           have db := zz_dir_bd (S 57 (S (26 + 1 + s.toNat) i.toNat).toNat - S 57 s.toNat) (S 58 (S (26 + 1 + s.toNat) i.toNat).toNat - S 58 s.toNat)
           have a7 := zz_and7 (zz_dir (S 57 (S (26 + 1 + s.toNat) i.toNat).toNat - S 57 s.toNat) (S 58 (S (26 + 1 + s.toNat) i.toNat).toNat - S 58 s.toNat) - c3) (by omega)
           first
           | omega
           | (unfold qq_in; omega)
           | (have e1 : (i + 1).toNat = i.toNat + 1 := by omega
              (try simp only [zz_bi0, Classical.not_not] at *)
              first
              | (have z0 : S 57 (S (26 + 1 + s.toNat) i.toNat).toNat = -1 := by assumption
                 refine ih _ _ _ _ _ _ _ ?_ ?_ ?_ ?_ ?_ <;> first | omega | (rw [e1]; exact zz_rf_no h2 (fun z => z z0)))
              | (have z0 : ¬ S 57 (S (26 + 1 + s.toNat) i.toNat).toNat = -1 := by assumption
                 have z1 : c1 = 0 := by assumption
                 refine ih _ _ _ _ _ _ _ ?_ ?_ ?_ ?_ ?_ <;> first | omega | (rw [e1, zz_rf_yes h2 z0, if_pos z1, if_pos z1]; rfl))
              | (have z0 : ¬ S 57 (S (26 + 1 + s.toNat) i.toNat).toNat = -1 := by assumption
                 have z1 : ¬ c1 = 0 := by assumption
                 refine ih _ _ _ _ _ _ _ ?_ ?_ ?_ ?_ ?_ <;> first | omega | (rw [e1, zz_rf_yes h2 z0, if_neg z1, if_neg z1]; rfl))))
        | (have ei : i = S 25 s.toNat := (by have n1 := g1.2.2.1 s.toNat (by omega); omega)
           have n1 := g1.2.2.1 s.toNat (by omega)
           subst ei
           have a7 := zz_and7 (c2 - c3) (by omega)
           first
           | omega
           | (unfold qq_in; omega)
           | exact congrArg some (zz_p1 (by unfold zz_rt; rw [h2]; dsimp only; omega)).symm
           | exact congrArg some (zz_p0 (by unfold zz_rt; rw [h2]; dsimp only; omega)).symm))
  have h : qq_p xs (d + 6) (mm_mr mm_m12) (mm_mk mm_m12) (fun r S' => r = some (zz_p (zz_rt (fun i => ¬ S 57 (S (26 + 1 + s.toNat) i).toNat = -1) (fun i => zz_dr (S 57) (S 58) s.toNat (S (26 + 1 + s.toNat) i).toNat) (S 25 s.toNat).toNat)) ∧ S' = S) 0 (qq_ent mm_m12 [.inr (92, none), .inl s]) [] S := by
    refine qq_fsound hxs (sp_13b_ok hxs (d + 0)) [13] 300 ?_
    repeat' first | apply And.intro | intro _ | (simp only [qq_tab]) | (simp only [qq_pl])
    all_goals (first | rfl | omega | (refine L (S 25 s.toNat + 1).toNat 0 0 0 0 0 none none ?_ ?_ ?_ ?_ ?_ <;> first | omega | rfl | (have n1 := g1.2.2.1 s.toNat (by omega); omega)))
  obtain ⟨r, S', hE, e1, e2⟩ := qq_call_of (y := 12) rfl (Nat.le_of_ble_eq_true rfl) h
  rw [e1, e2] at hE
  exact hE
set_option maxRecDepth 20000 in
theorem f9 {xs : List Int32} (hxs : xs.length ≤ 2048) (d : Nat) (S : qq_S) (s : Int) (e : Int) (hp : (0 ≤ s ∧ s < 10 ∧ 0 ≤ e ∧ e < S 4 2) ∧ zz_p (zz_nb S) = 1 ∧ zz_p (zz_pl (S 49) (S 50)) = 1) : qq_E xs (d + 7) 9 [.inr (53, none), .inl s, .inl e] S (some (zz_p ((¬ s = S 22 e.toNat ∧ ¬ s = S 23 e.toNat) ∧ zz_lies (S 49) (S 50) s.toNat (S 22 e.toNat).toNat (S 23 e.toNat).toNat))) (S) := by
  have g1 := zz_pi1.mp hp.2.1
  have g2 := zz_pi1.mp hp.2.2
  have h : qq_p xs (d + 6) (mm_mr mm_m9) (mm_mk mm_m9) (fun r S' => r = some (zz_p ((¬ s = S 22 e.toNat ∧ ¬ s = S 23 e.toNat) ∧ zz_lies (S 49) (S 50) s.toNat (S 22 e.toNat).toNat (S 23 e.toNat).toNat)) ∧ S' = S) 0 (qq_ent mm_m9 [.inr (53, none), .inl s, .inl e]) [] S := by
    refine qq_fsound hxs (sp_13b_ok hxs (d + 0)) [] 300 ?_
    repeat' first | apply And.intro | intro _ | (simp only [qq_tab]) | (simp only [qq_pl])
    all_goals (first | rfl | omega | exact (zz_pin _).1 | exact (zz_pin _).2 | exact zz_p01 _ | exact Or.inl trivial | exact Or.inr trivial | exact hp.2.2 | (have n0 := g1.1; have n1 := g1.2.1 e.toNat (by omega); first | omega | (unfold qq_in; omega) | ((try simp only [zz_pi0, Classical.not_not] at *); first | exact congrArg some (zz_p1 (by grind)).symm | exact congrArg some (zz_p0 (by grind)).symm)))
  obtain ⟨r, S', hE, e1, e2⟩ := qq_call_of (y := 9) rfl (Nat.le_of_ble_eq_true rfl) h
  rw [e1, e2] at hE
  exact hE
set_option maxRecDepth 20000 in
theorem f4 {xs : List Int32} (hxs : xs.length ≤ 2048) (d : Nat) (S : qq_S) (hp : zz_p (zz_nb S) = 1 ∧ zz_p (zz_pl (S 49) (S 50)) = 1 ∧ qq_in (S 52 3)) : qq_E xs (d + 7) 4 [.inr (53, none)] S (some (if zz_fst (fun j : Nat => S 49 j = -1) (S 4 0).toNat = -1 then 0 else 1)) (if zz_fst (fun j : Nat => S 49 j = -1) (S 4 0).toNat = -1 then S else zz_bl S 1 (zz_fst (fun j : Nat => S 49 j = -1) (S 4 0).toNat) (-1)) := by
  have g1 := zz_pi1.mp hp.1
  have g2 := zz_pi1.mp hp.2.1
  have L : ∀ (k9 : Nat) (i : Int), S 4 0 - i < (k9 : Int) → (0 ≤ i ∧ i ≤ S 4 0) → (∀ j : Nat, (j : Int) < i → ¬ ((fun j : Nat => S 49 j = -1)) j) → qq_p xs (d + 6) (mm_mr mm_m4) (mm_mk mm_m4) (fun r S' => r = some (if zz_fst (fun j : Nat => S 49 j = -1) (S 4 0).toNat = -1 then 0 else 1) ∧ S' = if zz_fst (fun j : Nat => S 49 j = -1) (S 4 0).toNat = -1 then S else zz_bl S 1 (zz_fst (fun j : Nat => S 49 j = -1) (S 4 0).toNat) (-1)) 2 [some (.inr (53, none)), some (.inl i)] [] (S) := by
    intro k9
    induction k9 with
    | zero =>
      intro i hm h1 h2
      exfalso
      omega
    | succ k9 ih =>
      intro i hm h1 h2
      refine qq_fsound hxs (sp_13b_ok hxs (d + 0)) [2] 300 ?_
      repeat' first | apply And.intro | intro _ | (simp only [qq_tab]) | (simp only [qq_pl])
      all_goals (
        first
        | omega
        | exact (zz_pin _).1 | exact (zz_pin _).2 | exact (zz_bin _).1 | exact (zz_bin _).2
        | exact Or.inl trivial
        | exact Or.inr trivial
        | exact hp.1
        | exact hp.2.1
        | exact hp.2.2.1
        | exact hp.2.2.2
        | (have n0 := g1.1; first | omega | (unfold qq_in; omega))
        | (have n0 := g1.1; have ei : i = S 4 0 := by omega
           have e : zz_fst (fun j : Nat => S 49 j = -1) (S 4 0).toNat = -1 := zz_fst_no.mpr (fun j hj => h2 j (by omega))
           rw [if_pos e]; done)
        | (have n0 := g1.1; have il : i < S 4 0 := by omega
           have q1 := g2 i.toNat (by omega)
           first
           | omega
           | (unfold qq_in; omega)
           | (have e : zz_fst (fun j : Nat => S 49 j = -1) (S 4 0).toNat = (i.toNat : Nat) := zz_fst_at (p := (fun j : Nat => S 49 j = -1)) (show S 49 i.toNat = -1 by grind [zz_b]) (fun j hj => h2 j (by omega)) (by omega)
              have e2 : ((i.toNat : Nat) : Int) = i := by omega
              have e3 : ¬ zz_fst (fun j : Nat => S 49 j = -1) (S 4 0).toNat = -1 := by rw [e]; omega
              rw [if_neg e3]
              first | done | (rw [e, e2]; done))
           | (refine ih _ ?_ ?_ (zz_ext h2 (show ¬ (S 49 i.toNat = -1) by grind [zz_b]) (by omega)) <;> omega)))
  have h : qq_p xs (d + 6) (mm_mr mm_m4) (mm_mk mm_m4) (fun r S' => r = some (if zz_fst (fun j : Nat => S 49 j = -1) (S 4 0).toNat = -1 then 0 else 1) ∧ S' = if zz_fst (fun j : Nat => S 49 j = -1) (S 4 0).toNat = -1 then S else zz_bl S 1 (zz_fst (fun j : Nat => S 49 j = -1) (S 4 0).toNat) (-1)) 0 (qq_ent mm_m4 [.inr (53, none)]) [] S := by
    refine qq_fsound hxs (sp_13b_ok hxs (d + 0)) [2] 300 ?_
    repeat' first | apply And.intro | intro _ | (simp only [qq_tab]) | (simp only [qq_pl])
    all_goals (first | omega | (refine L (S 4 0 + 1).toNat 0 ?_ ?_ ?_ <;> first | omega | (have := g1.1; omega) | (intro j hj; omega)))
  obtain ⟨r, S', hE, e1, e2⟩ := qq_call_of (y := 4) rfl (Nat.le_of_ble_eq_true rfl) h
  rw [e1, e2] at hE
  exact hE
set_option maxRecDepth 20000 in
theorem f6 {xs : List Int32} (hxs : xs.length ≤ 2048) (d : Nat) (S : qq_S) (hp : zz_p (zz_nb S) = 1 ∧ zz_p (zz_pl (S 49) (S 50)) = 1 ∧ qq_in (S 52 3)) : qq_E xs (d + 7) 6 [.inr (53, none)] S (some (if zz_fst (fun j : Nat => zz_cr (S 49) (S 50) (S 22) (S 23) j) (S 4 2).toNat = -1 then 0 else 1)) (if zz_fst (fun j : Nat => zz_cr (S 49) (S 50) (S 22) (S 23) j) (S 4 2).toNat = -1 then S else zz_bl S 3 (zz_fst (fun j : Nat => zz_cr (S 49) (S 50) (S 22) (S 23) j) (S 4 2).toNat) (-1)) := by
  have g1 := zz_pi1.mp hp.1
  have g2 := zz_pi1.mp hp.2.1
  have L : ∀ (k9 : Nat) (i : Int), S 4 2 - i < (k9 : Int) → (0 ≤ i ∧ i ≤ S 4 2) → (∀ j : Nat, (j : Int) < i → ¬ ((fun j : Nat => zz_cr (S 49) (S 50) (S 22) (S 23) j)) j) → qq_p xs (d + 6) (mm_mr mm_m6) (mm_mk mm_m6) (fun r S' => r = some (if zz_fst (fun j : Nat => zz_cr (S 49) (S 50) (S 22) (S 23) j) (S 4 2).toNat = -1 then 0 else 1) ∧ S' = if zz_fst (fun j : Nat => zz_cr (S 49) (S 50) (S 22) (S 23) j) (S 4 2).toNat = -1 then S else zz_bl S 3 (zz_fst (fun j : Nat => zz_cr (S 49) (S 50) (S 22) (S 23) j) (S 4 2).toNat) (-1)) 2 [some (.inr (53, none)), some (.inl i)] [] (S) := by
    intro k9
    induction k9 with
    | zero =>
      intro i hm h1 h2
      exfalso
      omega
    | succ k9 ih =>
      intro i hm h1 h2
      refine qq_fsound hxs (sp_13b_ok hxs (d + 0)) [2] 300 ?_
      repeat' first | apply And.intro | intro _ | (simp only [qq_tab]) | (simp only [qq_pl])
      all_goals (
        first
        | omega
        | exact (zz_pin _).1 | exact (zz_pin _).2 | exact (zz_bin _).1 | exact (zz_bin _).2
        | exact Or.inl trivial
        | exact Or.inr trivial
        | exact hp.1
        | exact hp.2.1
        | exact hp.2.2.1
        | exact hp.2.2.2
        | (have n0 := g1.1; first | omega | (unfold qq_in; omega))
        | (have n0 := g1.1; have ei : i = S 4 2 := by omega
           have e : zz_fst (fun j : Nat => zz_cr (S 49) (S 50) (S 22) (S 23) j) (S 4 2).toNat = -1 := zz_fst_no.mpr (fun j hj => h2 j (by omega))
           rw [if_pos e]; done)
        | (have n0 := g1.1; have il : i < S 4 2 := by omega
           have n1 := g1.2.1 i.toNat (by omega); have q1 := g2 (S 22 i.toNat).toNat (by omega); have q2 := g2 (S 23 i.toNat).toNat (by omega); have db := zz_dir_bd (S 49 (S 23 i.toNat).toNat - S 49 (S 22 i.toNat).toNat) (S 50 (S 23 i.toNat).toNat - S 50 (S 22 i.toNat).toNat)
           first
           | omega
           | (unfold qq_in; omega)
           | (have e : zz_fst (fun j : Nat => zz_cr (S 49) (S 50) (S 22) (S 23) j) (S 4 2).toNat = (i.toNat : Nat) := zz_fst_at (p := (fun j : Nat => zz_cr (S 49) (S 50) (S 22) (S 23) j)) (show zz_cr (S 49) (S 50) (S 22) (S 23) i.toNat by (unfold zz_cr zz_dr; assumption)) (fun j hj => h2 j (by omega)) (by omega)
              have e2 : ((i.toNat : Nat) : Int) = i := by omega
              have e3 : ¬ zz_fst (fun j : Nat => zz_cr (S 49) (S 50) (S 22) (S 23) j) (S 4 2).toNat = -1 := by rw [e]; omega
              rw [if_neg e3]
              first | done | (rw [e, e2]; done))
           | (refine ih _ ?_ ?_ (zz_ext h2 (show ¬ (zz_cr (S 49) (S 50) (S 22) (S 23) i.toNat) by (unfold zz_cr zz_dr; assumption)) (by omega)) <;> omega)))
  have h : qq_p xs (d + 6) (mm_mr mm_m6) (mm_mk mm_m6) (fun r S' => r = some (if zz_fst (fun j : Nat => zz_cr (S 49) (S 50) (S 22) (S 23) j) (S 4 2).toNat = -1 then 0 else 1) ∧ S' = if zz_fst (fun j : Nat => zz_cr (S 49) (S 50) (S 22) (S 23) j) (S 4 2).toNat = -1 then S else zz_bl S 3 (zz_fst (fun j : Nat => zz_cr (S 49) (S 50) (S 22) (S 23) j) (S 4 2).toNat) (-1)) 0 (qq_ent mm_m6 [.inr (53, none)]) [] S := by
    refine qq_fsound hxs (sp_13b_ok hxs (d + 0)) [2] 300 ?_
    repeat' first | apply And.intro | intro _ | (simp only [qq_tab]) | (simp only [qq_pl])
    all_goals (first | omega | (refine L (S 4 2 + 1).toNat 0 ?_ ?_ ?_ <;> first | omega | (have := g1.1; omega) | (intro j hj; omega)))
  obtain ⟨r, S', hE, e1, e2⟩ := qq_call_of (y := 6) rfl (Nat.le_of_ble_eq_true rfl) h
  rw [e1, e2] at hE
  exact hE
set_option maxRecDepth 20000 in
theorem f7 {xs : List Int32} (hxs : xs.length ≤ 2048) (d : Nat) (S : qq_S) (hp : zz_p (zz_nb S) = 1 ∧ zz_p (zz_pl (S 49) (S 50)) = 1 ∧ qq_in (S 52 3)) : qq_E xs (d + 7) 7 [.inr (53, none)] S (some (if zz_fst (fun j : Nat => zz_sho (S 49) (S 50) (S 22) (S 23) (S 52 3) j) (S 4 2).toNat = -1 then 0 else 1)) (if zz_fst (fun j : Nat => zz_sho (S 49) (S 50) (S 22) (S 23) (S 52 3) j) (S 4 2).toNat = -1 then S else zz_bl S 4 (zz_fst (fun j : Nat => zz_sho (S 49) (S 50) (S 22) (S 23) (S 52 3) j) (S 4 2).toNat) (-1)) := by
  have g1 := zz_pi1.mp hp.1
  have g2 := zz_pi1.mp hp.2.1
  have L : ∀ (k9 : Nat) (i : Int), S 4 2 - i < (k9 : Int) → (0 ≤ i ∧ i ≤ S 4 2) → (∀ j : Nat, (j : Int) < i → ¬ ((fun j : Nat => zz_sho (S 49) (S 50) (S 22) (S 23) (S 52 3) j)) j) → qq_p xs (d + 6) (mm_mr mm_m7) (mm_mk mm_m7) (fun r S' => r = some (if zz_fst (fun j : Nat => zz_sho (S 49) (S 50) (S 22) (S 23) (S 52 3) j) (S 4 2).toNat = -1 then 0 else 1) ∧ S' = if zz_fst (fun j : Nat => zz_sho (S 49) (S 50) (S 22) (S 23) (S 52 3) j) (S 4 2).toNat = -1 then S else zz_bl S 4 (zz_fst (fun j : Nat => zz_sho (S 49) (S 50) (S 22) (S 23) (S 52 3) j) (S 4 2).toNat) (-1)) 2 [some (.inr (53, none)), some (.inl i)] [] (S) := by
    intro k9
    induction k9 with
    | zero =>
      intro i hm h1 h2
      exfalso
      omega
    | succ k9 ih =>
      intro i hm h1 h2
      refine qq_fsound hxs (sp_13b_ok hxs (d + 0)) [2] 300 ?_
      repeat' first | apply And.intro | intro _ | (simp only [qq_tab]) | (simp only [qq_pl])
      all_goals (
        first
        | omega
        | exact (zz_pin _).1 | exact (zz_pin _).2 | exact (zz_bin _).1 | exact (zz_bin _).2
        | exact Or.inl trivial
        | exact Or.inr trivial
        | exact hp.1
        | exact hp.2.1
        | exact hp.2.2.1
        | exact hp.2.2.2
        | (have n0 := g1.1; first | omega | (unfold qq_in; omega))
        | (have n0 := g1.1; have ei : i = S 4 2 := by omega
           have e : zz_fst (fun j : Nat => zz_sho (S 49) (S 50) (S 22) (S 23) (S 52 3) j) (S 4 2).toNat = -1 := zz_fst_no.mpr (fun j hj => h2 j (by omega))
           rw [if_pos e]; done)
        | (have n0 := g1.1; have il : i < S 4 2 := by omega
           have n1 := g1.2.1 i.toNat (by omega); have q1 := g2 (S 22 i.toNat).toNat (by omega); have q2 := g2 (S 23 i.toNat).toNat (by omega); have lb := zz_ln_bd g2 (a := (S 22 i.toNat).toNat) (b := (S 23 i.toNat).toNat) (by omega) (by omega)
           first
           | omega
           | (unfold qq_in; omega)
           | (have e : zz_fst (fun j : Nat => zz_sho (S 49) (S 50) (S 22) (S 23) (S 52 3) j) (S 4 2).toNat = (i.toNat : Nat) := zz_fst_at (p := (fun j : Nat => zz_sho (S 49) (S 50) (S 22) (S 23) (S 52 3) j)) (show zz_sho (S 49) (S 50) (S 22) (S 23) (S 52 3) i.toNat by (unfold zz_sho; omega)) (fun j hj => h2 j (by omega)) (by omega)
              have e2 : ((i.toNat : Nat) : Int) = i := by omega
              have e3 : ¬ zz_fst (fun j : Nat => zz_sho (S 49) (S 50) (S 22) (S 23) (S 52 3) j) (S 4 2).toNat = -1 := by rw [e]; omega
              rw [if_neg e3]
              first | done | (rw [e, e2]; done))
           | (refine ih _ ?_ ?_ (zz_ext h2 (show ¬ (zz_sho (S 49) (S 50) (S 22) (S 23) (S 52 3) i.toNat) by (unfold zz_sho; omega)) (by omega)) <;> omega)))
  have h : qq_p xs (d + 6) (mm_mr mm_m7) (mm_mk mm_m7) (fun r S' => r = some (if zz_fst (fun j : Nat => zz_sho (S 49) (S 50) (S 22) (S 23) (S 52 3) j) (S 4 2).toNat = -1 then 0 else 1) ∧ S' = if zz_fst (fun j : Nat => zz_sho (S 49) (S 50) (S 22) (S 23) (S 52 3) j) (S 4 2).toNat = -1 then S else zz_bl S 4 (zz_fst (fun j : Nat => zz_sho (S 49) (S 50) (S 22) (S 23) (S 52 3) j) (S 4 2).toNat) (-1)) 0 (qq_ent mm_m7 [.inr (53, none)]) [] S := by
    refine qq_fsound hxs (sp_13b_ok hxs (d + 0)) [2] 300 ?_
    repeat' first | apply And.intro | intro _ | (simp only [qq_tab]) | (simp only [qq_pl])
    all_goals (first | omega | (refine L (S 4 2 + 1).toNat 0 ?_ ?_ ?_ <;> first | omega | (have := g1.1; omega) | (intro j hj; omega)))
  obtain ⟨r, S', hE, e1, e2⟩ := qq_call_of (y := 7) rfl (Nat.le_of_ble_eq_true rfl) h
  rw [e1, e2] at hE
  exact hE
