/-- the places below i of dx, dy, dh as those of sx, sy, sh -/
def zz_cp (S : qq_S) (dx dy dh sx sy sh : Nat) (i : Int) : qq_S := fun a j => if (j : Int) < i then (if a = dx then S sx j else if a = dy then S sy j else if a = dh then S sh j else S a j) else S a j
theorem zz_cp0 (S : qq_S) (dx dy dh sx sy sh : Nat) : zz_cp S dx dy dh sx sy sh 0 = S := by
  funext a j
  unfold zz_cp
  rw [if_neg (by omega)]
theorem zz_cp_s (S : qq_S) (dx dy dh sx sy sh : Nat) (i : Int) (hi : 0 ≤ i) (h1 : dx ≠ dy) (h2 : dx ≠ dh) (h3 : dy ≠ dh) (k1 : sx ≠ dx) (k2 : sx ≠ dy) (k3 : sx ≠ dh) (k4 : sy ≠ dx) (k5 : sy ≠ dy) (k6 : sy ≠ dh) (k7 : sh ≠ dx) (k8 : sh ≠ dy) (k9 : sh ≠ dh) (T : qq_S) (hT : T = zz_cp S dx dy dh sx sy sh i) :
    qq_u (qq_u (qq_u T dx i.toNat (T sx i.toNat)) dy i.toNat (qq_u T dx i.toNat (T sx i.toNat) sy i.toNat)) dh i.toNat (qq_u (qq_u T dx i.toNat (T sx i.toNat)) dy i.toNat (qq_u T dx i.toNat (T sx i.toNat) sy i.toNat) sh i.toNat) = zz_cp S dx dy dh sx sy sh (i + 1) := by
  subst hT
  have ei : ((i.toNat : Nat) : Int) = i := by omega
  funext a j
  unfold qq_u zz_cp
  have e : (j = i.toNat) ↔ (j : Int) = i := by omega
  have e2 : ((j : Int) < i + 1) ↔ ((j : Int) < i ∨ (j : Int) = i) := by omega
  by_cases hj : (j : Int) = i
  · have hj2 : j = i.toNat := by omega
    subst hj2
    simp only [ei, e2, k1, k2, k3, k4, k5, k6, k7, k8, k9, h1, h2, h3, h1.symm, h2.symm, h3.symm, Int.lt_irrefl, if_false, if_true, or_true, and_true, true_and, and_self, false_and, false_or]
    grind
  · simp only [e, e2, hj, and_false, if_false, or_false]
set_option maxRecDepth 20000 in
theorem f49_48_102 {xs : List Int32} (hxs : xs.length ≤ 2048) (d : Nat) (S : qq_S) (hp : ∀ i : Nat, i < 10 → S 105 i = 0 ∨ S 105 i = 1) : qq_E xs (d + 1) 49 [.inr (48, none), .inr (102, none)] S (none) (zz_cp (qq_u (qq_u S 48 0 (S 102 0)) 48 1 (S 102 1)) 49 50 51 103 104 105 10) := by
  have L : ∀ (k9 : Nat) (i : Int) (T : qq_S), 0 ≤ i ∧ i + k9 = 10 → T = zz_cp (qq_u (qq_u S 48 0 (S 102 0)) 48 1 (S 102 1)) 49 50 51 103 104 105 i → qq_p xs (d + 0) (mm_mr mm_m49) (mm_mk mm_m49) (fun r S' => r = none ∧ S' = zz_cp (qq_u (qq_u S 48 0 (S 102 0)) 48 1 (S 102 1)) 49 50 51 103 104 105 10) 18 [some (.inr (48, none)), some (.inr (102, none)), some (.inl i)] [] (T) := by
    intro k9
    induction k9 with
    | zero =>
      intro i T hm hv
      refine qq_fsound hxs (sp_0_ok hxs (d + 0)) [18] 300 ?_
      repeat' first | apply And.intro | intro _
      all_goals (first | omega | rfl | (refine ih _ _ ?_ ?_ <;> first | omega | exact zz_cp_s _ _ _ _ _ _ _ _ (by omega) (by decide) (by decide) (by decide) (by decide) (by decide) (by decide) (by decide) (by decide) (by decide) (by decide) (by decide) (by decide) T hv) | (have hi10 : i = 10 := (by omega); rw [hv, hi10]) | (have q9 := hp i.toNat (by omega); rw [hv]; simp (decide := true) only [qq_un', zz_cp, if_false, ite_self]; exact q9) | (have q9 := hp i.toNat (by omega); rw [hv]; unfold qq_u zz_cp; grind))
    | succ k9 ih =>
      intro i T hm hv
      refine qq_fsound hxs (sp_0_ok hxs (d + 0)) [18] 300 ?_
      repeat' first | apply And.intro | intro _
      all_goals (first | omega | rfl | (refine ih _ _ ?_ ?_ <;> first | omega | exact zz_cp_s _ _ _ _ _ _ _ _ (by omega) (by decide) (by decide) (by decide) (by decide) (by decide) (by decide) (by decide) (by decide) (by decide) (by decide) (by decide) (by decide) T hv) | (have hi10 : i = 10 := (by omega); rw [hv, hi10]) | (have q9 := hp i.toNat (by omega); rw [hv]; simp (decide := true) only [qq_un', zz_cp, if_false, ite_self]; exact q9) | (have q9 := hp i.toNat (by omega); rw [hv]; unfold qq_u zz_cp; grind))
  have h : qq_p xs (d + 0) (mm_mr mm_m49) (mm_mk mm_m49) (fun r S' => r = none ∧ S' = zz_cp (qq_u (qq_u S 48 0 (S 102 0)) 48 1 (S 102 1)) 49 50 51 103 104 105 10) 0 (qq_ent mm_m49 [.inr (48, none), .inr (102, none)]) [] S := by
    refine qq_fsound hxs (sp_0_ok hxs (d + 0)) [18] 300 ?_
    repeat' first | apply And.intro | intro _ | (simp only [qq_tab])
    all_goals (first | omega | (refine L 10 _ _ ?_ ?_ <;> first | omega | exact (zz_cp0 _ _ _ _ _ _ _).symm) | grind)
  obtain ⟨r, S', hE, e1, e2⟩ := qq_call_of (y := 49) rfl (Nat.le_of_ble_eq_true rfl) h
  rw [e1, e2] at hE
  exact hE
set_option maxRecDepth 20000 in
theorem f49_48_106 {xs : List Int32} (hxs : xs.length ≤ 2048) (d : Nat) (S : qq_S) (hp : ∀ i : Nat, i < 10 → S 109 i = 0 ∨ S 109 i = 1) : qq_E xs (d + 1) 49 [.inr (48, none), .inr (106, none)] S (none) (zz_cp (qq_u (qq_u S 48 0 (S 106 0)) 48 1 (S 106 1)) 49 50 51 107 108 109 10) := by
  have L : ∀ (k9 : Nat) (i : Int) (T : qq_S), 0 ≤ i ∧ i + k9 = 10 → T = zz_cp (qq_u (qq_u S 48 0 (S 106 0)) 48 1 (S 106 1)) 49 50 51 107 108 109 i → qq_p xs (d + 0) (mm_mr mm_m49) (mm_mk mm_m49) (fun r S' => r = none ∧ S' = zz_cp (qq_u (qq_u S 48 0 (S 106 0)) 48 1 (S 106 1)) 49 50 51 107 108 109 10) 18 [some (.inr (48, none)), some (.inr (106, none)), some (.inl i)] [] (T) := by
    intro k9
    induction k9 with
    | zero =>
      intro i T hm hv
      refine qq_fsound hxs (sp_0_ok hxs (d + 0)) [18] 300 ?_
      repeat' first | apply And.intro | intro _
      all_goals (first | omega | rfl | (refine ih _ _ ?_ ?_ <;> first | omega | exact zz_cp_s _ _ _ _ _ _ _ _ (by omega) (by decide) (by decide) (by decide) (by decide) (by decide) (by decide) (by decide) (by decide) (by decide) (by decide) (by decide) (by decide) T hv) | (have hi10 : i = 10 := (by omega); rw [hv, hi10]) | (have q9 := hp i.toNat (by omega); rw [hv]; simp (decide := true) only [qq_un', zz_cp, if_false, ite_self]; exact q9) | (have q9 := hp i.toNat (by omega); rw [hv]; unfold qq_u zz_cp; grind))
    | succ k9 ih =>
      intro i T hm hv
      refine qq_fsound hxs (sp_0_ok hxs (d + 0)) [18] 300 ?_
      repeat' first | apply And.intro | intro _
      all_goals (first | omega | rfl | (refine ih _ _ ?_ ?_ <;> first | omega | exact zz_cp_s _ _ _ _ _ _ _ _ (by omega) (by decide) (by decide) (by decide) (by decide) (by decide) (by decide) (by decide) (by decide) (by decide) (by decide) (by decide) (by decide) T hv) | (have hi10 : i = 10 := (by omega); rw [hv, hi10]) | (have q9 := hp i.toNat (by omega); rw [hv]; simp (decide := true) only [qq_un', zz_cp, if_false, ite_self]; exact q9) | (have q9 := hp i.toNat (by omega); rw [hv]; unfold qq_u zz_cp; grind))
  have h : qq_p xs (d + 0) (mm_mr mm_m49) (mm_mk mm_m49) (fun r S' => r = none ∧ S' = zz_cp (qq_u (qq_u S 48 0 (S 106 0)) 48 1 (S 106 1)) 49 50 51 107 108 109 10) 0 (qq_ent mm_m49 [.inr (48, none), .inr (106, none)]) [] S := by
    refine qq_fsound hxs (sp_0_ok hxs (d + 0)) [18] 300 ?_
    repeat' first | apply And.intro | intro _ | (simp only [qq_tab])
    all_goals (first | omega | (refine L 10 _ _ ?_ ?_ <;> first | omega | exact (zz_cp0 _ _ _ _ _ _ _).symm) | grind)
  obtain ⟨r, S', hE, e1, e2⟩ := qq_call_of (y := 49) rfl (Nat.le_of_ble_eq_true rfl) h
  rw [e1, e2] at hE
  exact hE
set_option maxRecDepth 20000 in
theorem f49_48_110 {xs : List Int32} (hxs : xs.length ≤ 2048) (d : Nat) (S : qq_S) (hp : ∀ i : Nat, i < 10 → S 113 i = 0 ∨ S 113 i = 1) : qq_E xs (d + 1) 49 [.inr (48, none), .inr (110, none)] S (none) (zz_cp (qq_u (qq_u S 48 0 (S 110 0)) 48 1 (S 110 1)) 49 50 51 111 112 113 10) := by
  have L : ∀ (k9 : Nat) (i : Int) (T : qq_S), 0 ≤ i ∧ i + k9 = 10 → T = zz_cp (qq_u (qq_u S 48 0 (S 110 0)) 48 1 (S 110 1)) 49 50 51 111 112 113 i → qq_p xs (d + 0) (mm_mr mm_m49) (mm_mk mm_m49) (fun r S' => r = none ∧ S' = zz_cp (qq_u (qq_u S 48 0 (S 110 0)) 48 1 (S 110 1)) 49 50 51 111 112 113 10) 18 [some (.inr (48, none)), some (.inr (110, none)), some (.inl i)] [] (T) := by
    intro k9
    induction k9 with
    | zero =>
      intro i T hm hv
      refine qq_fsound hxs (sp_0_ok hxs (d + 0)) [18] 300 ?_
      repeat' first | apply And.intro | intro _
      all_goals (first | omega | rfl | (refine ih _ _ ?_ ?_ <;> first | omega | exact zz_cp_s _ _ _ _ _ _ _ _ (by omega) (by decide) (by decide) (by decide) (by decide) (by decide) (by decide) (by decide) (by decide) (by decide) (by decide) (by decide) (by decide) T hv) | (have hi10 : i = 10 := (by omega); rw [hv, hi10]) | (have q9 := hp i.toNat (by omega); rw [hv]; simp (decide := true) only [qq_un', zz_cp, if_false, ite_self]; exact q9) | (have q9 := hp i.toNat (by omega); rw [hv]; unfold qq_u zz_cp; grind))
    | succ k9 ih =>
      intro i T hm hv
      refine qq_fsound hxs (sp_0_ok hxs (d + 0)) [18] 300 ?_
      repeat' first | apply And.intro | intro _
      all_goals (first | omega | rfl | (refine ih _ _ ?_ ?_ <;> first | omega | exact zz_cp_s _ _ _ _ _ _ _ _ (by omega) (by decide) (by decide) (by decide) (by decide) (by decide) (by decide) (by decide) (by decide) (by decide) (by decide) (by decide) (by decide) T hv) | (have hi10 : i = 10 := (by omega); rw [hv, hi10]) | (have q9 := hp i.toNat (by omega); rw [hv]; simp (decide := true) only [qq_un', zz_cp, if_false, ite_self]; exact q9) | (have q9 := hp i.toNat (by omega); rw [hv]; unfold qq_u zz_cp; grind))
  have h : qq_p xs (d + 0) (mm_mr mm_m49) (mm_mk mm_m49) (fun r S' => r = none ∧ S' = zz_cp (qq_u (qq_u S 48 0 (S 110 0)) 48 1 (S 110 1)) 49 50 51 111 112 113 10) 0 (qq_ent mm_m49 [.inr (48, none), .inr (110, none)]) [] S := by
    refine qq_fsound hxs (sp_0_ok hxs (d + 0)) [18] 300 ?_
    repeat' first | apply And.intro | intro _ | (simp only [qq_tab])
    all_goals (first | omega | (refine L 10 _ _ ?_ ?_ <;> first | omega | exact (zz_cp0 _ _ _ _ _ _ _).symm) | grind)
  obtain ⟨r, S', hE, e1, e2⟩ := qq_call_of (y := 49) rfl (Nat.le_of_ble_eq_true rfl) h
  rw [e1, e2] at hE
  exact hE
set_option maxRecDepth 20000 in
theorem f49_102_48 {xs : List Int32} (hxs : xs.length ≤ 2048) (d : Nat) (S : qq_S) (hp : ∀ i : Nat, i < 10 → S 51 i = 0 ∨ S 51 i = 1) : qq_E xs (d + 1) 49 [.inr (102, none), .inr (48, none)] S (none) (zz_cp (qq_u (qq_u S 102 0 (S 48 0)) 102 1 (S 48 1)) 103 104 105 49 50 51 10) := by
  have L : ∀ (k9 : Nat) (i : Int) (T : qq_S), 0 ≤ i ∧ i + k9 = 10 → T = zz_cp (qq_u (qq_u S 102 0 (S 48 0)) 102 1 (S 48 1)) 103 104 105 49 50 51 i → qq_p xs (d + 0) (mm_mr mm_m49) (mm_mk mm_m49) (fun r S' => r = none ∧ S' = zz_cp (qq_u (qq_u S 102 0 (S 48 0)) 102 1 (S 48 1)) 103 104 105 49 50 51 10) 18 [some (.inr (102, none)), some (.inr (48, none)), some (.inl i)] [] (T) := by
    intro k9
    induction k9 with
    | zero =>
      intro i T hm hv
      refine qq_fsound hxs (sp_0_ok hxs (d + 0)) [18] 300 ?_
      repeat' first | apply And.intro | intro _
      all_goals (first | omega | rfl | (refine ih _ _ ?_ ?_ <;> first | omega | exact zz_cp_s _ _ _ _ _ _ _ _ (by omega) (by decide) (by decide) (by decide) (by decide) (by decide) (by decide) (by decide) (by decide) (by decide) (by decide) (by decide) (by decide) T hv) | (have hi10 : i = 10 := (by omega); rw [hv, hi10]) | (have q9 := hp i.toNat (by omega); rw [hv]; simp (decide := true) only [qq_un', zz_cp, if_false, ite_self]; exact q9) | (have q9 := hp i.toNat (by omega); rw [hv]; unfold qq_u zz_cp; grind))
    | succ k9 ih =>
      intro i T hm hv
      refine qq_fsound hxs (sp_0_ok hxs (d + 0)) [18] 300 ?_
      repeat' first | apply And.intro | intro _
      all_goals (first | omega | rfl | (refine ih _ _ ?_ ?_ <;> first | omega | exact zz_cp_s _ _ _ _ _ _ _ _ (by omega) (by decide) (by decide) (by decide) (by decide) (by decide) (by decide) (by decide) (by decide) (by decide) (by decide) (by decide) (by decide) T hv) | (have hi10 : i = 10 := (by omega); rw [hv, hi10]) | (have q9 := hp i.toNat (by omega); rw [hv]; simp (decide := true) only [qq_un', zz_cp, if_false, ite_self]; exact q9) | (have q9 := hp i.toNat (by omega); rw [hv]; unfold qq_u zz_cp; grind))
  have h : qq_p xs (d + 0) (mm_mr mm_m49) (mm_mk mm_m49) (fun r S' => r = none ∧ S' = zz_cp (qq_u (qq_u S 102 0 (S 48 0)) 102 1 (S 48 1)) 103 104 105 49 50 51 10) 0 (qq_ent mm_m49 [.inr (102, none), .inr (48, none)]) [] S := by
    refine qq_fsound hxs (sp_0_ok hxs (d + 0)) [18] 300 ?_
    repeat' first | apply And.intro | intro _ | (simp only [qq_tab])
    all_goals (first | omega | (refine L 10 _ _ ?_ ?_ <;> first | omega | exact (zz_cp0 _ _ _ _ _ _ _).symm) | grind)
  obtain ⟨r, S', hE, e1, e2⟩ := qq_call_of (y := 49) rfl (Nat.le_of_ble_eq_true rfl) h
  rw [e1, e2] at hE
  exact hE
set_option maxRecDepth 20000 in
theorem f49_106_48 {xs : List Int32} (hxs : xs.length ≤ 2048) (d : Nat) (S : qq_S) (hp : ∀ i : Nat, i < 10 → S 51 i = 0 ∨ S 51 i = 1) : qq_E xs (d + 1) 49 [.inr (106, none), .inr (48, none)] S (none) (zz_cp (qq_u (qq_u S 106 0 (S 48 0)) 106 1 (S 48 1)) 107 108 109 49 50 51 10) := by
  have L : ∀ (k9 : Nat) (i : Int) (T : qq_S), 0 ≤ i ∧ i + k9 = 10 → T = zz_cp (qq_u (qq_u S 106 0 (S 48 0)) 106 1 (S 48 1)) 107 108 109 49 50 51 i → qq_p xs (d + 0) (mm_mr mm_m49) (mm_mk mm_m49) (fun r S' => r = none ∧ S' = zz_cp (qq_u (qq_u S 106 0 (S 48 0)) 106 1 (S 48 1)) 107 108 109 49 50 51 10) 18 [some (.inr (106, none)), some (.inr (48, none)), some (.inl i)] [] (T) := by
    intro k9
    induction k9 with
    | zero =>
      intro i T hm hv
      refine qq_fsound hxs (sp_0_ok hxs (d + 0)) [18] 300 ?_
      repeat' first | apply And.intro | intro _
      all_goals (first | omega | rfl | (refine ih _ _ ?_ ?_ <;> first | omega | exact zz_cp_s _ _ _ _ _ _ _ _ (by omega) (by decide) (by decide) (by decide) (by decide) (by decide) (by decide) (by decide) (by decide) (by decide) (by decide) (by decide) (by decide) T hv) | (have hi10 : i = 10 := (by omega); rw [hv, hi10]) | (have q9 := hp i.toNat (by omega); rw [hv]; simp (decide := true) only [qq_un', zz_cp, if_false, ite_self]; exact q9) | (have q9 := hp i.toNat (by omega); rw [hv]; unfold qq_u zz_cp; grind))
    | succ k9 ih =>
      intro i T hm hv
      refine qq_fsound hxs (sp_0_ok hxs (d + 0)) [18] 300 ?_
      repeat' first | apply And.intro | intro _
      all_goals (first | omega | rfl | (refine ih _ _ ?_ ?_ <;> first | omega | exact zz_cp_s _ _ _ _ _ _ _ _ (by omega) (by decide) (by decide) (by decide) (by decide) (by decide) (by decide) (by decide) (by decide) (by decide) (by decide) (by decide) (by decide) T hv) | (have hi10 : i = 10 := (by omega); rw [hv, hi10]) | (have q9 := hp i.toNat (by omega); rw [hv]; simp (decide := true) only [qq_un', zz_cp, if_false, ite_self]; exact q9) | (have q9 := hp i.toNat (by omega); rw [hv]; unfold qq_u zz_cp; grind))
  have h : qq_p xs (d + 0) (mm_mr mm_m49) (mm_mk mm_m49) (fun r S' => r = none ∧ S' = zz_cp (qq_u (qq_u S 106 0 (S 48 0)) 106 1 (S 48 1)) 107 108 109 49 50 51 10) 0 (qq_ent mm_m49 [.inr (106, none), .inr (48, none)]) [] S := by
    refine qq_fsound hxs (sp_0_ok hxs (d + 0)) [18] 300 ?_
    repeat' first | apply And.intro | intro _ | (simp only [qq_tab])
    all_goals (first | omega | (refine L 10 _ _ ?_ ?_ <;> first | omega | exact (zz_cp0 _ _ _ _ _ _ _).symm) | grind)
  obtain ⟨r, S', hE, e1, e2⟩ := qq_call_of (y := 49) rfl (Nat.le_of_ble_eq_true rfl) h
  rw [e1, e2] at hE
  exact hE
set_option maxRecDepth 20000 in
theorem f49_110_48 {xs : List Int32} (hxs : xs.length ≤ 2048) (d : Nat) (S : qq_S) (hp : ∀ i : Nat, i < 10 → S 51 i = 0 ∨ S 51 i = 1) : qq_E xs (d + 1) 49 [.inr (110, none), .inr (48, none)] S (none) (zz_cp (qq_u (qq_u S 110 0 (S 48 0)) 110 1 (S 48 1)) 111 112 113 49 50 51 10) := by
  have L : ∀ (k9 : Nat) (i : Int) (T : qq_S), 0 ≤ i ∧ i + k9 = 10 → T = zz_cp (qq_u (qq_u S 110 0 (S 48 0)) 110 1 (S 48 1)) 111 112 113 49 50 51 i → qq_p xs (d + 0) (mm_mr mm_m49) (mm_mk mm_m49) (fun r S' => r = none ∧ S' = zz_cp (qq_u (qq_u S 110 0 (S 48 0)) 110 1 (S 48 1)) 111 112 113 49 50 51 10) 18 [some (.inr (110, none)), some (.inr (48, none)), some (.inl i)] [] (T) := by
    intro k9
    induction k9 with
    | zero =>
      intro i T hm hv
      refine qq_fsound hxs (sp_0_ok hxs (d + 0)) [18] 300 ?_
      repeat' first | apply And.intro | intro _
      all_goals (first | omega | rfl | (refine ih _ _ ?_ ?_ <;> first | omega | exact zz_cp_s _ _ _ _ _ _ _ _ (by omega) (by decide) (by decide) (by decide) (by decide) (by decide) (by decide) (by decide) (by decide) (by decide) (by decide) (by decide) (by decide) T hv) | (have hi10 : i = 10 := (by omega); rw [hv, hi10]) | (have q9 := hp i.toNat (by omega); rw [hv]; simp (decide := true) only [qq_un', zz_cp, if_false, ite_self]; exact q9) | (have q9 := hp i.toNat (by omega); rw [hv]; unfold qq_u zz_cp; grind))
    | succ k9 ih =>
      intro i T hm hv
      refine qq_fsound hxs (sp_0_ok hxs (d + 0)) [18] 300 ?_
      repeat' first | apply And.intro | intro _
      all_goals (first | omega | rfl | (refine ih _ _ ?_ ?_ <;> first | omega | exact zz_cp_s _ _ _ _ _ _ _ _ (by omega) (by decide) (by decide) (by decide) (by decide) (by decide) (by decide) (by decide) (by decide) (by decide) (by decide) (by decide) (by decide) T hv) | (have hi10 : i = 10 := (by omega); rw [hv, hi10]) | (have q9 := hp i.toNat (by omega); rw [hv]; simp (decide := true) only [qq_un', zz_cp, if_false, ite_self]; exact q9) | (have q9 := hp i.toNat (by omega); rw [hv]; unfold qq_u zz_cp; grind))
  have h : qq_p xs (d + 0) (mm_mr mm_m49) (mm_mk mm_m49) (fun r S' => r = none ∧ S' = zz_cp (qq_u (qq_u S 110 0 (S 48 0)) 110 1 (S 48 1)) 111 112 113 49 50 51 10) 0 (qq_ent mm_m49 [.inr (110, none), .inr (48, none)]) [] S := by
    refine qq_fsound hxs (sp_0_ok hxs (d + 0)) [18] 300 ?_
    repeat' first | apply And.intro | intro _ | (simp only [qq_tab])
    all_goals (first | omega | (refine L 10 _ _ ?_ ?_ <;> first | omega | exact (zz_cp0 _ _ _ _ _ _ _).symm) | grind)
  obtain ⟨r, S', hE, e1, e2⟩ := qq_call_of (y := 49) rfl (Nat.le_of_ble_eq_true rfl) h
  rw [e1, e2] at hE
  exact hE
def sp_7 : qq_P := fun y as S => match y, as with
  | 110, [.inl a, .inl lo, .inl hi] => some (qq_in a ∧ qq_in lo ∧ qq_in hi, some (zz_b (lo ≤ a ∧ a ≤ hi)), S)
  | 114, [.inl a, .inl lo, .inl hi] => some (qq_in a ∧ qq_in lo ∧ qq_in hi, some (zz_b (lo ≤ a ∧ a ≤ hi)), S)
  | 108, [.inr (3, none), .inl a] => some (True, some (a), qq_u S 3 9 a)
  | 109, [.inr (3, none), .inl a] => some (True, some (a), qq_u S 3 9 0)
  | 115, [.inr (115, none), .inl a] => some (qq_in a, some (a), qq_u S 115 0 (if a < 0 then a else 0))
  | 31, [.inr (4, none), .inl a] => some (qq_in a ∧ qq_in (S 4 0), some (zz_b (0 ≤ a ∧ a < S 4 0)), S)
  | 32, [.inr (4, none), .inl a] => some (qq_in a ∧ qq_in (S 4 1), some (zz_b (0 ≤ a ∧ a < S 4 1)), S)
  | 107, [.inr (3, none)] => some (True, some (S 3 9), S)
  | 177, [.inr (115, none)] => some (True, some (S 115 0), S)
  | 45, [.inr (48, none)] => some (True, some (S 48 0 * S 48 1), S)
  | 46, [.inr (48, none), .inl a] => some (0 ≤ a ∧ a < 10 ∧ qq_in (S 49 a.toNat), some (zz_b (¬ S 49 a.toNat = -1)), S)
  | 52, [.inr (48, none), .inl a, .inl b] => some (0 ≤ a ∧ a < 10 ∧ 0 ≤ b ∧ b < 10 ∧ (-8 ≤ S 49 a.toNat ∧ S 49 a.toNat ≤ 8 ∧ -8 ≤ S 49 b.toNat ∧ S 49 b.toNat ≤ 8 ∧ -8 ≤ S 50 a.toNat ∧ S 50 a.toNat ≤ 8 ∧ -8 ≤ S 50 b.toNat ∧ S 50 b.toNat ≤ 8), some (zz_dir (S 49 b.toNat - S 49 a.toNat) (S 50 b.toNat - S 50 a.toNat)), S)
  | 45, [.inr (56, none)] => some (True, some (S 56 0 * S 56 1), S)
  | 46, [.inr (56, none), .inl a] => some (0 ≤ a ∧ a < 10 ∧ qq_in (S 57 a.toNat), some (zz_b (¬ S 57 a.toNat = -1)), S)
  | 52, [.inr (56, none), .inl a, .inl b] => some (0 ≤ a ∧ a < 10 ∧ 0 ≤ b ∧ b < 10 ∧ (-8 ≤ S 57 a.toNat ∧ S 57 a.toNat ≤ 8 ∧ -8 ≤ S 57 b.toNat ∧ S 57 b.toNat ≤ 8 ∧ -8 ≤ S 58 a.toNat ∧ S 58 a.toNat ≤ 8 ∧ -8 ≤ S 58 b.toNat ∧ S 58 b.toNat ≤ 8), some (zz_dir (S 57 b.toNat - S 57 a.toNat) (S 58 b.toNat - S 58 a.toNat)), S)
  | 64, [.inl a, .inl b] => some (-100 ≤ a ∧ a ≤ 100 ∧ -100 ≤ b ∧ b ≤ 100, some (if 4 < qq_and (a - b) 7 then 8 - qq_and (a - b) 7 else qq_and (a - b) 7), S)
  | 111, [.inl a] => some (qq_in a, some (zz_b (0 ≤ a ∧ a ≤ 100)), S)
  | 116, [.inr (115, none), .inl a] => some (qq_in a ∧ 0 ≤ S 115 1 ∧ S 115 1 ≤ 10, some (zz_b (0 ≤ a ∧ a < S 115 1)), S)
  | 92, [.inr (3, none), .inl a] => some (qq_in a, some (if 1 ≤ a ∧ a ≤ 4 then S 52 3 else -1), if 1 ≤ a ∧ a ≤ 4 then qq_u (qq_u S 52 3 a) 3 9 0 else qq_u S 3 9 (-1))
  | 132, [.inr (115, none), .inl a] => some (qq_in a ∧ 0 ≤ S 115 14 ∧ S 115 14 ≤ 4, some (if 1 ≤ a ∧ a ≤ 4 then S 115 14 else -1), if 1 ≤ a ∧ a ≤ 4 then qq_u (qq_u S 115 14 a) 115 0 0 else qq_u S 115 0 (-1))
  | 93, [.inr (3, none), .inl a, .inl b, .inl c] => some (qq_in a ∧ qq_in b ∧ qq_in c, some (if 0 ≤ a ∧ a ≤ 100 ∧ 0 ≤ b ∧ b ≤ 100 ∧ 0 ≤ c ∧ c ≤ 100 then 0 else -1), if 0 ≤ a ∧ a ≤ 100 ∧ 0 ≤ b ∧ b ≤ 100 ∧ 0 ≤ c ∧ c ≤ 100 then qq_u (qq_u (qq_u (qq_u S 52 0 a) 52 1 b) 52 2 c) 3 9 0 else qq_u S 3 9 (-1))
  | 133, [.inr (115, none), .inl a, .inl b, .inl c] => some (qq_in a ∧ qq_in b ∧ qq_in c, some (if 0 ≤ a ∧ a ≤ 100 ∧ 0 ≤ b ∧ b ≤ 100 ∧ 0 ≤ c ∧ c ≤ 100 then 0 else -1), if 0 ≤ a ∧ a ≤ 100 ∧ 0 ≤ b ∧ b ≤ 100 ∧ 0 ≤ c ∧ c ≤ 100 then qq_u (qq_u (qq_u (qq_u S 115 15 a) 115 16 b) 115 17 c) 115 0 0 else qq_u S 115 0 (-1))
  | 47, [.inr (48, none), .inl a] => some (0 ≤ a ∧ a < 10 ∧ qq_in (S 49 a.toNat), some (if S 49 a.toNat = -1 then -1 else S 50 a.toNat * S 48 0 + S 49 a.toNat), S)
  | 48, [.inr (48, none), .inl a, .inl p] => some (0 ≤ a ∧ a < 10 ∧ qq_in p ∧ 0 ≤ S 48 0 ∧ S 48 0 ≤ 8, none, if p < 0 ∨ S 48 0 < 1 then qq_u (qq_u S 49 a.toNat (-1)) 50 a.toNat (-1) else qq_u (qq_u S 49 a.toNat (p % S 48 0)) 50 a.toNat (p / S 48 0))
  | 47, [.inr (56, none), .inl a] => some (0 ≤ a ∧ a < 10 ∧ qq_in (S 57 a.toNat), some (if S 57 a.toNat = -1 then -1 else S 58 a.toNat * S 56 0 + S 57 a.toNat), S)
  | 48, [.inr (56, none), .inl a, .inl p] => some (0 ≤ a ∧ a < 10 ∧ qq_in p ∧ 0 ≤ S 56 0 ∧ S 56 0 ≤ 8, none, if p < 0 ∨ S 56 0 < 1 then qq_u (qq_u S 57 a.toNat (-1)) 58 a.toNat (-1) else qq_u (qq_u S 57 a.toNat (p % S 56 0)) 58 a.toNat (p / S 56 0))
  | 35, [.inr (4, none)] => some (True, some (S 4 1), qq_u S 4 1 (S 4 1 + 1))
  | 50, [.inr (48, none)] => some (∀ i : Nat, i < 10 → qq_in (S 49 i), some (zz_cnt (S 49) (-1) 10), S)
  | 51, [.inr (48, none)] => some (∀ i : Nat, i < 10 → qq_in (S 51 i), some (zz_cnt (S 51) 0 10), S)
  | 44, [.inr (48, none), .inl w, .inl h] => some (True, none, zz_rs (qq_u (qq_u S 48 0 w) 48 1 h) 49 50 51 10)
  | 44, [.inr (56, none), .inl w, .inl h] => some (True, none, zz_rs (qq_u (qq_u S 56 0 w) 56 1 h) 57 58 59 10)
  | 33, [.inr (4, none), .inl a, .inl b] => some (qq_in a ∧ qq_in b ∧ (0 ≤ S 4 0 ∧ S 4 0 ≤ 10) ∧ (∀ i : Nat, (i : Int) < S 4 0 → qq_in (S 5 i) ∧ qq_in (S 6 i)), some (zz_b (zz_has (S 5) (S 6) a b (S 4 0).toNat = true)), S)
  | 34, [.inr (4, none), .inl a, .inl b] => some (0 ≤ S 4 0 ∧ S 4 0 < 10, some (S 4 0), qq_u (qq_u (qq_u S 5 (S 4 0).toNat a) 6 (S 4 0).toNat b) 4 0 (S 4 0 + 1))
  | 49, [.inr (48, none), .inr (102, none)] => some (∀ i : Nat, i < 10 → S 105 i = 0 ∨ S 105 i = 1, none, zz_cp (qq_u (qq_u S 48 0 (S 102 0)) 48 1 (S 102 1)) 49 50 51 103 104 105 10)
  | 49, [.inr (48, none), .inr (106, none)] => some (∀ i : Nat, i < 10 → S 109 i = 0 ∨ S 109 i = 1, none, zz_cp (qq_u (qq_u S 48 0 (S 106 0)) 48 1 (S 106 1)) 49 50 51 107 108 109 10)
  | 49, [.inr (48, none), .inr (110, none)] => some (∀ i : Nat, i < 10 → S 113 i = 0 ∨ S 113 i = 1, none, zz_cp (qq_u (qq_u S 48 0 (S 110 0)) 48 1 (S 110 1)) 49 50 51 111 112 113 10)
  | 49, [.inr (102, none), .inr (48, none)] => some (∀ i : Nat, i < 10 → S 51 i = 0 ∨ S 51 i = 1, none, zz_cp (qq_u (qq_u S 102 0 (S 48 0)) 102 1 (S 48 1)) 103 104 105 49 50 51 10)
  | 49, [.inr (106, none), .inr (48, none)] => some (∀ i : Nat, i < 10 → S 51 i = 0 ∨ S 51 i = 1, none, zz_cp (qq_u (qq_u S 106 0 (S 48 0)) 106 1 (S 48 1)) 107 108 109 49 50 51 10)
  | 49, [.inr (110, none), .inr (48, none)] => some (∀ i : Nat, i < 10 → S 51 i = 0 ∨ S 51 i = 1, none, zz_cp (qq_u (qq_u S 110 0 (S 48 0)) 110 1 (S 48 1)) 111 112 113 49 50 51 10)
  | _, _ => none
theorem sp_7_ok {xs : List Int32} (hxs : xs.length ≤ 2048) (d : Nat) : qq_ok xs (d + 3) sp_7 := by
  intro y as S pre r S2 h hp
  unfold sp_7 at h
  split at h
  · cases h; exact f110 hxs (d + 2) S _ _ _ hp
  · cases h; exact f114 hxs (d + 2) S _ _ _ hp
  · cases h; exact f108 hxs (d + 2) S _ hp
  · cases h; exact f109 hxs (d + 2) S _ hp
  · cases h; exact f115 hxs (d + 2) S _ hp
  · cases h; exact f31 hxs (d + 2) S _ hp
  · cases h; exact f32 hxs (d + 2) S _ hp
  · cases h; exact f107 hxs (d + 2) S hp
  · cases h; exact f177 hxs (d + 2) S hp
  · cases h; exact f45_48 hxs (d + 2) S hp
  · cases h; exact f46_48 hxs (d + 2) S _ hp
  · cases h; exact f52_48 hxs (d + 2) S _ _ hp
  · cases h; exact f45_56 hxs (d + 2) S hp
  · cases h; exact f46_56 hxs (d + 2) S _ hp
  · cases h; exact f52_56 hxs (d + 2) S _ _ hp
  · cases h; exact f64 hxs (d + 2) S _ _ hp
  · cases h; exact f111 hxs (d + 1) S _ hp
  · cases h; exact f116 hxs (d + 1) S _ hp
  · cases h; exact f92 hxs (d + 1) S _ hp
  · cases h; exact f132 hxs (d + 1) S _ hp
  · cases h; exact f93 hxs (d + 0) S _ _ _ hp
  · cases h; exact f133 hxs (d + 1) S _ _ _ hp
  · cases h; exact f47_48 hxs (d + 1) S _ hp
  · cases h; exact f48_48 hxs (d + 2) S _ _ hp
  · cases h; exact f47_56 hxs (d + 1) S _ hp
  · cases h; exact f48_56 hxs (d + 2) S _ _ hp
  · cases h; exact f35 hxs (d + 2) S hp
  · cases h; exact f50 hxs (d + 1) S hp
  · cases h; exact f51 hxs (d + 1) S hp
  · cases h; exact f44_48 hxs (d + 2) S _ _ hp
  · cases h; exact f44_56 hxs (d + 2) S _ _ hp
  · cases h; exact f33 hxs (d + 2) S _ _ hp
  · cases h; exact f34 hxs (d + 2) S _ _ hp
  · cases h; exact f49_48_102 hxs (d + 2) S hp
  · cases h; exact f49_48_106 hxs (d + 2) S hp
  · cases h; exact f49_48_110 hxs (d + 2) S hp
  · cases h; exact f49_102_48 hxs (d + 2) S hp
  · cases h; exact f49_106_48 hxs (d + 2) S hp
  · cases h; exact f49_110_48 hxs (d + 2) S hp
  · cases h
set_option maxRecDepth 20000 in
theorem f104 {xs : List Int32} (hxs : xs.length ≤ 2048) (d : Nat) (S : qq_S) (a : Int) (hp : qq_in a ∧ (∀ i : Nat, i < 10 → S 51 i = 0 ∨ S 51 i = 1)) : qq_E xs (d + 4) 104 [.inr (3, none), .inl a] S (some (if 0 ≤ a ∧ a ≤ 2 then 0 else -1)) (if 0 ≤ a ∧ a ≤ 2 then (if a = 0 then qq_u (qq_u (zz_cp (qq_u (qq_u S 102 0 (S 48 0)) 102 1 (S 48 1)) 103 104 105 49 50 51 10) 114 a.toNat 1) 3 9 0 else if a = 1 then qq_u (qq_u (zz_cp (qq_u (qq_u S 106 0 (S 48 0)) 106 1 (S 48 1)) 107 108 109 49 50 51 10) 114 a.toNat 1) 3 9 0 else qq_u (qq_u (zz_cp (qq_u (qq_u S 110 0 (S 48 0)) 110 1 (S 48 1)) 111 112 113 49 50 51 10) 114 a.toNat 1) 3 9 0) else qq_u S 3 9 (-1)) := by
  have h : qq_p xs (d + 3) (mm_mr mm_m104) (mm_mk mm_m104) (fun r S' => r = some (if 0 ≤ a ∧ a ≤ 2 then 0 else -1) ∧ S' = if 0 ≤ a ∧ a ≤ 2 then (if a = 0 then qq_u (qq_u (zz_cp (qq_u (qq_u S 102 0 (S 48 0)) 102 1 (S 48 1)) 103 104 105 49 50 51 10) 114 a.toNat 1) 3 9 0 else if a = 1 then qq_u (qq_u (zz_cp (qq_u (qq_u S 106 0 (S 48 0)) 106 1 (S 48 1)) 107 108 109 49 50 51 10) 114 a.toNat 1) 3 9 0 else qq_u (qq_u (zz_cp (qq_u (qq_u S 110 0 (S 48 0)) 110 1 (S 48 1)) 111 112 113 49 50 51 10) 114 a.toNat 1) 3 9 0) else qq_u S 3 9 (-1)) 0 (qq_ent mm_m104 [.inr (3, none), .inl a]) [] S := by
    refine qq_fsound hxs (sp_7_ok hxs (d + 0)) [] 200 ?_
    repeat' first | apply And.intro | intro _ | (simp only [qq_tab]) | (simp only [qq_pl])
    all_goals (first | rfl | omega | exact hp.2 | grind [qq_in, zz_b])
  obtain ⟨r, S', hE, e1, e2⟩ := qq_call_of (y := 104) rfl (Nat.le_of_ble_eq_true rfl) h
  rw [e1, e2] at hE
  exact hE
set_option maxRecDepth 20000 in
theorem f105 {xs : List Int32} (hxs : xs.length ≤ 2048) (d : Nat) (S : qq_S) (a : Int) (hp : qq_in a ∧ (0 ≤ a ∧ a ≤ 2 → (S 114 a.toNat = 0 ∨ S 114 a.toNat = 1)) ∧ (a = 0 → ¬ S 114 a.toNat = 0 → (∀ i : Nat, i < 10 → S 105 i = 0 ∨ S 105 i = 1)) ∧ (a = 1 → ¬ S 114 a.toNat = 0 → (∀ i : Nat, i < 10 → S 109 i = 0 ∨ S 109 i = 1)) ∧ (a = 2 → ¬ S 114 a.toNat = 0 → (∀ i : Nat, i < 10 → S 113 i = 0 ∨ S 113 i = 1))) : qq_E xs (d + 4) 105 [.inr (3, none), .inl a] S (some (if 0 ≤ a ∧ a ≤ 2 then (if S 114 a.toNat = 0 then -6 else 0) else -1)) (if 0 ≤ a ∧ a ≤ 2 then (if S 114 a.toNat = 0 then qq_u S 3 9 (-6) else if a = 0 then qq_u (zz_cp (qq_u (qq_u S 48 0 (S 102 0)) 48 1 (S 102 1)) 49 50 51 103 104 105 10) 3 9 0 else if a = 1 then qq_u (zz_cp (qq_u (qq_u S 48 0 (S 106 0)) 48 1 (S 106 1)) 49 50 51 107 108 109 10) 3 9 0 else qq_u (zz_cp (qq_u (qq_u S 48 0 (S 110 0)) 48 1 (S 110 1)) 49 50 51 111 112 113 10) 3 9 0) else qq_u S 3 9 (-1)) := by
  have h : qq_p xs (d + 3) (mm_mr mm_m105) (mm_mk mm_m105) (fun r S' => r = some (if 0 ≤ a ∧ a ≤ 2 then (if S 114 a.toNat = 0 then -6 else 0) else -1) ∧ S' = if 0 ≤ a ∧ a ≤ 2 then (if S 114 a.toNat = 0 then qq_u S 3 9 (-6) else if a = 0 then qq_u (zz_cp (qq_u (qq_u S 48 0 (S 102 0)) 48 1 (S 102 1)) 49 50 51 103 104 105 10) 3 9 0 else if a = 1 then qq_u (zz_cp (qq_u (qq_u S 48 0 (S 106 0)) 48 1 (S 106 1)) 49 50 51 107 108 109 10) 3 9 0 else qq_u (zz_cp (qq_u (qq_u S 48 0 (S 110 0)) 48 1 (S 110 1)) 49 50 51 111 112 113 10) 3 9 0) else qq_u S 3 9 (-1)) 0 (qq_ent mm_m105 [.inr (3, none), .inl a]) [] S := by
    refine qq_fsound hxs (sp_7_ok hxs (d + 0)) [] 200 ?_
    repeat' first | apply And.intro | intro _ | (simp only [qq_tab]) | (simp only [qq_pl])
    all_goals (first | rfl | omega | (apply hp.2.2.1 <;> first | assumption | omega | grind [zz_b]) | (apply hp.2.2.2.1 <;> first | assumption | omega | grind [zz_b]) | (apply hp.2.2.2.2 <;> first | assumption | omega | grind [zz_b]) | grind [qq_in, zz_b])
  obtain ⟨r, S', hE, e1, e2⟩ := qq_call_of (y := 105) rfl (Nat.le_of_ble_eq_true rfl) h
  rw [e1, e2] at hE
  exact hE
