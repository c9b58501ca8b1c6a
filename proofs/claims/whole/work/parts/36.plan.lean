noncomputable def sp_11 : qq_P := fun y as S => match y, as with
  | 41, [.inr (4, none), .inl s, .inl a, .inl b] => some ((0 ≤ s ∧ s < 10 ∧ 0 ≤ a ∧ a < 10 ∧ 0 ≤ b ∧ b < 10) ∧ (0 ≤ S 5 s.toNat ∧ S 5 s.toNat ≤ 1000) ∧ (0 ≤ S 5 a.toNat ∧ S 5 a.toNat ≤ 1000) ∧ (0 ≤ S 5 b.toNat ∧ S 5 b.toNat ≤ 1000) ∧ (0 ≤ S 6 s.toNat ∧ S 6 s.toNat ≤ 1000) ∧ (0 ≤ S 6 a.toNat ∧ S 6 a.toNat ≤ 1000) ∧ (0 ≤ S 6 b.toNat ∧ S 6 b.toNat ≤ 1000), some (zz_ah (S 5 a.toNat - S 5 s.toNat) (S 6 a.toNat - S 6 s.toNat) (S 5 b.toNat - S 5 s.toNat) (S 6 b.toNat - S 6 s.toNat) a b), S)
  | 128, [.inr (115, none), .inl s, .inl a, .inl b] => some ((0 ≤ s ∧ s < 10 ∧ 0 ≤ a ∧ a < 10 ∧ 0 ≤ b ∧ b < 10) ∧ (0 ≤ S 116 s.toNat ∧ S 116 s.toNat ≤ 1000) ∧ (0 ≤ S 116 a.toNat ∧ S 116 a.toNat ≤ 1000) ∧ (0 ≤ S 116 b.toNat ∧ S 116 b.toNat ≤ 1000) ∧ (0 ≤ S 117 s.toNat ∧ S 117 s.toNat ≤ 1000) ∧ (0 ≤ S 117 a.toNat ∧ S 117 a.toNat ≤ 1000) ∧ (0 ≤ S 117 b.toNat ∧ S 117 b.toNat ≤ 1000), some (zz_ah (S 116 a.toNat - S 116 s.toNat) (S 117 a.toNat - S 117 s.toNat) (S 116 b.toNat - S 116 s.toNat) (S 117 b.toNat - S 117 s.toNat) a b), S)
  | _, _ => sp_10 y as S
theorem sp_11_ok {xs : List Int32} (hxs : xs.length ≤ 2048) (d : Nat) : qq_ok xs (d + 5) sp_11 := by
  intro y as S pre r S2 h hp
  unfold sp_11 at h
  split at h
  · cases h; exact f41 hxs (d + 0) S _ _ _ hp
  · cases h; exact f128 hxs (d + 0) S _ _ _ hp
  · exact sp_10_ok hxs (d + 1) y as S pre r S2 h hp
theorem zz_pin (p : Prop) : qq_in (zz_p p) := by
  have := zz_p01 p
  unfold qq_in
  omega
theorem zz_ext {P : Nat → Prop} {i : Int} (h : ∀ j : Nat, (j : Int) < i → ¬ P j) (h1 : ¬ P i.toNat) (h0 : 0 ≤ i) : ∀ j : Nat, (j : Int) < i + 1 → ¬ P j := by
  intro j hj
  by_cases e : j = i.toNat
  · rw [e]; exact h1
  · exact h j (by omega)
set_option maxRecDepth 20000 in
theorem f57 {xs : List Int32} (hxs : xs.length ≤ 2048) (d : Nat) (S : qq_S) (n : Int) (a : Int) (b : Int) (hp : qq_in n ∧ qq_in a ∧ qq_in b) : qq_E xs (d + 1) 57 [.inl n, .inl a, .inl b] S (some (zz_p (zz_in n a b))) (S) := by
  have h : qq_p xs (d + 0) (mm_mr mm_m57) (mm_mk mm_m57) (fun r S' => r = some (zz_p (zz_in n a b)) ∧ S' = S) 0 (qq_ent mm_m57 [.inl n, .inl a, .inl b]) [] S := by
    refine qq_fsound hxs (sp_0_ok hxs (d + 0)) [] 300 ?_
    repeat' first | apply And.intro | intro _ | (simp only [qq_tab]) | (simp only [qq_pl])
    all_goals (first | rfl | omega | exact Or.inl trivial | exact Or.inr trivial | exact congrArg some (zz_p1 (by unfold zz_in; grind)).symm | exact congrArg some (zz_p0 (by unfold zz_in; grind)).symm | grind [qq_in])
  obtain ⟨r, S', hE, e1, e2⟩ := qq_call_of (y := 57) rfl (Nat.le_of_ble_eq_true rfl) h
  rw [e1, e2] at hE
  exact hE
set_option maxRecDepth 20000 in
theorem f53_48 {xs : List Int32} (hxs : xs.length ≤ 2048) (d : Nat) (S : qq_S) (a : Int) (b : Int) (hp : (0 ≤ a ∧ a < 10 ∧ 0 ≤ b ∧ b < 10) ∧ zz_p (zz_pl (S 49) (S 50)) = 1) : qq_E xs (d + 1) 53 [.inr (48, none), .inl a, .inl b] S (some (zz_ln (S 49) (S 50) a.toNat b.toNat)) (S) := by
  have h : qq_p xs (d + 0) (mm_mr mm_m53) (mm_mk mm_m53) (fun r S' => r = some (zz_ln (S 49) (S 50) a.toNat b.toNat) ∧ S' = S) 0 (qq_ent mm_m53 [.inr (48, none), .inl a, .inl b]) [] S := by
    refine qq_fsound hxs (sp_0_ok hxs (d + 0)) [] 300 ?_
    repeat' first | apply And.intro | intro _ | (simp only [qq_tab]) | (simp only [qq_pl])
    all_goals (first | rfl | omega | (have q1 := (zz_pi1.mp hp.2) a.toNat (by omega); have q2 := (zz_pi1.mp hp.2) b.toNat (by omega); first | omega | grind [qq_in]))
  obtain ⟨r, S', hE, e1, e2⟩ := qq_call_of (y := 53) rfl (Nat.le_of_ble_eq_true rfl) h
  rw [e1, e2] at hE
  exact hE
set_option maxRecDepth 20000 in
theorem f54 {xs : List Int32} (hxs : xs.length ≤ 2048) (d : Nat) (S : qq_S) (a : Int) (b : Int) (hp : (0 ≤ a ∧ a < 10 ∧ 0 ≤ b ∧ b < 10) ∧ zz_p (zz_pl (S 49) (S 50)) = 1) : qq_E xs (d + 1) 54 [.inr (48, none), .inl a, .inl b] S (some (zz_p (S 49 a.toNat = S 49 b.toNat ∧ S 50 a.toNat = S 50 b.toNat))) (S) := by
  have h : qq_p xs (d + 0) (mm_mr mm_m54) (mm_mk mm_m54) (fun r S' => r = some (zz_p (S 49 a.toNat = S 49 b.toNat ∧ S 50 a.toNat = S 50 b.toNat)) ∧ S' = S) 0 (qq_ent mm_m54 [.inr (48, none), .inl a, .inl b]) [] S := by
    refine qq_fsound hxs (sp_0_ok hxs (d + 0)) [] 300 ?_
    repeat' first | apply And.intro | intro _ | (simp only [qq_tab]) | (simp only [qq_pl])
    all_goals (first | rfl | omega | exact Or.inl trivial | exact Or.inr trivial | (have q1 := (zz_pi1.mp hp.2) a.toNat (by omega); have q2 := (zz_pi1.mp hp.2) b.toNat (by omega); first | omega | grind [qq_in]) | exact congrArg some (zz_p1 (by omega)).symm | exact congrArg some (zz_p0 (by omega)).symm)
  obtain ⟨r, S', hE, e1, e2⟩ := qq_call_of (y := 54) rfl (Nat.le_of_ble_eq_true rfl) h
  rw [e1, e2] at hE
  exact hE
set_option maxRecDepth 20000 in
theorem f55_48 {xs : List Int32} (hxs : xs.length ≤ 2048) (d : Nat) (S : qq_S) (a : Int) (b : Int) (s : Int) (hp : (0 ≤ s ∧ s < 10 ∧ 0 ≤ a ∧ a < 10 ∧ 0 ≤ b ∧ b < 10) ∧ zz_p (zz_pl (S 49) (S 50)) = 1) : qq_E xs (d + 1) 55 [.inr (48, none), .inl a, .inl b, .inl s] S (some (zz_side (S 49) (S 50) a.toNat b.toNat s.toNat)) (S) := by
  have h : qq_p xs (d + 0) (mm_mr mm_m55) (mm_mk mm_m55) (fun r S' => r = some (zz_side (S 49) (S 50) a.toNat b.toNat s.toNat) ∧ S' = S) 0 (qq_ent mm_m55 [.inr (48, none), .inl a, .inl b, .inl s]) [] S := by
    refine qq_fsound hxs (sp_0_ok hxs (d + 0)) [] 300 ?_
    repeat' first | apply And.intro | intro _ | (simp only [qq_tab]) | (simp only [qq_pl])
    all_goals (first | rfl | omega)
  obtain ⟨r, S', hE, e1, e2⟩ := qq_call_of (y := 55) rfl (Nat.le_of_ble_eq_true rfl) h
  rw [e1, e2] at hE
  exact hE
set_option maxRecDepth 20000 in
theorem f53_56 {xs : List Int32} (hxs : xs.length ≤ 2048) (d : Nat) (S : qq_S) (a : Int) (b : Int) (hp : (0 ≤ a ∧ a < 10 ∧ 0 ≤ b ∧ b < 10) ∧ zz_p (zz_pl (S 57) (S 58)) = 1) : qq_E xs (d + 1) 53 [.inr (56, none), .inl a, .inl b] S (some (zz_ln (S 57) (S 58) a.toNat b.toNat)) (S) := by
  have h : qq_p xs (d + 0) (mm_mr mm_m53) (mm_mk mm_m53) (fun r S' => r = some (zz_ln (S 57) (S 58) a.toNat b.toNat) ∧ S' = S) 0 (qq_ent mm_m53 [.inr (56, none), .inl a, .inl b]) [] S := by
    refine qq_fsound hxs (sp_0_ok hxs (d + 0)) [] 300 ?_
    repeat' first | apply And.intro | intro _ | (simp only [qq_tab]) | (simp only [qq_pl])
    all_goals (first | rfl | omega | (have q1 := (zz_pi1.mp hp.2) a.toNat (by omega); have q2 := (zz_pi1.mp hp.2) b.toNat (by omega); first | omega | grind [qq_in]))
  obtain ⟨r, S', hE, e1, e2⟩ := qq_call_of (y := 53) rfl (Nat.le_of_ble_eq_true rfl) h
  rw [e1, e2] at hE
  exact hE
set_option maxRecDepth 20000 in
theorem f55_56 {xs : List Int32} (hxs : xs.length ≤ 2048) (d : Nat) (S : qq_S) (a : Int) (b : Int) (s : Int) (hp : (0 ≤ s ∧ s < 10 ∧ 0 ≤ a ∧ a < 10 ∧ 0 ≤ b ∧ b < 10) ∧ zz_p (zz_pl (S 57) (S 58)) = 1) : qq_E xs (d + 1) 55 [.inr (56, none), .inl a, .inl b, .inl s] S (some (zz_side (S 57) (S 58) a.toNat b.toNat s.toNat)) (S) := by
  have h : qq_p xs (d + 0) (mm_mr mm_m55) (mm_mk mm_m55) (fun r S' => r = some (zz_side (S 57) (S 58) a.toNat b.toNat s.toNat) ∧ S' = S) 0 (qq_ent mm_m55 [.inr (56, none), .inl a, .inl b, .inl s]) [] S := by
    refine qq_fsound hxs (sp_0_ok hxs (d + 0)) [] 300 ?_
    repeat' first | apply And.intro | intro _ | (simp only [qq_tab]) | (simp only [qq_pl])
    all_goals (first | rfl | omega)
  obtain ⟨r, S', hE, e1, e2⟩ := qq_call_of (y := 55) rfl (Nat.le_of_ble_eq_true rfl) h
  rw [e1, e2] at hE
  exact hE
noncomputable def sp_12 : qq_P := fun y as S => match y, as with
  | 57, [.inl n, .inl a, .inl b] => some (qq_in n ∧ qq_in a ∧ qq_in b, some (zz_p (zz_in n a b)), S)
  | 53, [.inr (48, none), .inl a, .inl b] => some ((0 ≤ a ∧ a < 10 ∧ 0 ≤ b ∧ b < 10) ∧ zz_p (zz_pl (S 49) (S 50)) = 1, some (zz_ln (S 49) (S 50) a.toNat b.toNat), S)
  | 54, [.inr (48, none), .inl a, .inl b] => some ((0 ≤ a ∧ a < 10 ∧ 0 ≤ b ∧ b < 10) ∧ zz_p (zz_pl (S 49) (S 50)) = 1, some (zz_p (S 49 a.toNat = S 49 b.toNat ∧ S 50 a.toNat = S 50 b.toNat)), S)
  | 55, [.inr (48, none), .inl a, .inl b, .inl s] => some ((0 ≤ s ∧ s < 10 ∧ 0 ≤ a ∧ a < 10 ∧ 0 ≤ b ∧ b < 10) ∧ zz_p (zz_pl (S 49) (S 50)) = 1, some (zz_side (S 49) (S 50) a.toNat b.toNat s.toNat), S)
  | 53, [.inr (56, none), .inl a, .inl b] => some ((0 ≤ a ∧ a < 10 ∧ 0 ≤ b ∧ b < 10) ∧ zz_p (zz_pl (S 57) (S 58)) = 1, some (zz_ln (S 57) (S 58) a.toNat b.toNat), S)
  | 55, [.inr (56, none), .inl a, .inl b, .inl s] => some ((0 ≤ s ∧ s < 10 ∧ 0 ≤ a ∧ a < 10 ∧ 0 ≤ b ∧ b < 10) ∧ zz_p (zz_pl (S 57) (S 58)) = 1, some (zz_side (S 57) (S 58) a.toNat b.toNat s.toNat), S)
  | _, _ => sp_11 y as S
theorem sp_12_ok {xs : List Int32} (hxs : xs.length ≤ 2048) (d : Nat) : qq_ok xs (d + 5) sp_12 := by
  intro y as S pre r S2 h hp
  unfold sp_12 at h
  split at h
  · cases h; exact f57 hxs (d + 4) S _ _ _ hp
  · cases h; exact f53_48 hxs (d + 4) S _ _ hp
  · cases h; exact f54 hxs (d + 4) S _ _ hp
  · cases h; exact f55_48 hxs (d + 4) S _ _ _ hp
  · cases h; exact f53_56 hxs (d + 4) S _ _ hp
  · cases h; exact f55_56 hxs (d + 4) S _ _ _ hp
  · exact sp_11_ok hxs (d + 0) y as S pre r S2 h hp
set_option maxRecDepth 20000 in
theorem f56 {xs : List Int32} (hxs : xs.length ≤ 2048) (d : Nat) (S : qq_S) (s : Int) (a : Int) (b : Int) (hp : (0 ≤ s ∧ s < 10 ∧ 0 ≤ a ∧ a < 10 ∧ 0 ≤ b ∧ b < 10) ∧ zz_p (zz_pl (S 49) (S 50)) = 1) : qq_E xs (d + 6) 56 [.inr (48, none), .inl s, .inl a, .inl b] S (some (zz_p (zz_lies (S 49) (S 50) s.toNat a.toNat b.toNat))) (S) := by
  have h : qq_p xs (d + 5) (mm_mr mm_m56) (mm_mk mm_m56) (fun r S' => r = some (zz_p (zz_lies (S 49) (S 50) s.toNat a.toNat b.toNat)) ∧ S' = S) 0 (qq_ent mm_m56 [.inr (48, none), .inl s, .inl a, .inl b]) [] S := by
    refine qq_fsound hxs (sp_12_ok hxs (d + 0)) [] 300 ?_
    repeat' first | apply And.intro | intro _ | (simp only [qq_tab]) | (simp only [qq_pl])
    all_goals (first | rfl | omega | exact (zz_pin _).1 | exact (zz_pin _).2 | exact zz_p01 _ | exact Or.inl trivial | exact Or.inr trivial | exact hp.2 | (have q1 := (zz_pi1.mp hp.2) a.toNat (by omega); have q2 := (zz_pi1.mp hp.2) b.toNat (by omega); have q3 := (zz_pi1.mp hp.2) s.toNat (by omega); have k1 := zz_side_bd (zz_pi1.mp hp.2) (a := a.toNat) (b := b.toNat) (s := s.toNat) (by omega) (by omega) (by omega); first | omega | (unfold qq_in; omega) | ((try simp only [zz_pi0, Classical.not_not] at *); first | exact congrArg some (zz_p1 (by unfold zz_lies; grind)).symm | exact congrArg some (zz_p0 (by unfold zz_lies; grind)).symm)))
  obtain ⟨r, S', hE, e1, e2⟩ := qq_call_of (y := 56) rfl (Nat.le_of_ble_eq_true rfl) h
  rw [e1, e2] at hE
  exact hE
set_option maxRecDepth 20000 in
theorem f58_48 {xs : List Int32} (hxs : xs.length ≤ 2048) (d : Nat) (S : qq_S) (a : Int) (b : Int) (c : Int) (e : Int) (hp : (0 ≤ a ∧ a < 10 ∧ 0 ≤ b ∧ b < 10 ∧ 0 ≤ c ∧ c < 10 ∧ 0 ≤ e ∧ e < 10) ∧ zz_p (zz_pl (S 49) (S 50)) = 1) : qq_E xs (d + 6) 58 [.inr (48, none), .inl a, .inl b, .inl c, .inl e] S (some (zz_p (zz_crs (S 49) (S 50) a.toNat b.toNat c.toNat e.toNat))) (S) := by
  have h : qq_p xs (d + 5) (mm_mr mm_m58) (mm_mk mm_m58) (fun r S' => r = some (zz_p (zz_crs (S 49) (S 50) a.toNat b.toNat c.toNat e.toNat)) ∧ S' = S) 0 (qq_ent mm_m58 [.inr (48, none), .inl a, .inl b, .inl c, .inl e]) [] S := by
    refine qq_fsound hxs (sp_12_ok hxs (d + 0)) [] 300 ?_
    repeat' first | apply And.intro | intro _ | (simp only [qq_tab]) | (simp only [qq_pl])
    all_goals (first | rfl | omega | exact (zz_pin _).1 | exact (zz_pin _).2 | exact zz_p01 _ | exact Or.inl trivial | exact Or.inr trivial | exact hp.2 | (have m1 := zz_mb (x := zz_side (S 49) (S 50) a.toNat b.toNat c.toNat) (y := zz_side (S 49) (S 50) a.toNat b.toNat e.toNat) (zz_side_bd (zz_pi1.mp hp.2) (a := a.toNat) (b := b.toNat) (s := c.toNat) (by omega) (by omega) (by omega)) (zz_side_bd (zz_pi1.mp hp.2) (a := a.toNat) (b := b.toNat) (s := e.toNat) (by omega) (by omega) (by omega)); have m2 := zz_mb (x := zz_side (S 49) (S 50) c.toNat e.toNat a.toNat) (y := zz_side (S 49) (S 50) c.toNat e.toNat b.toNat) (zz_side_bd (zz_pi1.mp hp.2) (a := c.toNat) (b := e.toNat) (s := a.toNat) (by omega) (by omega) (by omega)) (zz_side_bd (zz_pi1.mp hp.2) (a := c.toNat) (b := e.toNat) (s := b.toNat) (by omega) (by omega) (by omega)); first | omega | (unfold qq_in; omega) | exact congrArg some (zz_p1 (by unfold zz_crs; omega)).symm | exact congrArg some (zz_p0 (by unfold zz_crs; omega)).symm))
  obtain ⟨r, S', hE, e1, e2⟩ := qq_call_of (y := 58) rfl (Nat.le_of_ble_eq_true rfl) h
  rw [e1, e2] at hE
  exact hE
set_option maxRecDepth 20000 in
theorem f58_56 {xs : List Int32} (hxs : xs.length ≤ 2048) (d : Nat) (S : qq_S) (a : Int) (b : Int) (c : Int) (e : Int) (hp : (0 ≤ a ∧ a < 10 ∧ 0 ≤ b ∧ b < 10 ∧ 0 ≤ c ∧ c < 10 ∧ 0 ≤ e ∧ e < 10) ∧ zz_p (zz_pl (S 57) (S 58)) = 1) : qq_E xs (d + 6) 58 [.inr (56, none), .inl a, .inl b, .inl c, .inl e] S (some (zz_p (zz_crs (S 57) (S 58) a.toNat b.toNat c.toNat e.toNat))) (S) := by
  have h : qq_p xs (d + 5) (mm_mr mm_m58) (mm_mk mm_m58) (fun r S' => r = some (zz_p (zz_crs (S 57) (S 58) a.toNat b.toNat c.toNat e.toNat)) ∧ S' = S) 0 (qq_ent mm_m58 [.inr (56, none), .inl a, .inl b, .inl c, .inl e]) [] S := by
    refine qq_fsound hxs (sp_12_ok hxs (d + 0)) [] 300 ?_
    repeat' first | apply And.intro | intro _ | (simp only [qq_tab]) | (simp only [qq_pl])
    all_goals (first | rfl | omega | exact (zz_pin _).1 | exact (zz_pin _).2 | exact zz_p01 _ | exact Or.inl trivial | exact Or.inr trivial | exact hp.2 | (have m1 := zz_mb (x := zz_side (S 57) (S 58) a.toNat b.toNat c.toNat) (y := zz_side (S 57) (S 58) a.toNat b.toNat e.toNat) (zz_side_bd (zz_pi1.mp hp.2) (a := a.toNat) (b := b.toNat) (s := c.toNat) (by omega) (by omega) (by omega)) (zz_side_bd (zz_pi1.mp hp.2) (a := a.toNat) (b := b.toNat) (s := e.toNat) (by omega) (by omega) (by omega)); have m2 := zz_mb (x := zz_side (S 57) (S 58) c.toNat e.toNat a.toNat) (y := zz_side (S 57) (S 58) c.toNat e.toNat b.toNat) (zz_side_bd (zz_pi1.mp hp.2) (a := c.toNat) (b := e.toNat) (s := a.toNat) (by omega) (by omega) (by omega)) (zz_side_bd (zz_pi1.mp hp.2) (a := c.toNat) (b := e.toNat) (s := b.toNat) (by omega) (by omega) (by omega)); first | omega | (unfold qq_in; omega) | exact congrArg some (zz_p1 (by unfold zz_crs; omega)).symm | exact congrArg some (zz_p0 (by unfold zz_crs; omega)).symm))
  obtain ⟨r, S', hE, e1, e2⟩ := qq_call_of (y := 58) rfl (Nat.le_of_ble_eq_true rfl) h
  rw [e1, e2] at hE
  exact hE
noncomputable def sp_13 : qq_P := fun y as S => match y, as with
  | 56, [.inr (48, none), .inl s, .inl a, .inl b] => some ((0 ≤ s ∧ s < 10 ∧ 0 ≤ a ∧ a < 10 ∧ 0 ≤ b ∧ b < 10) ∧ zz_p (zz_pl (S 49) (S 50)) = 1, some (zz_p (zz_lies (S 49) (S 50) s.toNat a.toNat b.toNat)), S)
  | 58, [.inr (48, none), .inl a, .inl b, .inl c, .inl e] => some ((0 ≤ a ∧ a < 10 ∧ 0 ≤ b ∧ b < 10 ∧ 0 ≤ c ∧ c < 10 ∧ 0 ≤ e ∧ e < 10) ∧ zz_p (zz_pl (S 49) (S 50)) = 1, some (zz_p (zz_crs (S 49) (S 50) a.toNat b.toNat c.toNat e.toNat)), S)
  | 58, [.inr (56, none), .inl a, .inl b, .inl c, .inl e] => some ((0 ≤ a ∧ a < 10 ∧ 0 ≤ b ∧ b < 10 ∧ 0 ≤ c ∧ c < 10 ∧ 0 ≤ e ∧ e < 10) ∧ zz_p (zz_pl (S 57) (S 58)) = 1, some (zz_p (zz_crs (S 57) (S 58) a.toNat b.toNat c.toNat e.toNat)), S)
  | _, _ => sp_12 y as S
theorem sp_13_ok {xs : List Int32} (hxs : xs.length ≤ 2048) (d : Nat) : qq_ok xs (d + 6) sp_13 := by
  intro y as S pre r S2 h hp
  unfold sp_13 at h
  split at h
  · cases h; exact f56 hxs (d + 0) S _ _ _ hp
  · cases h; exact f58_48 hxs (d + 0) S _ _ _ _ hp
  · cases h; exact f58_56 hxs (d + 0) S _ _ _ _ hp
  · exact sp_12_ok hxs (d + 1) y as S pre r S2 h hp
