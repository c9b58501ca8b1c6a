def sp_0 : qq_P := fun _ _ _ => none
theorem sp_0_ok {xs : List Int32} (_ : xs.length ≤ 2048) (d : Nat) : qq_ok xs (d + 0) sp_0 := fun _ _ _ _ _ _ h => by cases h
/-- the direction of a step, -1: none of the eight -/
def zz_dir (dx dy : Int) : Int := if dx = 0 then (if dy = 0 then -1 else if 0 < dy then 2 else 6) else if dy = 0 then (if 0 < dx then 0 else 4) else if dx = dy then (if 0 < dx then 1 else 5) else if dx = -dy then (if 0 < dx then 7 else 3) else -1
def zz_b (p : Prop) [Decidable p] : Int := if p then 1 else 0
set_option maxRecDepth 20000 in
theorem f110 {xs : List Int32} (hxs : xs.length ≤ 2048) (d : Nat) (S : qq_S) (a : Int) (lo : Int) (hi : Int) (hp : qq_in a ∧ qq_in lo ∧ qq_in hi) : qq_E xs (d + 1) 110 [.inl a, .inl lo, .inl hi] S (some (zz_b (lo ≤ a ∧ a ≤ hi))) (S) := by
  have h : qq_p xs (d + 0) (mm_mr mm_m110) (mm_mk mm_m110) (fun r S' => r = some (zz_b (lo ≤ a ∧ a ≤ hi)) ∧ S' = S) 0 (qq_ent mm_m110 [.inl a, .inl lo, .inl hi]) [] S := by
    refine qq_fsound hxs (sp_0_ok hxs (d + 0)) [] 200 ?_
    repeat' first | apply And.intro | intro _
    all_goals (first | rfl | omega | grind [qq_in, zz_b, zz_dir])
  obtain ⟨r, S', hE, e1, e2⟩ := qq_call_of (y := 110) rfl (Nat.le_of_ble_eq_true rfl) h
  rw [e1, e2] at hE
  exact hE
set_option maxRecDepth 20000 in
theorem f114 {xs : List Int32} (hxs : xs.length ≤ 2048) (d : Nat) (S : qq_S) (a : Int) (lo : Int) (hi : Int) (hp : qq_in a ∧ qq_in lo ∧ qq_in hi) : qq_E xs (d + 1) 114 [.inl a, .inl lo, .inl hi] S (some (zz_b (lo ≤ a ∧ a ≤ hi))) (S) := by
  have h : qq_p xs (d + 0) (mm_mr mm_m114) (mm_mk mm_m114) (fun r S' => r = some (zz_b (lo ≤ a ∧ a ≤ hi)) ∧ S' = S) 0 (qq_ent mm_m114 [.inl a, .inl lo, .inl hi]) [] S := by
    refine qq_fsound hxs (sp_0_ok hxs (d + 0)) [] 200 ?_
    repeat' first | apply And.intro | intro _
    all_goals (first | rfl | omega | grind [qq_in, zz_b, zz_dir])
  obtain ⟨r, S', hE, e1, e2⟩ := qq_call_of (y := 114) rfl (Nat.le_of_ble_eq_true rfl) h
  rw [e1, e2] at hE
  exact hE
set_option maxRecDepth 20000 in
theorem f108 {xs : List Int32} (hxs : xs.length ≤ 2048) (d : Nat) (S : qq_S) (a : Int) (hp : True) : qq_E xs (d + 1) 108 [.inr (3, none), .inl a] S (some (a)) (qq_u S 3 9 a) := by
  have h : qq_p xs (d + 0) (mm_mr mm_m108) (mm_mk mm_m108) (fun r S' => r = some (a) ∧ S' = qq_u S 3 9 a) 0 (qq_ent mm_m108 [.inr (3, none), .inl a]) [] S := by
    refine qq_fsound hxs (sp_0_ok hxs (d + 0)) [] 200 ?_
    repeat' first | apply And.intro | intro _
    all_goals (first | rfl | omega | grind [qq_in, zz_b, zz_dir])
  obtain ⟨r, S', hE, e1, e2⟩ := qq_call_of (y := 108) rfl (Nat.le_of_ble_eq_true rfl) h
  rw [e1, e2] at hE
  exact hE
set_option maxRecDepth 20000 in
theorem f109 {xs : List Int32} (hxs : xs.length ≤ 2048) (d : Nat) (S : qq_S) (a : Int) (hp : True) : qq_E xs (d + 1) 109 [.inr (3, none), .inl a] S (some (a)) (qq_u S 3 9 0) := by
  have h : qq_p xs (d + 0) (mm_mr mm_m109) (mm_mk mm_m109) (fun r S' => r = some (a) ∧ S' = qq_u S 3 9 0) 0 (qq_ent mm_m109 [.inr (3, none), .inl a]) [] S := by
    refine qq_fsound hxs (sp_0_ok hxs (d + 0)) [] 200 ?_
    repeat' first | apply And.intro | intro _
    all_goals (first | rfl | omega | grind [qq_in, zz_b, zz_dir])
  obtain ⟨r, S', hE, e1, e2⟩ := qq_call_of (y := 109) rfl (Nat.le_of_ble_eq_true rfl) h
  rw [e1, e2] at hE
  exact hE
set_option maxRecDepth 20000 in
theorem f115 {xs : List Int32} (hxs : xs.length ≤ 2048) (d : Nat) (S : qq_S) (a : Int) (hp : qq_in a) : qq_E xs (d + 1) 115 [.inr (115, none), .inl a] S (some (a)) (qq_u S 115 0 (if a < 0 then a else 0)) := by
  have h : qq_p xs (d + 0) (mm_mr mm_m115) (mm_mk mm_m115) (fun r S' => r = some (a) ∧ S' = qq_u S 115 0 (if a < 0 then a else 0)) 0 (qq_ent mm_m115 [.inr (115, none), .inl a]) [] S := by
    refine qq_fsound hxs (sp_0_ok hxs (d + 0)) [] 200 ?_
    repeat' first | apply And.intro | intro _
    all_goals (first | rfl | omega | grind [qq_in, zz_b, zz_dir])
  obtain ⟨r, S', hE, e1, e2⟩ := qq_call_of (y := 115) rfl (Nat.le_of_ble_eq_true rfl) h
  rw [e1, e2] at hE
  exact hE
set_option maxRecDepth 20000 in
theorem f31 {xs : List Int32} (hxs : xs.length ≤ 2048) (d : Nat) (S : qq_S) (a : Int) (hp : qq_in a ∧ qq_in (S 4 0)) : qq_E xs (d + 1) 31 [.inr (4, none), .inl a] S (some (zz_b (0 ≤ a ∧ a < S 4 0))) (S) := by
  have h : qq_p xs (d + 0) (mm_mr mm_m31) (mm_mk mm_m31) (fun r S' => r = some (zz_b (0 ≤ a ∧ a < S 4 0)) ∧ S' = S) 0 (qq_ent mm_m31 [.inr (4, none), .inl a]) [] S := by
    refine qq_fsound hxs (sp_0_ok hxs (d + 0)) [] 200 ?_
    repeat' first | apply And.intro | intro _
    all_goals (first | rfl | omega | grind [qq_in, zz_b, zz_dir])
  obtain ⟨r, S', hE, e1, e2⟩ := qq_call_of (y := 31) rfl (Nat.le_of_ble_eq_true rfl) h
  rw [e1, e2] at hE
  exact hE
set_option maxRecDepth 20000 in
theorem f32 {xs : List Int32} (hxs : xs.length ≤ 2048) (d : Nat) (S : qq_S) (a : Int) (hp : qq_in a ∧ qq_in (S 4 1)) : qq_E xs (d + 1) 32 [.inr (4, none), .inl a] S (some (zz_b (0 ≤ a ∧ a < S 4 1))) (S) := by
  have h : qq_p xs (d + 0) (mm_mr mm_m32) (mm_mk mm_m32) (fun r S' => r = some (zz_b (0 ≤ a ∧ a < S 4 1)) ∧ S' = S) 0 (qq_ent mm_m32 [.inr (4, none), .inl a]) [] S := by
    refine qq_fsound hxs (sp_0_ok hxs (d + 0)) [] 200 ?_
    repeat' first | apply And.intro | intro _
    all_goals (first | rfl | omega | grind [qq_in, zz_b, zz_dir])
  obtain ⟨r, S', hE, e1, e2⟩ := qq_call_of (y := 32) rfl (Nat.le_of_ble_eq_true rfl) h
  rw [e1, e2] at hE
  exact hE
set_option maxRecDepth 20000 in
theorem f107 {xs : List Int32} (hxs : xs.length ≤ 2048) (d : Nat) (S : qq_S) (hp : True) : qq_E xs (d + 1) 107 [.inr (3, none)] S (some (S 3 9)) (S) := by
  have h : qq_p xs (d + 0) (mm_mr mm_m107) (mm_mk mm_m107) (fun r S' => r = some (S 3 9) ∧ S' = S) 0 (qq_ent mm_m107 [.inr (3, none)]) [] S := by
    refine qq_fsound hxs (sp_0_ok hxs (d + 0)) [] 200 ?_
    repeat' first | apply And.intro | intro _
    all_goals (first | rfl | omega | grind [qq_in, zz_b, zz_dir])
  obtain ⟨r, S', hE, e1, e2⟩ := qq_call_of (y := 107) rfl (Nat.le_of_ble_eq_true rfl) h
  rw [e1, e2] at hE
  exact hE
set_option maxRecDepth 20000 in
theorem f177 {xs : List Int32} (hxs : xs.length ≤ 2048) (d : Nat) (S : qq_S) (hp : True) : qq_E xs (d + 1) 177 [.inr (115, none)] S (some (S 115 0)) (S) := by
  have h : qq_p xs (d + 0) (mm_mr mm_m177) (mm_mk mm_m177) (fun r S' => r = some (S 115 0) ∧ S' = S) 0 (qq_ent mm_m177 [.inr (115, none)]) [] S := by
    refine qq_fsound hxs (sp_0_ok hxs (d + 0)) [] 200 ?_
    repeat' first | apply And.intro | intro _
    all_goals (first | rfl | omega | grind [qq_in, zz_b, zz_dir])
  obtain ⟨r, S', hE, e1, e2⟩ := qq_call_of (y := 177) rfl (Nat.le_of_ble_eq_true rfl) h
  rw [e1, e2] at hE
  exact hE
set_option maxRecDepth 20000 in
theorem f45_48 {xs : List Int32} (hxs : xs.length ≤ 2048) (d : Nat) (S : qq_S) (hp : True) : qq_E xs (d + 1) 45 [.inr (48, none)] S (some (S 48 0 * S 48 1)) (S) := by
  have h : qq_p xs (d + 0) (mm_mr mm_m45) (mm_mk mm_m45) (fun r S' => r = some (S 48 0 * S 48 1) ∧ S' = S) 0 (qq_ent mm_m45 [.inr (48, none)]) [] S := by
    refine qq_fsound hxs (sp_0_ok hxs (d + 0)) [] 200 ?_
    repeat' first | apply And.intro | intro _
    all_goals (first | rfl | omega | grind [qq_in, zz_b, zz_dir])
  obtain ⟨r, S', hE, e1, e2⟩ := qq_call_of (y := 45) rfl (Nat.le_of_ble_eq_true rfl) h
  rw [e1, e2] at hE
  exact hE
set_option maxRecDepth 20000 in
theorem f46_48 {xs : List Int32} (hxs : xs.length ≤ 2048) (d : Nat) (S : qq_S) (a : Int) (hp : 0 ≤ a ∧ a < 10 ∧ qq_in (S 49 a.toNat)) : qq_E xs (d + 1) 46 [.inr (48, none), .inl a] S (some (zz_b (¬ S 49 a.toNat = -1))) (S) := by
  have h : qq_p xs (d + 0) (mm_mr mm_m46) (mm_mk mm_m46) (fun r S' => r = some (zz_b (¬ S 49 a.toNat = -1)) ∧ S' = S) 0 (qq_ent mm_m46 [.inr (48, none), .inl a]) [] S := by
    refine qq_fsound hxs (sp_0_ok hxs (d + 0)) [] 200 ?_
    repeat' first | apply And.intro | intro _
    all_goals (first | rfl | omega | grind [qq_in, zz_b, zz_dir])
  obtain ⟨r, S', hE, e1, e2⟩ := qq_call_of (y := 46) rfl (Nat.le_of_ble_eq_true rfl) h
  rw [e1, e2] at hE
  exact hE
set_option maxRecDepth 20000 in
theorem f52_48 {xs : List Int32} (hxs : xs.length ≤ 2048) (d : Nat) (S : qq_S) (a : Int) (b : Int) (hp : 0 ≤ a ∧ a < 10 ∧ 0 ≤ b ∧ b < 10 ∧ (-8 ≤ S 49 a.toNat ∧ S 49 a.toNat ≤ 8 ∧ -8 ≤ S 49 b.toNat ∧ S 49 b.toNat ≤ 8 ∧ -8 ≤ S 50 a.toNat ∧ S 50 a.toNat ≤ 8 ∧ -8 ≤ S 50 b.toNat ∧ S 50 b.toNat ≤ 8)) : qq_E xs (d + 1) 52 [.inr (48, none), .inl a, .inl b] S (some (zz_dir (S 49 b.toNat - S 49 a.toNat) (S 50 b.toNat - S 50 a.toNat))) (S) := by
  have h : qq_p xs (d + 0) (mm_mr mm_m52) (mm_mk mm_m52) (fun r S' => r = some (zz_dir (S 49 b.toNat - S 49 a.toNat) (S 50 b.toNat - S 50 a.toNat)) ∧ S' = S) 0 (qq_ent mm_m52 [.inr (48, none), .inl a, .inl b]) [] S := by
    refine qq_fsound hxs (sp_0_ok hxs (d + 0)) [] 200 ?_
    repeat' first | apply And.intro | intro _
    all_goals (first | rfl | omega | grind [qq_in, zz_b, zz_dir])
  obtain ⟨r, S', hE, e1, e2⟩ := qq_call_of (y := 52) rfl (Nat.le_of_ble_eq_true rfl) h
  rw [e1, e2] at hE
  exact hE
set_option maxRecDepth 20000 in
theorem f45_56 {xs : List Int32} (hxs : xs.length ≤ 2048) (d : Nat) (S : qq_S) (hp : True) : qq_E xs (d + 1) 45 [.inr (56, none)] S (some (S 56 0 * S 56 1)) (S) := by
  have h : qq_p xs (d + 0) (mm_mr mm_m45) (mm_mk mm_m45) (fun r S' => r = some (S 56 0 * S 56 1) ∧ S' = S) 0 (qq_ent mm_m45 [.inr (56, none)]) [] S := by
    refine qq_fsound hxs (sp_0_ok hxs (d + 0)) [] 200 ?_
    repeat' first | apply And.intro | intro _
    all_goals (first | rfl | omega | grind [qq_in, zz_b, zz_dir])
  obtain ⟨r, S', hE, e1, e2⟩ := qq_call_of (y := 45) rfl (Nat.le_of_ble_eq_true rfl) h
  rw [e1, e2] at hE
  exact hE
set_option maxRecDepth 20000 in
theorem f46_56 {xs : List Int32} (hxs : xs.length ≤ 2048) (d : Nat) (S : qq_S) (a : Int) (hp : 0 ≤ a ∧ a < 10 ∧ qq_in (S 57 a.toNat)) : qq_E xs (d + 1) 46 [.inr (56, none), .inl a] S (some (zz_b (¬ S 57 a.toNat = -1))) (S) := by
  have h : qq_p xs (d + 0) (mm_mr mm_m46) (mm_mk mm_m46) (fun r S' => r = some (zz_b (¬ S 57 a.toNat = -1)) ∧ S' = S) 0 (qq_ent mm_m46 [.inr (56, none), .inl a]) [] S := by
    refine qq_fsound hxs (sp_0_ok hxs (d + 0)) [] 200 ?_
    repeat' first | apply And.intro | intro _
    all_goals (first | rfl | omega | grind [qq_in, zz_b, zz_dir])
  obtain ⟨r, S', hE, e1, e2⟩ := qq_call_of (y := 46) rfl (Nat.le_of_ble_eq_true rfl) h
  rw [e1, e2] at hE
  exact hE
set_option maxRecDepth 20000 in
theorem f52_56 {xs : List Int32} (hxs : xs.length ≤ 2048) (d : Nat) (S : qq_S) (a : Int) (b : Int) (hp : 0 ≤ a ∧ a < 10 ∧ 0 ≤ b ∧ b < 10 ∧ (-8 ≤ S 57 a.toNat ∧ S 57 a.toNat ≤ 8 ∧ -8 ≤ S 57 b.toNat ∧ S 57 b.toNat ≤ 8 ∧ -8 ≤ S 58 a.toNat ∧ S 58 a.toNat ≤ 8 ∧ -8 ≤ S 58 b.toNat ∧ S 58 b.toNat ≤ 8)) : qq_E xs (d + 1) 52 [.inr (56, none), .inl a, .inl b] S (some (zz_dir (S 57 b.toNat - S 57 a.toNat) (S 58 b.toNat - S 58 a.toNat))) (S) := by
  have h : qq_p xs (d + 0) (mm_mr mm_m52) (mm_mk mm_m52) (fun r S' => r = some (zz_dir (S 57 b.toNat - S 57 a.toNat) (S 58 b.toNat - S 58 a.toNat)) ∧ S' = S) 0 (qq_ent mm_m52 [.inr (56, none), .inl a, .inl b]) [] S := by
    refine qq_fsound hxs (sp_0_ok hxs (d + 0)) [] 200 ?_
    repeat' first | apply And.intro | intro _
    all_goals (first | rfl | omega | grind [qq_in, zz_b, zz_dir])
  obtain ⟨r, S', hE, e1, e2⟩ := qq_call_of (y := 52) rfl (Nat.le_of_ble_eq_true rfl) h
  rw [e1, e2] at hE
  exact hE
set_option maxRecDepth 20000 in
theorem f64 {xs : List Int32} (hxs : xs.length ≤ 2048) (d : Nat) (S : qq_S) (a : Int) (b : Int) (hp : -100 ≤ a ∧ a ≤ 100 ∧ -100 ≤ b ∧ b ≤ 100) : qq_E xs (d + 1) 64 [.inl a, .inl b] S (some (if 4 < qq_and (a - b) 7 then 8 - qq_and (a - b) 7 else qq_and (a - b) 7)) (S) := by
  have h : qq_p xs (d + 0) (mm_mr mm_m64) (mm_mk mm_m64) (fun r S' => r = some (if 4 < qq_and (a - b) 7 then 8 - qq_and (a - b) 7 else qq_and (a - b) 7) ∧ S' = S) 0 (qq_ent mm_m64 [.inl a, .inl b]) [] S := by
    refine qq_fsound hxs (sp_0_ok hxs (d + 0)) [] 200 ?_
    repeat' first | apply And.intro | intro _
    all_goals (first | rfl | omega | grind [qq_in, qq_and, qq_inT])
  obtain ⟨r, S', hE, e1, e2⟩ := qq_call_of (y := 64) rfl (Nat.le_of_ble_eq_true rfl) h
  rw [e1, e2] at hE
  exact hE
def sp_1 : qq_P := fun y as S => match y, as with
  | 110, [.inl a, .inl lo, .inl hi] => some (qq_in a ∧ qq_in lo ∧ qq_in hi, some (zz_b (lo ≤ a ∧ a ≤ hi)), S)
  | 114, [.inl a, .inl lo, .inl hi] => some (qq_in a ∧ qq_in lo ∧ qq_in hi, some (zz_b (lo ≤ a ∧ a ≤ hi)), S)
  | 108, [.inr (3, none), .inl a] => some (True, some (a), qq_u S 3 9 a)
  | 109, [.inr (3, none), .inl a] => some (True, some (a), qq_u S 3 9 0)
  | 115, [.inr (115, none), .inl a] => some (qq_in a, some (a), qq_u S 115 0 (if a < 0 then a else 0))
  | 31, [.inr (4, none), .inl a] => some (qq_in a ∧ qq_in (S 4 0), some (zz_b (0 ≤ a ∧ a < S 4 0)), S)
  | 32, [.inr (4, none), .inl a] => some (qq_in a ∧ qq_in (S 4 1), some (zz_b (0 ≤ a ∧ a < S 4 1)), S)
  | 107, [.inr (3, none)] => some (True, some (S 3 9), S)
  | 177, [.inr (115, none)] => some (True, some (S 115 0), S)
  | 45, [.inr (48, none)] => some (True, some (S 48 0 * S 48 1), S)
  | 46, [.inr (48, none), .inl a] => some (0 ≤ a ∧ a < 10 ∧ qq_in (S 49 a.toNat), some (zz_b (¬ S 49 a.toNat = -1)), S)
  | 52, [.inr (48, none), .inl a, .inl b] => some (0 ≤ a ∧ a < 10 ∧ 0 ≤ b ∧ b < 10 ∧ (-8 ≤ S 49 a.toNat ∧ S 49 a.toNat ≤ 8 ∧ -8 ≤ S 49 b.toNat ∧ S 49 b.toNat ≤ 8 ∧ -8 ≤ S 50 a.toNat ∧ S 50 a.toNat ≤ 8 ∧ -8 ≤ S 50 b.toNat ∧ S 50 b.toNat ≤ 8), some (zz_dir (S 49 b.toNat - S 49 a.toNat) (S 50 b.toNat - S 50 a.toNat)), S)
  | 45, [.inr (56, none)] => some (True, some (S 56 0 * S 56 1), S)
  | 46, [.inr (56, none), .inl a] => some (0 ≤ a ∧ a < 10 ∧ qq_in (S 57 a.toNat), some (zz_b (¬ S 57 a.toNat = -1)), S)
  | 52, [.inr (56, none), .inl a, .inl b] => some (0 ≤ a ∧ a < 10 ∧ 0 ≤ b ∧ b < 10 ∧ (-8 ≤ S 57 a.toNat ∧ S 57 a.toNat ≤ 8 ∧ -8 ≤ S 57 b.toNat ∧ S 57 b.toNat ≤ 8 ∧ -8 ≤ S 58 a.toNat ∧ S 58 a.toNat ≤ 8 ∧ -8 ≤ S 58 b.toNat ∧ S 58 b.toNat ≤ 8), some (zz_dir (S 57 b.toNat - S 57 a.toNat) (S 58 b.toNat - S 58 a.toNat)), S)
  | 64, [.inl a, .inl b] => some (-100 ≤ a ∧ a ≤ 100 ∧ -100 ≤ b ∧ b ≤ 100, some (if 4 < qq_and (a - b) 7 then 8 - qq_and (a - b) 7 else qq_and (a - b) 7), S)
  | _, _ => none
theorem sp_1_ok {xs : List Int32} (hxs : xs.length ≤ 2048) (d : Nat) : qq_ok xs (d + 1) sp_1 := by
  intro y as S pre r S2 h hp
  unfold sp_1 at h
  split at h
  · cases h; exact f110 hxs (d + 0) S _ _ _ hp
  · cases h; exact f114 hxs (d + 0) S _ _ _ hp
  · cases h; exact f108 hxs (d + 0) S _ hp
  · cases h; exact f109 hxs (d + 0) S _ hp
  · cases h; exact f115 hxs (d + 0) S _ hp
  · cases h; exact f31 hxs (d + 0) S _ hp
  · cases h; exact f32 hxs (d + 0) S _ hp
  · cases h; exact f107 hxs (d + 0) S hp
  · cases h; exact f177 hxs (d + 0) S hp
  · cases h; exact f45_48 hxs (d + 0) S hp
  · cases h; exact f46_48 hxs (d + 0) S _ hp
  · cases h; exact f52_48 hxs (d + 0) S _ _ hp
  · cases h; exact f45_56 hxs (d + 0) S hp
  · cases h; exact f46_56 hxs (d + 0) S _ hp
  · cases h; exact f52_56 hxs (d + 0) S _ _ hp
  · cases h; exact f64 hxs (d + 0) S _ _ hp
  · cases h
set_option maxRecDepth 20000 in
theorem f111 {xs : List Int32} (hxs : xs.length ≤ 2048) (d : Nat) (S : qq_S) (a : Int) (hp : qq_in a) : qq_E xs (d + 2) 111 [.inl a] S (some (zz_b (0 ≤ a ∧ a ≤ 100))) (S) := by
  have h : qq_p xs (d + 1) (mm_mr mm_m111) (mm_mk mm_m111) (fun r S' => r = some (zz_b (0 ≤ a ∧ a ≤ 100)) ∧ S' = S) 0 (qq_ent mm_m111 [.inl a]) [] S := by
    refine qq_fsound hxs (sp_1_ok hxs (d + 0)) [] 200 ?_
    repeat' first | apply And.intro | intro _
    all_goals (first | rfl | omega | grind [qq_in, zz_b, zz_dir])
  obtain ⟨r, S', hE, e1, e2⟩ := qq_call_of (y := 111) rfl (Nat.le_of_ble_eq_true rfl) h
  rw [e1, e2] at hE
  exact hE
set_option maxRecDepth 20000 in
theorem f116 {xs : List Int32} (hxs : xs.length ≤ 2048) (d : Nat) (S : qq_S) (a : Int) (hp : qq_in a ∧ 0 ≤ S 115 1 ∧ S 115 1 ≤ 10) : qq_E xs (d + 2) 116 [.inr (115, none), .inl a] S (some (zz_b (0 ≤ a ∧ a < S 115 1))) (S) := by
  have h : qq_p xs (d + 1) (mm_mr mm_m116) (mm_mk mm_m116) (fun r S' => r = some (zz_b (0 ≤ a ∧ a < S 115 1)) ∧ S' = S) 0 (qq_ent mm_m116 [.inr (115, none), .inl a]) [] S := by
    refine qq_fsound hxs (sp_1_ok hxs (d + 0)) [] 200 ?_
    repeat' first | apply And.intro | intro _
    all_goals (first | rfl | omega | grind [qq_in, zz_b, zz_dir])
  obtain ⟨r, S', hE, e1, e2⟩ := qq_call_of (y := 116) rfl (Nat.le_of_ble_eq_true rfl) h
  rw [e1, e2] at hE
  exact hE
