def sp_2 : qq_P := fun y as S => match y, as with
  | 110, [.inl a, .inl lo, .inl hi] => some (qq_in a ∧ qq_in lo ∧ qq_in hi, some (zz_b (lo ≤ a ∧ a ≤ hi)), S)
  | 114, [.inl a, .inl lo, .inl hi] => some (qq_in a ∧ qq_in lo ∧ qq_in hi, some (zz_b (lo ≤ a ∧ a ≤ hi)), S)
  | 108, [.inr (3, none), .inl a] => some (True, some (a), qq_u S 3 9 a)
  | 109, [.inr (3, none), .inl a] => some (True, some (a), qq_u S 3 9 0)
  | 115, [.inr (115, none), .inl a] => some (qq_in a, some (a), qq_u S 115 0 (if a < 0 then a else 0))
  | 31, [.inr (4, none), .inl a] => some (qq_in a ∧ qq_in (S 4 0), some (zz_b (0 ≤ a ∧ a < S 4 0)), S)
  | 32, [.inr (4, none), .inl a] => some (qq_in a ∧ qq_in (S 4 1), some (zz_b (0 ≤ a ∧ a < S 4 1)), S)
  | 107, [.inr (3, none)] => some (True, some (S 3 9), S)
  | 177, [.inr (115, none)] => some (True, some (S 115 0), S)
  | 45, [.inr (48, none)] => some (True, some (S 48 0 * S 48 1), S)
  | 46, [.inr (48, none), .inl a] => some (0 ≤ a ∧ a < 10 ∧ qq_in (S 49 a.toNat), some (zz_b (¬ S 49 a.toNat = -1)), S)
  | 52, [.inr (48, none), .inl a, .inl b] => some (0 ≤ a ∧ a < 10 ∧ 0 ≤ b ∧ b < 10 ∧ (-8 ≤ S 49 a.toNat ∧ S 49 a.toNat ≤ 8 ∧ -8 ≤ S 49 b.toNat ∧ S 49 b.toNat ≤ 8 ∧ -8 ≤ S 50 a.toNat ∧ S 50 a.toNat ≤ 8 ∧ -8 ≤ S 50 b.toNat ∧ S 50 b.toNat ≤ 8), some (zz_dir (S 49 b.toNat - S 49 a.toNat) (S 50 b.toNat - S 50 a.toNat)), S)
  | 45, [.inr (56, none)] => some (True, some (S 56 0 * S 56 1), S)
  | 46, [.inr (56, none), .inl a] => some (0 ≤ a ∧ a < 10 ∧ qq_in (S 57 a.toNat), some (zz_b (¬ S 57 a.toNat = -1)), S)
  | 52, [.inr (56, none), .inl a, .inl b] => some (0 ≤ a ∧ a < 10 ∧ 0 ≤ b ∧ b < 10 ∧ (-8 ≤ S 57 a.toNat ∧ S 57 a.toNat ≤ 8 ∧ -8 ≤ S 57 b.toNat ∧ S 57 b.toNat ≤ 8 ∧ -8 ≤ S 58 a.toNat ∧ S 58 a.toNat ≤ 8 ∧ -8 ≤ S 58 b.toNat ∧ S 58 b.toNat ≤ 8), some (zz_dir (S 57 b.toNat - S 57 a.toNat) (S 58 b.toNat - S 58 a.toNat)), S)
  | 64, [.inl a, .inl b] => some (-100 ≤ a ∧ a ≤ 100 ∧ -100 ≤ b ∧ b ≤ 100, some (if 4 < qq_and (a - b) 7 then 8 - qq_and (a - b) 7 else qq_and (a - b) 7), S)
  | 111, [.inl a] => some (qq_in a, some (zz_b (0 ≤ a ∧ a ≤ 100)), S)
  | 116, [.inr (115, none), .inl a] => some (qq_in a ∧ 0 ≤ S 115 1 ∧ S 115 1 ≤ 10, some (zz_b (0 ≤ a ∧ a < S 115 1)), S)
  | _, _ => none
theorem sp_2_ok {xs : List Int32} (hxs : xs.length ≤ 2048) (d : Nat) : qq_ok xs (d + 2) sp_2 := by
  intro y as S pre r S2 h hp
  unfold sp_2 at h
  split at h
  · cases h; exact f110 hxs (d + 1) S _ _ _ hp
  · cases h; exact f114 hxs (d + 1) S _ _ _ hp
  · cases h; exact f108 hxs (d + 1) S _ hp
  · cases h; exact f109 hxs (d + 1) S _ hp
  · cases h; exact f115 hxs (d + 1) S _ hp
  · cases h; exact f31 hxs (d + 1) S _ hp
  · cases h; exact f32 hxs (d + 1) S _ hp
  · cases h; exact f107 hxs (d + 1) S hp
  · cases h; exact f177 hxs (d + 1) S hp
  · cases h; exact f45_48 hxs (d + 1) S hp
  · cases h; exact f46_48 hxs (d + 1) S _ hp
  · cases h; exact f52_48 hxs (d + 1) S _ _ hp
  · cases h; exact f45_56 hxs (d + 1) S hp
  · cases h; exact f46_56 hxs (d + 1) S _ hp
  · cases h; exact f52_56 hxs (d + 1) S _ _ hp
  · cases h; exact f64 hxs (d + 1) S _ _ hp
  · cases h; exact f111 hxs (d + 0) S _ hp
  · cases h; exact f116 hxs (d + 0) S _ hp
  · cases h
theorem zz_mod {w x y : Int} (h : 0 ≤ x ∧ x < w) : (y * w + x) % w = x ∧ (y * w + x) / w = y := by
  constructor
  · rw [Int.add_comm, Int.add_mul_emod_self_right, Int.emod_eq_of_lt h.1 h.2]
  · rw [Int.add_comm, Int.add_mul_ediv_right _ _ (by omega), Int.ediv_eq_zero_of_lt h.1 h.2]
    omega
set_option maxRecDepth 20000 in
theorem f92 {xs : List Int32} (hxs : xs.length ≤ 2048) (d : Nat) (S : qq_S) (a : Int) (hp : qq_in a) : qq_E xs (d + 2) 92 [.inr (3, none), .inl a] S (some (if 1 ≤ a ∧ a ≤ 4 then S 52 3 else -1)) (if 1 ≤ a ∧ a ≤ 4 then qq_u (qq_u S 52 3 a) 3 9 0 else qq_u S 3 9 (-1)) := by
  have h : qq_p xs (d + 1) (mm_mr mm_m92) (mm_mk mm_m92) (fun r S' => r = some (if 1 ≤ a ∧ a ≤ 4 then S 52 3 else -1) ∧ S' = if 1 ≤ a ∧ a ≤ 4 then qq_u (qq_u S 52 3 a) 3 9 0 else qq_u S 3 9 (-1)) 0 (qq_ent mm_m92 [.inr (3, none), .inl a]) [] S := by
    refine qq_fsound hxs (sp_1_ok hxs (d + 0)) [] 200 ?_
    repeat' first | apply And.intro | intro _
    all_goals (first | rfl | omega | grind [qq_in, zz_b])
  obtain ⟨r, S', hE, e1, e2⟩ := qq_call_of (y := 92) rfl (Nat.le_of_ble_eq_true rfl) h
  rw [e1, e2] at hE
  exact hE
set_option maxRecDepth 20000 in
theorem f132 {xs : List Int32} (hxs : xs.length ≤ 2048) (d : Nat) (S : qq_S) (a : Int) (hp : qq_in a ∧ 0 ≤ S 115 14 ∧ S 115 14 ≤ 4) : qq_E xs (d + 2) 132 [.inr (115, none), .inl a] S (some (if 1 ≤ a ∧ a ≤ 4 then S 115 14 else -1)) (if 1 ≤ a ∧ a ≤ 4 then qq_u (qq_u S 115 14 a) 115 0 0 else qq_u S 115 0 (-1)) := by
  have h : qq_p xs (d + 1) (mm_mr mm_m132) (mm_mk mm_m132) (fun r S' => r = some (if 1 ≤ a ∧ a ≤ 4 then S 115 14 else -1) ∧ S' = if 1 ≤ a ∧ a ≤ 4 then qq_u (qq_u S 115 14 a) 115 0 0 else qq_u S 115 0 (-1)) 0 (qq_ent mm_m132 [.inr (115, none), .inl a]) [] S := by
    refine qq_fsound hxs (sp_1_ok hxs (d + 0)) [] 200 ?_
    repeat' first | apply And.intro | intro _
    all_goals (first | rfl | omega | grind [qq_in, zz_b])
  obtain ⟨r, S', hE, e1, e2⟩ := qq_call_of (y := 132) rfl (Nat.le_of_ble_eq_true rfl) h
  rw [e1, e2] at hE
  exact hE
set_option maxRecDepth 20000 in
theorem f93 {xs : List Int32} (hxs : xs.length ≤ 2048) (d : Nat) (S : qq_S) (a : Int) (b : Int) (c : Int) (hp : qq_in a ∧ qq_in b ∧ qq_in c) : qq_E xs (d + 3) 93 [.inr (3, none), .inl a, .inl b, .inl c] S (some (if 0 ≤ a ∧ a ≤ 100 ∧ 0 ≤ b ∧ b ≤ 100 ∧ 0 ≤ c ∧ c ≤ 100 then 0 else -1)) (if 0 ≤ a ∧ a ≤ 100 ∧ 0 ≤ b ∧ b ≤ 100 ∧ 0 ≤ c ∧ c ≤ 100 then qq_u (qq_u (qq_u (qq_u S 52 0 a) 52 1 b) 52 2 c) 3 9 0 else qq_u S 3 9 (-1)) := by
  have h : qq_p xs (d + 2) (mm_mr mm_m93) (mm_mk mm_m93) (fun r S' => r = some (if 0 ≤ a ∧ a ≤ 100 ∧ 0 ≤ b ∧ b ≤ 100 ∧ 0 ≤ c ∧ c ≤ 100 then 0 else -1) ∧ S' = if 0 ≤ a ∧ a ≤ 100 ∧ 0 ≤ b ∧ b ≤ 100 ∧ 0 ≤ c ∧ c ≤ 100 then qq_u (qq_u (qq_u (qq_u S 52 0 a) 52 1 b) 52 2 c) 3 9 0 else qq_u S 3 9 (-1)) 0 (qq_ent mm_m93 [.inr (3, none), .inl a, .inl b, .inl c]) [] S := by
    refine qq_fsound hxs (sp_2_ok hxs (d + 0)) [] 200 ?_
    repeat' first | apply And.intro | intro _
    all_goals (first | rfl | omega | grind [qq_in, zz_b])
  obtain ⟨r, S', hE, e1, e2⟩ := qq_call_of (y := 93) rfl (Nat.le_of_ble_eq_true rfl) h
  rw [e1, e2] at hE
  exact hE
set_option maxRecDepth 20000 in
theorem f133 {xs : List Int32} (hxs : xs.length ≤ 2048) (d : Nat) (S : qq_S) (a : Int) (b : Int) (c : Int) (hp : qq_in a ∧ qq_in b ∧ qq_in c) : qq_E xs (d + 2) 133 [.inr (115, none), .inl a, .inl b, .inl c] S (some (if 0 ≤ a ∧ a ≤ 100 ∧ 0 ≤ b ∧ b ≤ 100 ∧ 0 ≤ c ∧ c ≤ 100 then 0 else -1)) (if 0 ≤ a ∧ a ≤ 100 ∧ 0 ≤ b ∧ b ≤ 100 ∧ 0 ≤ c ∧ c ≤ 100 then qq_u (qq_u (qq_u (qq_u S 115 15 a) 115 16 b) 115 17 c) 115 0 0 else qq_u S 115 0 (-1)) := by
  have h : qq_p xs (d + 1) (mm_mr mm_m133) (mm_mk mm_m133) (fun r S' => r = some (if 0 ≤ a ∧ a ≤ 100 ∧ 0 ≤ b ∧ b ≤ 100 ∧ 0 ≤ c ∧ c ≤ 100 then 0 else -1) ∧ S' = if 0 ≤ a ∧ a ≤ 100 ∧ 0 ≤ b ∧ b ≤ 100 ∧ 0 ≤ c ∧ c ≤ 100 then qq_u (qq_u (qq_u (qq_u S 115 15 a) 115 16 b) 115 17 c) 115 0 0 else qq_u S 115 0 (-1)) 0 (qq_ent mm_m133 [.inr (115, none), .inl a, .inl b, .inl c]) [] S := by
    refine qq_fsound hxs (sp_1_ok hxs (d + 0)) [] 200 ?_
    repeat' first | apply And.intro | intro _
    all_goals (first | rfl | omega | grind [qq_in, zz_b])
  obtain ⟨r, S', hE, e1, e2⟩ := qq_call_of (y := 133) rfl (Nat.le_of_ble_eq_true rfl) h
  rw [e1, e2] at hE
  exact hE
set_option maxRecDepth 20000 in
theorem f47_48 {xs : List Int32} (hxs : xs.length ≤ 2048) (d : Nat) (S : qq_S) (a : Int) (hp : 0 ≤ a ∧ a < 10 ∧ qq_in (S 49 a.toNat)) : qq_E xs (d + 2) 47 [.inr (48, none), .inl a] S (some (if S 49 a.toNat = -1 then -1 else S 50 a.toNat * S 48 0 + S 49 a.toNat)) (S) := by
  have h : qq_p xs (d + 1) (mm_mr mm_m47) (mm_mk mm_m47) (fun r S' => r = some (if S 49 a.toNat = -1 then -1 else S 50 a.toNat * S 48 0 + S 49 a.toNat) ∧ S' = S) 0 (qq_ent mm_m47 [.inr (48, none), .inl a]) [] S := by
    refine qq_fsound hxs (sp_1_ok hxs (d + 0)) [] 200 ?_
    repeat' first | apply And.intro | intro _
    all_goals (first | rfl | omega | grind [qq_in, zz_b])
  obtain ⟨r, S', hE, e1, e2⟩ := qq_call_of (y := 47) rfl (Nat.le_of_ble_eq_true rfl) h
  rw [e1, e2] at hE
  exact hE
set_option maxRecDepth 20000 in
theorem f48_48 {xs : List Int32} (hxs : xs.length ≤ 2048) (d : Nat) (S : qq_S) (a : Int) (p : Int) (hp : 0 ≤ a ∧ a < 10 ∧ qq_in p ∧ 0 ≤ S 48 0 ∧ S 48 0 ≤ 8) : qq_E xs (d + 1) 48 [.inr (48, none), .inl a, .inl p] S (none) (if p < 0 ∨ S 48 0 < 1 then qq_u (qq_u S 49 a.toNat (-1)) 50 a.toNat (-1) else qq_u (qq_u S 49 a.toNat (p % S 48 0)) 50 a.toNat (p / S 48 0)) := by
  have h : qq_p xs (d + 0) (mm_mr mm_m48) (mm_mk mm_m48) (fun r S' => r = none ∧ S' = if p < 0 ∨ S 48 0 < 1 then qq_u (qq_u S 49 a.toNat (-1)) 50 a.toNat (-1) else qq_u (qq_u S 49 a.toNat (p % S 48 0)) 50 a.toNat (p / S 48 0)) 0 (qq_ent mm_m48 [.inr (48, none), .inl a, .inl p]) [] S := by
    refine qq_fsound hxs (sp_0_ok hxs (d + 0)) [] 200 ?_
    repeat' first | apply And.intro | intro _
    all_goals (first | rfl | omega | grind [qq_in, qq_u])
  obtain ⟨r, S', hE, e1, e2⟩ := qq_call_of (y := 48) rfl (Nat.le_of_ble_eq_true rfl) h
  rw [e1, e2] at hE
  exact hE
set_option maxRecDepth 20000 in
theorem f47_56 {xs : List Int32} (hxs : xs.length ≤ 2048) (d : Nat) (S : qq_S) (a : Int) (hp : 0 ≤ a ∧ a < 10 ∧ qq_in (S 57 a.toNat)) : qq_E xs (d + 2) 47 [.inr (56, none), .inl a] S (some (if S 57 a.toNat = -1 then -1 else S 58 a.toNat * S 56 0 + S 57 a.toNat)) (S) := by
  have h : qq_p xs (d + 1) (mm_mr mm_m47) (mm_mk mm_m47) (fun r S' => r = some (if S 57 a.toNat = -1 then -1 else S 58 a.toNat * S 56 0 + S 57 a.toNat) ∧ S' = S) 0 (qq_ent mm_m47 [.inr (56, none), .inl a]) [] S := by
    refine qq_fsound hxs (sp_1_ok hxs (d + 0)) [] 200 ?_
    repeat' first | apply And.intro | intro _
    all_goals (first | rfl | omega | grind [qq_in, zz_b])
  obtain ⟨r, S', hE, e1, e2⟩ := qq_call_of (y := 47) rfl (Nat.le_of_ble_eq_true rfl) h
  rw [e1, e2] at hE
  exact hE
set_option maxRecDepth 20000 in
theorem f48_56 {xs : List Int32} (hxs : xs.length ≤ 2048) (d : Nat) (S : qq_S) (a : Int) (p : Int) (hp : 0 ≤ a ∧ a < 10 ∧ qq_in p ∧ 0 ≤ S 56 0 ∧ S 56 0 ≤ 8) : qq_E xs (d + 1) 48 [.inr (56, none), .inl a, .inl p] S (none) (if p < 0 ∨ S 56 0 < 1 then qq_u (qq_u S 57 a.toNat (-1)) 58 a.toNat (-1) else qq_u (qq_u S 57 a.toNat (p % S 56 0)) 58 a.toNat (p / S 56 0)) := by
  have h : qq_p xs (d + 0) (mm_mr mm_m48) (mm_mk mm_m48) (fun r S' => r = none ∧ S' = if p < 0 ∨ S 56 0 < 1 then qq_u (qq_u S 57 a.toNat (-1)) 58 a.toNat (-1) else qq_u (qq_u S 57 a.toNat (p % S 56 0)) 58 a.toNat (p / S 56 0)) 0 (qq_ent mm_m48 [.inr (56, none), .inl a, .inl p]) [] S := by
    refine qq_fsound hxs (sp_0_ok hxs (d + 0)) [] 200 ?_
    repeat' first | apply And.intro | intro _
    all_goals (first | rfl | omega | grind [qq_in, qq_u])
  obtain ⟨r, S', hE, e1, e2⟩ := qq_call_of (y := 48) rfl (Nat.le_of_ble_eq_true rfl) h
  rw [e1, e2] at hE
  exact hE
def sp_3 : qq_P := fun y as S => match y, as with
  | 110, [.inl a, .inl lo, .inl hi] => some (qq_in a ∧ qq_in lo ∧ qq_in hi, some (zz_b (lo ≤ a ∧ a ≤ hi)), S)
  | 114, [.inl a, .inl lo, .inl hi] => some (qq_in a ∧ qq_in lo ∧ qq_in hi, some (zz_b (lo ≤ a ∧ a ≤ hi)), S)
  | 108, [.inr (3, none), .inl a] => some (True, some (a), qq_u S 3 9 a)
  | 109, [.inr (3, none), .inl a] => some (True, some (a), qq_u S 3 9 0)
  | 115, [.inr (115, none), .inl a] => some (qq_in a, some (a), qq_u S 115 0 (if a < 0 then a else 0))
  | 31, [.inr (4, none), .inl a] => some (qq_in a ∧ qq_in (S 4 0), some (zz_b (0 ≤ a ∧ a < S 4 0)), S)
  | 32, [.inr (4, none), .inl a] => some (qq_in a ∧ qq_in (S 4 1), some (zz_b (0 ≤ a ∧ a < S 4 1)), S)
  | 107, [.inr (3, none)] => some (True, some (S 3 9), S)
  | 177, [.inr (115, none)] => some (True, some (S 115 0), S)
  | 45, [.inr (48, none)] => some (True, some (S 48 0 * S 48 1), S)
  | 46, [.inr (48, none), .inl a] => some (0 ≤ a ∧ a < 10 ∧ qq_in (S 49 a.toNat), some (zz_b (¬ S 49 a.toNat = -1)), S)
  | 52, [.inr (48, none), .inl a, .inl b] => some (0 ≤ a ∧ a < 10 ∧ 0 ≤ b ∧ b < 10 ∧ (-8 ≤ S 49 a.toNat ∧ S 49 a.toNat ≤ 8 ∧ -8 ≤ S 49 b.toNat ∧ S 49 b.toNat ≤ 8 ∧ -8 ≤ S 50 a.toNat ∧ S 50 a.toNat ≤ 8 ∧ -8 ≤ S 50 b.toNat ∧ S 50 b.toNat ≤ 8), some (zz_dir (S 49 b.toNat - S 49 a.toNat) (S 50 b.toNat - S 50 a.toNat)), S)
  | 45, [.inr (56, none)] => some (True, some (S 56 0 * S 56 1), S)
  | 46, [.inr (56, none), .inl a] => some (0 ≤ a ∧ a < 10 ∧ qq_in (S 57 a.toNat), some (zz_b (¬ S 57 a.toNat = -1)), S)
  | 52, [.inr (56, none), .inl a, .inl b] => some (0 ≤ a ∧ a < 10 ∧ 0 ≤ b ∧ b < 10 ∧ (-8 ≤ S 57 a.toNat ∧ S 57 a.toNat ≤ 8 ∧ -8 ≤ S 57 b.toNat ∧ S 57 b.toNat ≤ 8 ∧ -8 ≤ S 58 a.toNat ∧ S 58 a.toNat ≤ 8 ∧ -8 ≤ S 58 b.toNat ∧ S 58 b.toNat ≤ 8), some (zz_dir (S 57 b.toNat - S 57 a.toNat) (S 58 b.toNat - S 58 a.toNat)), S)
  | 64, [.inl a, .inl b] => some (-100 ≤ a ∧ a ≤ 100 ∧ -100 ≤ b ∧ b ≤ 100, some (if 4 < qq_and (a - b) 7 then 8 - qq_and (a - b) 7 else qq_and (a - b) 7), S)
  | 111, [.inl a] => some (qq_in a, some (zz_b (0 ≤ a ∧ a ≤ 100)), S)
  | 116, [.inr (115, none), .inl a] => some (qq_in a ∧ 0 ≤ S 115 1 ∧ S 115 1 ≤ 10, some (zz_b (0 ≤ a ∧ a < S 115 1)), S)
  | 92, [.inr (3, none), .inl a] => some (qq_in a, some (if 1 ≤ a ∧ a ≤ 4 then S 52 3 else -1), if 1 ≤ a ∧ a ≤ 4 then qq_u (qq_u S 52 3 a) 3 9 0 else qq_u S 3 9 (-1))
  | 132, [.inr (115, none), .inl a] => some (qq_in a ∧ 0 ≤ S 115 14 ∧ S 115 14 ≤ 4, some (if 1 ≤ a ∧ a ≤ 4 then S 115 14 else -1), if 1 ≤ a ∧ a ≤ 4 then qq_u (qq_u S 115 14 a) 115 0 0 else qq_u S 115 0 (-1))
  | 93, [.inr (3, none), .inl a, .inl b, .inl c] => some (qq_in a ∧ qq_in b ∧ qq_in c, some (if 0 ≤ a ∧ a ≤ 100 ∧ 0 ≤ b ∧ b ≤ 100 ∧ 0 ≤ c ∧ c ≤ 100 then 0 else -1), if 0 ≤ a ∧ a ≤ 100 ∧ 0 ≤ b ∧ b ≤ 100 ∧ 0 ≤ c ∧ c ≤ 100 then qq_u (qq_u (qq_u (qq_u S 52 0 a) 52 1 b) 52 2 c) 3 9 0 else qq_u S 3 9 (-1))
  | 133, [.inr (115, none), .inl a, .inl b, .inl c] => some (qq_in a ∧ qq_in b ∧ qq_in c, some (if 0 ≤ a ∧ a ≤ 100 ∧ 0 ≤ b ∧ b ≤ 100 ∧ 0 ≤ c ∧ c ≤ 100 then 0 else -1), if 0 ≤ a ∧ a ≤ 100 ∧ 0 ≤ b ∧ b ≤ 100 ∧ 0 ≤ c ∧ c ≤ 100 then qq_u (qq_u (qq_u (qq_u S 115 15 a) 115 16 b) 115 17 c) 115 0 0 else qq_u S 115 0 (-1))
  | 47, [.inr (48, none), .inl a] => some (0 ≤ a ∧ a < 10 ∧ qq_in (S 49 a.toNat), some (if S 49 a.toNat = -1 then -1 else S 50 a.toNat * S 48 0 + S 49 a.toNat), S)
  | 48, [.inr (48, none), .inl a, .inl p] => some (0 ≤ a ∧ a < 10 ∧ qq_in p ∧ 0 ≤ S 48 0 ∧ S 48 0 ≤ 8, none, if p < 0 ∨ S 48 0 < 1 then qq_u (qq_u S 49 a.toNat (-1)) 50 a.toNat (-1) else qq_u (qq_u S 49 a.toNat (p % S 48 0)) 50 a.toNat (p / S 48 0))
  | 47, [.inr (56, none), .inl a] => some (0 ≤ a ∧ a < 10 ∧ qq_in (S 57 a.toNat), some (if S 57 a.toNat = -1 then -1 else S 58 a.toNat * S 56 0 + S 57 a.toNat), S)
  | 48, [.inr (56, none), .inl a, .inl p] => some (0 ≤ a ∧ a < 10 ∧ qq_in p ∧ 0 ≤ S 56 0 ∧ S 56 0 ≤ 8, none, if p < 0 ∨ S 56 0 < 1 then qq_u (qq_u S 57 a.toNat (-1)) 58 a.toNat (-1) else qq_u (qq_u S 57 a.toNat (p % S 56 0)) 58 a.toNat (p / S 56 0))
  | _, _ => none
theorem sp_3_ok {xs : List Int32} (hxs : xs.length ≤ 2048) (d : Nat) : qq_ok xs (d + 3) sp_3 := by
  intro y as S pre r S2 h hp
  unfold sp_3 at h
  split at h
  · cases h; exact f110 hxs (d + 2) S _ _ _ hp
  · cases h; exact f114 hxs (d + 2) S _ _ _ hp
  · cases h; exact f108 hxs (d + 2) S _ hp
  · cases h; exact f109 hxs (d + 2) S _ hp
  · cases h; exact f115 hxs (d + 2) S _ hp
  · cases h; exact f31 hxs (d + 2) S _ hp
  · cases h; exact f32 hxs (d + 2) S _ hp
  · cases h; exact f107 hxs (d + 2) S hp
  · cases h; exact f177 hxs (d + 2) S hp
  · cases h; exact f45_48 hxs (d + 2) S hp
  · cases h; exact f46_48 hxs (d + 2) S _ hp
  · cases h; exact f52_48 hxs (d + 2) S _ _ hp
  · cases h; exact f45_56 hxs (d + 2) S hp
  · cases h; exact f46_56 hxs (d + 2) S _ hp
  · cases h; exact f52_56 hxs (d + 2) S _ _ hp
  · cases h; exact f64 hxs (d + 2) S _ _ hp
  · cases h; exact f111 hxs (d + 1) S _ hp
  · cases h; exact f116 hxs (d + 1) S _ hp
  · cases h; exact f92 hxs (d + 1) S _ hp
  · cases h; exact f132 hxs (d + 1) S _ hp
  · cases h; exact f93 hxs (d + 0) S _ _ _ hp
  · cases h; exact f133 hxs (d + 1) S _ _ _ hp
  · cases h; exact f47_48 hxs (d + 1) S _ hp
  · cases h; exact f48_48 hxs (d + 2) S _ _ hp
  · cases h; exact f47_56 hxs (d + 1) S _ hp
  · cases h; exact f48_56 hxs (d + 2) S _ _ hp
  · cases h
set_option maxRecDepth 20000 in
theorem f95 {xs : List Int32} (hxs : xs.length ≤ 2048) (d : Nat) (S : qq_S) (a : Int) (hp : qq_in a ∧ (0 ≤ S 4 0 ∧ S 4 0 ≤ 10) ∧ (0 ≤ a ∧ a < S 4 0 → qq_in (S 49 a.toNat))) : qq_E xs (d + 4) 95 [.inr (3, none), .inl a] S (some (if 0 ≤ a ∧ a < S 4 0 then zz_pt (S 48 0) (S 49 a.toNat) (S 50 a.toNat) else -1)) (S) := by
  have h : qq_p xs (d + 3) (mm_mr mm_m95) (mm_mk mm_m95) (fun r S' => r = some (if 0 ≤ a ∧ a < S 4 0 then zz_pt (S 48 0) (S 49 a.toNat) (S 50 a.toNat) else -1) ∧ S' = S) 0 (qq_ent mm_m95 [.inr (3, none), .inl a]) [] S := by
    refine qq_fsound hxs (sp_3_ok hxs (d + 0)) [] 200 ?_
    repeat' first | apply And.intro | intro _
    all_goals (first | rfl | omega | grind [qq_in, zz_b, zz_pt])
  obtain ⟨r, S', hE, e1, e2⟩ := qq_call_of (y := 95) rfl (Nat.le_of_ble_eq_true rfl) h
  rw [e1, e2] at hE
  exact hE
set_option maxRecDepth 20000 in
theorem f135 {xs : List Int32} (hxs : xs.length ≤ 2048) (d : Nat) (S : qq_S) (a : Int) (hp : qq_in a ∧ (0 ≤ S 115 1 ∧ S 115 1 ≤ 10)) : qq_E xs (d + 4) 135 [.inr (115, none), .inl a] S (some (if 0 ≤ a ∧ a < S 115 1 then S 123 a.toNat else -1)) (S) := by
  have h : qq_p xs (d + 3) (mm_mr mm_m135) (mm_mk mm_m135) (fun r S' => r = some (if 0 ≤ a ∧ a < S 115 1 then S 123 a.toNat else -1) ∧ S' = S) 0 (qq_ent mm_m135 [.inr (115, none), .inl a]) [] S := by
    refine qq_fsound hxs (sp_3_ok hxs (d + 0)) [] 200 ?_
    repeat' first | apply And.intro | intro _
    all_goals (first | rfl | omega | grind [qq_in, zz_b, zz_pt])
  obtain ⟨r, S', hE, e1, e2⟩ := qq_call_of (y := 135) rfl (Nat.le_of_ble_eq_true rfl) h
  rw [e1, e2] at hE
  exact hE
set_option maxRecDepth 20000 in
theorem f94 {xs : List Int32} (hxs : xs.length ≤ 2048) (d : Nat) (S : qq_S) (a : Int) (x : Int) (y : Int) (hp : qq_in a ∧ qq_in x ∧ qq_in y ∧ (0 ≤ S 4 0 ∧ S 4 0 ≤ 10) ∧ (2 ≤ S 48 0 ∧ S 48 0 ≤ 8 ∧ 2 ≤ S 48 1 ∧ S 48 1 ≤ 8) ∧ (0 ≤ a ∧ a < S 4 0 → qq_in (S 51 a.toNat))) : qq_E xs (d + 4) 94 [.inr (3, none), .inl a, .inl x, .inl y] S (some (if ¬ (0 ≤ x ∧ x < S 48 0 ∧ 0 ≤ y ∧ y < S 48 1) then -1 else if ¬ (0 ≤ a ∧ a < S 4 0) then -2 else if ¬ S 51 a.toNat = 0 then -6 else 0)) (if ¬ (0 ≤ x ∧ x < S 48 0 ∧ 0 ≤ y ∧ y < S 48 1) then qq_u S 3 9 (-1) else if ¬ (0 ≤ a ∧ a < S 4 0) then qq_u S 3 9 (-2) else if ¬ S 51 a.toNat = 0 then qq_u S 3 9 (-6) else qq_u (qq_u (qq_u S 49 a.toNat x) 50 a.toNat y) 3 9 0) := by
  have h : qq_p xs (d + 3) (mm_mr mm_m94) (mm_mk mm_m94) (fun r S' => r = some (if ¬ (0 ≤ x ∧ x < S 48 0 ∧ 0 ≤ y ∧ y < S 48 1) then -1 else if ¬ (0 ≤ a ∧ a < S 4 0) then -2 else if ¬ S 51 a.toNat = 0 then -6 else 0) ∧ S' = if ¬ (0 ≤ x ∧ x < S 48 0 ∧ 0 ≤ y ∧ y < S 48 1) then qq_u S 3 9 (-1) else if ¬ (0 ≤ a ∧ a < S 4 0) then qq_u S 3 9 (-2) else if ¬ S 51 a.toNat = 0 then qq_u S 3 9 (-6) else qq_u (qq_u (qq_u S 49 a.toNat x) 50 a.toNat y) 3 9 0) 0 (qq_ent mm_m94 [.inr (3, none), .inl a, .inl x, .inl y]) [] S := by
    refine qq_fsound hxs (sp_3_ok hxs (d + 0)) [] 200 ?_
    repeat' first | apply And.intro | intro _
    all_goals (first | rfl | omega | grind [qq_in, zz_b] | (have hy1 : 0 ≤ y ∧ y ≤ 7 := (by grind [zz_b]); have hx1 : 0 ≤ x ∧ x < S 48 0 := (by grind [zz_b]); have hw1 : 0 ≤ S 48 0 ∧ S 48 0 ≤ 8 := (by grind); have hb1 := Int.mul_nonneg hy1.1 hw1.1; have hb2 := Int.mul_le_mul hy1.2 hw1.2 hw1.1 (by decide); have hm := zz_mod (y := y) hx1; grind [qq_in, zz_b]))
  obtain ⟨r, S', hE, e1, e2⟩ := qq_call_of (y := 94) rfl (Nat.le_of_ble_eq_true rfl) h
  rw [e1, e2] at hE
  exact hE
set_option maxRecDepth 20000 in
theorem f134 {xs : List Int32} (hxs : xs.length ≤ 2048) (d : Nat) (S : qq_S) (a : Int) (x : Int) (y : Int) (hp : qq_in a ∧ qq_in x ∧ qq_in y ∧ (0 ≤ S 115 1 ∧ S 115 1 ≤ 10) ∧ (2 ≤ S 115 12 ∧ S 115 12 ≤ 8 ∧ 2 ≤ S 115 13 ∧ S 115 13 ≤ 8) ∧ (0 ≤ a ∧ a < S 115 1 → qq_in (S 124 a.toNat))) : qq_E xs (d + 4) 134 [.inr (115, none), .inl a, .inl x, .inl y] S (some (if ¬ (0 ≤ x ∧ x < S 115 12 ∧ 0 ≤ y ∧ y < S 115 13) then -1 else if ¬ (0 ≤ a ∧ a < S 115 1) then -2 else if ¬ S 124 a.toNat = 0 then -6 else 0)) (if ¬ (0 ≤ x ∧ x < S 115 12 ∧ 0 ≤ y ∧ y < S 115 13) then qq_u S 115 0 (-1) else if ¬ (0 ≤ a ∧ a < S 115 1) then qq_u S 115 0 (-2) else if ¬ S 124 a.toNat = 0 then qq_u S 115 0 (-6) else qq_u (qq_u S 123 a.toNat (y * S 115 12 + x)) 115 0 0) := by
  have h : qq_p xs (d + 3) (mm_mr mm_m134) (mm_mk mm_m134) (fun r S' => r = some (if ¬ (0 ≤ x ∧ x < S 115 12 ∧ 0 ≤ y ∧ y < S 115 13) then -1 else if ¬ (0 ≤ a ∧ a < S 115 1) then -2 else if ¬ S 124 a.toNat = 0 then -6 else 0) ∧ S' = if ¬ (0 ≤ x ∧ x < S 115 12 ∧ 0 ≤ y ∧ y < S 115 13) then qq_u S 115 0 (-1) else if ¬ (0 ≤ a ∧ a < S 115 1) then qq_u S 115 0 (-2) else if ¬ S 124 a.toNat = 0 then qq_u S 115 0 (-6) else qq_u (qq_u S 123 a.toNat (y * S 115 12 + x)) 115 0 0) 0 (qq_ent mm_m134 [.inr (115, none), .inl a, .inl x, .inl y]) [] S := by
    refine qq_fsound hxs (sp_3_ok hxs (d + 0)) [] 200 ?_
    repeat' first | apply And.intro | intro _
    all_goals (first | rfl | omega | grind [qq_in, zz_b, zz_pt])
  obtain ⟨r, S', hE, e1, e2⟩ := qq_call_of (y := 134) rfl (Nat.le_of_ble_eq_true rfl) h
  rw [e1, e2] at hE
  exact hE
set_option maxRecDepth 20000 in
theorem f96 {xs : List Int32} (hxs : xs.length ≤ 2048) (d : Nat) (S : qq_S) (a : Int) (b : Int) (hp : qq_in a ∧ (b = 0 ∨ b = 1) ∧ (0 ≤ S 4 0 ∧ S 4 0 ≤ 10) ∧ (0 ≤ a ∧ a < S 4 0 → qq_in (S 49 a.toNat))) : qq_E xs (d + 4) 96 [.inr (3, none), .inl a, .inl b] S (some (if ¬ (0 ≤ a ∧ a < S 4 0) then -2 else if S 49 a.toNat = -1 then -2 else 0)) (if ¬ (0 ≤ a ∧ a < S 4 0) then qq_u S 3 9 (-2) else if S 49 a.toNat = -1 then qq_u S 3 9 (-2) else qq_u (qq_u S 51 a.toNat b) 3 9 0) := by
  have h : qq_p xs (d + 3) (mm_mr mm_m96) (mm_mk mm_m96) (fun r S' => r = some (if ¬ (0 ≤ a ∧ a < S 4 0) then -2 else if S 49 a.toNat = -1 then -2 else 0) ∧ S' = if ¬ (0 ≤ a ∧ a < S 4 0) then qq_u S 3 9 (-2) else if S 49 a.toNat = -1 then qq_u S 3 9 (-2) else qq_u (qq_u S 51 a.toNat b) 3 9 0) 0 (qq_ent mm_m96 [.inr (3, none), .inl a, .inl b]) [] S := by
    refine qq_fsound hxs (sp_3_ok hxs (d + 0)) [] 200 ?_
    repeat' first | apply And.intro | intro _
    all_goals (first | rfl | omega | grind [qq_in, zz_b, zz_pt])
  obtain ⟨r, S', hE, e1, e2⟩ := qq_call_of (y := 96) rfl (Nat.le_of_ble_eq_true rfl) h
  rw [e1, e2] at hE
  exact hE
set_option maxRecDepth 20000 in
theorem f136 {xs : List Int32} (hxs : xs.length ≤ 2048) (d : Nat) (S : qq_S) (a : Int) (b : Int) (hp : qq_in a ∧ (b = 0 ∨ b = 1) ∧ (0 ≤ S 115 1 ∧ S 115 1 ≤ 10) ∧ (0 ≤ a ∧ a < S 115 1 → qq_in (S 123 a.toNat))) : qq_E xs (d + 4) 136 [.inr (115, none), .inl a, .inl b] S (some (if ¬ (0 ≤ a ∧ a < S 115 1) then -2 else if S 123 a.toNat = -1 then -2 else 0)) (if ¬ (0 ≤ a ∧ a < S 115 1) then qq_u S 115 0 (-2) else if S 123 a.toNat = -1 then qq_u S 115 0 (-2) else qq_u (qq_u S 124 a.toNat b) 115 0 0) := by
  have h : qq_p xs (d + 3) (mm_mr mm_m136) (mm_mk mm_m136) (fun r S' => r = some (if ¬ (0 ≤ a ∧ a < S 115 1) then -2 else if S 123 a.toNat = -1 then -2 else 0) ∧ S' = if ¬ (0 ≤ a ∧ a < S 115 1) then qq_u S 115 0 (-2) else if S 123 a.toNat = -1 then qq_u S 115 0 (-2) else qq_u (qq_u S 124 a.toNat b) 115 0 0) 0 (qq_ent mm_m136 [.inr (115, none), .inl a, .inl b]) [] S := by
    refine qq_fsound hxs (sp_3_ok hxs (d + 0)) [] 200 ?_
    repeat' first | apply And.intro | intro _
    all_goals (first | rfl | omega | grind [qq_in, zz_b, zz_pt])
  obtain ⟨r, S', hE, e1, e2⟩ := qq_call_of (y := 136) rfl (Nat.le_of_ble_eq_true rfl) h
  rw [e1, e2] at hE
  exact hE
set_option maxRecDepth 20000 in
theorem f101 {xs : List Int32} (hxs : xs.length ≤ 2048) (d : Nat) (S : qq_S) (a : Int) (b : Int) (hp : qq_in a ∧ qq_in b ∧ (0 ≤ S 4 0 ∧ S 4 0 ≤ 10)) : qq_E xs (d + 4) 101 [.inr (3, none), .inl a, .inl b] S (some (if ¬ (0 ≤ b ∧ b ≤ 12) then -1 else if ¬ (0 ≤ a ∧ a < S 4 0) then -2 else S 95 a.toNat)) (if ¬ (0 ≤ b ∧ b ≤ 12) then qq_u S 3 9 (-1) else if ¬ (0 ≤ a ∧ a < S 4 0) then qq_u S 3 9 (-2) else qq_u (qq_u S 95 a.toNat b) 3 9 0) := by
  have h : qq_p xs (d + 3) (mm_mr mm_m101) (mm_mk mm_m101) (fun r S' => r = some (if ¬ (0 ≤ b ∧ b ≤ 12) then -1 else if ¬ (0 ≤ a ∧ a < S 4 0) then -2 else S 95 a.toNat) ∧ S' = if ¬ (0 ≤ b ∧ b ≤ 12) then qq_u S 3 9 (-1) else if ¬ (0 ≤ a ∧ a < S 4 0) then qq_u S 3 9 (-2) else qq_u (qq_u S 95 a.toNat b) 3 9 0) 0 (qq_ent mm_m101 [.inr (3, none), .inl a, .inl b]) [] S := by
    refine qq_fsound hxs (sp_3_ok hxs (d + 0)) [] 200 ?_
    repeat' first | apply And.intro | intro _
    all_goals (first | rfl | omega | grind [qq_in, zz_b, zz_pt])
  obtain ⟨r, S', hE, e1, e2⟩ := qq_call_of (y := 101) rfl (Nat.le_of_ble_eq_true rfl) h
  rw [e1, e2] at hE
  exact hE
set_option maxRecDepth 20000 in
theorem f164 {xs : List Int32} (hxs : xs.length ≤ 2048) (d : Nat) (S : qq_S) (a : Int) (b : Int) (hp : qq_in a ∧ qq_in b ∧ (0 ≤ S 115 1 ∧ S 115 1 ≤ 10) ∧ (0 ≤ a ∧ a < S 115 1 → 0 ≤ S 125 a.toNat ∧ S 125 a.toNat ≤ 12)) : qq_E xs (d + 4) 164 [.inr (115, none), .inl a, .inl b] S (some (if ¬ (0 ≤ b ∧ b ≤ 12) then -1 else if ¬ (0 ≤ a ∧ a < S 115 1) then -2 else S 125 a.toNat)) (if ¬ (0 ≤ b ∧ b ≤ 12) then qq_u S 115 0 (-1) else if ¬ (0 ≤ a ∧ a < S 115 1) then qq_u S 115 0 (-2) else qq_u (qq_u S 125 a.toNat b) 115 0 0) := by
  have h : qq_p xs (d + 3) (mm_mr mm_m164) (mm_mk mm_m164) (fun r S' => r = some (if ¬ (0 ≤ b ∧ b ≤ 12) then -1 else if ¬ (0 ≤ a ∧ a < S 115 1) then -2 else S 125 a.toNat) ∧ S' = if ¬ (0 ≤ b ∧ b ≤ 12) then qq_u S 115 0 (-1) else if ¬ (0 ≤ a ∧ a < S 115 1) then qq_u S 115 0 (-2) else qq_u (qq_u S 125 a.toNat b) 115 0 0) 0 (qq_ent mm_m164 [.inr (115, none), .inl a, .inl b]) [] S := by
    refine qq_fsound hxs (sp_3_ok hxs (d + 0)) [] 200 ?_
    repeat' first | apply And.intro | intro _
    all_goals (first | rfl | omega | grind [qq_in, zz_b, zz_pt])
  obtain ⟨r, S', hE, e1, e2⟩ := qq_call_of (y := 164) rfl (Nat.le_of_ble_eq_true rfl) h
  rw [e1, e2] at hE
  exact hE
set_option maxRecDepth 20000 in
theorem f103 {xs : List Int32} (hxs : xs.length ≤ 2048) (d : Nat) (S : qq_S) (a : Int) (b : Int) (hp : qq_in a ∧ qq_in b ∧ (0 ≤ S 4 0 ∧ S 4 0 ≤ 10)) : qq_E xs (d + 4) 103 [.inr (3, none), .inl a, .inl b] S (some (if ¬ (0 ≤ a ∧ a < S 4 0) then -1 else if b = 0 then S 96 a.toNat else if b = 1 then S 97 a.toNat else -1)) (S) := by
  have h : qq_p xs (d + 3) (mm_mr mm_m103) (mm_mk mm_m103) (fun r S' => r = some (if ¬ (0 ≤ a ∧ a < S 4 0) then -1 else if b = 0 then S 96 a.toNat else if b = 1 then S 97 a.toNat else -1) ∧ S' = S) 0 (qq_ent mm_m103 [.inr (3, none), .inl a, .inl b]) [] S := by
    refine qq_fsound hxs (sp_3_ok hxs (d + 0)) [] 200 ?_
    repeat' first | apply And.intro | intro _
    all_goals (first | rfl | omega | grind [qq_in, zz_b, zz_pt])
  obtain ⟨r, S', hE, e1, e2⟩ := qq_call_of (y := 103) rfl (Nat.le_of_ble_eq_true rfl) h
  rw [e1, e2] at hE
  exact hE
set_option maxRecDepth 20000 in
theorem f173 {xs : List Int32} (hxs : xs.length ≤ 2048) (d : Nat) (S : qq_S) (a : Int) (b : Int) (hp : qq_in a ∧ qq_in b ∧ (0 ≤ S 115 26 ∧ S 115 26 ≤ 10)) : qq_E xs (d + 4) 173 [.inr (115, none), .inl a, .inl b] S (some (if ¬ (0 ≤ a ∧ a < S 115 26) then -1 else if b = 0 then S 131 a.toNat else if b = 1 then S 130 a.toNat else -1)) (S) := by
  have h : qq_p xs (d + 3) (mm_mr mm_m173) (mm_mk mm_m173) (fun r S' => r = some (if ¬ (0 ≤ a ∧ a < S 115 26) then -1 else if b = 0 then S 131 a.toNat else if b = 1 then S 130 a.toNat else -1) ∧ S' = S) 0 (qq_ent mm_m173 [.inr (115, none), .inl a, .inl b]) [] S := by
    refine qq_fsound hxs (sp_3_ok hxs (d + 0)) [] 200 ?_
    repeat' first | apply And.intro | intro _
    all_goals (first | rfl | omega | grind [qq_in, zz_b, zz_pt])
  obtain ⟨r, S', hE, e1, e2⟩ := qq_call_of (y := 173) rfl (Nat.le_of_ble_eq_true rfl) h
  rw [e1, e2] at hE
  exact hE
set_option maxRecDepth 20000 in
theorem f35 {xs : List Int32} (hxs : xs.length ≤ 2048) (d : Nat) (S : qq_S) (hp : True) : qq_E xs (d + 1) 35 [.inr (4, none)] S (some (S 4 1)) (qq_u S 4 1 (S 4 1 + 1)) := by
  have h : qq_p xs (d + 0) (mm_mr mm_m35) (mm_mk mm_m35) (fun r S' => r = some (S 4 1) ∧ S' = qq_u S 4 1 (S 4 1 + 1)) 0 (qq_ent mm_m35 [.inr (4, none)]) [] S := by
    refine qq_fsound hxs (sp_0_ok hxs (d + 0)) [] 200 ?_
    repeat' first | apply And.intro | intro _
    all_goals (first | rfl | omega | grind [qq_in, qq_u])
  obtain ⟨r, S', hE, e1, e2⟩ := qq_call_of (y := 35) rfl (Nat.le_of_ble_eq_true rfl) h
  rw [e1, e2] at hE
  exact hE
def sp_4 : qq_P := fun y as S => match y, as with
  | 110, [.inl a, .inl lo, .inl hi] => some (qq_in a ∧ qq_in lo ∧ qq_in hi, some (zz_b (lo ≤ a ∧ a ≤ hi)), S)
  | 114, [.inl a, .inl lo, .inl hi] => some (qq_in a ∧ qq_in lo ∧ qq_in hi, some (zz_b (lo ≤ a ∧ a ≤ hi)), S)
  | 108, [.inr (3, none), .inl a] => some (True, some (a), qq_u S 3 9 a)
  | 109, [.inr (3, none), .inl a] => some (True, some (a), qq_u S 3 9 0)
  | 115, [.inr (115, none), .inl a] => some (qq_in a, some (a), qq_u S 115 0 (if a < 0 then a else 0))
  | 31, [.inr (4, none), .inl a] => some (qq_in a ∧ qq_in (S 4 0), some (zz_b (0 ≤ a ∧ a < S 4 0)), S)
  | 32, [.inr (4, none), .inl a] => some (qq_in a ∧ qq_in (S 4 1), some (zz_b (0 ≤ a ∧ a < S 4 1)), S)
  | 107, [.inr (3, none)] => some (True, some (S 3 9), S)
  | 177, [.inr (115, none)] => some (True, some (S 115 0), S)
  | 45, [.inr (48, none)] => some (True, some (S 48 0 * S 48 1), S)
  | 46, [.inr (48, none), .inl a] => some (0 ≤ a ∧ a < 10 ∧ qq_in (S 49 a.toNat), some (zz_b (¬ S 49 a.toNat = -1)), S)
  | 52, [.inr (48, none), .inl a, .inl b] => some (0 ≤ a ∧ a < 10 ∧ 0 ≤ b ∧ b < 10 ∧ (-8 ≤ S 49 a.toNat ∧ S 49 a.toNat ≤ 8 ∧ -8 ≤ S 49 b.toNat ∧ S 49 b.toNat ≤ 8 ∧ -8 ≤ S 50 a.toNat ∧ S 50 a.toNat ≤ 8 ∧ -8 ≤ S 50 b.toNat ∧ S 50 b.toNat ≤ 8), some (zz_dir (S 49 b.toNat - S 49 a.toNat) (S 50 b.toNat - S 50 a.toNat)), S)
  | 45, [.inr (56, none)] => some (True, some (S 56 0 * S 56 1), S)
  | 46, [.inr (56, none), .inl a] => some (0 ≤ a ∧ a < 10 ∧ qq_in (S 57 a.toNat), some (zz_b (¬ S 57 a.toNat = -1)), S)
  | 52, [.inr (56, none), .inl a, .inl b] => some (0 ≤ a ∧ a < 10 ∧ 0 ≤ b ∧ b < 10 ∧ (-8 ≤ S 57 a.toNat ∧ S 57 a.toNat ≤ 8 ∧ -8 ≤ S 57 b.toNat ∧ S 57 b.toNat ≤ 8 ∧ -8 ≤ S 58 a.toNat ∧ S 58 a.toNat ≤ 8 ∧ -8 ≤ S 58 b.toNat ∧ S 58 b.toNat ≤ 8), some (zz_dir (S 57 b.toNat - S 57 a.toNat) (S 58 b.toNat - S 58 a.toNat)), S)
  | 64, [.inl a, .inl b] => some (-100 ≤ a ∧ a ≤ 100 ∧ -100 ≤ b ∧ b ≤ 100, some (if 4 < qq_and (a - b) 7 then 8 - qq_and (a - b) 7 else qq_and (a - b) 7), S)
  | 111, [.inl a] => some (qq_in a, some (zz_b (0 ≤ a ∧ a ≤ 100)), S)
  | 116, [.inr (115, none), .inl a] => some (qq_in a ∧ 0 ≤ S 115 1 ∧ S 115 1 ≤ 10, some (zz_b (0 ≤ a ∧ a < S 115 1)), S)
  | 92, [.inr (3, none), .inl a] => some (qq_in a, some (if 1 ≤ a ∧ a ≤ 4 then S 52 3 else -1), if 1 ≤ a ∧ a ≤ 4 then qq_u (qq_u S 52 3 a) 3 9 0 else qq_u S 3 9 (-1))
  | 132, [.inr (115, none), .inl a] => some (qq_in a ∧ 0 ≤ S 115 14 ∧ S 115 14 ≤ 4, some (if 1 ≤ a ∧ a ≤ 4 then S 115 14 else -1), if 1 ≤ a ∧ a ≤ 4 then qq_u (qq_u S 115 14 a) 115 0 0 else qq_u S 115 0 (-1))
  | 93, [.inr (3, none), .inl a, .inl b, .inl c] => some (qq_in a ∧ qq_in b ∧ qq_in c, some (if 0 ≤ a ∧ a ≤ 100 ∧ 0 ≤ b ∧ b ≤ 100 ∧ 0 ≤ c ∧ c ≤ 100 then 0 else -1), if 0 ≤ a ∧ a ≤ 100 ∧ 0 ≤ b ∧ b ≤ 100 ∧ 0 ≤ c ∧ c ≤ 100 then qq_u (qq_u (qq_u (qq_u S 52 0 a) 52 1 b) 52 2 c) 3 9 0 else qq_u S 3 9 (-1))
  | 133, [.inr (115, none), .inl a, .inl b, .inl c] => some (qq_in a ∧ qq_in b ∧ qq_in c, some (if 0 ≤ a ∧ a ≤ 100 ∧ 0 ≤ b ∧ b ≤ 100 ∧ 0 ≤ c ∧ c ≤ 100 then 0 else -1), if 0 ≤ a ∧ a ≤ 100 ∧ 0 ≤ b ∧ b ≤ 100 ∧ 0 ≤ c ∧ c ≤ 100 then qq_u (qq_u (qq_u (qq_u S 115 15 a) 115 16 b) 115 17 c) 115 0 0 else qq_u S 115 0 (-1))
  | 47, [.inr (48, none), .inl a] => some (0 ≤ a ∧ a < 10 ∧ qq_in (S 49 a.toNat), some (if S 49 a.toNat = -1 then -1 else S 50 a.toNat * S 48 0 + S 49 a.toNat), S)
  | 48, [.inr (48, none), .inl a, .inl p] => some (0 ≤ a ∧ a < 10 ∧ qq_in p ∧ 0 ≤ S 48 0 ∧ S 48 0 ≤ 8, none, if p < 0 ∨ S 48 0 < 1 then qq_u (qq_u S 49 a.toNat (-1)) 50 a.toNat (-1) else qq_u (qq_u S 49 a.toNat (p % S 48 0)) 50 a.toNat (p / S 48 0))
  | 47, [.inr (56, none), .inl a] => some (0 ≤ a ∧ a < 10 ∧ qq_in (S 57 a.toNat), some (if S 57 a.toNat = -1 then -1 else S 58 a.toNat * S 56 0 + S 57 a.toNat), S)
  | 48, [.inr (56, none), .inl a, .inl p] => some (0 ≤ a ∧ a < 10 ∧ qq_in p ∧ 0 ≤ S 56 0 ∧ S 56 0 ≤ 8, none, if p < 0 ∨ S 56 0 < 1 then qq_u (qq_u S 57 a.toNat (-1)) 58 a.toNat (-1) else qq_u (qq_u S 57 a.toNat (p % S 56 0)) 58 a.toNat (p / S 56 0))
  | 35, [.inr (4, none)] => some (True, some (S 4 1), qq_u S 4 1 (S 4 1 + 1))
  | _, _ => none
theorem sp_4_ok {xs : List Int32} (hxs : xs.length ≤ 2048) (d : Nat) : qq_ok xs (d + 3) sp_4 := by
  intro y as S pre r S2 h hp
  unfold sp_4 at h
  split at h
  · cases h; exact f110 hxs (d + 2) S _ _ _ hp
  · cases h; exact f114 hxs (d + 2) S _ _ _ hp
  · cases h; exact f108 hxs (d + 2) S _ hp
  · cases h; exact f109 hxs (d + 2) S _ hp
  · cases h; exact f115 hxs (d + 2) S _ hp
  · cases h; exact f31 hxs (d + 2) S _ hp
  · cases h; exact f32 hxs (d + 2) S _ hp
  · cases h; exact f107 hxs (d + 2) S hp
  · cases h; exact f177 hxs (d + 2) S hp
  · cases h; exact f45_48 hxs (d + 2) S hp
  · cases h; exact f46_48 hxs (d + 2) S _ hp
  · cases h; exact f52_48 hxs (d + 2) S _ _ hp
  · cases h; exact f45_56 hxs (d + 2) S hp
  · cases h; exact f46_56 hxs (d + 2) S _ hp
  · cases h; exact f52_56 hxs (d + 2) S _ _ hp
  · cases h; exact f64 hxs (d + 2) S _ _ hp
  · cases h; exact f111 hxs (d + 1) S _ hp
  · cases h; exact f116 hxs (d + 1) S _ hp
  · cases h; exact f92 hxs (d + 1) S _ hp
  · cases h; exact f132 hxs (d + 1) S _ hp
  · cases h; exact f93 hxs (d + 0) S _ _ _ hp
  · cases h; exact f133 hxs (d + 1) S _ _ _ hp
  · cases h; exact f47_48 hxs (d + 1) S _ hp
  · cases h; exact f48_48 hxs (d + 2) S _ _ hp
  · cases h; exact f47_56 hxs (d + 1) S _ hp
  · cases h; exact f48_56 hxs (d + 2) S _ _ hp
  · cases h; exact f35 hxs (d + 2) S hp
  · cases h
set_option maxRecDepth 20000 in
theorem f86 {xs : List Int32} (hxs : xs.length ≤ 2048) (d : Nat) (S : qq_S) (hp : 0 ≤ S 4 1 ∧ S 4 1 ≤ 6) : qq_E xs (d + 4) 86 [.inr (3, none)] S (some (if S 4 1 < 6 then S 4 1 else -5)) (if S 4 1 < 6 then qq_u (qq_u S 4 1 (S 4 1 + 1)) 3 9 0 else qq_u S 3 9 (-5)) := by
  have h : qq_p xs (d + 3) (mm_mr mm_m86) (mm_mk mm_m86) (fun r S' => r = some (if S 4 1 < 6 then S 4 1 else -5) ∧ S' = if S 4 1 < 6 then qq_u (qq_u S 4 1 (S 4 1 + 1)) 3 9 0 else qq_u S 3 9 (-5)) 0 (qq_ent mm_m86 [.inr (3, none)]) [] S := by
    refine qq_fsound hxs (sp_4_ok hxs (d + 0)) [] 200 ?_
    repeat' first | apply And.intro | intro _
    all_goals (first | rfl | omega | grind [qq_in, zz_b, zz_pt])
  obtain ⟨r, S', hE, e1, e2⟩ := qq_call_of (y := 86) rfl (Nat.le_of_ble_eq_true rfl) h
  rw [e1, e2] at hE
  exact hE
set_option maxRecDepth 20000 in
theorem f118 {xs : List Int32} (hxs : xs.length ≤ 2048) (d : Nat) (S : qq_S) (hp : 0 ≤ S 115 2 ∧ S 115 2 ≤ 6) : qq_E xs (d + 4) 118 [.inr (115, none)] S (some (if S 115 2 < 6 then S 115 2 else -5)) (if S 115 2 < 6 then qq_u (qq_u (qq_u S 118 (S 115 2).toNat 0) 115 2 (S 115 2 + 1)) 115 0 0 else qq_u S 115 0 (-5)) := by
  have h : qq_p xs (d + 3) (mm_mr mm_m118) (mm_mk mm_m118) (fun r S' => r = some (if S 115 2 < 6 then S 115 2 else -5) ∧ S' = if S 115 2 < 6 then qq_u (qq_u (qq_u S 118 (S 115 2).toNat 0) 115 2 (S 115 2 + 1)) 115 0 0 else qq_u S 115 0 (-5)) 0 (qq_ent mm_m118 [.inr (115, none)]) [] S := by
    refine qq_fsound hxs (sp_4_ok hxs (d + 0)) [] 200 ?_
    repeat' first | apply And.intro | intro _
    all_goals (first | rfl | omega | grind [qq_in, zz_b, qq_u])
  obtain ⟨r, S', hE, e1, e2⟩ := qq_call_of (y := 118) rfl (Nat.le_of_ble_eq_true rfl) h
  rw [e1, e2] at hE
  exact hE
set_option maxRecDepth 20000 in
theorem f88 {xs : List Int32} (hxs : xs.length ≤ 2048) (d : Nat) (S : qq_S) (a : Int) (b : Int) (hp : qq_in a ∧ qq_in b ∧ (0 ≤ S 4 1 ∧ S 4 1 ≤ 6) ∧ (0 ≤ a ∧ a < S 4 1 → 0 ≤ S 7 a.toNat ∧ S 7 a.toNat ≤ 10)) : qq_E xs (d + 4) 88 [.inr (3, none), .inl a, .inl b] S (some (if ¬ (0 ≤ a ∧ a < S 4 1) then -1 else if b = -1 then S 7 a.toNat else if 0 ≤ b ∧ b < S 7 a.toNat then S (8 + 1 + a.toNat) b.toNat else -1)) (S) := by
  have h : qq_p xs (d + 3) (mm_mr mm_m88) (mm_mk mm_m88) (fun r S' => r = some (if ¬ (0 ≤ a ∧ a < S 4 1) then -1 else if b = -1 then S 7 a.toNat else if 0 ≤ b ∧ b < S 7 a.toNat then S (8 + 1 + a.toNat) b.toNat else -1) ∧ S' = S) 0 (qq_ent mm_m88 [.inr (3, none), .inl a, .inl b]) [] S := by
    refine qq_fsound hxs (sp_4_ok hxs (d + 0)) [] 200 ?_
    repeat' first | apply And.intro | intro _
    all_goals (first | rfl | omega | grind [qq_in, zz_b, zz_pt])
  obtain ⟨r, S', hE, e1, e2⟩ := qq_call_of (y := 88) rfl (Nat.le_of_ble_eq_true rfl) h
  rw [e1, e2] at hE
  exact hE
set_option maxRecDepth 20000 in
theorem f120 {xs : List Int32} (hxs : xs.length ≤ 2048) (d : Nat) (S : qq_S) (a : Int) (b : Int) (hp : qq_in a ∧ qq_in b ∧ (0 ≤ S 115 2 ∧ S 115 2 ≤ 6) ∧ (0 ≤ a ∧ a < S 115 2 → 0 ≤ S 118 a.toNat ∧ S 118 a.toNat ≤ 10)) : qq_E xs (d + 4) 120 [.inr (115, none), .inl a, .inl b] S (some (if ¬ (0 ≤ a ∧ a < S 115 2) then -1 else if b = -1 then S 118 a.toNat else if 0 ≤ b ∧ b < S 118 a.toNat then S 119 (10 * a + b).toNat else -1)) (S) := by
  have h : qq_p xs (d + 3) (mm_mr mm_m120) (mm_mk mm_m120) (fun r S' => r = some (if ¬ (0 ≤ a ∧ a < S 115 2) then -1 else if b = -1 then S 118 a.toNat else if 0 ≤ b ∧ b < S 118 a.toNat then S 119 (10 * a + b).toNat else -1) ∧ S' = S) 0 (qq_ent mm_m120 [.inr (115, none), .inl a, .inl b]) [] S := by
    refine qq_fsound hxs (sp_4_ok hxs (d + 0)) [] 200 ?_
    repeat' first | apply And.intro | intro _
    all_goals (first | rfl | omega | grind [qq_in, zz_b, zz_pt])
  obtain ⟨r, S', hE, e1, e2⟩ := qq_call_of (y := 120) rfl (Nat.le_of_ble_eq_true rfl) h
  rw [e1, e2] at hE
  exact hE
