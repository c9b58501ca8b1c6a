set_option maxRecDepth 20000 in
theorem f123 {xs : List Int32} (hxs : xs.length ≤ 2048) (d : Nat) (S : qq_S) (a : Int) (hp : -100000 ≤ a ∧ a ≤ 100000) : qq_E xs (d + 1) 123 [.inl a] S (some (zz_abs a)) (S) := by
  have h : qq_p xs (d + 0) (mm_mr mm_m123) (mm_mk mm_m123) (fun r S' => r = some (zz_abs a) ∧ S' = S) 0 (qq_ent mm_m123 [.inl a]) [] S := by
    refine qq_fsound hxs (sp_0_ok hxs (d + 0)) [] 200 ?_
    repeat' first | apply And.intro | intro _ | (simp only [qq_tab]) | (simp only [qq_pl])
    all_goals (first | rfl | omega | grind [qq_in, zz_abs])
  obtain ⟨r, S', hE, e1, e2⟩ := qq_call_of (y := 123) rfl (Nat.le_of_ble_eq_true rfl) h
  rw [e1, e2] at hE
  exact hE
set_option maxRecDepth 20000 in
theorem f124 {xs : List Int32} (hxs : xs.length ≤ 2048) (d : Nat) (S : qq_S) (a : Int) (b : Int) (hp : qq_in a ∧ qq_in b) : qq_E xs (d + 1) 124 [.inl a, .inl b] S (some (if 0 < a then (if 0 < b then 1 else 7) else (if 0 < b then 3 else 5))) (S) := by
  have h : qq_p xs (d + 0) (mm_mr mm_m124) (mm_mk mm_m124) (fun r S' => r = some (if 0 < a then (if 0 < b then 1 else 7) else (if 0 < b then 3 else 5)) ∧ S' = S) 0 (qq_ent mm_m124 [.inl a, .inl b]) [] S := by
    refine qq_fsound hxs (sp_0_ok hxs (d + 0)) [] 200 ?_
    repeat' first | apply And.intro | intro _ | (simp only [qq_tab]) | (simp only [qq_pl])
    all_goals (first | rfl | omega | grind [qq_in])
  obtain ⟨r, S', hE, e1, e2⟩ := qq_call_of (y := 124) rfl (Nat.le_of_ble_eq_true rfl) h
  rw [e1, e2] at hE
  exact hE
def sp_8 : qq_P := fun y as S => match y, as with
  | 110, [.inl a, .inl lo, .inl hi] => some (qq_in a ∧ qq_in lo ∧ qq_in hi, some (zz_b (lo ≤ a ∧ a ≤ hi)), S)
  | 114, [.inl a, .inl lo, .inl hi] => some (qq_in a ∧ qq_in lo ∧ qq_in hi, some (zz_b (lo ≤ a ∧ a ≤ hi)), S)
  | 108, [.inr (3, none), .inl a] => some (True, some (a), qq_u S 3 9 a)
  | 109, [.inr (3, none), .inl a] => some (True, some (a), qq_u S 3 9 0)
  | 115, [.inr (115, none), .inl a] => some (qq_in a, some (a), qq_u S 115 0 (if a < 0 then a else 0))
  | 31, [.inr (4, none), .inl a] => some (qq_in a ∧ qq_in (S 4 0), some (zz_b (0 ≤ a ∧ a < S 4 0)), S)
  | 32, [.inr (4, none), .inl a] => some (qq_in a ∧ qq_in (S 4 1), some (zz_b (0 ≤ a ∧ a < S 4 1)), S)
  | 107, [.inr (3, none)] => some (True, some (S 3 9), S)
  | 177, [.inr (115, none)] => some (True, some (S 115 0), S)
  | 45, [.inr (48, none)] => some (True, some (S 48 0 * S 48 1), S)
  | 46, [.inr (48, none), .inl a] => some (0 ≤ a ∧ a < 10 ∧ qq_in (S 49 a.toNat), some (zz_b (¬ S 49 a.toNat = -1)), S)
  | 52, [.inr (48, none), .inl a, .inl b] => some (0 ≤ a ∧ a < 10 ∧ 0 ≤ b ∧ b < 10 ∧ (-8 ≤ S 49 a.toNat ∧ S 49 a.toNat ≤ 8 ∧ -8 ≤ S 49 b.toNat ∧ S 49 b.toNat ≤ 8 ∧ -8 ≤ S 50 a.toNat ∧ S 50 a.toNat ≤ 8 ∧ -8 ≤ S 50 b.toNat ∧ S 50 b.toNat ≤ 8), some (zz_dir (S 49 b.toNat - S 49 a.toNat) (S 50 b.toNat - S 50 a.toNat)), S)
  | 45, [.inr (56, none)] => some (True, some (S 56 0 * S 56 1), S)
  | 46, [.inr (56, none), .inl a] => some (0 ≤ a ∧ a < 10 ∧ qq_in (S 57 a.toNat), some (zz_b (¬ S 57 a.toNat = -1)), S)
  | 52, [.inr (56, none), .inl a, .inl b] => some (0 ≤ a ∧ a < 10 ∧ 0 ≤ b ∧ b < 10 ∧ (-8 ≤ S 57 a.toNat ∧ S 57 a.toNat ≤ 8 ∧ -8 ≤ S 57 b.toNat ∧ S 57 b.toNat ≤ 8 ∧ -8 ≤ S 58 a.toNat ∧ S 58 a.toNat ≤ 8 ∧ -8 ≤ S 58 b.toNat ∧ S 58 b.toNat ≤ 8), some (zz_dir (S 57 b.toNat - S 57 a.toNat) (S 58 b.toNat - S 58 a.toNat)), S)
  | 64, [.inl a, .inl b] => some (-100 ≤ a ∧ a ≤ 100 ∧ -100 ≤ b ∧ b ≤ 100, some (if 4 < qq_and (a - b) 7 then 8 - qq_and (a - b) 7 else qq_and (a - b) 7), S)
  | 111, [.inl a] => some (qq_in a, some (zz_b (0 ≤ a ∧ a ≤ 100)), S)
  | 116, [.inr (115, none), .inl a] => some (qq_in a ∧ 0 ≤ S 115 1 ∧ S 115 1 ≤ 10, some (zz_b (0 ≤ a ∧ a < S 115 1)), S)
  | 92, [.inr (3, none), .inl a] => some (qq_in a, some (if 1 ≤ a ∧ a ≤ 4 then S 52 3 else -1), if 1 ≤ a ∧ a ≤ 4 then qq_u (qq_u S 52 3 a) 3 9 0 else qq_u S 3 9 (-1))
  | 132, [.inr (115, none), .inl a] => some (qq_in a ∧ 0 ≤ S 115 14 ∧ S 115 14 ≤ 4, some (if 1 ≤ a ∧ a ≤ 4 then S 115 14 else -1), if 1 ≤ a ∧ a ≤ 4 then qq_u (qq_u S 115 14 a) 115 0 0 else qq_u S 115 0 (-1))
  | 93, [.inr (3, none), .inl a, .inl b, .inl c] => some (qq_in a ∧ qq_in b ∧ qq_in c, some (if 0 ≤ a ∧ a ≤ 100 ∧ 0 ≤ b ∧ b ≤ 100 ∧ 0 ≤ c ∧ c ≤ 100 then 0 else -1), if 0 ≤ a ∧ a ≤ 100 ∧ 0 ≤ b ∧ b ≤ 100 ∧ 0 ≤ c ∧ c ≤ 100 then qq_u (qq_u (qq_u (qq_u S 52 0 a) 52 1 b) 52 2 c) 3 9 0 else qq_u S 3 9 (-1))
  | 133, [.inr (115, none), .inl a, .inl b, .inl c] => some (qq_in a ∧ qq_in b ∧ qq_in c, some (if 0 ≤ a ∧ a ≤ 100 ∧ 0 ≤ b ∧ b ≤ 100 ∧ 0 ≤ c ∧ c ≤ 100 then 0 else -1), if 0 ≤ a ∧ a ≤ 100 ∧ 0 ≤ b ∧ b ≤ 100 ∧ 0 ≤ c ∧ c ≤ 100 then qq_u (qq_u (qq_u (qq_u S 115 15 a) 115 16 b) 115 17 c) 115 0 0 else qq_u S 115 0 (-1))
  | 47, [.inr (48, none), .inl a] => some (0 ≤ a ∧ a < 10 ∧ qq_in (S 49 a.toNat), some (if S 49 a.toNat = -1 then -1 else S 50 a.toNat * S 48 0 + S 49 a.toNat), S)
  | 48, [.inr (48, none), .inl a, .inl p] => some (0 ≤ a ∧ a < 10 ∧ qq_in p ∧ 0 ≤ S 48 0 ∧ S 48 0 ≤ 8, none, if p < 0 ∨ S 48 0 < 1 then qq_u (qq_u S 49 a.toNat (-1)) 50 a.toNat (-1) else qq_u (qq_u S 49 a.toNat (p % S 48 0)) 50 a.toNat (p / S 48 0))
  | 47, [.inr (56, none), .inl a] => some (0 ≤ a ∧ a < 10 ∧ qq_in (S 57 a.toNat), some (if S 57 a.toNat = -1 then -1 else S 58 a.toNat * S 56 0 + S 57 a.toNat), S)
  | 48, [.inr (56, none), .inl a, .inl p] => some (0 ≤ a ∧ a < 10 ∧ qq_in p ∧ 0 ≤ S 56 0 ∧ S 56 0 ≤ 8, none, if p < 0 ∨ S 56 0 < 1 then qq_u (qq_u S 57 a.toNat (-1)) 58 a.toNat (-1) else qq_u (qq_u S 57 a.toNat (p % S 56 0)) 58 a.toNat (p / S 56 0))
  | 35, [.inr (4, none)] => some (True, some (S 4 1), qq_u S 4 1 (S 4 1 + 1))
  | 50, [.inr (48, none)] => some (∀ i : Nat, i < 10 → qq_in (S 49 i), some (zz_cnt (S 49) (-1) 10), S)
  | 51, [.inr (48, none)] => some (∀ i : Nat, i < 10 → qq_in (S 51 i), some (zz_cnt (S 51) 0 10), S)
  | 44, [.inr (48, none), .inl w, .inl h] => some (True, none, zz_rs (qq_u (qq_u S 48 0 w) 48 1 h) 49 50 51 10)
  | 44, [.inr (56, none), .inl w, .inl h] => some (True, none, zz_rs (qq_u (qq_u S 56 0 w) 56 1 h) 57 58 59 10)
  | 33, [.inr (4, none), .inl a, .inl b] => some (qq_in a ∧ qq_in b ∧ (0 ≤ S 4 0 ∧ S 4 0 ≤ 10) ∧ (∀ i : Nat, (i : Int) < S 4 0 → qq_in (S 5 i) ∧ qq_in (S 6 i)), some (zz_b (zz_has (S 5) (S 6) a b (S 4 0).toNat = true)), S)
  | 34, [.inr (4, none), .inl a, .inl b] => some (0 ≤ S 4 0 ∧ S 4 0 < 10, some (S 4 0), qq_u (qq_u (qq_u S 5 (S 4 0).toNat a) 6 (S 4 0).toNat b) 4 0 (S 4 0 + 1))
  | 49, [.inr (48, none), .inr (102, none)] => some (∀ i : Nat, i < 10 → S 105 i = 0 ∨ S 105 i = 1, none, zz_cp (qq_u (qq_u S 48 0 (S 102 0)) 48 1 (S 102 1)) 49 50 51 103 104 105 10)
  | 49, [.inr (48, none), .inr (106, none)] => some (∀ i : Nat, i < 10 → S 109 i = 0 ∨ S 109 i = 1, none, zz_cp (qq_u (qq_u S 48 0 (S 106 0)) 48 1 (S 106 1)) 49 50 51 107 108 109 10)
  | 49, [.inr (48, none), .inr (110, none)] => some (∀ i : Nat, i < 10 → S 113 i = 0 ∨ S 113 i = 1, none, zz_cp (qq_u (qq_u S 48 0 (S 110 0)) 48 1 (S 110 1)) 49 50 51 111 112 113 10)
  | 49, [.inr (102, none), .inr (48, none)] => some (∀ i : Nat, i < 10 → S 51 i = 0 ∨ S 51 i = 1, none, zz_cp (qq_u (qq_u S 102 0 (S 48 0)) 102 1 (S 48 1)) 103 104 105 49 50 51 10)
  | 49, [.inr (106, none), .inr (48, none)] => some (∀ i : Nat, i < 10 → S 51 i = 0 ∨ S 51 i = 1, none, zz_cp (qq_u (qq_u S 106 0 (S 48 0)) 106 1 (S 48 1)) 107 108 109 49 50 51 10)
  | 49, [.inr (110, none), .inr (48, none)] => some (∀ i : Nat, i < 10 → S 51 i = 0 ∨ S 51 i = 1, none, zz_cp (qq_u (qq_u S 110 0 (S 48 0)) 110 1 (S 48 1)) 111 112 113 49 50 51 10)
  | 123, [.inl a] => some (-100000 ≤ a ∧ a ≤ 100000, some (zz_abs a), S)
  | 124, [.inl a, .inl b] => some (qq_in a ∧ qq_in b, some (if 0 < a then (if 0 < b then 1 else 7) else (if 0 < b then 3 else 5)), S)
  | _, _ => none
theorem sp_8_ok {xs : List Int32} (hxs : xs.length ≤ 2048) (d : Nat) : qq_ok xs (d + 3) sp_8 := by
  intro y as S pre r S2 h hp
  unfold sp_8 at h
  split at h
  · cases h; exact f110 hxs (d + 2) S _ _ _ hp
  · cases h; exact f114 hxs (d + 2) S _ _ _ hp
  · cases h; exact f108 hxs (d + 2) S _ hp
  · cases h; exact f109 hxs (d + 2) S _ hp
  · cases h; exact f115 hxs (d + 2) S _ hp
  · cases h; exact f31 hxs (d + 2) S _ hp
  · cases h; exact f32 hxs (d + 2) S _ hp
  · cases h; exact f107 hxs (d + 2) S hp
  · cases h; exact f177 hxs (d + 2) S hp
  · cases h; exact f45_48 hxs (d + 2) S hp
  · cases h; exact f46_48 hxs (d + 2) S _ hp
  · cases h; exact f52_48 hxs (d + 2) S _ _ hp
  · cases h; exact f45_56 hxs (d + 2) S hp
  · cases h; exact f46_56 hxs (d + 2) S _ hp
  · cases h; exact f52_56 hxs (d + 2) S _ _ hp
  · cases h; exact f64 hxs (d + 2) S _ _ hp
  · cases h; exact f111 hxs (d + 1) S _ hp
  · cases h; exact f116 hxs (d + 1) S _ hp
  · cases h; exact f92 hxs (d + 1) S _ hp
  · cases h; exact f132 hxs (d + 1) S _ hp
  · cases h; exact f93 hxs (d + 0) S _ _ _ hp
  · cases h; exact f133 hxs (d + 1) S _ _ _ hp
  · cases h; exact f47_48 hxs (d + 1) S _ hp
  · cases h; exact f48_48 hxs (d + 2) S _ _ hp
  · cases h; exact f47_56 hxs (d + 1) S _ hp
  · cases h; exact f48_56 hxs (d + 2) S _ _ hp
  · cases h; exact f35 hxs (d + 2) S hp
  · cases h; exact f50 hxs (d + 1) S hp
  · cases h; exact f51 hxs (d + 1) S hp
  · cases h; exact f44_48 hxs (d + 2) S _ _ hp
  · cases h; exact f44_56 hxs (d + 2) S _ _ hp
  · cases h; exact f33 hxs (d + 2) S _ _ hp
  · cases h; exact f34 hxs (d + 2) S _ _ hp
  · cases h; exact f49_48_102 hxs (d + 2) S hp
  · cases h; exact f49_48_106 hxs (d + 2) S hp
  · cases h; exact f49_48_110 hxs (d + 2) S hp
  · cases h; exact f49_102_48 hxs (d + 2) S hp
  · cases h; exact f49_106_48 hxs (d + 2) S hp
  · cases h; exact f49_110_48 hxs (d + 2) S hp
  · cases h; exact f123 hxs (d + 2) S _ hp
  · cases h; exact f124 hxs (d + 2) S _ _ hp
  · cases h
set_option maxRecDepth 20000 in
theorem f125 {xs : List Int32} (hxs : xs.length ≤ 2048) (d : Nat) (S : qq_S) (a : Int) (b : Int) (hp : (0 ≤ a ∧ a < 10 ∧ 0 ≤ b ∧ b < 10) ∧ (0 ≤ S 116 a.toNat ∧ S 116 a.toNat ≤ 1000) ∧ (0 ≤ S 116 b.toNat ∧ S 116 b.toNat ≤ 1000) ∧ (0 ≤ S 117 a.toNat ∧ S 117 a.toNat ≤ 1000) ∧ (0 ≤ S 117 b.toNat ∧ S 117 b.toNat ≤ 1000)) : qq_E xs (d + 4) 125 [.inr (115, none), .inl a, .inl b] S (some (zz_td (S 116 b.toNat - S 116 a.toNat) (S 117 b.toNat - S 117 a.toNat))) (S) := by
  have h : qq_p xs (d + 3) (mm_mr mm_m125) (mm_mk mm_m125) (fun r S' => r = some (zz_td (S 116 b.toNat - S 116 a.toNat) (S 117 b.toNat - S 117 a.toNat)) ∧ S' = S) 0 (qq_ent mm_m125 [.inr (115, none), .inl a, .inl b]) [] S := by
    refine qq_fsound hxs (sp_8_ok hxs (d + 0)) [] 200 ?_
    repeat' first | apply And.intro | intro _ | (simp only [qq_tab]) | (simp only [qq_pl])
    all_goals (first | rfl | omega | (unfold zz_abs; repeat' split <;> omega) | (unfold zz_td; grind) | grind [qq_in, zz_abs, zz_td])
  obtain ⟨r, S', hE, e1, e2⟩ := qq_call_of (y := 125) rfl (Nat.le_of_ble_eq_true rfl) h
  rw [e1, e2] at hE
  exact hE
def sp_9 : qq_P := fun y as S => match y, as with
  | 110, [.inl a, .inl lo, .inl hi] => some (qq_in a ∧ qq_in lo ∧ qq_in hi, some (zz_b (lo ≤ a ∧ a ≤ hi)), S)
  | 114, [.inl a, .inl lo, .inl hi] => some (qq_in a ∧ qq_in lo ∧ qq_in hi, some (zz_b (lo ≤ a ∧ a ≤ hi)), S)
  | 108, [.inr (3, none), .inl a] => some (True, some (a), qq_u S 3 9 a)
  | 109, [.inr (3, none), .inl a] => some (True, some (a), qq_u S 3 9 0)
  | 115, [.inr (115, none), .inl a] => some (qq_in a, some (a), qq_u S 115 0 (if a < 0 then a else 0))
  | 31, [.inr (4, none), .inl a] => some (qq_in a ∧ qq_in (S 4 0), some (zz_b (0 ≤ a ∧ a < S 4 0)), S)
  | 32, [.inr (4, none), .inl a] => some (qq_in a ∧ qq_in (S 4 1), some (zz_b (0 ≤ a ∧ a < S 4 1)), S)
  | 107, [.inr (3, none)] => some (True, some (S 3 9), S)
  | 177, [.inr (115, none)] => some (True, some (S 115 0), S)
  | 45, [.inr (48, none)] => some (True, some (S 48 0 * S 48 1), S)
  | 46, [.inr (48, none), .inl a] => some (0 ≤ a ∧ a < 10 ∧ qq_in (S 49 a.toNat), some (zz_b (¬ S 49 a.toNat = -1)), S)
  | 52, [.inr (48, none), .inl a, .inl b] => some (0 ≤ a ∧ a < 10 ∧ 0 ≤ b ∧ b < 10 ∧ (-8 ≤ S 49 a.toNat ∧ S 49 a.toNat ≤ 8 ∧ -8 ≤ S 49 b.toNat ∧ S 49 b.toNat ≤ 8 ∧ -8 ≤ S 50 a.toNat ∧ S 50 a.toNat ≤ 8 ∧ -8 ≤ S 50 b.toNat ∧ S 50 b.toNat ≤ 8), some (zz_dir (S 49 b.toNat - S 49 a.toNat) (S 50 b.toNat - S 50 a.toNat)), S)
  | 45, [.inr (56, none)] => some (True, some (S 56 0 * S 56 1), S)
  | 46, [.inr (56, none), .inl a] => some (0 ≤ a ∧ a < 10 ∧ qq_in (S 57 a.toNat), some (zz_b (¬ S 57 a.toNat = -1)), S)
  | 52, [.inr (56, none), .inl a, .inl b] => some (0 ≤ a ∧ a < 10 ∧ 0 ≤ b ∧ b < 10 ∧ (-8 ≤ S 57 a.toNat ∧ S 57 a.toNat ≤ 8 ∧ -8 ≤ S 57 b.toNat ∧ S 57 b.toNat ≤ 8 ∧ -8 ≤ S 58 a.toNat ∧ S 58 a.toNat ≤ 8 ∧ -8 ≤ S 58 b.toNat ∧ S 58 b.toNat ≤ 8), some (zz_dir (S 57 b.toNat - S 57 a.toNat) (S 58 b.toNat - S 58 a.toNat)), S)
  | 64, [.inl a, .inl b] => some (-100 ≤ a ∧ a ≤ 100 ∧ -100 ≤ b ∧ b ≤ 100, some (if 4 < qq_and (a - b) 7 then 8 - qq_and (a - b) 7 else qq_and (a - b) 7), S)
  | 111, [.inl a] => some (qq_in a, some (zz_b (0 ≤ a ∧ a ≤ 100)), S)
  | 116, [.inr (115, none), .inl a] => some (qq_in a ∧ 0 ≤ S 115 1 ∧ S 115 1 ≤ 10, some (zz_b (0 ≤ a ∧ a < S 115 1)), S)
  | 92, [.inr (3, none), .inl a] => some (qq_in a, some (if 1 ≤ a ∧ a ≤ 4 then S 52 3 else -1), if 1 ≤ a ∧ a ≤ 4 then qq_u (qq_u S 52 3 a) 3 9 0 else qq_u S 3 9 (-1))
  | 132, [.inr (115, none), .inl a] => some (qq_in a ∧ 0 ≤ S 115 14 ∧ S 115 14 ≤ 4, some (if 1 ≤ a ∧ a ≤ 4 then S 115 14 else -1), if 1 ≤ a ∧ a ≤ 4 then qq_u (qq_u S 115 14 a) 115 0 0 else qq_u S 115 0 (-1))
  | 93, [.inr (3, none), .inl a, .inl b, .inl c] => some (qq_in a ∧ qq_in b ∧ qq_in c, some (if 0 ≤ a ∧ a ≤ 100 ∧ 0 ≤ b ∧ b ≤ 100 ∧ 0 ≤ c ∧ c ≤ 100 then 0 else -1), if 0 ≤ a ∧ a ≤ 100 ∧ 0 ≤ b ∧ b ≤ 100 ∧ 0 ≤ c ∧ c ≤ 100 then qq_u (qq_u (qq_u (qq_u S 52 0 a) 52 1 b) 52 2 c) 3 9 0 else qq_u S 3 9 (-1))
  | 133, [.inr (115, none), .inl a, .inl b, .inl c] => some (qq_in a ∧ qq_in b ∧ qq_in c, some (if 0 ≤ a ∧ a ≤ 100 ∧ 0 ≤ b ∧ b ≤ 100 ∧ 0 ≤ c ∧ c ≤ 100 then 0 else -1), if 0 ≤ a ∧ a ≤ 100 ∧ 0 ≤ b ∧ b ≤ 100 ∧ 0 ≤ c ∧ c ≤ 100 then qq_u (qq_u (qq_u (qq_u S 115 15 a) 115 16 b) 115 17 c) 115 0 0 else qq_u S 115 0 (-1))
  | 47, [.inr (48, none), .inl a] => some (0 ≤ a ∧ a < 10 ∧ qq_in (S 49 a.toNat), some (if S 49 a.toNat = -1 then -1 else S 50 a.toNat * S 48 0 + S 49 a.toNat), S)
  | 48, [.inr (48, none), .inl a, .inl p] => some (0 ≤ a ∧ a < 10 ∧ qq_in p ∧ 0 ≤ S 48 0 ∧ S 48 0 ≤ 8, none, if p < 0 ∨ S 48 0 < 1 then qq_u (qq_u S 49 a.toNat (-1)) 50 a.toNat (-1) else qq_u (qq_u S 49 a.toNat (p % S 48 0)) 50 a.toNat (p / S 48 0))
  | 47, [.inr (56, none), .inl a] => some (0 ≤ a ∧ a < 10 ∧ qq_in (S 57 a.toNat), some (if S 57 a.toNat = -1 then -1 else S 58 a.toNat * S 56 0 + S 57 a.toNat), S)
  | 48, [.inr (56, none), .inl a, .inl p] => some (0 ≤ a ∧ a < 10 ∧ qq_in p ∧ 0 ≤ S 56 0 ∧ S 56 0 ≤ 8, none, if p < 0 ∨ S 56 0 < 1 then qq_u (qq_u S 57 a.toNat (-1)) 58 a.toNat (-1) else qq_u (qq_u S 57 a.toNat (p % S 56 0)) 58 a.toNat (p / S 56 0))
  | 35, [.inr (4, none)] => some (True, some (S 4 1), qq_u S 4 1 (S 4 1 + 1))
  | 50, [.inr (48, none)] => some (∀ i : Nat, i < 10 → qq_in (S 49 i), some (zz_cnt (S 49) (-1) 10), S)
  | 51, [.inr (48, none)] => some (∀ i : Nat, i < 10 → qq_in (S 51 i), some (zz_cnt (S 51) 0 10), S)
  | 44, [.inr (48, none), .inl w, .inl h] => some (True, none, zz_rs (qq_u (qq_u S 48 0 w) 48 1 h) 49 50 51 10)
  | 44, [.inr (56, none), .inl w, .inl h] => some (True, none, zz_rs (qq_u (qq_u S 56 0 w) 56 1 h) 57 58 59 10)
  | 33, [.inr (4, none), .inl a, .inl b] => some (qq_in a ∧ qq_in b ∧ (0 ≤ S 4 0 ∧ S 4 0 ≤ 10) ∧ (∀ i : Nat, (i : Int) < S 4 0 → qq_in (S 5 i) ∧ qq_in (S 6 i)), some (zz_b (zz_has (S 5) (S 6) a b (S 4 0).toNat = true)), S)
  | 34, [.inr (4, none), .inl a, .inl b] => some (0 ≤ S 4 0 ∧ S 4 0 < 10, some (S 4 0), qq_u (qq_u (qq_u S 5 (S 4 0).toNat a) 6 (S 4 0).toNat b) 4 0 (S 4 0 + 1))
  | 49, [.inr (48, none), .inr (102, none)] => some (∀ i : Nat, i < 10 → S 105 i = 0 ∨ S 105 i = 1, none, zz_cp (qq_u (qq_u S 48 0 (S 102 0)) 48 1 (S 102 1)) 49 50 51 103 104 105 10)
  | 49, [.inr (48, none), .inr (106, none)] => some (∀ i : Nat, i < 10 → S 109 i = 0 ∨ S 109 i = 1, none, zz_cp (qq_u (qq_u S 48 0 (S 106 0)) 48 1 (S 106 1)) 49 50 51 107 108 109 10)
  | 49, [.inr (48, none), .inr (110, none)] => some (∀ i : Nat, i < 10 → S 113 i = 0 ∨ S 113 i = 1, none, zz_cp (qq_u (qq_u S 48 0 (S 110 0)) 48 1 (S 110 1)) 49 50 51 111 112 113 10)
  | 49, [.inr (102, none), .inr (48, none)] => some (∀ i : Nat, i < 10 → S 51 i = 0 ∨ S 51 i = 1, none, zz_cp (qq_u (qq_u S 102 0 (S 48 0)) 102 1 (S 48 1)) 103 104 105 49 50 51 10)
  | 49, [.inr (106, none), .inr (48, none)] => some (∀ i : Nat, i < 10 → S 51 i = 0 ∨ S 51 i = 1, none, zz_cp (qq_u (qq_u S 106 0 (S 48 0)) 106 1 (S 48 1)) 107 108 109 49 50 51 10)
  | 49, [.inr (110, none), .inr (48, none)] => some (∀ i : Nat, i < 10 → S 51 i = 0 ∨ S 51 i = 1, none, zz_cp (qq_u (qq_u S 110 0 (S 48 0)) 110 1 (S 48 1)) 111 112 113 49 50 51 10)
  | 123, [.inl a] => some (-100000 ≤ a ∧ a ≤ 100000, some (zz_abs a), S)
  | 124, [.inl a, .inl b] => some (qq_in a ∧ qq_in b, some (if 0 < a then (if 0 < b then 1 else 7) else (if 0 < b then 3 else 5)), S)
  | 125, [.inr (115, none), .inl a, .inl b] => some ((0 ≤ a ∧ a < 10 ∧ 0 ≤ b ∧ b < 10) ∧ (0 ≤ S 116 a.toNat ∧ S 116 a.toNat ≤ 1000) ∧ (0 ≤ S 116 b.toNat ∧ S 116 b.toNat ≤ 1000) ∧ (0 ≤ S 117 a.toNat ∧ S 117 a.toNat ≤ 1000) ∧ (0 ≤ S 117 b.toNat ∧ S 117 b.toNat ≤ 1000), some (zz_td (S 116 b.toNat - S 116 a.toNat) (S 117 b.toNat - S 117 a.toNat)), S)
  | _, _ => none
theorem sp_9_ok {xs : List Int32} (hxs : xs.length ≤ 2048) (d : Nat) : qq_ok xs (d + 4) sp_9 := by
  intro y as S pre r S2 h hp
  unfold sp_9 at h
  split at h
  · cases h; exact f110 hxs (d + 3) S _ _ _ hp
  · cases h; exact f114 hxs (d + 3) S _ _ _ hp
  · cases h; exact f108 hxs (d + 3) S _ hp
  · cases h; exact f109 hxs (d + 3) S _ hp
  · cases h; exact f115 hxs (d + 3) S _ hp
  · cases h; exact f31 hxs (d + 3) S _ hp
  · cases h; exact f32 hxs (d + 3) S _ hp
  · cases h; exact f107 hxs (d + 3) S hp
  · cases h; exact f177 hxs (d + 3) S hp
  · cases h; exact f45_48 hxs (d + 3) S hp
  · cases h; exact f46_48 hxs (d + 3) S _ hp
  · cases h; exact f52_48 hxs (d + 3) S _ _ hp
  · cases h; exact f45_56 hxs (d + 3) S hp
  · cases h; exact f46_56 hxs (d + 3) S _ hp
  · cases h; exact f52_56 hxs (d + 3) S _ _ hp
  · cases h; exact f64 hxs (d + 3) S _ _ hp
  · cases h; exact f111 hxs (d + 2) S _ hp
  · cases h; exact f116 hxs (d + 2) S _ hp
  · cases h; exact f92 hxs (d + 2) S _ hp
  · cases h; exact f132 hxs (d + 2) S _ hp
  · cases h; exact f93 hxs (d + 1) S _ _ _ hp
  · cases h; exact f133 hxs (d + 2) S _ _ _ hp
  · cases h; exact f47_48 hxs (d + 2) S _ hp
  · cases h; exact f48_48 hxs (d + 3) S _ _ hp
  · cases h; exact f47_56 hxs (d + 2) S _ hp
  · cases h; exact f48_56 hxs (d + 3) S _ _ hp
  · cases h; exact f35 hxs (d + 3) S hp
  · cases h; exact f50 hxs (d + 2) S hp
  · cases h; exact f51 hxs (d + 2) S hp
  · cases h; exact f44_48 hxs (d + 3) S _ _ hp
  · cases h; exact f44_56 hxs (d + 3) S _ _ hp
  · cases h; exact f33 hxs (d + 3) S _ _ hp
  · cases h; exact f34 hxs (d + 3) S _ _ hp
  · cases h; exact f49_48_102 hxs (d + 3) S hp
  · cases h; exact f49_48_106 hxs (d + 3) S hp
  · cases h; exact f49_48_110 hxs (d + 3) S hp
  · cases h; exact f49_102_48 hxs (d + 3) S hp
  · cases h; exact f49_106_48 hxs (d + 3) S hp
  · cases h; exact f49_110_48 hxs (d + 3) S hp
  · cases h; exact f123 hxs (d + 3) S _ hp
  · cases h; exact f124 hxs (d + 3) S _ _ hp
  · cases h; exact f125 hxs (d + 0) S _ _ hp
  · cases h
set_option maxRecDepth 20000 in
theorem f89 {xs : List Int32} (hxs : xs.length ≤ 2048) (d : Nat) (S : qq_S) (a : Int) (b : Int) (hp : qq_in a ∧ qq_in b ∧ (0 ≤ S 4 2 ∧ S 4 2 ≤ 45)) : qq_E xs (d + 4) 89 [.inr (3, none), .inl a, .inl b] S (some (if a = -1 ∧ b = 0 then S 4 2 else if ¬ (0 ≤ a ∧ a < S 4 2) then -1 else if b = 0 then S 22 a.toNat else if b = 1 then S 23 a.toNat else if b = 2 then S 24 a.toNat else -1)) (S) := by
  have h : qq_p xs (d + 3) (mm_mr mm_m89) (mm_mk mm_m89) (fun r S' => r = some (if a = -1 ∧ b = 0 then S 4 2 else if ¬ (0 ≤ a ∧ a < S 4 2) then -1 else if b = 0 then S 22 a.toNat else if b = 1 then S 23 a.toNat else if b = 2 then S 24 a.toNat else -1) ∧ S' = S) 0 (qq_ent mm_m89 [.inr (3, none), .inl a, .inl b]) [] S := by
    refine qq_fsound hxs (sp_7_ok hxs (d + 0)) [] 200 ?_
    repeat' first | apply And.intro | intro _ | (simp only [qq_tab]) | (simp only [qq_pl])
    all_goals (first | rfl | omega | grind [qq_in, zz_b])
  obtain ⟨r, S', hE, e1, e2⟩ := qq_call_of (y := 89) rfl (Nat.le_of_ble_eq_true rfl) h
  rw [e1, e2] at hE
  exact hE
set_option maxRecDepth 20000 in
theorem f126 {xs : List Int32} (hxs : xs.length ≤ 2048) (d : Nat) (S : qq_S) (a : Int) (b : Int) (hp : qq_in a ∧ qq_in b ∧ (0 ≤ S 115 3 ∧ S 115 3 ≤ 45) ∧ (0 ≤ a ∧ a < S 115 3 → (0 ≤ S 120 a.toNat ∧ S 120 a.toNat < 10 ∧ 0 ≤ S 121 a.toNat ∧ S 121 a.toNat < 10) ∧ (0 ≤ S 116 (S 120 a.toNat).toNat ∧ S 116 (S 120 a.toNat).toNat ≤ 1000) ∧ (0 ≤ S 116 (S 121 a.toNat).toNat ∧ S 116 (S 121 a.toNat).toNat ≤ 1000) ∧ (0 ≤ S 117 (S 120 a.toNat).toNat ∧ S 117 (S 120 a.toNat).toNat ≤ 1000) ∧ (0 ≤ S 117 (S 121 a.toNat).toNat ∧ S 117 (S 121 a.toNat).toNat ≤ 1000))) : qq_E xs (d + 5) 126 [.inr (115, none), .inl a, .inl b] S (some (if a = -1 ∧ b = 0 then S 115 3 else if ¬ (0 ≤ a ∧ a < S 115 3) then -1 else if b = 0 then S 120 a.toNat else if b = 1 then S 121 a.toNat else if b = 2 then zz_td (S 116 (S 121 a.toNat).toNat - S 116 (S 120 a.toNat).toNat) (S 117 (S 121 a.toNat).toNat - S 117 (S 120 a.toNat).toNat) else -1)) (S) := by
  have h : qq_p xs (d + 4) (mm_mr mm_m126) (mm_mk mm_m126) (fun r S' => r = some (if a = -1 ∧ b = 0 then S 115 3 else if ¬ (0 ≤ a ∧ a < S 115 3) then -1 else if b = 0 then S 120 a.toNat else if b = 1 then S 121 a.toNat else if b = 2 then zz_td (S 116 (S 121 a.toNat).toNat - S 116 (S 120 a.toNat).toNat) (S 117 (S 121 a.toNat).toNat - S 117 (S 120 a.toNat).toNat) else -1) ∧ S' = S) 0 (qq_ent mm_m126 [.inr (115, none), .inl a, .inl b]) [] S := by
    refine qq_fsound hxs (sp_9_ok hxs (d + 0)) [] 200 ?_
    repeat' first | apply And.intro | intro _ | (simp only [qq_tab]) | (simp only [qq_pl])
    all_goals (first | rfl | omega | grind [qq_in, zz_b])
  obtain ⟨r, S', hE, e1, e2⟩ := qq_call_of (y := 126) rfl (Nat.le_of_ble_eq_true rfl) h
  rw [e1, e2] at hE
  exact hE
theorem zz_td_bd (x y : Int) : 0 ≤ zz_td x y ∧ zz_td x y ≤ 7 := by
  unfold zz_td
  repeat' split
  all_goals omega
theorem o_edge {xs : List Int32} (hxs : xs.length ≤ 2048) (S : qq_S) (a b : Int) (ha : qq_in a) (hb : qq_in b) (hI : inv S) : qq_op xs 29 89 126 [.inl a, .inl b] S := by
  have hI0 := hI
  obtain ⟨h1, h2, h3, h4, h5, h6, h7, h8, h9, h10, h11⟩ := hI
  have g1 := h1
  unfold i_net at g1
  have g3 := h3.1
  have q : 0 ≤ a ∧ a < S 4 2 → _ := fun z => h3.2.1 a.toNat (by omega)
  have e1 := f89 hxs 0 S a b ⟨ha, hb, by omega⟩
  have e2 := f126 hxs 0 S a b ⟨ha, hb, by omega, fun z => by
    have q1 := q (by omega)
    have x1 := g1.2.1 (S 22 a.toNat).toNat (by omega)
    have x2 := g1.2.1 (S 23 a.toNat).toNat (by omega)
    rw [q1.2.2.2.1, q1.2.2.2.2.1]
    omega⟩
  rw [show S 115 3 = S 4 2 by omega] at e2
  by_cases c0 : a = -1 ∧ b = 0
  · rw [if_pos c0] at e1 e2
    exact qq_op_of e1 e2 (by decide) (by decide) rfl (by unfold qq_in; omega) hI0
  · rw [if_neg c0] at e1 e2
    by_cases c1 : 0 ≤ a ∧ a < S 4 2
    · have q1 := q c1
      have x1 := g1.2.1 (S 22 a.toNat).toNat (by omega)
      have x2 := g1.2.1 (S 23 a.toNat).toNat (by omega)
      have t1 := zz_td_bd (S 5 (S 23 a.toNat).toNat - S 5 (S 22 a.toNat).toNat) (S 6 (S 23 a.toNat).toNat - S 6 (S 22 a.toNat).toNat)
      rw [if_neg (show ¬ ¬ (0 ≤ a ∧ a < S 4 2) by omega)] at e1 e2
      rw [q1.2.2.2.1, q1.2.2.2.2.1, x1.2.2.2.2.1, x1.2.2.2.2.2, x2.2.2.2.2.1, x2.2.2.2.2.2, ← q1.2.2.2.2.2.1] at e2
      refine qq_op_of e1 e2 (by decide) (by decide) rfl ?_ hI0
      unfold qq_in
      rw [← q1.2.2.2.2.2.1] at t1
      repeat' split
      all_goals omega
    · rw [if_pos c1] at e1 e2
      exact qq_op_of e1 e2 (by decide) (by decide) rfl (by unfold qq_in; omega) hI0
