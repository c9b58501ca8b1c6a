/-- one of the first k is at a, b -/
def zz_has (X Y : Nat → Int) (a b : Int) : Nat → Bool
  | 0 => false
  | k + 1 => zz_has X Y a b k || (decide (X k = a) && decide (Y k = b))
theorem zz_has_s (X Y : Nat → Int) (a b i : Int) (h : 0 ≤ i) : zz_has X Y a b (i + 1).toNat = (zz_has X Y a b i.toNat || (decide (X i.toNat = a) && decide (Y i.toNat = b))) := by
  rw [show (i + 1).toNat = i.toNat + 1 by omega]
  rfl
theorem zz_has_iff (X Y : Nat → Int) (a b : Int) : ∀ k : Nat, zz_has X Y a b k = true ↔ ∃ i, i < k ∧ X i = a ∧ Y i = b
  | 0 => by simp [zz_has]
  | k + 1 => by
    rw [zz_has, Bool.or_eq_true, zz_has_iff X Y a b k]
    constructor
    · rintro (⟨i, h1, h2⟩ | h)
      · exact ⟨i, by omega, h2⟩
      · simp at h
        exact ⟨k, by omega, h⟩
    · rintro ⟨i, h1, h2⟩
      by_cases e : i = k
      · subst e
        exact Or.inr (by simp [h2.1, h2.2])
      · exact Or.inl ⟨i, by omega, h2⟩
theorem zz_has_at (X Y : Nat → Int) (a b i n : Int) (h : 0 ≤ i ∧ i < n) (hx : X i.toNat = a) (hy : Y i.toNat = b) : zz_has X Y a b n.toNat = true := (zz_has_iff X Y a b n.toNat).mpr ⟨i.toNat, by omega, hx, hy⟩
theorem zz_has_eq (X Y X' Y' : Nat → Int) (a b : Int) (k : Nat) (h : ∀ i, i < k → X' i = X i ∧ Y' i = Y i) : zz_has X' Y' a b k = zz_has X Y a b k := by
  have : zz_has X' Y' a b k = true ↔ zz_has X Y a b k = true := by
    rw [zz_has_iff, zz_has_iff]
    constructor
    · rintro ⟨i, h1, h2, h3⟩
      exact ⟨i, h1, by rw [← (h i h1).1]; exact h2, by rw [← (h i h1).2]; exact h3⟩
    · rintro ⟨i, h1, h2, h3⟩
      exact ⟨i, h1, by rw [(h i h1).1]; exact h2, by rw [(h i h1).2]; exact h3⟩
  cases h1 : zz_has X' Y' a b k <;> cases h2 : zz_has X Y a b k <;> simp_all
set_option maxRecDepth 20000 in
theorem f33 {xs : List Int32} (hxs : xs.length ≤ 2048) (d : Nat) (S : qq_S) (a : Int) (b : Int) (hp : qq_in a ∧ qq_in b ∧ (0 ≤ S 4 0 ∧ S 4 0 ≤ 10) ∧ (∀ i : Nat, (i : Int) < S 4 0 → qq_in (S 5 i) ∧ qq_in (S 6 i))) : qq_E xs (d + 1) 33 [.inr (4, none), .inl a, .inl b] S (some (zz_b (zz_has (S 5) (S 6) a b (S 4 0).toNat = true))) (S) := by
  have L : ∀ (k9 : Nat) (i : Int), 0 ≤ i ∧ i + k9 = S 4 0 → zz_has (S 5) (S 6) a b i.toNat = false → qq_p xs (d + 0) (mm_mr mm_m33) (mm_mk mm_m33) (fun r S' => r = some (zz_b (zz_has (S 5) (S 6) a b (S 4 0).toNat = true)) ∧ S' = S) 2 [some (.inr (4, none)), some (.inl a), some (.inl b), some (.inl i)] [] (S) := by
    intro k9
    induction k9 with
    | zero =>
      intro i hm hv
      refine qq_fsound hxs (sp_0_ok hxs (d + 0)) [2] 200 ?_
      repeat' first | apply And.intro | intro _
      all_goals (first | omega | (have q9 := hp.2.2.2 i.toNat (by omega); grind [qq_in]) | (refine ih _ ?_ ?_ <;> first | omega | grind [zz_has_s]) | (have hi9 : i = S 4 0 := (by omega); grind [zz_b]) | (have q9 := zz_has_at (S 5) (S 6) a b i (S 4 0) (by omega); grind [zz_b]))
    | succ k9 ih =>
      intro i hm hv
      refine qq_fsound hxs (sp_0_ok hxs (d + 0)) [2] 200 ?_
      repeat' first | apply And.intro | intro _
      all_goals (first | omega | (have q9 := hp.2.2.2 i.toNat (by omega); grind [qq_in]) | (refine ih _ ?_ ?_ <;> first | omega | grind [zz_has_s]) | (have hi9 : i = S 4 0 := (by omega); grind [zz_b]) | (have q9 := zz_has_at (S 5) (S 6) a b i (S 4 0) (by omega); grind [zz_b]))
  have h : qq_p xs (d + 0) (mm_mr mm_m33) (mm_mk mm_m33) (fun r S' => r = some (zz_b (zz_has (S 5) (S 6) a b (S 4 0).toNat = true)) ∧ S' = S) 0 (qq_ent mm_m33 [.inr (4, none), .inl a, .inl b]) [] S := by
    refine qq_fsound hxs (sp_0_ok hxs (d + 0)) [2] 200 ?_
    repeat' first | apply And.intro | intro _
    all_goals (first | omega | (refine L (S 4 0).toNat _ ?_ ?_ <;> first | omega | rfl) | grind [qq_in])
  obtain ⟨r, S', hE, e1, e2⟩ := qq_call_of (y := 33) rfl (Nat.le_of_ble_eq_true rfl) h
  rw [e1, e2] at hE
  exact hE
set_option maxRecDepth 20000 in
theorem f34 {xs : List Int32} (hxs : xs.length ≤ 2048) (d : Nat) (S : qq_S) (a : Int) (b : Int) (hp : 0 ≤ S 4 0 ∧ S 4 0 < 10) : qq_E xs (d + 1) 34 [.inr (4, none), .inl a, .inl b] S (some (S 4 0)) (qq_u (qq_u (qq_u S 5 (S 4 0).toNat a) 6 (S 4 0).toNat b) 4 0 (S 4 0 + 1)) := by
  have h : qq_p xs (d + 0) (mm_mr mm_m34) (mm_mk mm_m34) (fun r S' => r = some (S 4 0) ∧ S' = qq_u (qq_u (qq_u S 5 (S 4 0).toNat a) 6 (S 4 0).toNat b) 4 0 (S 4 0 + 1)) 0 (qq_ent mm_m34 [.inr (4, none), .inl a, .inl b]) [] S := by
    refine qq_fsound hxs (sp_0_ok hxs (d + 0)) [] 200 ?_
    repeat' first | apply And.intro | intro _
    all_goals (first | rfl | omega | grind [qq_in, qq_u])
  obtain ⟨r, S', hE, e1, e2⟩ := qq_call_of (y := 34) rfl (Nat.le_of_ble_eq_true rfl) h
  rw [e1, e2] at hE
  exact hE
def sp_6 : qq_P := fun y as S => match y, as with
  | 110, [.inl a, .inl lo, .inl hi] => some (qq_in a ∧ qq_in lo ∧ qq_in hi, some (zz_b (lo ≤ a ∧ a ≤ hi)), S)
  | 114, [.inl a, .inl lo, .inl hi] => some (qq_in a ∧ qq_in lo ∧ qq_in hi, some (zz_b (lo ≤ a ∧ a ≤ hi)), S)
  | 108, [.inr (3, none), .inl a] => some (True, some (a), qq_u S 3 9 a)
  | 109, [.inr (3, none), .inl a] => some (True, some (a), qq_u S 3 9 0)
  | 115, [.inr (115, none), .inl a] => some (qq_in a, some (a), qq_u S 115 0 (if a < 0 then a else 0))
  | 31, [.inr (4, none), .inl a] => some (qq_in a ∧ qq_in (S 4 0), some (zz_b (0 ≤ a ∧ a < S 4 0)), S)
  | 32, [.inr (4, none), .inl a] => some (qq_in a ∧ qq_in (S 4 1), some (zz_b (0 ≤ a ∧ a < S 4 1)), S)
  | 107, [.inr (3, none)] => some (True, some (S 3 9), S)
  | 177, [.inr (115, none)] => some (True, some (S 115 0), S)
  | 45, [.inr (48, none)] => some (True, some (S 48 0 * S 48 1), S)
  | 46, [.inr (48, none), .inl a] => some (0 ≤ a ∧ a < 10 ∧ qq_in (S 49 a.toNat), some (zz_b (¬ S 49 a.toNat = -1)), S)
  | 52, [.inr (48, none), .inl a, .inl b] => some (0 ≤ a ∧ a < 10 ∧ 0 ≤ b ∧ b < 10 ∧ (-8 ≤ S 49 a.toNat ∧ S 49 a.toNat ≤ 8 ∧ -8 ≤ S 49 b.toNat ∧ S 49 b.toNat ≤ 8 ∧ -8 ≤ S 50 a.toNat ∧ S 50 a.toNat ≤ 8 ∧ -8 ≤ S 50 b.toNat ∧ S 50 b.toNat ≤ 8), some (zz_dir (S 49 b.toNat - S 49 a.toNat) (S 50 b.toNat - S 50 a.toNat)), S)
  | 45, [.inr (56, none)] => some (True, some (S 56 0 * S 56 1), S)
  | 46, [.inr (56, none), .inl a] => some (0 ≤ a ∧ a < 10 ∧ qq_in (S 57 a.toNat), some (zz_b (¬ S 57 a.toNat = -1)), S)
  | 52, [.inr (56, none), .inl a, .inl b] => some (0 ≤ a ∧ a < 10 ∧ 0 ≤ b ∧ b < 10 ∧ (-8 ≤ S 57 a.toNat ∧ S 57 a.toNat ≤ 8 ∧ -8 ≤ S 57 b.toNat ∧ S 57 b.toNat ≤ 8 ∧ -8 ≤ S 58 a.toNat ∧ S 58 a.toNat ≤ 8 ∧ -8 ≤ S 58 b.toNat ∧ S 58 b.toNat ≤ 8), some (zz_dir (S 57 b.toNat - S 57 a.toNat) (S 58 b.toNat - S 58 a.toNat)), S)
  | 64, [.inl a, .inl b] => some (-100 ≤ a ∧ a ≤ 100 ∧ -100 ≤ b ∧ b ≤ 100, some (if 4 < qq_and (a - b) 7 then 8 - qq_and (a - b) 7 else qq_and (a - b) 7), S)
  | 111, [.inl a] => some (qq_in a, some (zz_b (0 ≤ a ∧ a ≤ 100)), S)
  | 116, [.inr (115, none), .inl a] => some (qq_in a ∧ 0 ≤ S 115 1 ∧ S 115 1 ≤ 10, some (zz_b (0 ≤ a ∧ a < S 115 1)), S)
  | 92, [.inr (3, none), .inl a] => some (qq_in a, some (if 1 ≤ a ∧ a ≤ 4 then S 52 3 else -1), if 1 ≤ a ∧ a ≤ 4 then qq_u (qq_u S 52 3 a) 3 9 0 else qq_u S 3 9 (-1))
  | 132, [.inr (115, none), .inl a] => some (qq_in a ∧ 0 ≤ S 115 14 ∧ S 115 14 ≤ 4, some (if 1 ≤ a ∧ a ≤ 4 then S 115 14 else -1), if 1 ≤ a ∧ a ≤ 4 then qq_u (qq_u S 115 14 a) 115 0 0 else qq_u S 115 0 (-1))
  | 93, [.inr (3, none), .inl a, .inl b, .inl c] => some (qq_in a ∧ qq_in b ∧ qq_in c, some (if 0 ≤ a ∧ a ≤ 100 ∧ 0 ≤ b ∧ b ≤ 100 ∧ 0 ≤ c ∧ c ≤ 100 then 0 else -1), if 0 ≤ a ∧ a ≤ 100 ∧ 0 ≤ b ∧ b ≤ 100 ∧ 0 ≤ c ∧ c ≤ 100 then qq_u (qq_u (qq_u (qq_u S 52 0 a) 52 1 b) 52 2 c) 3 9 0 else qq_u S 3 9 (-1))
  | 133, [.inr (115, none), .inl a, .inl b, .inl c] => some (qq_in a ∧ qq_in b ∧ qq_in c, some (if 0 ≤ a ∧ a ≤ 100 ∧ 0 ≤ b ∧ b ≤ 100 ∧ 0 ≤ c ∧ c ≤ 100 then 0 else -1), if 0 ≤ a ∧ a ≤ 100 ∧ 0 ≤ b ∧ b ≤ 100 ∧ 0 ≤ c ∧ c ≤ 100 then qq_u (qq_u (qq_u (qq_u S 115 15 a) 115 16 b) 115 17 c) 115 0 0 else qq_u S 115 0 (-1))
  | 47, [.inr (48, none), .inl a] => some (0 ≤ a ∧ a < 10 ∧ qq_in (S 49 a.toNat), some (if S 49 a.toNat = -1 then -1 else S 50 a.toNat * S 48 0 + S 49 a.toNat), S)
  | 48, [.inr (48, none), .inl a, .inl p] => some (0 ≤ a ∧ a < 10 ∧ qq_in p ∧ 0 ≤ S 48 0 ∧ S 48 0 ≤ 8, none, if p < 0 ∨ S 48 0 < 1 then qq_u (qq_u S 49 a.toNat (-1)) 50 a.toNat (-1) else qq_u (qq_u S 49 a.toNat (p % S 48 0)) 50 a.toNat (p / S 48 0))
  | 47, [.inr (56, none), .inl a] => some (0 ≤ a ∧ a < 10 ∧ qq_in (S 57 a.toNat), some (if S 57 a.toNat = -1 then -1 else S 58 a.toNat * S 56 0 + S 57 a.toNat), S)
  | 48, [.inr (56, none), .inl a, .inl p] => some (0 ≤ a ∧ a < 10 ∧ qq_in p ∧ 0 ≤ S 56 0 ∧ S 56 0 ≤ 8, none, if p < 0 ∨ S 56 0 < 1 then qq_u (qq_u S 57 a.toNat (-1)) 58 a.toNat (-1) else qq_u (qq_u S 57 a.toNat (p % S 56 0)) 58 a.toNat (p / S 56 0))
  | 35, [.inr (4, none)] => some (True, some (S 4 1), qq_u S 4 1 (S 4 1 + 1))
  | 50, [.inr (48, none)] => some (∀ i : Nat, i < 10 → qq_in (S 49 i), some (zz_cnt (S 49) (-1) 10), S)
  | 51, [.inr (48, none)] => some (∀ i : Nat, i < 10 → qq_in (S 51 i), some (zz_cnt (S 51) 0 10), S)
  | 44, [.inr (48, none), .inl w, .inl h] => some (True, none, zz_rs (qq_u (qq_u S 48 0 w) 48 1 h) 49 50 51 10)
  | 44, [.inr (56, none), .inl w, .inl h] => some (True, none, zz_rs (qq_u (qq_u S 56 0 w) 56 1 h) 57 58 59 10)
  | 33, [.inr (4, none), .inl a, .inl b] => some (qq_in a ∧ qq_in b ∧ (0 ≤ S 4 0 ∧ S 4 0 ≤ 10) ∧ (∀ i : Nat, (i : Int) < S 4 0 → qq_in (S 5 i) ∧ qq_in (S 6 i)), some (zz_b (zz_has (S 5) (S 6) a b (S 4 0).toNat = true)), S)
  | 34, [.inr (4, none), .inl a, .inl b] => some (0 ≤ S 4 0 ∧ S 4 0 < 10, some (S 4 0), qq_u (qq_u (qq_u S 5 (S 4 0).toNat a) 6 (S 4 0).toNat b) 4 0 (S 4 0 + 1))
  | _, _ => none
theorem sp_6_ok {xs : List Int32} (hxs : xs.length ≤ 2048) (d : Nat) : qq_ok xs (d + 3) sp_6 := by
  intro y as S pre r S2 h hp
  unfold sp_6 at h
  split at h
  · cases h; exact f110 hxs (d + 2) S _ _ _ hp
  · cases h; exact f114 hxs (d + 2) S _ _ _ hp
  · cases h; exact f108 hxs (d + 2) S _ hp
  · cases h; exact f109 hxs (d + 2) S _ hp
  · cases h; exact f115 hxs (d + 2) S _ hp
  · cases h; exact f31 hxs (d + 2) S _ hp
  · cases h; exact f32 hxs (d + 2) S _ hp
  · cases h; exact f107 hxs (d + 2) S hp
  · cases h; exact f177 hxs (d + 2) S hp
  · cases h; exact f45_48 hxs (d + 2) S hp
  · cases h; exact f46_48 hxs (d + 2) S _ hp
  · cases h; exact f52_48 hxs (d + 2) S _ _ hp
  · cases h; exact f45_56 hxs (d + 2) S hp
  · cases h; exact f46_56 hxs (d + 2) S _ hp
  · cases h; exact f52_56 hxs (d + 2) S _ _ hp
  · cases h; exact f64 hxs (d + 2) S _ _ hp
  · cases h; exact f111 hxs (d + 1) S _ hp
  · cases h; exact f116 hxs (d + 1) S _ hp
  · cases h; exact f92 hxs (d + 1) S _ hp
  · cases h; exact f132 hxs (d + 1) S _ hp
  · cases h; exact f93 hxs (d + 0) S _ _ _ hp
  · cases h; exact f133 hxs (d + 1) S _ _ _ hp
  · cases h; exact f47_48 hxs (d + 1) S _ hp
  · cases h; exact f48_48 hxs (d + 2) S _ _ hp
  · cases h; exact f47_56 hxs (d + 1) S _ hp
  · cases h; exact f48_56 hxs (d + 2) S _ _ hp
  · cases h; exact f35 hxs (d + 2) S hp
  · cases h; exact f50 hxs (d + 1) S hp
  · cases h; exact f51 hxs (d + 1) S hp
  · cases h; exact f44_48 hxs (d + 2) S _ _ hp
  · cases h; exact f44_56 hxs (d + 2) S _ _ hp
  · cases h; exact f33 hxs (d + 2) S _ _ hp
  · cases h; exact f34 hxs (d + 2) S _ _ hp
  · cases h
set_option maxRecDepth 20000 in
theorem f85 {xs : List Int32} (hxs : xs.length ≤ 2048) (d : Nat) (S : qq_S) (a : Int) (b : Int) (hp : qq_in a ∧ qq_in b ∧ (0 ≤ S 4 0 ∧ S 4 0 ≤ 10) ∧ (∀ i : Nat, (i : Int) < S 4 0 → qq_in (S 5 i) ∧ qq_in (S 6 i))) : qq_E xs (d + 4) 85 [.inr (3, none), .inl a, .inl b] S (some (if (0 ≤ a ∧ a ≤ 1000 ∧ 0 ≤ b ∧ b ≤ 1000) then (if zz_has (S 5) (S 6) a b (S 4 0).toNat = true then -4 else if S 4 0 < 10 then S 4 0 else -5) else -1)) (if (0 ≤ a ∧ a ≤ 1000 ∧ 0 ≤ b ∧ b ≤ 1000) then (if zz_has (S 5) (S 6) a b (S 4 0).toNat = true then qq_u S 3 9 (-4) else if S 4 0 < 10 then qq_u (qq_u (qq_u (qq_u S 5 (S 4 0).toNat a) 6 (S 4 0).toNat b) 4 0 (S 4 0 + 1)) 3 9 0 else qq_u S 3 9 (-5)) else qq_u S 3 9 (-1)) := by
  have h : qq_p xs (d + 3) (mm_mr mm_m85) (mm_mk mm_m85) (fun r S' => r = some (if (0 ≤ a ∧ a ≤ 1000 ∧ 0 ≤ b ∧ b ≤ 1000) then (if zz_has (S 5) (S 6) a b (S 4 0).toNat = true then -4 else if S 4 0 < 10 then S 4 0 else -5) else -1) ∧ S' = if (0 ≤ a ∧ a ≤ 1000 ∧ 0 ≤ b ∧ b ≤ 1000) then (if zz_has (S 5) (S 6) a b (S 4 0).toNat = true then qq_u S 3 9 (-4) else if S 4 0 < 10 then qq_u (qq_u (qq_u (qq_u S 5 (S 4 0).toNat a) 6 (S 4 0).toNat b) 4 0 (S 4 0 + 1)) 3 9 0 else qq_u S 3 9 (-5)) else qq_u S 3 9 (-1)) 0 (qq_ent mm_m85 [.inr (3, none), .inl a, .inl b]) [] S := by
    refine qq_fsound hxs (sp_6_ok hxs (d + 0)) [] 200 ?_
    repeat' first | apply And.intro | intro _
    all_goals (first | rfl | omega | grind [qq_in, zz_b])
  obtain ⟨r, S', hE, e1, e2⟩ := qq_call_of (y := 85) rfl (Nat.le_of_ble_eq_true rfl) h
  rw [e1, e2] at hE
  exact hE
set_option maxRecDepth 20000 in
theorem f117 {xs : List Int32} (hxs : xs.length ≤ 2048) (d : Nat) (S : qq_S) (a : Int) (b : Int) (hp : qq_in a ∧ qq_in b ∧ (0 ≤ S 115 1 ∧ S 115 1 ≤ 10) ∧ (∀ i : Nat, (i : Int) < S 115 1 → qq_in (S 116 i) ∧ qq_in (S 117 i))) : qq_E xs (d + 4) 117 [.inr (115, none), .inl a, .inl b] S (some (if (0 ≤ a ∧ a ≤ 1000 ∧ 0 ≤ b ∧ b ≤ 1000) then (if zz_has (S 116) (S 117) a b (S 115 1).toNat = true then -4 else if S 115 1 < 10 then S 115 1 else -5) else -1)) (if (0 ≤ a ∧ a ≤ 1000 ∧ 0 ≤ b ∧ b ≤ 1000) then (if zz_has (S 116) (S 117) a b (S 115 1).toNat = true then qq_u S 115 0 (-4) else if S 115 1 < 10 then qq_u (qq_u (qq_u (qq_u (qq_u (qq_u (qq_u S 116 (S 115 1).toNat a) 117 (S 115 1).toNat b) 123 (S 115 1).toNat (-1)) 124 (S 115 1).toNat 0) 125 (S 115 1).toNat 0) 115 1 (S 115 1 + 1)) 115 0 0 else qq_u S 115 0 (-5)) else qq_u S 115 0 (-1)) := by
  have L : ∀ (k9 : Nat) (i : Int), 0 ≤ i ∧ i + k9 = S 115 1 → zz_has (S 116) (S 117) a b i.toNat = false ∧ (0 ≤ a ∧ a ≤ 1000 ∧ 0 ≤ b ∧ b ≤ 1000) → qq_p xs (d + 3) (mm_mr mm_m117) (mm_mk mm_m117) (fun r S' => r = some (if (0 ≤ a ∧ a ≤ 1000 ∧ 0 ≤ b ∧ b ≤ 1000) then (if zz_has (S 116) (S 117) a b (S 115 1).toNat = true then -4 else if S 115 1 < 10 then S 115 1 else -5) else -1) ∧ S' = if (0 ≤ a ∧ a ≤ 1000 ∧ 0 ≤ b ∧ b ≤ 1000) then (if zz_has (S 116) (S 117) a b (S 115 1).toNat = true then qq_u S 115 0 (-4) else if S 115 1 < 10 then qq_u (qq_u (qq_u (qq_u (qq_u (qq_u (qq_u S 116 (S 115 1).toNat a) 117 (S 115 1).toNat b) 123 (S 115 1).toNat (-1)) 124 (S 115 1).toNat 0) 125 (S 115 1).toNat 0) 115 1 (S 115 1 + 1)) 115 0 0 else qq_u S 115 0 (-5)) else qq_u S 115 0 (-1)) 30 [some (.inr (115, none)), some (.inl a), some (.inl b), some (.inl i)] [] (S) := by
    intro k9
    induction k9 with
    | zero =>
      intro i hm hv
      refine qq_fsound hxs (sp_6_ok hxs (d + 0)) [30] 200 ?_
      repeat' first | apply And.intro | intro _
      all_goals (first | omega | (have q9 := hp.2.2.2 i.toNat (by omega); grind [qq_in]) | (refine ih _ ?_ ?_ <;> first | omega | grind [zz_has_s]) | (have hi9 : i = S 115 1 := (by omega); grind [qq_in, zz_b, qq_u]) | (have q9 := zz_has_at (S 116) (S 117) a b i (S 115 1) (by omega); grind [zz_b]) | grind [qq_in, zz_b, qq_u, qq_un', qq_us])
    | succ k9 ih =>
      intro i hm hv
      refine qq_fsound hxs (sp_6_ok hxs (d + 0)) [30] 200 ?_
      repeat' first | apply And.intro | intro _
      all_goals (first | omega | (have q9 := hp.2.2.2 i.toNat (by omega); grind [qq_in]) | (refine ih _ ?_ ?_ <;> first | omega | grind [zz_has_s]) | (have hi9 : i = S 115 1 := (by omega); grind [qq_in, zz_b, qq_u]) | (have q9 := zz_has_at (S 116) (S 117) a b i (S 115 1) (by omega); grind [zz_b]) | grind [qq_in, zz_b, qq_u, qq_un', qq_us])
  have h : qq_p xs (d + 3) (mm_mr mm_m117) (mm_mk mm_m117) (fun r S' => r = some (if (0 ≤ a ∧ a ≤ 1000 ∧ 0 ≤ b ∧ b ≤ 1000) then (if zz_has (S 116) (S 117) a b (S 115 1).toNat = true then -4 else if S 115 1 < 10 then S 115 1 else -5) else -1) ∧ S' = if (0 ≤ a ∧ a ≤ 1000 ∧ 0 ≤ b ∧ b ≤ 1000) then (if zz_has (S 116) (S 117) a b (S 115 1).toNat = true then qq_u S 115 0 (-4) else if S 115 1 < 10 then qq_u (qq_u (qq_u (qq_u (qq_u (qq_u (qq_u S 116 (S 115 1).toNat a) 117 (S 115 1).toNat b) 123 (S 115 1).toNat (-1)) 124 (S 115 1).toNat 0) 125 (S 115 1).toNat 0) 115 1 (S 115 1 + 1)) 115 0 0 else qq_u S 115 0 (-5)) else qq_u S 115 0 (-1)) 0 (qq_ent mm_m117 [.inr (115, none), .inl a, .inl b]) [] S := by
    refine qq_fsound hxs (sp_6_ok hxs (d + 0)) [30] 200 ?_
    repeat' first | apply And.intro | intro _
    all_goals (first | omega | (refine L (S 115 1).toNat _ ?_ ?_ <;> first | omega | (refine ⟨rfl, ?_⟩; grind [zz_b])) | grind [qq_in, zz_b])
  obtain ⟨r, S', hE, e1, e2⟩ := qq_call_of (y := 117) rfl (Nat.le_of_ble_eq_true rfl) h
  rw [e1, e2] at hE
  exact hE
