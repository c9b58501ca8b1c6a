/-- how many of the first k are not z -/
def zz_cnt (f : Nat → Int) (z : Int) : Nat → Int
  | 0 => 0
  | k + 1 => zz_cnt f z k + (if f k = z then 0 else 1)
theorem zz_cnt_s (f : Nat → Int) (z i : Int) (h : 0 ≤ i) : zz_cnt f z (i + 1).toNat = zz_cnt f z i.toNat + (if f i.toNat = z then 0 else 1) := by
  rw [show (i + 1).toNat = i.toNat + 1 by omega]
  rfl
theorem zz_cnt_bd (f : Nat → Int) (z : Int) : ∀ k : Nat, 0 ≤ zz_cnt f z k ∧ zz_cnt f z k ≤ k
  | 0 => by simp [zz_cnt]
  | k + 1 => by
    have := zz_cnt_bd f z k
    unfold zz_cnt
    split <;> omega
theorem zz_cnt_eq (f g : Nat → Int) (z : Int) : ∀ (n k : Nat), n ≤ k → (∀ i, i < n → (f i = z ↔ g i = z)) → (∀ i, n ≤ i → i < k → f i = z) → zz_cnt f z k = zz_cnt g z n
  | n, 0, h, _, _ => by rw [show n = 0 by omega]; rfl
  | n, k + 1, h, h1, h2 => by
    by_cases e : n = k + 1
    · subst e
      have ih := zz_cnt_eq f g z k k (Nat.le_refl _) (fun i hi => h1 i (by omega)) (fun i hi hk => by omega)
      unfold zz_cnt
      rw [ih]
      have := h1 k (by omega)
      by_cases a : f k = z
      · rw [if_pos a, if_pos (this.mp a)]
      · rw [if_neg a, if_neg (fun z => a (this.mpr z))]
    · have ih := zz_cnt_eq f g z n k (by omega) h1 (fun i hi hk => h2 i hi (by omega))
      show zz_cnt f z k + (if f k = z then 0 else 1) = _
      rw [ih, if_pos (h2 k (by omega) (by omega))]
      exact Int.add_zero _
set_option maxRecDepth 20000 in
theorem f50 {xs : List Int32} (hxs : xs.length ≤ 2048) (d : Nat) (S : qq_S) (hp : ∀ i : Nat, i < 10 → qq_in (S 49 i)) : qq_E xs (d + 2) 50 [.inr (48, none)] S (some (zz_cnt (S 49) (-1) 10)) (S) := by
  have L : ∀ (k9 : Nat) (i c : Int), 0 ≤ i ∧ i + k9 = 10 → c = zz_cnt (S 49) (-1) i.toNat → qq_p xs (d + 1) (mm_mr mm_m50) (mm_mk mm_m50) (fun r S' => r = some (zz_cnt (S 49) (-1) 10) ∧ S' = S) 4 [some (.inr (48, none)), some (.inl c), some (.inl i)] [] (S) := by
    intro k9
    induction k9 with
    | zero =>
      intro i c hm hv
      refine qq_fsound hxs (sp_1_ok hxs (d + 0)) [4] 200 ?_
      repeat' first | apply And.intro | intro _
      all_goals (first | omega | (refine ih _ _ ?_ ?_ <;> first | omega | grind [zz_cnt_s, zz_b]) | (have hi10 : i = 10 := (by omega); grind [qq_in, zz_b]) | (have q9 := hp i.toNat (by omega); grind [qq_in, zz_b]))
    | succ k9 ih =>
      intro i c hm hv
      refine qq_fsound hxs (sp_1_ok hxs (d + 0)) [4] 200 ?_
      repeat' first | apply And.intro | intro _
      all_goals (first | omega | (refine ih _ _ ?_ ?_ <;> first | omega | grind [zz_cnt_s, zz_b]) | (have hi10 : i = 10 := (by omega); grind [qq_in, zz_b]) | (have q9 := hp i.toNat (by omega); grind [qq_in, zz_b]))
  have h : qq_p xs (d + 1) (mm_mr mm_m50) (mm_mk mm_m50) (fun r S' => r = some (zz_cnt (S 49) (-1) 10) ∧ S' = S) 0 (qq_ent mm_m50 [.inr (48, none)]) [] S := by
    refine qq_fsound hxs (sp_1_ok hxs (d + 0)) [4] 200 ?_
    repeat' first | apply And.intro | intro _
    all_goals (first | omega | (refine L 10 _ _ ?_ ?_ <;> first | omega | rfl) | grind [qq_in])
  obtain ⟨r, S', hE, e1, e2⟩ := qq_call_of (y := 50) rfl (Nat.le_of_ble_eq_true rfl) h
  rw [e1, e2] at hE
  exact hE
set_option maxRecDepth 20000 in
theorem f51 {xs : List Int32} (hxs : xs.length ≤ 2048) (d : Nat) (S : qq_S) (hp : ∀ i : Nat, i < 10 → qq_in (S 51 i)) : qq_E xs (d + 2) 51 [.inr (48, none)] S (some (zz_cnt (S 51) 0 10)) (S) := by
  have L : ∀ (k9 : Nat) (i c : Int), 0 ≤ i ∧ i + k9 = 10 → c = zz_cnt (S 51) 0 i.toNat → qq_p xs (d + 1) (mm_mr mm_m51) (mm_mk mm_m51) (fun r S' => r = some (zz_cnt (S 51) 0 10) ∧ S' = S) 4 [some (.inr (48, none)), some (.inl c), some (.inl i)] [] (S) := by
    intro k9
    induction k9 with
    | zero =>
      intro i c hm hv
      refine qq_fsound hxs (sp_1_ok hxs (d + 0)) [4] 200 ?_
      repeat' first | apply And.intro | intro _
      all_goals (first | omega | (refine ih _ _ ?_ ?_ <;> first | omega | grind [zz_cnt_s, zz_b]) | (have hi10 : i = 10 := (by omega); grind [qq_in, zz_b]) | (have q9 := hp i.toNat (by omega); grind [qq_in, zz_b]))
    | succ k9 ih =>
      intro i c hm hv
      refine qq_fsound hxs (sp_1_ok hxs (d + 0)) [4] 200 ?_
      repeat' first | apply And.intro | intro _
      all_goals (first | omega | (refine ih _ _ ?_ ?_ <;> first | omega | grind [zz_cnt_s, zz_b]) | (have hi10 : i = 10 := (by omega); grind [qq_in, zz_b]) | (have q9 := hp i.toNat (by omega); grind [qq_in, zz_b]))
  have h : qq_p xs (d + 1) (mm_mr mm_m51) (mm_mk mm_m51) (fun r S' => r = some (zz_cnt (S 51) 0 10) ∧ S' = S) 0 (qq_ent mm_m51 [.inr (48, none)]) [] S := by
    refine qq_fsound hxs (sp_1_ok hxs (d + 0)) [4] 200 ?_
    repeat' first | apply And.intro | intro _
    all_goals (first | omega | (refine L 10 _ _ ?_ ?_ <;> first | omega | rfl) | grind [qq_in])
  obtain ⟨r, S', hE, e1, e2⟩ := qq_call_of (y := 51) rfl (Nat.le_of_ble_eq_true rfl) h
  rw [e1, e2] at hE
  exact hE
/-- the places below i of x and y are -1, of h 0 -/
def zz_rs (S : qq_S) (x y h : Nat) (i : Int) : qq_S := fun a j => if (a = x ∨ a = y) ∧ (j : Int) < i then -1 else if a = h ∧ (j : Int) < i then 0 else S a j
theorem zz_rs0 (S : qq_S) (x y h : Nat) : zz_rs S x y h 0 = S := by
  funext a j
  unfold zz_rs
  rw [if_neg (by omega), if_neg (by omega)]
theorem zz_rs_s (S : qq_S) (x y h : Nat) (i : Int) (hi : 0 ≤ i) (h1 : x ≠ h) (h2 : y ≠ h) : qq_u (qq_u (qq_u (zz_rs S x y h i) x i.toNat (-1)) y i.toNat (-1)) h i.toNat 0 = zz_rs S x y h (i + 1) := by
  funext a j
  unfold qq_u zz_rs
  have e : (j = i.toNat) ↔ (j : Int) = i := by omega
  have e2 : ((j : Int) < i + 1) ↔ ((j : Int) < i ∨ (j : Int) = i) := by omega
  simp only [e, e2]
  grind
theorem zz_rs_m (S : qq_S) (x h : Nat) (i : Int) (hi : 0 ≤ i) (h1 : x ≠ h) : qq_u (qq_u (zz_rs S x x h i) x i.toNat (-1)) h i.toNat 0 = zz_rs S x x h (i + 1) := by
  rw [← zz_rs_s S x x h i hi h1 h1]
  congr 1
  funext a j
  unfold qq_u
  grind
set_option maxRecDepth 20000 in
theorem f44_48 {xs : List Int32} (hxs : xs.length ≤ 2048) (d : Nat) (S : qq_S) (w : Int) (h : Int) (hp : True) : qq_E xs (d + 1) 44 [.inr (48, none), .inl w, .inl h] S (none) (zz_rs (qq_u (qq_u S 48 0 w) 48 1 h) 49 50 51 10) := by
  have L : ∀ (k9 : Nat) (i : Int) (T : qq_S), 0 ≤ i ∧ i + k9 = 10 → T = zz_rs (qq_u (qq_u S 48 0 w) 48 1 h) 49 50 51 i → qq_p xs (d + 0) (mm_mr mm_m44) (mm_mk mm_m44) (fun r S' => r = none ∧ S' = zz_rs (qq_u (qq_u S 48 0 w) 48 1 h) 49 50 51 10) 12 [some (.inr (48, none)), some (.inl w), some (.inl h), some (.inl i)] [] (T) := by
    intro k9
    induction k9 with
    | zero =>
      intro i T hm hv
      refine qq_fsound hxs (sp_0_ok hxs (d + 0)) [12] 200 ?_
      repeat' first | apply And.intro | intro _
      all_goals (first | omega | (refine ih _ _ ?_ ?_ <;> first | omega | (rw [hv]; exact zz_rs_s _ _ _ _ _ (by omega) (by decide) (by decide))) | (have hi10 : i = 10 := (by omega); rw [hv, hi10]) | grind [qq_in])
    | succ k9 ih =>
      intro i T hm hv
      refine qq_fsound hxs (sp_0_ok hxs (d + 0)) [12] 200 ?_
      repeat' first | apply And.intro | intro _
      all_goals (first | omega | (refine ih _ _ ?_ ?_ <;> first | omega | (rw [hv]; exact zz_rs_s _ _ _ _ _ (by omega) (by decide) (by decide))) | (have hi10 : i = 10 := (by omega); rw [hv, hi10]) | grind [qq_in])
  have h : qq_p xs (d + 0) (mm_mr mm_m44) (mm_mk mm_m44) (fun r S' => r = none ∧ S' = zz_rs (qq_u (qq_u S 48 0 w) 48 1 h) 49 50 51 10) 0 (qq_ent mm_m44 [.inr (48, none), .inl w, .inl h]) [] S := by
    refine qq_fsound hxs (sp_0_ok hxs (d + 0)) [12] 200 ?_
    repeat' first | apply And.intro | intro _
    all_goals (first | omega | (refine L 10 _ _ ?_ ?_ <;> first | omega | exact (zz_rs0 _ _ _ _).symm) | grind [qq_in])
  obtain ⟨r, S', hE, e1, e2⟩ := qq_call_of (y := 44) rfl (Nat.le_of_ble_eq_true rfl) h
  rw [e1, e2] at hE
  exact hE
set_option maxRecDepth 20000 in
theorem f44_56 {xs : List Int32} (hxs : xs.length ≤ 2048) (d : Nat) (S : qq_S) (w : Int) (h : Int) (hp : True) : qq_E xs (d + 1) 44 [.inr (56, none), .inl w, .inl h] S (none) (zz_rs (qq_u (qq_u S 56 0 w) 56 1 h) 57 58 59 10) := by
  have L : ∀ (k9 : Nat) (i : Int) (T : qq_S), 0 ≤ i ∧ i + k9 = 10 → T = zz_rs (qq_u (qq_u S 56 0 w) 56 1 h) 57 58 59 i → qq_p xs (d + 0) (mm_mr mm_m44) (mm_mk mm_m44) (fun r S' => r = none ∧ S' = zz_rs (qq_u (qq_u S 56 0 w) 56 1 h) 57 58 59 10) 12 [some (.inr (56, none)), some (.inl w), some (.inl h), some (.inl i)] [] (T) := by
    intro k9
    induction k9 with
    | zero =>
      intro i T hm hv
      refine qq_fsound hxs (sp_0_ok hxs (d + 0)) [12] 200 ?_
      repeat' first | apply And.intro | intro _
      all_goals (first | omega | (refine ih _ _ ?_ ?_ <;> first | omega | (rw [hv]; exact zz_rs_s _ _ _ _ _ (by omega) (by decide) (by decide))) | (have hi10 : i = 10 := (by omega); rw [hv, hi10]) | grind [qq_in])
    | succ k9 ih =>
      intro i T hm hv
      refine qq_fsound hxs (sp_0_ok hxs (d + 0)) [12] 200 ?_
      repeat' first | apply And.intro | intro _
      all_goals (first | omega | (refine ih _ _ ?_ ?_ <;> first | omega | (rw [hv]; exact zz_rs_s _ _ _ _ _ (by omega) (by decide) (by decide))) | (have hi10 : i = 10 := (by omega); rw [hv, hi10]) | grind [qq_in])
  have h : qq_p xs (d + 0) (mm_mr mm_m44) (mm_mk mm_m44) (fun r S' => r = none ∧ S' = zz_rs (qq_u (qq_u S 56 0 w) 56 1 h) 57 58 59 10) 0 (qq_ent mm_m44 [.inr (56, none), .inl w, .inl h]) [] S := by
    refine qq_fsound hxs (sp_0_ok hxs (d + 0)) [12] 200 ?_
    repeat' first | apply And.intro | intro _
    all_goals (first | omega | (refine L 10 _ _ ?_ ?_ <;> first | omega | exact (zz_rs0 _ _ _ _).symm) | grind [qq_in])
  obtain ⟨r, S', hE, e1, e2⟩ := qq_call_of (y := 44) rfl (Nat.le_of_ble_eq_true rfl) h
  rw [e1, e2] at hE
  exact hE
def sp_5 : qq_P := fun y as S => match y, as with
  | 110, [.inl a, .inl lo, .inl hi] => some (qq_in a ∧ qq_in lo ∧ qq_in hi, some (zz_b (lo ≤ a ∧ a ≤ hi)), S)
  | 114, [.inl a, .inl lo, .inl hi] => some (qq_in a ∧ qq_in lo ∧ qq_in hi, some (zz_b (lo ≤ a ∧ a ≤ hi)), S)
  | 108, [.inr (3, none), .inl a] => some (True, some (a), qq_u S 3 9 a)
  | 109, [.inr (3, none), .inl a] => some (True, some (a), qq_u S 3 9 0)
  | 115, [.inr (115, none), .inl a] => some (qq_in a, some (a), qq_u S 115 0 (if a < 0 then a else 0))
  | 31, [.inr (4, none), .inl a] => some (qq_in a ∧ qq_in (S 4 0), some (zz_b (0 ≤ a ∧ a < S 4 0)), S)
  | 32, [.inr (4, none), .inl a] => some (qq_in a ∧ qq_in (S 4 1), some (zz_b (0 ≤ a ∧ a < S 4 1)), S)
  | 107, [.inr (3, none)] => some (True, some (S 3 9), S)
  | 177, [.inr (115, none)] => some (True, some (S 115 0), S)
  | 45, [.inr (48, none)] => some (True, some (S 48 0 * S 48 1), S)
  | 46, [.inr (48, none), .inl a] => some (0 ≤ a ∧ a < 10 ∧ qq_in (S 49 a.toNat), some (zz_b (¬ S 49 a.toNat = -1)), S)
  | 52, [.inr (48, none), .inl a, .inl b] => some (0 ≤ a ∧ a < 10 ∧ 0 ≤ b ∧ b < 10 ∧ (-8 ≤ S 49 a.toNat ∧ S 49 a.toNat ≤ 8 ∧ -8 ≤ S 49 b.toNat ∧ S 49 b.toNat ≤ 8 ∧ -8 ≤ S 50 a.toNat ∧ S 50 a.toNat ≤ 8 ∧ -8 ≤ S 50 b.toNat ∧ S 50 b.toNat ≤ 8), some (zz_dir (S 49 b.toNat - S 49 a.toNat) (S 50 b.toNat - S 50 a.toNat)), S)
  | 45, [.inr (56, none)] => some (True, some (S 56 0 * S 56 1), S)
  | 46, [.inr (56, none), .inl a] => some (0 ≤ a ∧ a < 10 ∧ qq_in (S 57 a.toNat), some (zz_b (¬ S 57 a.toNat = -1)), S)
  | 52, [.inr (56, none), .inl a, .inl b] => some (0 ≤ a ∧ a < 10 ∧ 0 ≤ b ∧ b < 10 ∧ (-8 ≤ S 57 a.toNat ∧ S 57 a.toNat ≤ 8 ∧ -8 ≤ S 57 b.toNat ∧ S 57 b.toNat ≤ 8 ∧ -8 ≤ S 58 a.toNat ∧ S 58 a.toNat ≤ 8 ∧ -8 ≤ S 58 b.toNat ∧ S 58 b.toNat ≤ 8), some (zz_dir (S 57 b.toNat - S 57 a.toNat) (S 58 b.toNat - S 58 a.toNat)), S)
  | 64, [.inl a, .inl b] => some (-100 ≤ a ∧ a ≤ 100 ∧ -100 ≤ b ∧ b ≤ 100, some (if 4 < qq_and (a - b) 7 then 8 - qq_and (a - b) 7 else qq_and (a - b) 7), S)
  | 111, [.inl a] => some (qq_in a, some (zz_b (0 ≤ a ∧ a ≤ 100)), S)
  | 116, [.inr (115, none), .inl a] => some (qq_in a ∧ 0 ≤ S 115 1 ∧ S 115 1 ≤ 10, some (zz_b (0 ≤ a ∧ a < S 115 1)), S)
  | 92, [.inr (3, none), .inl a] => some (qq_in a, some (if 1 ≤ a ∧ a ≤ 4 then S 52 3 else -1), if 1 ≤ a ∧ a ≤ 4 then qq_u (qq_u S 52 3 a) 3 9 0 else qq_u S 3 9 (-1))
  | 132, [.inr (115, none), .inl a] => some (qq_in a ∧ 0 ≤ S 115 14 ∧ S 115 14 ≤ 4, some (if 1 ≤ a ∧ a ≤ 4 then S 115 14 else -1), if 1 ≤ a ∧ a ≤ 4 then qq_u (qq_u S 115 14 a) 115 0 0 else qq_u S 115 0 (-1))
  | 93, [.inr (3, none), .inl a, .inl b, .inl c] => some (qq_in a ∧ qq_in b ∧ qq_in c, some (if 0 ≤ a ∧ a ≤ 100 ∧ 0 ≤ b ∧ b ≤ 100 ∧ 0 ≤ c ∧ c ≤ 100 then 0 else -1), if 0 ≤ a ∧ a ≤ 100 ∧ 0 ≤ b ∧ b ≤ 100 ∧ 0 ≤ c ∧ c ≤ 100 then qq_u (qq_u (qq_u (qq_u S 52 0 a) 52 1 b) 52 2 c) 3 9 0 else qq_u S 3 9 (-1))
  | 133, [.inr (115, none), .inl a, .inl b, .inl c] => some (qq_in a ∧ qq_in b ∧ qq_in c, some (if 0 ≤ a ∧ a ≤ 100 ∧ 0 ≤ b ∧ b ≤ 100 ∧ 0 ≤ c ∧ c ≤ 100 then 0 else -1), if 0 ≤ a ∧ a ≤ 100 ∧ 0 ≤ b ∧ b ≤ 100 ∧ 0 ≤ c ∧ c ≤ 100 then qq_u (qq_u (qq_u (qq_u S 115 15 a) 115 16 b) 115 17 c) 115 0 0 else qq_u S 115 0 (-1))
  | 47, [.inr (48, none), .inl a] => some (0 ≤ a ∧ a < 10 ∧ qq_in (S 49 a.toNat), some (if S 49 a.toNat = -1 then -1 else S 50 a.toNat * S 48 0 + S 49 a.toNat), S)
  | 48, [.inr (48, none), .inl a, .inl p] => some (0 ≤ a ∧ a < 10 ∧ qq_in p ∧ 0 ≤ S 48 0 ∧ S 48 0 ≤ 8, none, if p < 0 ∨ S 48 0 < 1 then qq_u (qq_u S 49 a.toNat (-1)) 50 a.toNat (-1) else qq_u (qq_u S 49 a.toNat (p % S 48 0)) 50 a.toNat (p / S 48 0))
  | 47, [.inr (56, none), .inl a] => some (0 ≤ a ∧ a < 10 ∧ qq_in (S 57 a.toNat), some (if S 57 a.toNat = -1 then -1 else S 58 a.toNat * S 56 0 + S 57 a.toNat), S)
  | 48, [.inr (56, none), .inl a, .inl p] => some (0 ≤ a ∧ a < 10 ∧ qq_in p ∧ 0 ≤ S 56 0 ∧ S 56 0 ≤ 8, none, if p < 0 ∨ S 56 0 < 1 then qq_u (qq_u S 57 a.toNat (-1)) 58 a.toNat (-1) else qq_u (qq_u S 57 a.toNat (p % S 56 0)) 58 a.toNat (p / S 56 0))
  | 35, [.inr (4, none)] => some (True, some (S 4 1), qq_u S 4 1 (S 4 1 + 1))
  | 50, [.inr (48, none)] => some (∀ i : Nat, i < 10 → qq_in (S 49 i), some (zz_cnt (S 49) (-1) 10), S)
  | 51, [.inr (48, none)] => some (∀ i : Nat, i < 10 → qq_in (S 51 i), some (zz_cnt (S 51) 0 10), S)
  | 44, [.inr (48, none), .inl w, .inl h] => some (True, none, zz_rs (qq_u (qq_u S 48 0 w) 48 1 h) 49 50 51 10)
  | 44, [.inr (56, none), .inl w, .inl h] => some (True, none, zz_rs (qq_u (qq_u S 56 0 w) 56 1 h) 57 58 59 10)
  | _, _ => none
theorem sp_5_ok {xs : List Int32} (hxs : xs.length ≤ 2048) (d : Nat) : qq_ok xs (d + 3) sp_5 := by
  intro y as S pre r S2 h hp
  unfold sp_5 at h
  split at h
  · cases h; exact f110 hxs (d + 2) S _ _ _ hp
  · cases h; exact f114 hxs (d + 2) S _ _ _ hp
  · cases h; exact f108 hxs (d + 2) S _ hp
  · cases h; exact f109 hxs (d + 2) S _ hp
  · cases h; exact f115 hxs (d + 2) S _ hp
  · cases h; exact f31 hxs (d + 2) S _ hp
  · cases h; exact f32 hxs (d + 2) S _ hp
  · cases h; exact f107 hxs (d + 2) S hp
  · cases h; exact f177 hxs (d + 2) S hp
  · cases h; exact f45_48 hxs (d + 2) S hp
  · cases h; exact f46_48 hxs (d + 2) S _ hp
  · cases h; exact f52_48 hxs (d + 2) S _ _ hp
  · cases h; exact f45_56 hxs (d + 2) S hp
  · cases h; exact f46_56 hxs (d + 2) S _ hp
  · cases h; exact f52_56 hxs (d + 2) S _ _ hp
  · cases h; exact f64 hxs (d + 2) S _ _ hp
  · cases h; exact f111 hxs (d + 1) S _ hp
  · cases h; exact f116 hxs (d + 1) S _ hp
  · cases h; exact f92 hxs (d + 1) S _ hp
  · cases h; exact f132 hxs (d + 1) S _ hp
  · cases h; exact f93 hxs (d + 0) S _ _ _ hp
  · cases h; exact f133 hxs (d + 1) S _ _ _ hp
  · cases h; exact f47_48 hxs (d + 1) S _ hp
  · cases h; exact f48_48 hxs (d + 2) S _ _ hp
  · cases h; exact f47_56 hxs (d + 1) S _ hp
  · cases h; exact f48_56 hxs (d + 2) S _ _ hp
  · cases h; exact f35 hxs (d + 2) S hp
  · cases h; exact f50 hxs (d + 1) S hp
  · cases h; exact f51 hxs (d + 1) S hp
  · cases h; exact f44_48 hxs (d + 2) S _ _ hp
  · cases h; exact f44_56 hxs (d + 2) S _ _ hp
  · cases h
set_option maxRecDepth 20000 in
theorem f91 {xs : List Int32} (hxs : xs.length ≤ 2048) (d : Nat) (S : qq_S) (a : Int) (b : Int) (hp : qq_in a ∧ qq_in b) : qq_E xs (d + 4) 91 [.inr (3, none), .inl a, .inl b] S (some (if (2 ≤ a ∧ a ≤ 8 ∧ 2 ≤ b ∧ b ≤ 8) then 0 else -1)) (if (2 ≤ a ∧ a ≤ 8 ∧ 2 ≤ b ∧ b ≤ 8) then qq_u (zz_rs (qq_u (qq_u S 48 0 a) 48 1 b) 49 50 51 10) 3 9 0 else qq_u S 3 9 (-1)) := by
  have h : qq_p xs (d + 3) (mm_mr mm_m91) (mm_mk mm_m91) (fun r S' => r = some (if (2 ≤ a ∧ a ≤ 8 ∧ 2 ≤ b ∧ b ≤ 8) then 0 else -1) ∧ S' = if (2 ≤ a ∧ a ≤ 8 ∧ 2 ≤ b ∧ b ≤ 8) then qq_u (zz_rs (qq_u (qq_u S 48 0 a) 48 1 b) 49 50 51 10) 3 9 0 else qq_u S 3 9 (-1)) 0 (qq_ent mm_m91 [.inr (3, none), .inl a, .inl b]) [] S := by
    refine qq_fsound hxs (sp_5_ok hxs (d + 0)) [] 200 ?_
    repeat' first | apply And.intro | intro _
    all_goals (first | rfl | omega | grind [qq_in, zz_b])
  obtain ⟨r, S', hE, e1, e2⟩ := qq_call_of (y := 91) rfl (Nat.le_of_ble_eq_true rfl) h
  rw [e1, e2] at hE
  exact hE
set_option maxRecDepth 20000 in
theorem f131 {xs : List Int32} (hxs : xs.length ≤ 2048) (d : Nat) (S : qq_S) (a : Int) (b : Int) (hp : qq_in a ∧ qq_in b) : qq_E xs (d + 4) 131 [.inr (115, none), .inl a, .inl b] S (some (if (2 ≤ a ∧ a ≤ 8 ∧ 2 ≤ b ∧ b ≤ 8) then 0 else -1)) (if (2 ≤ a ∧ a ≤ 8 ∧ 2 ≤ b ∧ b ≤ 8) then qq_u (zz_rs (qq_u (qq_u S 115 12 a) 115 13 b) 123 123 124 10) 115 0 0 else qq_u S 115 0 (-1)) := by
  have L : ∀ (k9 : Nat) (i : Int) (T : qq_S), 0 ≤ i ∧ i + k9 = 10 → (T = zz_rs (qq_u (qq_u S 115 12 a) 115 13 b) 123 123 124 i ∧ (2 ≤ a ∧ a ≤ 8 ∧ 2 ≤ b ∧ b ≤ 8)) → qq_p xs (d + 3) (mm_mr mm_m131) (mm_mk mm_m131) (fun r S' => r = some (if (2 ≤ a ∧ a ≤ 8 ∧ 2 ≤ b ∧ b ≤ 8) then 0 else -1) ∧ S' = if (2 ≤ a ∧ a ≤ 8 ∧ 2 ≤ b ∧ b ≤ 8) then qq_u (zz_rs (qq_u (qq_u S 115 12 a) 115 13 b) 123 123 124 10) 115 0 0 else qq_u S 115 0 (-1)) 38 [some (.inr (115, none)), some (.inl a), some (.inl b), some (.inl i)] [] (T) := by
    intro k9
    induction k9 with
    | zero =>
      intro i T hm hv
      refine qq_fsound hxs (sp_5_ok hxs (d + 0)) [38] 200 ?_
      repeat' first | apply And.intro | intro _
      all_goals (first | omega | (refine ih _ _ ?_ ?_ <;> first | omega | (rw [hv.1]; exact ⟨zz_rs_m _ _ _ _ (by omega) (by decide), hv.2⟩)) | (have hi10 : i = 10 := (by omega); rw [if_pos hv.2]; rw [hv.1, hi10]; try rfl) | grind [qq_in])
    | succ k9 ih =>
      intro i T hm hv
      refine qq_fsound hxs (sp_5_ok hxs (d + 0)) [38] 200 ?_
      repeat' first | apply And.intro | intro _
      all_goals (first | omega | (refine ih _ _ ?_ ?_ <;> first | omega | (rw [hv.1]; exact ⟨zz_rs_m _ _ _ _ (by omega) (by decide), hv.2⟩)) | (have hi10 : i = 10 := (by omega); rw [if_pos hv.2]; rw [hv.1, hi10]; try rfl) | grind [qq_in])
  have h : qq_p xs (d + 3) (mm_mr mm_m131) (mm_mk mm_m131) (fun r S' => r = some (if (2 ≤ a ∧ a ≤ 8 ∧ 2 ≤ b ∧ b ≤ 8) then 0 else -1) ∧ S' = if (2 ≤ a ∧ a ≤ 8 ∧ 2 ≤ b ∧ b ≤ 8) then qq_u (zz_rs (qq_u (qq_u S 115 12 a) 115 13 b) 123 123 124 10) 115 0 0 else qq_u S 115 0 (-1)) 0 (qq_ent mm_m131 [.inr (115, none), .inl a, .inl b]) [] S := by
    refine qq_fsound hxs (sp_5_ok hxs (d + 0)) [38] 200 ?_
    repeat' first | apply And.intro | intro _
    all_goals (first | omega | (refine L 10 _ _ ?_ ?_ <;> first | omega | exact ⟨(zz_rs0 _ _ _ _).symm, by grind [zz_b]⟩) | grind [qq_in, zz_b])
  obtain ⟨r, S', hE, e1, e2⟩ := qq_call_of (y := 131) rfl (Nat.le_of_ble_eq_true rfl) h
  rw [e1, e2] at hE
  exact hE
