def zz_mx (S : qq_S) (s : Nat) : Int := S 123 s % S 115 12
def zz_my (S : qq_S) (s : Nat) : Int := S 123 s / S 115 12
def zz_mok (S : qq_S) (a : Int) : Prop := (2 ≤ S 115 12 ∧ S 115 12 ≤ 8) ∧ 0 ≤ a ∧ a < 10 ∧ 0 ≤ S 123 a.toNat ∧ S 123 a.toNat ≤ 63
theorem zz_mbd {S : qq_S} {a : Int} (h : zz_p (zz_mok S a) = 1) : (0 ≤ zz_mx S a.toNat ∧ zz_mx S a.toNat ≤ 7) ∧ (0 ≤ zz_my S a.toNat ∧ zz_my S a.toNat ≤ 31) ∧ (0 ≤ a ∧ a < 10) := by
  obtain ⟨h1, h2, h3, h4, h5⟩ := zz_pi1.mp h
  unfold zz_mx zz_my
  have a1 := Int.emod_nonneg (S 123 a.toNat) (show S 115 12 ≠ 0 by omega)
  have a2 := Int.emod_lt_of_pos (S 123 a.toNat) (show 0 < S 115 12 by omega)
  have a3 := Int.ediv_nonneg h4 (show 0 ≤ S 115 12 by omega)
  have a4 : S 123 a.toNat / S 115 12 ≤ S 123 a.toNat / 2 := by
    have := Int.mul_ediv_add_emod (S 123 a.toNat) (S 115 12)
    have q : 2 * (S 123 a.toNat / S 115 12) ≤ S 115 12 * (S 123 a.toNat / S 115 12) := Int.mul_le_mul_of_nonneg_right h1.1 a3
    omega
  omega
theorem zz_msd {S : qq_S} {a b s : Int} (ha : zz_p (zz_mok S a) = 1) (hb : zz_p (zz_mok S b) = 1) (hs : zz_p (zz_mok S s) = 1) : -1000000 ≤ zz_side (zz_mx S) (zz_my S) a.toNat b.toNat s.toNat ∧ zz_side (zz_mx S) (zz_my S) a.toNat b.toNat s.toNat ≤ 1000000 := by
  have h1 := zz_mbd ha
  have h2 := zz_mbd hb
  have h3 := zz_mbd hs
  have m : ∀ x y : Int, -100 ≤ x ∧ x ≤ 100 → -100 ≤ y ∧ y ≤ 100 → -10000 ≤ x * y ∧ x * y ≤ 10000 := fun x y hx hy => by
    have : (x * y).natAbs ≤ 10000 := by
      rw [Int.natAbs_mul]
      exact Nat.mul_le_mul (show x.natAbs ≤ 100 by omega) (show y.natAbs ≤ 100 by omega)
    omega
  have k1 := m (zz_mx S b.toNat - zz_mx S a.toNat) (zz_my S s.toNat - zz_my S a.toNat) (by omega) (by omega)
  have k2 := m (zz_my S b.toNat - zz_my S a.toNat) (zz_mx S s.toNat - zz_mx S a.toNat) (by omega) (by omega)
  unfold zz_side
  omega
theorem zz_sgb (x y : Int) : -2147483648 ≤ zz_sg x * zz_sg y ∧ zz_sg x * zz_sg y ≤ 2147483647 := by
  unfold zz_sg
  repeat' split
  all_goals decide
set_option maxRecDepth 20000 in
theorem f137 {xs : List Int32} (hxs : xs.length ≤ 2048) (d : Nat) (S : qq_S) (a : Int) (hp : zz_p (zz_mok S a) = 1) : qq_E xs (d + 1) 137 [.inr (115, none), .inl a] S (some (zz_mx S a.toNat)) (S) := by
  have h : qq_p xs (d + 0) (mm_mr mm_m137) (mm_mk mm_m137) (fun r S' => r = some (zz_mx S a.toNat) ∧ S' = S) 0 (qq_ent mm_m137 [.inr (115, none), .inl a]) [] S := by
    refine qq_fsound hxs (sp_0_ok hxs (d + 0)) [] 300 ?_
    repeat' first | apply And.intro | intro _ | (simp only [qq_tab]) | (simp only [qq_pl])
    all_goals (first | rfl | (have g := zz_pi1.mp hp; unfold zz_mok at g; omega))
  obtain ⟨r, S', hE, e1, e2⟩ := qq_call_of (y := 137) rfl (Nat.le_of_ble_eq_true rfl) h
  rw [e1, e2] at hE
  exact hE
set_option maxRecDepth 20000 in
theorem f138 {xs : List Int32} (hxs : xs.length ≤ 2048) (d : Nat) (S : qq_S) (a : Int) (hp : zz_p (zz_mok S a) = 1) : qq_E xs (d + 1) 138 [.inr (115, none), .inl a] S (some (zz_my S a.toNat)) (S) := by
  have h : qq_p xs (d + 0) (mm_mr mm_m138) (mm_mk mm_m138) (fun r S' => r = some (zz_my S a.toNat) ∧ S' = S) 0 (qq_ent mm_m138 [.inr (115, none), .inl a]) [] S := by
    refine qq_fsound hxs (sp_0_ok hxs (d + 0)) [] 300 ?_
    repeat' first | apply And.intro | intro _ | (simp only [qq_tab]) | (simp only [qq_pl])
    all_goals (first | rfl | (have g := zz_pi1.mp hp; unfold zz_mok at g; omega))
  obtain ⟨r, S', hE, e1, e2⟩ := qq_call_of (y := 138) rfl (Nat.le_of_ble_eq_true rfl) h
  rw [e1, e2] at hE
  exact hE
set_option maxRecDepth 20000 in
theorem f143 {xs : List Int32} (hxs : xs.length ≤ 2048) (d : Nat) (S : qq_S) (n : Int) (a : Int) (b : Int) (hp : qq_in n ∧ qq_in a ∧ qq_in b) : qq_E xs (d + 2) 143 [.inl n, .inl a, .inl b] S (some (zz_p (zz_in n a b))) (S) := by
  have h : qq_p xs (d + 1) (mm_mr mm_m143) (mm_mk mm_m143) (fun r S' => r = some (zz_p (zz_in n a b)) ∧ S' = S) 0 (qq_ent mm_m143 [.inl n, .inl a, .inl b]) [] S := by
    refine qq_fsound hxs (sp_1_ok hxs (d + 0)) [] 300 ?_
    repeat' first | apply And.intro | intro _ | (simp only [qq_tab]) | (simp only [qq_pl])
    all_goals (first | rfl | omega | (rw [zz_bp]; first | exact zz_p01 _ | (refine congrArg some (zz_pc ?_); unfold zz_in; omega)) | grind [qq_in])
  obtain ⟨r, S', hE, e1, e2⟩ := qq_call_of (y := 143) rfl (Nat.le_of_ble_eq_true rfl) h
  rw [e1, e2] at hE
  exact hE
set_option maxRecDepth 20000 in
theorem f145 {xs : List Int32} (hxs : xs.length ≤ 2048) (d : Nat) (S : qq_S) (a : Int) (hp : qq_in a) : qq_E xs (d + 1) 145 [.inl a] S (some (zz_sg a)) (S) := by
  have h : qq_p xs (d + 0) (mm_mr mm_m145) (mm_mk mm_m145) (fun r S' => r = some (zz_sg a) ∧ S' = S) 0 (qq_ent mm_m145 [.inl a]) [] S := by
    refine qq_fsound hxs (sp_0_ok hxs (d + 0)) [] 300 ?_
    repeat' first | apply And.intro | intro _ | (simp only [qq_tab]) | (simp only [qq_pl])
    all_goals (first | rfl | omega | (unfold zz_sg; grind) | grind [qq_in])
  obtain ⟨r, S', hE, e1, e2⟩ := qq_call_of (y := 145) rfl (Nat.le_of_ble_eq_true rfl) h
  rw [e1, e2] at hE
  exact hE
set_option maxRecDepth 20000 in
theorem f147 {xs : List Int32} (hxs : xs.length ≤ 2048) (d : Nat) (S : qq_S) (a : Int) (b : Int) (c : Int) (hp : True) : qq_E xs (d + 1) 147 [.inr (115, none), .inl a, .inl b, .inl c] S (some (a)) (qq_u (qq_u S 115 21 b) 115 22 c) := by
  have h : qq_p xs (d + 0) (mm_mr mm_m147) (mm_mk mm_m147) (fun r S' => r = some (a) ∧ S' = qq_u (qq_u S 115 21 b) 115 22 c) 0 (qq_ent mm_m147 [.inr (115, none), .inl a, .inl b, .inl c]) [] S := by
    refine qq_fsound hxs (sp_0_ok hxs (d + 0)) [] 300 ?_
    repeat' first | apply And.intro | intro _ | (simp only [qq_tab]) | (simp only [qq_pl])
    all_goals (first | rfl | omega)
  obtain ⟨r, S', hE, e1, e2⟩ := qq_call_of (y := 147) rfl (Nat.le_of_ble_eq_true rfl) h
  rw [e1, e2] at hE
  exact hE
noncomputable def sp_18 : qq_P := fun y as S => match y, as with
  | 137, [.inr (115, none), .inl a] => some (zz_p (zz_mok S a) = 1, some (zz_mx S a.toNat), S)
  | 138, [.inr (115, none), .inl a] => some (zz_p (zz_mok S a) = 1, some (zz_my S a.toNat), S)
  | 143, [.inl n, .inl a, .inl b] => some (qq_in n ∧ qq_in a ∧ qq_in b, some (zz_p (zz_in n a b)), S)
  | 145, [.inl a] => some (qq_in a, some (zz_sg a), S)
  | 147, [.inr (115, none), .inl a, .inl b, .inl c] => some (True, some (a), qq_u (qq_u S 115 21 b) 115 22 c)
  | _, _ => sp_17 y as S
theorem sp_18_ok {xs : List Int32} (hxs : xs.length ≤ 2048) (d : Nat) : qq_ok xs (d + 10) sp_18 := by
  intro y as S pre r S2 h hp
  unfold sp_18 at h
  split at h
  · cases h; exact f137 hxs (d + 9) S _ hp
  · cases h; exact f138 hxs (d + 9) S _ hp
  · cases h; exact f143 hxs (d + 8) S _ _ _ hp
  · cases h; exact f145 hxs (d + 9) S _ hp
  · cases h; exact f147 hxs (d + 9) S _ _ _ hp
  · exact sp_17_ok hxs (d + 0) y as S pre r S2 h hp
set_option maxRecDepth 20000 in
theorem f139 {xs : List Int32} (hxs : xs.length ≤ 2048) (d : Nat) (S : qq_S) (a : Int) (b : Int) (hp : zz_p (zz_mok S a) = 1 ∧ zz_p (zz_mok S b) = 1) : qq_E xs (d + 11) 139 [.inr (115, none), .inl a, .inl b] S (some (zz_p (zz_str (zz_mx S b.toNat - zz_mx S a.toNat) (zz_my S b.toNat - zz_my S a.toNat)))) (S) := by
  have h : qq_p xs (d + 10) (mm_mr mm_m139) (mm_mk mm_m139) (fun r S' => r = some (zz_p (zz_str (zz_mx S b.toNat - zz_mx S a.toNat) (zz_my S b.toNat - zz_my S a.toNat))) ∧ S' = S) 0 (qq_ent mm_m139 [.inr (115, none), .inl a, .inl b]) [] S := by
    refine qq_fsound hxs (sp_18_ok hxs (d + 0)) [] 300 ?_
    repeat' first | apply And.intro | intro _ | (simp only [qq_tab]) | (simp only [qq_pl])
    all_goals (first | rfl | omega | exact hp.1 | exact hp.2 | exact (zz_pin _).1 | exact (zz_pin _).2 | exact zz_p01 _ | exact Or.inl trivial | exact Or.inr trivial | (have b1 := zz_mbd hp.1; have b2 := zz_mbd hp.2; first | omega | (have u1 : 0 ≤ zz_abs (zz_mx S b.toNat - zz_mx S a.toNat) ∧ zz_abs (zz_mx S b.toNat - zz_mx S a.toNat) ≤ 100 := (by unfold zz_abs; split <;> omega); have u2 : 0 ≤ zz_abs (zz_my S b.toNat - zz_my S a.toNat) ∧ zz_abs (zz_my S b.toNat - zz_my S a.toNat) ≤ 100 := (by unfold zz_abs; split <;> omega); first | omega | exact congrArg some (zz_p1 (by unfold zz_str; unfold zz_abs at *; grind)).symm | exact congrArg some (zz_p0 (by unfold zz_str; unfold zz_abs at *; grind)).symm)))
  obtain ⟨r, S', hE, e1, e2⟩ := qq_call_of (y := 139) rfl (Nat.le_of_ble_eq_true rfl) h
  rw [e1, e2] at hE
  exact hE
set_option maxRecDepth 20000 in
theorem f140 {xs : List Int32} (hxs : xs.length ≤ 2048) (d : Nat) (S : qq_S) (a : Int) (b : Int) (hp : zz_p (zz_mok S a) = 1 ∧ zz_p (zz_mok S b) = 1) : qq_E xs (d + 11) 140 [.inr (115, none), .inl a, .inl b] S (some (zz_ln (zz_mx S) (zz_my S) a.toNat b.toNat)) (S) := by
  have h : qq_p xs (d + 10) (mm_mr mm_m140) (mm_mk mm_m140) (fun r S' => r = some (zz_ln (zz_mx S) (zz_my S) a.toNat b.toNat) ∧ S' = S) 0 (qq_ent mm_m140 [.inr (115, none), .inl a, .inl b]) [] S := by
    refine qq_fsound hxs (sp_18_ok hxs (d + 0)) [] 300 ?_
    repeat' first | apply And.intro | intro _ | (simp only [qq_tab]) | (simp only [qq_pl])
    all_goals (first | rfl | omega | exact hp.1 | exact hp.2 | exact (zz_pin _).1 | exact (zz_pin _).2 | exact zz_p01 _ | exact Or.inl trivial | exact Or.inr trivial | (have b1 := zz_mbd hp.1; have b2 := zz_mbd hp.2; first | omega | (have u1 : 0 ≤ zz_abs (zz_mx S b.toNat - zz_mx S a.toNat) ∧ zz_abs (zz_mx S b.toNat - zz_mx S a.toNat) ≤ 100 := (by unfold zz_abs; split <;> omega); have u2 : 0 ≤ zz_abs (zz_my S b.toNat - zz_my S a.toNat) ∧ zz_abs (zz_my S b.toNat - zz_my S a.toNat) ≤ 100 := (by unfold zz_abs; split <;> omega); first | omega | (unfold zz_ln zz_len; grind))))
  obtain ⟨r, S', hE, e1, e2⟩ := qq_call_of (y := 140) rfl (Nat.le_of_ble_eq_true rfl) h
  rw [e1, e2] at hE
  exact hE
set_option maxRecDepth 20000 in
theorem f141 {xs : List Int32} (hxs : xs.length ≤ 2048) (d : Nat) (S : qq_S) (a : Int) (b : Int) (hp : zz_p (zz_mok S a) = 1 ∧ zz_p (zz_mok S b) = 1) : qq_E xs (d + 11) 141 [.inr (115, none), .inl a, .inl b] S (some (zz_mdr (zz_mx S) (zz_my S) a.toNat b.toNat)) (S) := by
  have h : qq_p xs (d + 10) (mm_mr mm_m141) (mm_mk mm_m141) (fun r S' => r = some (zz_mdr (zz_mx S) (zz_my S) a.toNat b.toNat) ∧ S' = S) 0 (qq_ent mm_m141 [.inr (115, none), .inl a, .inl b]) [] S := by
    refine qq_fsound hxs (sp_18_ok hxs (d + 0)) [] 300 ?_
    repeat' first | apply And.intro | intro _ | (simp only [qq_tab]) | (simp only [qq_pl])
    all_goals (first | rfl | omega | exact hp.1 | exact hp.2 | exact (zz_pin _).1 | exact (zz_pin _).2 | exact zz_p01 _ | exact Or.inl trivial | exact Or.inr trivial | (have b1 := zz_mbd hp.1; have b2 := zz_mbd hp.2; first | omega | (unfold zz_mdr zz_md; grind)))
  obtain ⟨r, S', hE, e1, e2⟩ := qq_call_of (y := 141) rfl (Nat.le_of_ble_eq_true rfl) h
  rw [e1, e2] at hE
  exact hE
set_option maxRecDepth 20000 in
theorem f142 {xs : List Int32} (hxs : xs.length ≤ 2048) (d : Nat) (S : qq_S) (a : Int) (b : Int) (c : Int) (hp : zz_p (zz_mok S a) = 1 ∧ zz_p (zz_mok S b) = 1 ∧ zz_p (zz_mok S c) = 1) : qq_E xs (d + 11) 142 [.inr (115, none), .inl a, .inl b, .inl c] S (some (zz_side (zz_mx S) (zz_my S) a.toNat b.toNat c.toNat)) (S) := by
  have h : qq_p xs (d + 10) (mm_mr mm_m142) (mm_mk mm_m142) (fun r S' => r = some (zz_side (zz_mx S) (zz_my S) a.toNat b.toNat c.toNat) ∧ S' = S) 0 (qq_ent mm_m142 [.inr (115, none), .inl a, .inl b, .inl c]) [] S := by
    refine qq_fsound hxs (sp_18_ok hxs (d + 0)) [] 300 ?_
    repeat' first | apply And.intro | intro _ | (simp only [qq_tab]) | (simp only [qq_pl])
    all_goals (first | rfl | exact hp.1 | exact hp.2.1 | exact hp.2.2)
  obtain ⟨r, S', hE, e1, e2⟩ := qq_call_of (y := 142) rfl (Nat.le_of_ble_eq_true rfl) h
  rw [e1, e2] at hE
  exact hE
noncomputable def sp_19 : qq_P := fun y as S => match y, as with
  | 139, [.inr (115, none), .inl a, .inl b] => some (zz_p (zz_mok S a) = 1 ∧ zz_p (zz_mok S b) = 1, some (zz_p (zz_str (zz_mx S b.toNat - zz_mx S a.toNat) (zz_my S b.toNat - zz_my S a.toNat))), S)
  | 140, [.inr (115, none), .inl a, .inl b] => some (zz_p (zz_mok S a) = 1 ∧ zz_p (zz_mok S b) = 1, some (zz_ln (zz_mx S) (zz_my S) a.toNat b.toNat), S)
  | 141, [.inr (115, none), .inl a, .inl b] => some (zz_p (zz_mok S a) = 1 ∧ zz_p (zz_mok S b) = 1, some (zz_mdr (zz_mx S) (zz_my S) a.toNat b.toNat), S)
  | 142, [.inr (115, none), .inl a, .inl b, .inl c] => some (zz_p (zz_mok S a) = 1 ∧ zz_p (zz_mok S b) = 1 ∧ zz_p (zz_mok S c) = 1, some (zz_side (zz_mx S) (zz_my S) a.toNat b.toNat c.toNat), S)
  | _, _ => sp_18 y as S
theorem sp_19_ok {xs : List Int32} (hxs : xs.length ≤ 2048) (d : Nat) : qq_ok xs (d + 11) sp_19 := by
  intro y as S pre r S2 h hp
  unfold sp_19 at h
  split at h
  · cases h; exact f139 hxs (d + 0) S _ _ hp
  · cases h; exact f140 hxs (d + 0) S _ _ hp
  · cases h; exact f141 hxs (d + 0) S _ _ hp
  · cases h; exact f142 hxs (d + 0) S _ _ _ hp
  · exact sp_18_ok hxs (d + 1) y as S pre r S2 h hp
set_option maxRecDepth 20000 in
theorem f144 {xs : List Int32} (hxs : xs.length ≤ 2048) (d : Nat) (S : qq_S) (s : Int) (a : Int) (b : Int) (hp : zz_p (zz_mok S s) = 1 ∧ zz_p (zz_mok S a) = 1 ∧ zz_p (zz_mok S b) = 1) : qq_E xs (d + 12) 144 [.inr (115, none), .inl s, .inl a, .inl b] S (some (zz_p (zz_lies (zz_mx S) (zz_my S) s.toNat a.toNat b.toNat))) (S) := by
  have h : qq_p xs (d + 11) (mm_mr mm_m144) (mm_mk mm_m144) (fun r S' => r = some (zz_p (zz_lies (zz_mx S) (zz_my S) s.toNat a.toNat b.toNat)) ∧ S' = S) 0 (qq_ent mm_m144 [.inr (115, none), .inl s, .inl a, .inl b]) [] S := by
    refine qq_fsound hxs (sp_19_ok hxs (d + 0)) [] 300 ?_
    repeat' first | apply And.intro | intro _ | (simp only [qq_tab]) | (simp only [qq_pl])
    all_goals (first | rfl | omega | exact hp.1 | exact hp.2.1 | exact hp.2.2 | exact (zz_pin _).1 | exact (zz_pin _).2 | exact zz_p01 _ | exact Or.inl trivial | exact Or.inr trivial | (have b1 := zz_mbd hp.1; have b2 := zz_mbd hp.2.1; have b3 := zz_mbd hp.2.2; have k := zz_msd hp.2.1 hp.2.2 hp.1; first | omega | ((try simp only [zz_pi0, Classical.not_not] at *); first | exact congrArg some (zz_p1 (by unfold zz_lies; grind)).symm | exact congrArg some (zz_p0 (by unfold zz_lies; grind)).symm)))
  obtain ⟨r, S', hE, e1, e2⟩ := qq_call_of (y := 144) rfl (Nat.le_of_ble_eq_true rfl) h
  rw [e1, e2] at hE
  exact hE
noncomputable def sp_20 : qq_P := fun y as S => match y, as with
  | 144, [.inr (115, none), .inl s, .inl a, .inl b] => some (zz_p (zz_mok S s) = 1 ∧ zz_p (zz_mok S a) = 1 ∧ zz_p (zz_mok S b) = 1, some (zz_p (zz_lies (zz_mx S) (zz_my S) s.toNat a.toNat b.toNat)), S)
  | _, _ => sp_19 y as S
theorem sp_20_ok {xs : List Int32} (hxs : xs.length ≤ 2048) (d : Nat) : qq_ok xs (d + 12) sp_20 := by
  intro y as S pre r S2 h hp
  unfold sp_20 at h
  split at h
  · cases h; exact f144 hxs (d + 0) S _ _ _ hp
  · exact sp_19_ok hxs (d + 1) y as S pre r S2 h hp
set_option maxHeartbeats 4000000 in
set_option maxRecDepth 20000 in
theorem f146 {xs : List Int32} (hxs : xs.length ≤ 2048) (d : Nat) (S : qq_S) (a : Int) (b : Int) (c : Int) (e : Int) (hp : zz_p (zz_mok S a) = 1 ∧ zz_p (zz_mok S b) = 1 ∧ zz_p (zz_mok S c) = 1 ∧ zz_p (zz_mok S e) = 1) : qq_E xs (d + 13) 146 [.inr (115, none), .inl a, .inl b, .inl c, .inl e] S (some (zz_p (zz_meet (zz_mx S) (zz_my S) a.toNat b.toNat c.toNat e.toNat))) (S) := by
  have h : qq_p xs (d + 12) (mm_mr mm_m146) (mm_mk mm_m146) (fun r S' => r = some (zz_p (zz_meet (zz_mx S) (zz_my S) a.toNat b.toNat c.toNat e.toNat)) ∧ S' = S) 0 (qq_ent mm_m146 [.inr (115, none), .inl a, .inl b, .inl c, .inl e]) [] S := by
    refine qq_fsound hxs (sp_20_ok hxs (d + 0)) [] 300 ?_
    repeat' first | apply And.intro | intro _ | (simp only [qq_tab]) | (simp only [qq_pl])
    all_goals (
      first
      | exact hp.1 | exact hp.2.1 | exact hp.2.2.1 | exact hp.2.2.2
      | exact (zz_pin _).1 | exact (zz_pin _).2 | exact zz_p01 _ | exact Or.inl trivial | exact Or.inr trivial
      | (have b1 := zz_mbd hp.1; have b2 := zz_mbd hp.2.1; have b3 := zz_mbd hp.2.2.1; have b4 := zz_mbd hp.2.2.2
         have k1 := zz_msd hp.1 hp.2.1 hp.2.2.1; have k2 := zz_msd hp.1 hp.2.1 hp.2.2.2; have k3 := zz_msd hp.2.2.1 hp.2.2.2 hp.1; have k4 := zz_msd hp.2.2.1 hp.2.2.2 hp.2.1
         first
         | omega
         | exact (zz_sgb _ _).1
         | exact (zz_sgb _ _).2
         | (unfold zz_mdr; have m1 := zz_md_bd; first | (refine ⟨?_, ?_⟩ <;> grind) | grind)
         | (have i1 : (a = c ↔ a.toNat = c.toNat) := (by omega); have i2 : (a = e ↔ a.toNat = e.toNat) := (by omega); have i3 : (b = c ↔ b.toNat = c.toNat) := (by omega); have i4 : (b = e ↔ b.toNat = e.toNat) := (by omega); have i5 : (b = a ↔ b.toNat = a.toNat) := (by omega)
            (try simp only [zz_pi0, Classical.not_not] at *)
            first | exact congrArg some (zz_p1 (by unfold zz_meet; grind)).symm | exact congrArg some (zz_p0 (by unfold zz_meet; grind)).symm)))
  obtain ⟨r, S', hE, e1, e2⟩ := qq_call_of (y := 146) rfl (Nat.le_of_ble_eq_true rfl) h
  rw [e1, e2] at hE
  exact hE
noncomputable def sp_21 : qq_P := fun y as S => match y, as with
  | 146, [.inr (115, none), .inl a, .inl b, .inl c, .inl e] => some (zz_p (zz_mok S a) = 1 ∧ zz_p (zz_mok S b) = 1 ∧ zz_p (zz_mok S c) = 1 ∧ zz_p (zz_mok S e) = 1, some (zz_p (zz_meet (zz_mx S) (zz_my S) a.toNat b.toNat c.toNat e.toNat)), S)
  | _, _ => sp_20 y as S
theorem sp_21_ok {xs : List Int32} (hxs : xs.length ≤ 2048) (d : Nat) : qq_ok xs (d + 13) sp_21 := by
  intro y as S pre r S2 h hp
  unfold sp_21 at h
  split at h
  · cases h; exact f146 hxs (d + 0) S _ _ _ _ hp
  · exact sp_20_ok hxs (d + 1) y as S pre r S2 h hp
