set_option maxRecDepth 20000 in
theorem f42 {xs : List Int32} (hxs : xs.length ≤ 2048) (d : Nat) (S : qq_S) (a : Int) (b : Int) (hp : qq_in a ∧ qq_in b) : qq_E xs (d + 1) 42 [.inl a, .inl b] S (some (zz_half a b)) (S) := by
  have h : qq_p xs (d + 0) (mm_mr mm_m42) (mm_mk mm_m42) (fun r S' => r = some (zz_half a b) ∧ S' = S) 0 (qq_ent mm_m42 [.inl a, .inl b]) [] S := by
    refine qq_fsound hxs (sp_0_ok hxs (d + 0)) [] 200 ?_
    repeat' first | apply And.intro | intro _ | (simp only [qq_tab]) | (simp only [qq_pl])
    all_goals (first | rfl | omega | grind [qq_in, zz_half])
  obtain ⟨r, S', hE, e1, e2⟩ := qq_call_of (y := 42) rfl (Nat.le_of_ble_eq_true rfl) h
  rw [e1, e2] at hE
  exact hE
set_option maxRecDepth 20000 in
theorem f127 {xs : List Int32} (hxs : xs.length ≤ 2048) (d : Nat) (S : qq_S) (a : Int) (b : Int) (hp : (0 ≤ a ∧ a < 10 ∧ 0 ≤ b ∧ b < 10) ∧ (0 ≤ S 116 a.toNat ∧ S 116 a.toNat ≤ 1000) ∧ (0 ≤ S 116 b.toNat ∧ S 116 b.toNat ≤ 1000) ∧ (0 ≤ S 117 a.toNat ∧ S 117 a.toNat ≤ 1000) ∧ (0 ≤ S 117 b.toNat ∧ S 117 b.toNat ≤ 1000)) : qq_E xs (d + 1) 127 [.inr (115, none), .inl a, .inl b] S (some (zz_half (S 116 b.toNat - S 116 a.toNat) (S 117 b.toNat - S 117 a.toNat))) (S) := by
  have h : qq_p xs (d + 0) (mm_mr mm_m127) (mm_mk mm_m127) (fun r S' => r = some (zz_half (S 116 b.toNat - S 116 a.toNat) (S 117 b.toNat - S 117 a.toNat)) ∧ S' = S) 0 (qq_ent mm_m127 [.inr (115, none), .inl a, .inl b]) [] S := by
    refine qq_fsound hxs (sp_0_ok hxs (d + 0)) [] 200 ?_
    repeat' first | apply And.intro | intro _ | (simp only [qq_tab]) | (simp only [qq_pl])
    all_goals (first | rfl | omega | grind [qq_in, zz_half])
  obtain ⟨r, S', hE, e1, e2⟩ := qq_call_of (y := 127) rfl (Nat.le_of_ble_eq_true rfl) h
  rw [e1, e2] at hE
  exact hE
set_option maxRecDepth 20000 in
theorem f90 {xs : List Int32} (hxs : xs.length ≤ 2048) (d : Nat) (S : qq_S) (a : Int) (b : Int) (hp : qq_in a ∧ qq_in b ∧ (0 ≤ S 4 0 ∧ S 4 0 ≤ 10) ∧ (0 ≤ a ∧ a < S 4 0 → 0 ≤ S 25 a.toNat ∧ S 25 a.toNat ≤ 10)) : qq_E xs (d + 4) 90 [.inr (3, none), .inl a, .inl b] S (some (if ¬ (0 ≤ a ∧ a < S 4 0) then -1 else if b = -1 then S 25 a.toNat else if 0 ≤ b ∧ b < S 25 a.toNat then S (26 + 1 + a.toNat) b.toNat else -1)) (S) := by
  have h : qq_p xs (d + 3) (mm_mr mm_m90) (mm_mk mm_m90) (fun r S' => r = some (if ¬ (0 ≤ a ∧ a < S 4 0) then -1 else if b = -1 then S 25 a.toNat else if 0 ≤ b ∧ b < S 25 a.toNat then S (26 + 1 + a.toNat) b.toNat else -1) ∧ S' = S) 0 (qq_ent mm_m90 [.inr (3, none), .inl a, .inl b]) [] S := by
    refine qq_fsound hxs (sp_7_ok hxs (d + 0)) [] 200 ?_
    repeat' first | apply And.intro | intro _ | (simp only [qq_tab]) | (simp only [qq_pl])
    all_goals (first | rfl | omega | grind [qq_in, zz_b])
  obtain ⟨r, S', hE, e1, e2⟩ := qq_call_of (y := 90) rfl (Nat.le_of_ble_eq_true rfl) h
  rw [e1, e2] at hE
  exact hE
