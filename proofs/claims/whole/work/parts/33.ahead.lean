/-- 1 where the step xa, ya comes ahead of xb, yb (of numbers a, b) -/
def zz_ah (xa ya xb yb a b : Int) : Int := if zz_half xa ya = zz_half xb yb then (if xa * yb - ya * xb = 0 then (if a < b then 1 else 0) else if 0 < xa * yb - ya * xb then 1 else 0) else if zz_half xa ya < zz_half xb yb then 1 else 0
theorem zz_mb {x y : Int} (hx : -1000 ≤ x ∧ x ≤ 1000) (hy : -1000 ≤ y ∧ y ≤ 1000) : -1000000 ≤ x * y ∧ x * y ≤ 1000000 := by
  have h : (x * y).natAbs ≤ 1000000 := by
    rw [Int.natAbs_mul]
    exact Nat.mul_le_mul (show x.natAbs ≤ 1000 by omega) (show y.natAbs ≤ 1000 by omega)
  omega
theorem zz_hb (x y : Int) : zz_half x y = 0 ∨ zz_half x y = 1 := by
  unfold zz_half
  split <;> simp
def sp_10 : qq_P := fun y as S => match y, as with
  | 42, [.inl a, .inl b] => some (qq_in a ∧ qq_in b, some (zz_half a b), S)
  | 127, [.inr (115, none), .inl a, .inl b] => some ((0 ≤ a ∧ a < 10 ∧ 0 ≤ b ∧ b < 10) ∧ (0 ≤ S 116 a.toNat ∧ S 116 a.toNat ≤ 1000) ∧ (0 ≤ S 116 b.toNat ∧ S 116 b.toNat ≤ 1000) ∧ (0 ≤ S 117 a.toNat ∧ S 117 a.toNat ≤ 1000) ∧ (0 ≤ S 117 b.toNat ∧ S 117 b.toNat ≤ 1000), some (zz_half (S 116 b.toNat - S 116 a.toNat) (S 117 b.toNat - S 117 a.toNat)), S)
  | _, _ => sp_9 y as S
theorem sp_10_ok {xs : List Int32} (hxs : xs.length ≤ 2048) (d : Nat) : qq_ok xs (d + 4) sp_10 := by
  intro y as S pre r S2 h hp
  unfold sp_10 at h
  split at h
  · cases h; exact f42 hxs (d + 3) S _ _ hp
  · cases h; exact f127 hxs (d + 3) S _ _ hp
  · exact sp_9_ok hxs (d + 0) y as S pre r S2 h hp
set_option maxRecDepth 20000 in
theorem f41 {xs : List Int32} (hxs : xs.length ≤ 2048) (d : Nat) (S : qq_S) (s : Int) (a : Int) (b : Int) (hp : (0 ≤ s ∧ s < 10 ∧ 0 ≤ a ∧ a < 10 ∧ 0 ≤ b ∧ b < 10) ∧ (0 ≤ S 5 s.toNat ∧ S 5 s.toNat ≤ 1000) ∧ (0 ≤ S 5 a.toNat ∧ S 5 a.toNat ≤ 1000) ∧ (0 ≤ S 5 b.toNat ∧ S 5 b.toNat ≤ 1000) ∧ (0 ≤ S 6 s.toNat ∧ S 6 s.toNat ≤ 1000) ∧ (0 ≤ S 6 a.toNat ∧ S 6 a.toNat ≤ 1000) ∧ (0 ≤ S 6 b.toNat ∧ S 6 b.toNat ≤ 1000)) : qq_E xs (d + 5) 41 [.inr (4, none), .inl s, .inl a, .inl b] S (some (zz_ah (S 5 a.toNat - S 5 s.toNat) (S 6 a.toNat - S 6 s.toNat) (S 5 b.toNat - S 5 s.toNat) (S 6 b.toNat - S 6 s.toNat) a b)) (S) := by
  have h : qq_p xs (d + 4) (mm_mr mm_m41) (mm_mk mm_m41) (fun r S' => r = some (zz_ah (S 5 a.toNat - S 5 s.toNat) (S 6 a.toNat - S 6 s.toNat) (S 5 b.toNat - S 5 s.toNat) (S 6 b.toNat - S 6 s.toNat) a b) ∧ S' = S) 0 (qq_ent mm_m41 [.inr (4, none), .inl s, .inl a, .inl b]) [] S := by
    refine qq_fsound hxs (sp_10_ok hxs (d + 0)) [] 200 ?_
    repeat' first | apply And.intro | intro _ | (simp only [qq_tab]) | (simp only [qq_pl])
    all_goals (first | rfl | omega | exact Or.inl trivial | exact Or.inr trivial | (have m1 := zz_mb (x := S 5 a.toNat - S 5 s.toNat) (y := S 6 b.toNat - S 6 s.toNat) (by omega) (by omega); have m2 := zz_mb (x := S 6 a.toNat - S 6 s.toNat) (y := S 5 b.toNat - S 5 s.toNat) (by omega) (by omega); have b1 := zz_hb (S 5 a.toNat - S 5 s.toNat) (S 6 a.toNat - S 6 s.toNat); have b2 := zz_hb (S 5 b.toNat - S 5 s.toNat) (S 6 b.toNat - S 6 s.toNat); first | omega | (unfold zz_ah; grind)))
  obtain ⟨r, S', hE, e1, e2⟩ := qq_call_of (y := 41) rfl (Nat.le_of_ble_eq_true rfl) h
  rw [e1, e2] at hE
  exact hE
set_option maxRecDepth 20000 in
theorem f128 {xs : List Int32} (hxs : xs.length ≤ 2048) (d : Nat) (S : qq_S) (s : Int) (a : Int) (b : Int) (hp : (0 ≤ s ∧ s < 10 ∧ 0 ≤ a ∧ a < 10 ∧ 0 ≤ b ∧ b < 10) ∧ (0 ≤ S 116 s.toNat ∧ S 116 s.toNat ≤ 1000) ∧ (0 ≤ S 116 a.toNat ∧ S 116 a.toNat ≤ 1000) ∧ (0 ≤ S 116 b.toNat ∧ S 116 b.toNat ≤ 1000) ∧ (0 ≤ S 117 s.toNat ∧ S 117 s.toNat ≤ 1000) ∧ (0 ≤ S 117 a.toNat ∧ S 117 a.toNat ≤ 1000) ∧ (0 ≤ S 117 b.toNat ∧ S 117 b.toNat ≤ 1000)) : qq_E xs (d + 5) 128 [.inr (115, none), .inl s, .inl a, .inl b] S (some (zz_ah (S 116 a.toNat - S 116 s.toNat) (S 117 a.toNat - S 117 s.toNat) (S 116 b.toNat - S 116 s.toNat) (S 117 b.toNat - S 117 s.toNat) a b)) (S) := by
  have h : qq_p xs (d + 4) (mm_mr mm_m128) (mm_mk mm_m128) (fun r S' => r = some (zz_ah (S 116 a.toNat - S 116 s.toNat) (S 117 a.toNat - S 117 s.toNat) (S 116 b.toNat - S 116 s.toNat) (S 117 b.toNat - S 117 s.toNat) a b) ∧ S' = S) 0 (qq_ent mm_m128 [.inr (115, none), .inl s, .inl a, .inl b]) [] S := by
    refine qq_fsound hxs (sp_10_ok hxs (d + 0)) [] 200 ?_
    repeat' first | apply And.intro | intro _ | (simp only [qq_tab]) | (simp only [qq_pl])
    all_goals (first | rfl | omega | exact Or.inl trivial | exact Or.inr trivial | (have m1 := zz_mb (x := S 116 a.toNat - S 116 s.toNat) (y := S 117 b.toNat - S 117 s.toNat) (by omega) (by omega); have m2 := zz_mb (x := S 117 a.toNat - S 117 s.toNat) (y := S 116 b.toNat - S 116 s.toNat) (by omega) (by omega); have b1 := zz_hb (S 116 a.toNat - S 116 s.toNat) (S 117 a.toNat - S 117 s.toNat); have b2 := zz_hb (S 116 b.toNat - S 116 s.toNat) (S 117 b.toNat - S 117 s.toNat); first | omega | (unfold zz_ah; grind)))
  obtain ⟨r, S', hE, e1, e2⟩ := qq_call_of (y := 128) rfl (Nat.le_of_ble_eq_true rfl) h
  rw [e1, e2] at hE
  exact hE
