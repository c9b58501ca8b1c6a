/-! keep, flushPoints, openPoints, passedPoints. -/
/-- the point of a station on the trial -/
def yy_wh (S : qq_S) (t : Nat) : Int := if S 57 t = -1 then -1 else S 58 t * S 56 0 + S 57 t
def yy_kp (S : qq_S) (c : Int) (T : qq_S) : Prop := (∀ a : Nat, ¬ a = 55 → ¬ a = 88 → T a = S a) ∧ (∀ j : Nat, ¬ j = 13 → T 55 j = S 55 j) ∧ T 55 13 = c ∧ (∀ t : Nat, (t : Int) < S 4 0 → T 88 t = yy_wh S t)
set_option maxRecDepth 20000 in
theorem f79 {xs : List Int32} (hxs : xs.length ≤ 2048) (d : Nat) (S : qq_S) (c : Int) (hp : (qq_in c ∧ qq_in (S 55 14)) ∧ zz_p (zz_nb S) = 1 ∧ zz_p (zz_pl (S 57) (S 58)) = 1) : ∃ S2, qq_E xs (d + 8) 79 [.inr (55, none), .inl c] S (some (if c ≤ S 55 14 then 1 else 0)) S2 ∧ yy_kp S c S2 := by
  have g1 := zz_pi1.mp hp.2.1
  have g2 := zz_pi1.mp hp.2.2
  have n0 := g1.1
  have L : ∀ (k9 : Nat) (s : Int) (T : qq_S), S 4 0 - s < (k9 : Int) → (0 ≤ s ∧ s ≤ S 4 0) → ((∀ a : Nat, ¬ a = 55 → ¬ a = 88 → T a = S a) ∧ (∀ j : Nat, ¬ j = 13 → T 55 j = S 55 j) ∧ T 55 13 = c ∧ (∀ t : Nat, (t : Int) < s → T 88 t = yy_wh S t)) → qq_p xs (d + 7) (mm_mr mm_m79) (mm_mk mm_m79) (fun r S2 => r = some (if c ≤ S 55 14 then 1 else 0) ∧ zz_p (yy_kp S c S2) = 1) 7 [some (.inr (55, none)), some (.inl c), some (.inl s)] [] (T) := by
    intro k9
    induction k9 with
    | zero =>
      intro s T hm h1 h2
      exfalso
      omega
    | succ k9 ih =>
      intro s T hm h1 h2
      refine qq_fsound hxs (sp_14_ok hxs (d + 0)) [7] 300 ?_
      repeat' first | apply And.intro | intro _ | (simp only [qq_tab]) | (simp only [qq_pl])
      all_goals (
        (obtain ⟨q1, q2, q3, q4⟩ := h2
         have t40 : T 4 0 = S 4 0 := by rw [q1 4 (by omega) (by omega)]
         have t57 : T 57 = S 57 := q1 57 (by omega) (by omega)
         have t58 : T 58 = S 58 := q1 58 (by omega) (by omega)
         have t56 : T 56 = S 56 := q1 56 (by omega) (by omega)
         have t14 : T 55 14 = S 55 14 := q2 14 (by omega)
         first
         | omega
         | exact Or.inl trivial
         | exact Or.inr trivial
         | (rw [q3]; exact hp.1.1.1)
         | (rw [q3]; exact hp.1.1.2)
         | (rw [t14]; exact hp.1.2.1)
         | (rw [t14]; exact hp.1.2.2)
         | (have es : s = S 4 0 := by omega
            subst es
            first
            | (rw [if_pos (by omega)]; done)
            | (rw [if_neg (by omega)]; done)
            | exact zz_p1 ⟨q1, q2, q3, q4⟩)
         | (have gp := g2 s.toNat (by omega)
            have gq : T 57 s.toNat = S 57 s.toNat := by rw [t57]
            first
            | omega
            | (refine ih (s + 1) _ (by omega) (by omega) ⟨fun a h8 h9 => ?_, fun j hj => ?_, ?_, fun t ht => ?_⟩
               · rw [qq_ueq h9]; exact q1 a h8 h9
               · rw [qq_ueq (by omega)]; exact q2 j hj
               · rw [qq_ueq (by omega)]; exact q3
               · rw [qq_uat]
                 split
                 · rename_i e
                   rw [e]
                   unfold yy_wh
                   rw [t57, t58, t56]
                 · exact q4 t (by omega))
            | skip)
         | skip))
  have h : qq_p xs (d + 7) (mm_mr mm_m79) (mm_mk mm_m79) (fun r S2 => r = some (if c ≤ S 55 14 then 1 else 0) ∧ zz_p (yy_kp S c S2) = 1) 0 (qq_ent mm_m79 [.inr (55, none), .inl c]) [] S := by
    refine qq_fsound hxs (sp_14_ok hxs (d + 0)) [7] 300 ?_
    repeat' first | apply And.intro | intro _ | (simp only [qq_tab]) | (simp only [qq_pl])
    all_goals (
      first
      | omega
      | exact L (S 4 0 + 1).toNat 0 _ (by omega) (by omega) ⟨fun a h8 h9 => qq_ueq h8, fun j hj => by rw [qq_uat, if_neg hj], by rw [qq_uat, if_pos rfl], fun t ht => by omega⟩
      | skip)
  obtain ⟨r, S2, hE, e1, e2⟩ := qq_call_of (y := 79) rfl (Nat.le_of_ble_eq_true rfl) h
  rw [e1] at hE
  exact ⟨S2, hE, zz_pi1.mp e2⟩
def yy_left (w : Int) : Nat → Int
  | 0 => 0
  | y + 1 => qq_or (yy_left w y) (qq_shl 1 (y * w))
theorem yy_or01 : qq_or 0 0 = 0 ∧ qq_or 0 1 = 1 ∧ qq_or 1 0 = 1 ∧ qq_or 1 1 = 1 := by decide +kernel
/-- where the last station must stand -/
noncomputable def yy_fl (S : qq_S) : Int := qq_and (if zz_p (∃ t : Nat, (t : Int) < S 4 0 ∧ S 57 t = 0) = 0 then yy_left (S 56 0) (S 56 1).toNat else -1) (if zz_p (∃ t : Nat, (t : Int) < S 4 0 ∧ S 58 t = 0) = 0 then qq_shl 1 (S 56 0) - 1 else -1)
theorem yy_ex_s {X : Nat → Int} {s : Int} (h : 0 ≤ s) : (∃ t : Nat, (t : Int) < s + 1 ∧ X t = 0) ↔ (∃ t : Nat, (t : Int) < s ∧ X t = 0) ∨ X s.toNat = 0 := by
  constructor
  · rintro ⟨t, h1, h2⟩
    by_cases e : t = s.toNat
    · rw [e] at h2; exact Or.inr h2
    · exact Or.inl ⟨t, by omega, h2⟩
  · rintro (⟨t, h1, h2⟩ | h2)
    · exact ⟨t, by omega, h2⟩
    · exact ⟨s.toNat, by omega, h2⟩
theorem yy_or_s {X : Nat → Int} {s l : Int} (h : 0 ≤ s) (hl : l = zz_p (∃ t : Nat, (t : Int) < s ∧ X t = 0)) : (X s.toNat = 0 → qq_or l 1 = zz_p (∃ t : Nat, (t : Int) < s + 1 ∧ X t = 0)) ∧ (¬ X s.toNat = 0 → qq_or l 0 = zz_p (∃ t : Nat, (t : Int) < s + 1 ∧ X t = 0)) := by
  have o := yy_or01
  rw [zz_pc (yy_ex_s (X := X) h), hl]
  constructor
  · intro c
    rw [zz_p1 (Or.inr c)]
    rcases zz_p01 (∃ t : Nat, (t : Int) < s ∧ X t = 0) with z | z <;> rw [z]
    · exact o.2.1
    · exact o.2.2.2
  · intro c
    rw [zz_pc (q := ∃ t : Nat, (t : Int) < s ∧ X t = 0) ⟨fun z => z.elim id (fun y => absurd y c), Or.inl⟩]
    rcases zz_p01 (∃ t : Nat, (t : Int) < s ∧ X t = 0) with z | z <;> rw [z]
    · exact o.1
    · exact o.2.2.1
set_option maxRecDepth 20000 in
theorem f81 {xs : List Int32} (hxs : xs.length ≤ 2048) (d : Nat) (S : qq_S) (hp : (2 ≤ S 56 0 ∧ S 56 0 ≤ 8 ∧ 2 ≤ S 56 1 ∧ S 56 1 ≤ 8) ∧ zz_p (zz_nb S) = 1 ∧ zz_p (zz_pl (S 57) (S 58)) = 1) : qq_E xs (d + 8) 81 [.inr (55, none)] S (some (yy_fl S)) (S) := by
  have g1 := zz_pi1.mp hp.2.1
  have g2 := zz_pi1.mp hp.2.2
  have n0 := g1.1
  have L2 : ∀ (k9 : Nat) (l t m y : Int), S 56 1 - y < (k9 : Int) → (0 ≤ y ∧ y ≤ S 56 1) → (l = zz_p (∃ t : Nat, (t : Int) < S 4 0 ∧ S 57 t = 0)) → (t = zz_p (∃ t : Nat, (t : Int) < S 4 0 ∧ S 58 t = 0)) → (m = yy_left (S 56 0) y.toNat) → qq_p xs (d + 7) (mm_mr mm_m81) (mm_mk mm_m81) (fun r S' => r = some (yy_fl S) ∧ S' = S) 68 [some (.inr (55, none)), some (.inl l), some (.inl t), some (.inl m), some (.inl y)] [] (S) := by
    intro k9
    induction k9 with
    | zero =>
      intro l t m y hm h1 h2 h3 h4
      exfalso
      omega
    | succ k9 ih =>
      intro l t m y hm h1 h2 h3 h4
      refine qq_fsound hxs (sp_14_ok hxs (d + 0)) [68, 6] 300 ?_
      repeat' first | apply And.intro | intro _ | (simp only [qq_tab]) | (simp only [qq_pl])
      all_goals (
        (have l01 := zz_p01 (∃ t : Nat, (t : Int) < S 4 0 ∧ S 57 t = 0)
         have t01 := zz_p01 (∃ t : Nat, (t : Int) < S 4 0 ∧ S 58 t = 0)
         first
         | omega
         | (have ey : y = S 56 1 := by omega
            subst ey
            unfold yy_fl
            rw [← h2, ← h3, ← h4]
            first
            | (rw [if_pos (by assumption), if_pos (by assumption)]; done)
            | (rw [if_neg (by assumption), if_pos (by assumption)]; done)
            | (rw [if_pos (by assumption), if_neg (by assumption)]; done)
            | (rw [if_neg (by assumption), if_neg (by assumption)]; done))
         | (refine ih l t _ (y + 1) (by omega) (by omega) h2 h3 ?_
            rw [show (y + 1).toNat = y.toNat + 1 by omega]
            show _ = qq_or (yy_left (S 56 0) y.toNat) (qq_shl 1 ((y.toNat : Int) * S 56 0))
            rw [← h4, show ((y.toNat : Nat) : Int) = y by omega])
         | skip))
  have L1 : ∀ (k9 : Nat) (s l t : Int) (u4 : Option qq_V), S 4 0 - s < (k9 : Int) → (0 ≤ s ∧ s ≤ S 4 0) → (l = zz_p (∃ t : Nat, (t : Int) < s ∧ S 57 t = 0)) → (t = zz_p (∃ t : Nat, (t : Int) < s ∧ S 58 t = 0)) → qq_p xs (d + 7) (mm_mr mm_m81) (mm_mk mm_m81) (fun r S' => r = some (yy_fl S) ∧ S' = S) 6 [some (.inr (55, none)), some (.inl l), some (.inl t), some (.inl s), u4] [] (S) := by
    intro k9
    induction k9 with
    | zero =>
      intro s l t u4 hm h1 h2 h3
      exfalso
      omega
    | succ k9 ih =>
      intro s l t u4 hm h1 h2 h3
      refine qq_fsound hxs (sp_14_ok hxs (d + 0)) [68, 6] 300 ?_
      repeat' first | apply And.intro | intro _ | (simp only [qq_tab]) | (simp only [qq_pl])
      all_goals (
        (have l01 := zz_p01 (∃ t : Nat, (t : Int) < s ∧ S 57 t = 0)
         have t01 := zz_p01 (∃ t : Nat, (t : Int) < s ∧ S 58 t = 0)
         first
         | omega
         | exact L2 (S 56 1 + 1).toNat l t 0 0 (by omega) (by omega) (by rw [h2, show s = S 4 0 by omega]) (by rw [h3, show s = S 4 0 by omega]) rfl
         | (have gp := g2 s.toNat (by omega)
            have k1 := yy_or_s h1.1 h2
            have k2 := yy_or_s h1.1 h3
            first
            | omega
            | exact ih (s + 1) _ _ _ (by omega) (by omega) (k1.1 (by assumption)) (k2.1 (by assumption))
            | exact ih (s + 1) _ _ _ (by omega) (by omega) (k1.2 (by assumption)) (k2.1 (by assumption))
            | exact ih (s + 1) _ _ _ (by omega) (by omega) (k1.1 (by assumption)) (k2.2 (by assumption))
            | exact ih (s + 1) _ _ _ (by omega) (by omega) (k1.2 (by assumption)) (k2.2 (by assumption)))
         | skip))
  have h : qq_p xs (d + 7) (mm_mr mm_m81) (mm_mk mm_m81) (fun r S' => r = some (yy_fl S) ∧ S' = S) 0 (qq_ent mm_m81 [.inr (55, none)]) [] S := by
    refine qq_fsound hxs (sp_14_ok hxs (d + 0)) [68, 6] 300 ?_
    repeat' first | apply And.intro | intro _ | (simp only [qq_tab]) | (simp only [qq_pl])
    all_goals (
      first
      | omega
      | exact L1 (S 4 0 + 1).toNat 0 0 0 _ (by omega) (by omega) (by rw [zz_p0 (fun ⟨m, h8, _⟩ => by omega)]) (by rw [zz_p0 (fun ⟨m, h8, _⟩ => by omega)])
      | skip)
  obtain ⟨r, S', hE, e1, e2⟩ := qq_call_of (y := 81) rfl (Nat.le_of_ble_eq_true rfl) h
  rw [e1, e2] at hE
  exact hE
