/-! better of the class: makeBestChange, fifty times at most. -/
theorem zz_ci_bd {S : qq_S} {s n w : Nat} {t : Int × Int × Int} (hs : s < n) : ∀ p : Nat, p ≤ w → (0 ≤ t.1 ∧ -1 ≤ t.2.1 ∧ t.2.1 < n ∧ (t.2.1 = -1 ∨ (0 ≤ t.2.2 ∧ t.2.2 < w))) → (0 ≤ (zz_ci S s t p).1 ∧ -1 ≤ (zz_ci S s t p).2.1 ∧ (zz_ci S s t p).2.1 < n ∧ ((zz_ci S s t p).2.1 = -1 ∨ (0 ≤ (zz_ci S s t p).2.2 ∧ (zz_ci S s t p).2.2 < w)))
  | 0, _, h => h
  | p + 1, hp, h => by
    have ih := zz_ci_bd (S := S) hs p (by omega) h
    unfold zz_ci
    split
    · rename_i c
      refine ⟨by show 0 ≤ zz_gn S s p; omega, by show -1 ≤ (s : Int); omega, by show (s : Int) < n; omega, Or.inr ⟨by show 0 ≤ (p : Int); omega, by show (p : Int) < w; omega⟩⟩
    · exact ih
theorem zz_co_bd {S : qq_S} {n : Nat} : ∀ s : Nat, s ≤ n → (0 ≤ (zz_co S s).1 ∧ -1 ≤ (zz_co S s).2.1 ∧ (zz_co S s).2.1 < n ∧ ((zz_co S s).2.1 = -1 ∨ (0 ≤ (zz_co S s).2.2 ∧ (zz_co S s).2.2 < (S 48 0 * S 48 1).toNat)))
  | 0, _ => ⟨by show (0 : Int) ≤ 0; omega, by show (-1 : Int) ≤ -1; omega, by show (-1 : Int) < n; omega, Or.inl rfl⟩
  | s + 1, hs => by
    have ih := zz_co_bd (S := S) (n := n) s (by omega)
    unfold zz_co
    split
    · exact ih
    · exact zz_ci_bd (by omega) _ (Nat.le_refl _) ih
theorem zz_mv_gp {S : qq_S} (h : zz_gp S) {s : Nat} {p : Int} (hp : 0 ≤ p ∧ p < S 48 0 * S 48 1) : zz_gp (zz_mv S s p) := by
  have e4 : zz_mv S s p 4 = S 4 := zz_mv_ne (by omega)
  have e48 : zz_mv S s p 48 = S 48 := zz_mv_ne (by omega)
  have e51 : zz_mv S s p 51 = S 51 := zz_mv_ne (by omega)
  have e52 : zz_mv S s p 52 = S 52 := zz_mv_ne (by omega)
  have m1 := Int.emod_nonneg p (show S 48 0 ≠ 0 by have := h.1; omega)
  have m2 := Int.emod_lt_of_pos p (show 0 < S 48 0 by have := h.1; omega)
  have d1 := Int.ediv_nonneg hp.1 (show 0 ≤ S 48 0 by have := h.1; omega)
  have d2 : p / S 48 0 < S 48 1 := Int.ediv_lt_of_lt_mul (by have := h.1; omega) (by rw [Int.mul_comm]; exact hp.2)
  unfold zz_gp
  rw [e4, e48, e51, e52]
  refine ⟨h.1, h.2.1, h.2.2.1, fun t ht => ?_⟩
  have l := zz_mv_at (S := S) (s := s) (t := t) (p := p)
  have q := h.2.2.2 t ht
  rw [l.1, l.2]
  split
  · exact ⟨m1, m2, d1, d2⟩
  · exact q
theorem zz_mbc_or {S : qq_S} (h1 : zz_nb S) (h : zz_gp S) : zz_mbc S = S ∨ ∃ (s : Nat) (p : Int), (s : Int) < S 4 0 ∧ 0 ≤ p ∧ p < S 48 0 * S 48 1 ∧ zz_mbc S = zz_mv S s p := by
  have n0 := h1.1
  have b := zz_co_bd (S := S) (n := (S 4 0).toNat) (S 4 0).toNat (Nat.le_refl _)
  have gw := h.1
  have whb := zz_mb2 (show 0 ≤ S 48 0 ∧ S 48 0 ≤ 8 by omega) (show 0 ≤ S 48 1 ∧ S 48 1 ≤ 8 by omega)
  unfold zz_mbc
  split
  · exact Or.inl rfl
  · exact Or.inr ⟨_, _, by omega, by omega, by omega, rfl⟩
theorem zz_mbc_ok {S : qq_S} (h1 : zz_nb S) (h2 : zz_pl (S 49) (S 50)) (h3 : zz_gp S) : zz_nb (zz_mbc S) ∧ zz_pl (zz_mbc S 49) (zz_mbc S 50) ∧ zz_gp (zz_mbc S) := by
  rcases zz_mbc_or h1 h3 with e | ⟨s, p, hs, hp0, hp1, e⟩
  · rw [e]; exact ⟨h1, h2, h3⟩
  · rw [e]
    exact ⟨zz_nb_of h1 (fun c c1 c2 => zz_mv_ne (by omega)), zz_mv_pl h2 h3 ⟨hp0, hp1⟩, zz_mv_gp h3 ⟨hp0, hp1⟩⟩
noncomputable def zz_bt : Nat → qq_S → Int × qq_S
  | 0, S => (0, S)
  | k + 1, S => if (zz_co S (S 4 0).toNat).2.1 = -1 then (0, S) else ((zz_bt k (zz_mbc S)).1 + 1, (zz_bt k (zz_mbc S)).2)
theorem zz_bt_no {k : Nat} {S : qq_S} (h : (zz_co S (S 4 0).toNat).2.1 = -1) : zz_bt (k + 1) S = (0, S) := if_pos h
theorem zz_bt_yes {k : Nat} {S : qq_S} (h : ¬ (zz_co S (S 4 0).toNat).2.1 = -1) : zz_bt (k + 1) S = ((zz_bt k (zz_mbc S)).1 + 1, (zz_bt k (zz_mbc S)).2) := if_neg h
theorem zz_bt_bd : ∀ (k : Nat) (S : qq_S), 0 ≤ (zz_bt k S).1 ∧ (zz_bt k S).1 ≤ k
  | 0, S => by simp [zz_bt]
  | k + 1, S => by
    have ih := zz_bt_bd k (zz_mbc S)
    unfold zz_bt
    split
    · show 0 ≤ (0 : Int) ∧ (0 : Int) ≤ _; omega
    · show 0 ≤ (zz_bt k (zz_mbc S)).1 + 1 ∧ (zz_bt k (zz_mbc S)).1 + 1 ≤ _; omega
noncomputable def sp_61 : qq_P := fun y as S => match y, as with
  | 112, [.inr (3, none)] => some (zz_p (zz_nb S) = 1 ∧ zz_p (zz_pl (S 49) (S 50)) = 1 ∧ zz_p (zz_gp S) = 1, some (if (zz_co S (S 4 0).toNat).2.1 = -1 then 0 else 1), zz_mbc S)
  | _, _ => sp_60 y as S
theorem sp_61_ok {xs : List Int32} (hxs : xs.length ≤ 2048) (d : Nat) : qq_ok xs (d + 21) sp_61 := by
  intro y as S pre r S2 h hp
  unfold sp_61 at h
  split at h
  · cases h; exact f112 hxs (d + 0) S hp
  · exact sp_60_ok hxs (d + 1) y as S pre r S2 h hp
set_option maxRecDepth 20000 in
theorem f100 {xs : List Int32} (hxs : xs.length ≤ 2048) (d : Nat) (S : qq_S) (hp : zz_p (zz_nb S) = 1 ∧ zz_p (zz_pl (S 49) (S 50)) = 1 ∧ qq_in (S 52 3) ∧ zz_p ((zz_vC S).1 = 0 → zz_gp (zz_eC S)) = 1) : qq_E xs (d + 22) 100 [.inr (3, none)] S (some (if (zz_vC S).1 = 0 then (zz_bt 50 (zz_eC S)).1 else -6)) (if (zz_vC S).1 = 0 then qq_u (zz_bt 50 (zz_eC S)).2 3 9 0 else qq_u (zz_eC S) 3 9 (-6)) := by
  have g1 := zz_pi1.mp hp.1
  have g2 := zz_pi1.mp hp.2.1
  have g3 := zz_pi1.mp hp.2.2.2
  have n0 := g1.1
  have x49 := zz_eC_ne S (show 49 ≠ 53 by decide)
  have x50 := zz_eC_ne S (show 50 ≠ 53 by decide)
  have pb : zz_nb (zz_eC S) := zz_eC_nb g1
  have pl : zz_pl (zz_eC S 49) (zz_eC S 50) := by rw [x49, x50]; exact g2
  have L : ∀ (k9 : Nat) (c : Int) (T : qq_S), 50 - c < (k9 : Int) → (0 ≤ c ∧ c ≤ 50) → (zz_nb T) → (zz_pl (T 49) (T 50)) → (zz_gp T) → ((zz_vC S).1 = 0) → (c + (zz_bt (50 - c).toNat T).1 = (zz_bt 50 (zz_eC S)).1) → ((zz_bt (50 - c).toNat T).2 = (zz_bt 50 (zz_eC S)).2) → qq_p xs (d + 21) (mm_mr mm_m100) (mm_mk mm_m100) (fun r S' => r = some (if (zz_vC S).1 = 0 then (zz_bt 50 (zz_eC S)).1 else -6) ∧ S' = if (zz_vC S).1 = 0 then qq_u (zz_bt 50 (zz_eC S)).2 3 9 0 else qq_u (zz_eC S) 3 9 (-6)) 19 [some (.inr (3, none)), some (.inl c)] [] (T) := by
    intro k9
    induction k9 with
    | zero =>
      intro c T hm h1 h2 h3 h4 cv h5 h6
      exfalso
      omega
    | succ k9 ih =>
      intro c T hm h1 h2 h3 h4 cv h5 h6
      refine qq_fsound hxs (sp_61_ok hxs (d + 0)) [19] 300 ?_
      repeat' first | apply And.intro | intro _ | (simp only [qq_tab]) | (simp only [qq_pl])
      all_goals (
        (have ok := zz_mbc_ok h2 h3 h4
         first
         | omega
         | exact zz_p1 h2
         | exact zz_p1 h3
         | exact zz_p1 h4
         | (have ec : (50 - c).toNat = 0 := by omega
            rw [ec] at h5 h6
            have h5 : c + 0 = (zz_bt 50 (zz_eC S)).1 := h5
            have h6 : T = (zz_bt 50 (zz_eC S)).2 := h6
            first
            | (rw [if_pos cv, ← h5, Int.add_zero]; done)
            | (rw [if_pos cv, ← h6]; done))
         | (have ec : (50 - c).toNat = (49 - c).toNat + 1 := by omega
            by_cases cz : (zz_co T (T 4 0).toNat).2.1 = -1
            · rw [ec, zz_bt_no cz] at h5 h6
              have h5 : c + 0 = (zz_bt 50 (zz_eC S)).1 := h5
              have h6 : T = (zz_bt 50 (zz_eC S)).2 := h6
              have em : zz_mbc T = T := by unfold zz_mbc; rw [if_pos cz]
              first
              | (rw [if_pos cv, ← h5, Int.add_zero]; done)
              | (rw [if_pos cv, ← h6, em]; done)
              | (rw [if_pos cz]; omega)
              | (rename_i z; rw [if_pos cz] at z; exact absurd rfl z)
              | (rename_i z _ ; rw [if_pos cz] at z; exact absurd rfl z)
            · rw [ec, zz_bt_yes cz] at h5 h6
              first
              | (rw [if_neg cz]; omega)
              | (rename_i z; rw [if_neg cz] at z; exact absurd z (by decide))
              | (rename_i z _; rw [if_neg cz] at z; exact absurd z (by decide))
              | exact ih (c + 1) _ (by omega) (by omega) ok.1 ok.2.1 ok.2.2 cv (by rw [show (50 - (c + 1)).toNat = (49 - c).toNat by omega]; have h5 : c + ((zz_bt (49 - c).toNat (zz_mbc T)).1 + 1) = (zz_bt 50 (zz_eC S)).1 := h5; omega) (by rw [show (50 - (c + 1)).toNat = (49 - c).toNat by omega]; exact h6))))
  have h : qq_p xs (d + 21) (mm_mr mm_m100) (mm_mk mm_m100) (fun r S' => r = some (if (zz_vC S).1 = 0 then (zz_bt 50 (zz_eC S)).1 else -6) ∧ S' = if (zz_vC S).1 = 0 then qq_u (zz_bt 50 (zz_eC S)).2 3 9 0 else qq_u (zz_eC S) 3 9 (-6)) 0 (qq_ent mm_m100 [.inr (3, none)]) [] S := by
    refine qq_fsound hxs (sp_61_ok hxs (d + 0)) [19] 300 ?_
    repeat' first | apply And.intro | intro _ | (simp only [qq_tab]) | (simp only [qq_pl])
    all_goals (
      first
      | omega
      | exact hp.1
      | exact hp.2.1
      | exact hp.2.2.1.1
      | exact hp.2.2.1.2
      | exact (zz_pin _).1
      | exact (zz_pin _).2
      | (have cv : ¬ (zz_vC S).1 = 0 := zz_pi0.mp (by assumption)
         first
         | (rw [if_neg cv]; done))
      | (have cv : (zz_vC S).1 = 0 := Classical.not_not.mp (fun z => absurd (zz_pi0.mpr z) (by assumption))
         exact L 51 0 _ (by omega) (by omega) pb pl (g3 cv) cv (by show 0 + (zz_bt 50 (zz_eC S)).1 = _; omega) rfl))
  obtain ⟨r, S', hE, e1, e2⟩ := qq_call_of (y := 100) rfl (Nat.le_of_ble_eq_true rfl) h
  rw [e1, e2] at hE
  exact hE
