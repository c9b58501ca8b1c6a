theorem f48p {xs : List Int32} (hxs : xs.length ≤ 2048) (d : Nat) (S : qq_S) (a : Int) (p : Int) (hp : (0 ≤ a ∧ a < 10 ∧ 0 ≤ p ∧ p ≤ 1000) ∧ 1 ≤ S 48 0 ∧ S 48 0 ≤ 8) : qq_E xs (d + 1) 48 [.inr (48, none), .inl a, .inl p] S none (zz_mv S a.toNat p) := by
  have h := f48_48 hxs d S a p ⟨by omega, by omega, by unfold qq_in; omega, by omega, by omega⟩
  rw [if_neg (by omega)] at h
  exact h
theorem zz_ci_no {S : qq_S} {s p : Nat} {t : Int × Int × Int} (h : ¬ ((zz_ci S s t p).1 < zz_gn S s p ∧ ¬ zz_p (zz_ft S s p) = 0)) : zz_ci S s t (p + 1) = zz_ci S s t p := if_neg h
theorem zz_ci_yes {S : qq_S} {s p : Nat} {t : Int × Int × Int} (h : (zz_ci S s t p).1 < zz_gn S s p ∧ ¬ zz_p (zz_ft S s p) = 0) : zz_ci S s t (p + 1) = (zz_gn S s p, (s : Int), (p : Int)) := if_pos h
noncomputable def sp_60 : qq_P := fun y as S => match y, as with
  | 48, [.inr (48, none), .inl a, .inl p] => some ((0 ≤ a ∧ a < 10 ∧ 0 ≤ p ∧ p ≤ 1000) ∧ 1 ≤ S 48 0 ∧ S 48 0 ≤ 8, none, zz_mv S a.toNat p)
  | _, _ => sp_59 y as S
theorem sp_60_ok {xs : List Int32} (hxs : xs.length ≤ 2048) (d : Nat) : qq_ok xs (d + 20) sp_60 := by
  intro y as S pre r S2 h hp
  unfold sp_60 at h
  split at h
  · cases h; exact f48p hxs (d + 19) S _ _ hp
  · exact sp_59_ok hxs (d + 0) y as S pre r S2 h hp
set_option maxRecDepth 20000 in
theorem f112 {xs : List Int32} (hxs : xs.length ≤ 2048) (d : Nat) (S : qq_S) (hp : zz_p (zz_nb S) = 1 ∧ zz_p (zz_pl (S 49) (S 50)) = 1 ∧ zz_p (zz_gp S) = 1) : qq_E xs (d + 21) 112 [.inr (3, none)] S (some (if (zz_co S (S 4 0).toNat).2.1 = -1 then 0 else 1)) (zz_mbc S) := by
  have g1 := zz_pi1.mp hp.1
  have g2 := zz_pi1.mp hp.2.1
  have g3 := zz_pi1.mp hp.2.2
  have n0 := g1.1
  have gw := g3.1
  have gt := g3.2.1
  have whb := zz_mb2 (show 0 ≤ S 48 0 ∧ S 48 0 ≤ 8 by omega) (show 0 ≤ S 48 1 ∧ S 48 1 ≤ 8 by omega)
  have mnb : ∀ (s : Nat) (p : Int), zz_nb (zz_mv S s p) := fun s p => zz_nb_of g1 (fun c c1 c2 => zz_mv_ne (by omega))
  have mgp : ∀ (s : Nat) (p : Int), (zz_mv S s p 52 = S 52) ∧ (zz_mv S s p 48 = S 48) ∧ zz_mv S s p 4 = S 4 := fun s p => ⟨zz_mv_ne (by omega), zz_mv_ne (by omega), zz_mv_ne (by omega)⟩
  have arb : ∀ (s : Nat), s < 10 → ∀ p : Int, 0 ≤ p ∧ p < S 48 0 * S 48 1 → -1000000 ≤ zz_ar (zz_mv S s p) (zz_mv S s p 49) (zz_mv S s p 50) s ∧ zz_ar (zz_mv S s p) (zz_mv S s p 49) (zz_mv S s p 50) s ≤ 1000000 := fun s hs p hp9 => by
    have e : zz_ar (zz_mv S s p) (zz_mv S s p 49) (zz_mv S s p 50) s = zz_ar S (zz_mv S s p 49) (zz_mv S s p 50) s := by
      unfold zz_ar zz_ba
      rw [zz_mv_ne (a := 25) (by omega), zz_mv_ne (a := 52) (by omega), zz_mv_ne (a := 4) (by omega), zz_mv_ne (a := 7) (by omega)]
      rw [zz_sum_c (f := zz_ar1 (zz_mv S s p) (zz_mv S s p 49) (zz_mv S s p 50) s) (g := zz_ar1 S (zz_mv S s p 49) (zz_mv S s p 50) s) (fun i _ => by
        unfold zz_ar1 zz_trn
        rw [zz_mv_ne (a := 26 + 1 + s) (by omega), zz_mv_ne (a := 37 + 1 + s) (by omega), zz_mv_ne (a := 52) (by omega), zz_mv_ne (a := 22) (by omega), zz_mv_ne (a := 23) (by omega), zz_mv_ne (a := 24) (by omega)]), zz_sum_c (f := fun l => zz_bl1 (zz_mv S s p 49) (zz_mv S s p 50) (zz_mv S s p (8 + 1 + l)) (zz_mv S s p (15 + 1 + l) s) (S 7 l)) (g := fun l => zz_bl1 (zz_mv S s p 49) (zz_mv S s p 50) (S (8 + 1 + l)) (S (15 + 1 + l) s) (S 7 l)) (fun l hl => by
        show zz_bl1 _ _ _ _ _ = zz_bl1 _ _ _ _ _
        rw [zz_mv_ne (a := 8 + 1 + l) (by omega), zz_mv_ne (a := 15 + 1 + l) (by omega)])]
    rw [e]
    exact zz_ar_bd g1 g3 (zz_mv_pl g2 g3 hp9) hs
  have Li : ∀ (k9 : Nat) (m mv tg s hm9 bf p : Int) (u8 : Option qq_V) (T : qq_S), S 48 0 * S 48 1 - p < (k9 : Int) → (0 ≤ s ∧ s < S 4 0 ∧ 0 ≤ p ∧ p ≤ S 48 0 * S 48 1) → (T = S ∨ ∃ q, T = zz_mv S s.toNat q) → (hm9 = S 50 s.toNat * S 48 0 + S 49 s.toNat ∧ bf = zz_ar S (S 49) (S 50) s.toNat) → ((m, mv, tg) = zz_ci S s.toNat (zz_co S s.toNat) p.toNat) → (0 ≤ m ∧ m ≤ 2000000 ∧ -1 ≤ mv ∧ mv < S 4 0 ∧ (mv = -1 ∨ (0 ≤ tg ∧ tg < S 48 0 * S 48 1))) → (¬ (¬ S 51 s.toNat = 0 ∨ S 25 s.toNat = 0)) → (∀ (m2 mv2 tg2 : Int) (u5 u6 u7 u8 : Option qq_V), (m2, mv2, tg2) = zz_co S (s + 1).toNat → (0 ≤ m2 ∧ m2 ≤ 2000000 ∧ -1 ≤ mv2 ∧ mv2 < S 4 0 ∧ (mv2 = -1 ∨ (0 ≤ tg2 ∧ tg2 < S 48 0 * S 48 1))) → qq_p xs (d + 20) (mm_mr mm_m112) (mm_mk mm_m112) (fun r S' => r = some (if (zz_co S (S 4 0).toNat).2.1 = -1 then 0 else 1) ∧ S' = zz_mbc S) 9 [some (.inr (3, none)), some (.inl m2), some (.inl mv2), some (.inl tg2), some (.inl (s + 1)), u5, u6, u7, u8] [] S) → qq_p xs (d + 20) (mm_mr mm_m112) (mm_mk mm_m112) (fun r S' => r = some (if (zz_co S (S 4 0).toNat).2.1 = -1 then 0 else 1) ∧ S' = zz_mbc S) 75 [some (.inr (3, none)), some (.inl m), some (.inl mv), some (.inl tg), some (.inl s), some (.inl hm9), some (.inl bf), some (.inl p), u8] [] (T) := by
    intro k9
    induction k9 with
    | zero =>
      intro m mv tg s hm9 bf p u8 T hm h1 h3 h5 h2 h6 h7 h4
      exfalso
      omega
    | succ k9 ih =>
      intro m mv tg s hm9 bf p u8 T hm h1 h3 h5 h2 h6 h7 h4
      refine qq_fsound hxs (sp_60_ok hxs (d + 0)) [75, 9] 300 ?_
      repeat' first | apply And.intro | intro _ | (simp only [qq_tab]) | (simp only [qq_pl])
      all_goals (
        (have t48 : T 48 = S 48 := by
           rcases h3 with e | ⟨q, e⟩
           · rw [e]
           · rw [e]; exact zz_mv_ne (by omega)
         have tw : T 48 0 = S 48 0 ∧ T 48 1 = S 48 1 := by rw [t48]; exact ⟨rfl, rfl⟩
         have tm : ∀ q2 : Int, qq_u (qq_u T 49 s.toNat (q2 % T 48 0)) 50 s.toNat (q2 / T 48 0) = zz_mv S s.toNat q2 := fun q2 => by
           show zz_mv T s.toNat q2 = _
           rcases h3 with e | ⟨q, e⟩
           · rw [e]
           · rw [e, zz_mv_mv]
         have gs := g3.2.2.2 s.toNat (by omega)
         have hmb : 0 ≤ hm9 ∧ hm9 ≤ 100 := by
           have a1 := zz_mb2 (show 0 ≤ S 50 s.toNat ∧ S 50 s.toNat ≤ 8 by omega) (show 0 ≤ S 48 0 ∧ S 48 0 ≤ 8 by omega)
           omega
         have twp : T 48 0 * T 48 1 = S 48 0 * S 48 1 := by rw [t48]
         have em : zz_mv T s.toNat p = zz_mv S s.toNat p := tm p
         have emh : zz_mv T s.toNat hm9 = S := by
           rw [show zz_mv T s.toNat hm9 = zz_mv S s.toNat hm9 from tm hm9, h5.1]
           exact zz_mv_home g3 (by omega)
         have es : ((s.toNat : Nat) : Int) = s := by omega
         have bfb := zz_ar_bd g1 g3 g2 (s := s.toNat) (by omega)
         have m52 : zz_mv S s.toNat p 52 3 = S 52 3 := by rw [(mgp _ _).1]
         have h2a : (zz_ci S s.toNat (zz_co S s.toNat) p.toNat).1 = m := by rw [← h2]
         have ep1 : (p + 1).toNat = p.toNat + 1 := by omega
         have ep : ((p.toNat : Nat) : Int) = p := by omega
         (try rw [em])
         first
         | omega
         | exact (zz_pin _).1
         | exact (zz_pin _).2
         | exact zz_p1 (mnb _ _)
         | exact zz_p1 (zz_mv_pl g2 g3 (by omega))
         | (have ar9 := arb s.toNat (by omega) p (by omega)
            omega)
         | (have e9 : p = S 48 0 * S 48 1 := by omega
            (try rw [emh])
            refine h4 m mv tg _ _ _ _ ?_ h6
            rw [show (s + 1).toNat = s.toNat + 1 by omega, h2, e9]
            conv => rhs; unfold zz_co
            rw [if_neg h7])
         | (have H : zz_p (zz_gE (zz_mv S s.toNat p 49) (zz_mv S s.toNat p 50) (zz_mv S s.toNat p 25) (fun s2 => zz_mv S s.toNat p (26 + 1 + s2)) (zz_mv S s.toNat p 52 3) s.toNat) = 0 := by first | assumption | (rw [← em]; assumption)
            have gz : zz_gn S s.toNat p = 0 := by unfold zz_gn; rw [if_pos H]
            exact ih m mv tg s hm9 bf (p + 1) _ _ (by omega) (by omega) (Or.inr ⟨p, by first | rfl | exact em⟩) h5 (by rw [ep1, zz_ci_no (by rw [h2a, ep, gz]; intro z; omega)]; exact h2) h6 h7 h4)
         | (have H : ¬ zz_p (zz_gE (zz_mv S s.toNat p 49) (zz_mv S s.toNat p 50) (zz_mv S s.toNat p 25) (fun s2 => zz_mv S s.toNat p (26 + 1 + s2)) (zz_mv S s.toNat p 52 3) s.toNat) = 0 := by first | assumption | (rw [← em]; assumption)
            have gz : zz_gn S s.toNat p = bf - zz_ar (zz_mv S s.toNat p) (zz_mv S s.toNat p 49) (zz_mv S s.toNat p 50) s.toNat := by unfold zz_gn; rw [if_neg H, h5.2]
            have ar9 := arb s.toNat (by omega) p (by omega)
            have bf9 := h5.2
            first
            | (have G : bf - zz_ar (zz_mv S s.toNat p) (zz_mv S s.toNat p 49) (zz_mv S s.toNat p 50) s.toNat ≤ m := by first | assumption | (rw [← em]; assumption)
               exact ih m mv tg s hm9 bf (p + 1) _ _ (by omega) (by omega) (Or.inr ⟨p, by first | rfl | exact em⟩) h5 (by rw [ep1, zz_ci_no (by rw [h2a, ep, gz]; intro z; omega)]; exact h2) h6 h7 h4)
            | (have F0 : zz_p (zz_ft S s.toNat p) = 0 := by unfold zz_ft; first | assumption | (rw [← em]; assumption)
               exact ih m mv tg s hm9 bf (p + 1) _ _ (by omega) (by omega) (Or.inr ⟨p, by first | rfl | exact em⟩) h5 (by rw [ep1, zz_ci_no (by rw [ep]; intro z; exact z.2 F0)]; exact h2) h6 h7 h4)
            | (have F0 : ¬ zz_p (zz_ft S s.toNat p) = 0 := by unfold zz_ft; first | assumption | (rw [← em]; assumption)
               have G : ¬ bf - zz_ar (zz_mv S s.toNat p) (zz_mv S s.toNat p 49) (zz_mv S s.toNat p 50) s.toNat ≤ m := by first | assumption | (rw [← em]; assumption)
               have q := ih (zz_gn S s.toNat p) s p s hm9 bf (p + 1) (some (.inl (zz_gn S s.toNat p))) (zz_mv S s.toNat p) (by omega) (by omega) (Or.inr ⟨p, by first | rfl | exact em⟩) h5 (by rw [ep1, zz_ci_yes (by rw [h2a, ep, gz]; exact ⟨by omega, F0⟩), ep, es]) (by rw [gz]; omega) h7 h4
               rw [gz] at q
               first | exact q | (rw [← em] at q; exact q)))
         | skip))
  have L : ∀ (k9 : Nat) (s m mv tg : Int) (u5 u6 u7 u8 : Option qq_V), S 4 0 - s < (k9 : Int) → (0 ≤ s ∧ s ≤ S 4 0) → ((m, mv, tg) = zz_co S s.toNat) → (0 ≤ m ∧ m ≤ 2000000 ∧ -1 ≤ mv ∧ mv < S 4 0 ∧ (mv = -1 ∨ (0 ≤ tg ∧ tg < S 48 0 * S 48 1))) → qq_p xs (d + 20) (mm_mr mm_m112) (mm_mk mm_m112) (fun r S' => r = some (if (zz_co S (S 4 0).toNat).2.1 = -1 then 0 else 1) ∧ S' = zz_mbc S) 9 [some (.inr (3, none)), some (.inl m), some (.inl mv), some (.inl tg), some (.inl s), u5, u6, u7, u8] [] (S) := by
    intro k9
    induction k9 with
    | zero =>
      intro s m mv tg u5 u6 u7 u8 hm h1 h2 h6
      exfalso
      omega
    | succ k9 ih =>
      intro s m mv tg u5 u6 u7 u8 hm h1 h2 h6
      refine qq_fsound hxs (sp_60_ok hxs (d + 0)) [75, 9] 300 ?_
      repeat' first | apply And.intro | intro _ | (simp only [qq_tab]) | (simp only [qq_pl])
      all_goals (
        (have h2b : (zz_co S s.toNat).2.1 = mv ∧ (zz_co S s.toNat).2.2 = tg := by rw [← h2]; exact ⟨rfl, rfl⟩
         first
         | omega
         | exact hp.1
         | exact hp.2.1
         | exact Or.inl trivial
         | exact Or.inr trivial
         | (have es : s = S 4 0 := by omega
            subst es
            first
            | (have c0 : mv = -1 := by assumption
               first
               | (rw [if_pos (by rw [h2b.1]; exact c0)]; done)
               | (unfold zz_mbc; rw [if_pos (by rw [h2b.1]; exact c0)]; done))
            | (have c0 : ¬ mv = -1 := by assumption
               first
               | (rw [if_neg (by rw [h2b.1]; exact c0)]; done)
               | (unfold zz_mbc; rw [if_neg (by rw [h2b.1]; exact c0), h2b.1, h2b.2]; done)
               | omega))
         | (have sl : s < S 4 0 := by omega
            have hd := g3.2.2.1 s.toNat (by omega)
            have dgb := g1.2.2.1 s.toNat (by omega)
            have gs := g3.2.2.2 s.toNat (by omega)
            have ep1 : (s + 1).toNat = s.toNat + 1 := by omega
            first
            | omega
            | (have c0 : ¬ S 51 s.toNat = 0 ∨ S 25 s.toNat = 0 := by first | exact Or.inl (by assumption) | exact Or.inr (by assumption)
               refine ih _ m mv tg _ _ _ _ (by omega) (by omega) ?_ h6
               rw [ep1, h2]
               conv => rhs; unfold zz_co
               rw [if_pos c0])
            | (have c0 : ¬ (¬ S 51 s.toNat = 0 ∨ S 25 s.toNat = 0) := by omega
               have np : ¬ S 49 s.toNat = -1 := by omega
               (try rw [if_neg np])
               refine Li (S 48 0 * S 48 1 + 1).toNat m mv tg s _ _ 0 _ S (by omega) (by omega) (Or.inl rfl) ⟨?_, rfl⟩ h2 h6 c0 (fun m2 mv2 tg2 v5 v6 v7 v8 k1 k2 => ih _ _ _ _ _ _ _ _ (by omega) (by omega) k1 k2)
               first | rfl | (rw [if_neg np]))
            | skip)))
  have h : qq_p xs (d + 20) (mm_mr mm_m112) (mm_mk mm_m112) (fun r S' => r = some (if (zz_co S (S 4 0).toNat).2.1 = -1 then 0 else 1) ∧ S' = zz_mbc S) 0 (qq_ent mm_m112 [.inr (3, none)]) [] S := by
    refine qq_fsound hxs (sp_60_ok hxs (d + 0)) [75, 9] 300 ?_
    repeat' first | apply And.intro | intro _ | (simp only [qq_tab]) | (simp only [qq_pl])
    all_goals (first | omega | exact L (S 4 0 + 1).toNat 0 0 (-1) (-1) _ _ _ _ (by omega) (by omega) rfl (by omega))
  obtain ⟨r, S', hE, e1, e2⟩ := qq_call_of (y := 112) rfl (Nat.le_of_ble_eq_true rfl) h
  rw [e1, e2] at hE
  exact hE
