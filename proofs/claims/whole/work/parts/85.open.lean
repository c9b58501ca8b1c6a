/-- the trial: on the grid as far as placed -/
def yy_tp (S : qq_S) : Prop := (2 ≤ S 56 0 ∧ S 56 0 ≤ 8 ∧ 2 ≤ S 56 1 ∧ S 56 1 ≤ 8 ∧ S 56 0 * S 56 1 ≤ 25) ∧ ∀ t : Nat, t < 10 → (S 57 t = -1 ∧ S 58 t = -1) ∨ (0 ≤ S 57 t ∧ S 57 t < S 56 0 ∧ 0 ≤ S 58 t ∧ S 58 t < S 56 1)
theorem yy_mlt {x y w h : Int} (hx : 0 ≤ x ∧ x < w) (hy : 0 ≤ y ∧ y < h) : 0 ≤ y * w + x ∧ y * w + x < w * h := by
  have m := Int.mul_le_mul_of_nonneg_right (show y ≤ h - 1 by omega) (show 0 ≤ w by omega)
  have e : (h - 1) * w = w * h - w := by rw [Int.sub_mul, Int.one_mul, Int.mul_comm]
  have m0 := Int.mul_nonneg (show 0 ≤ y by omega) (show 0 ≤ w by omega)
  omega
theorem yy_tp_pl {S : qq_S} (h : yy_tp S) : zz_pl (S 57) (S 58) := fun t ht => by
  have := h.1
  have := h.2 t ht
  omega
theorem yy_tp_wh {S : qq_S} (h : yy_tp S) {t : Nat} (ht : t < 10) (hp : ¬ S 57 t = -1) : yy_wh S t = S 58 t * S 56 0 + S 57 t ∧ 0 ≤ yy_wh S t ∧ yy_wh S t < S 56 0 * S 56 1 ∧ yy_wh S t < 25 := by
  have q := h.2 t ht
  have b := h.1
  have m := yy_mlt (x := S 57 t) (y := S 58 t) (w := S 56 0) (h := S 56 1) (by omega) (by omega)
  unfold yy_wh
  rw [if_neg hp]
  omega
/-- where s can stand as far as its own edges tell -/
def yy_op (S : qq_S) (s : Nat) : Nat → Int
  | 0 => if S 87 s = -1 then -1 else qq_shl 1 (S 87 s)
  | i + 1 => if S 57 (S (26 + 1 + s) i).toNat = -1 then yy_op S s i else qq_and (yy_op S s i) (S 60 (yy_wh S (S (26 + 1 + s) i).toNat).toNat)
theorem yy_op0p {S : qq_S} {s : Nat} (h : S 87 s = -1) : -1 = yy_op S s (Int.toNat 0) := (if_pos h).symm
theorem yy_op0n {S : qq_S} {s : Nat} (h : ¬ S 87 s = -1) : qq_shl 1 (S 87 s) = yy_op S s (Int.toNat 0) := (if_neg h).symm
theorem yy_op_s (S : qq_S) (s : Nat) {i : Int} (h : 0 ≤ i) : yy_op S s (i + 1).toNat = if S 57 (S (26 + 1 + s) i.toNat).toNat = -1 then yy_op S s i.toNat else qq_and (yy_op S s i.toNat) (S 60 (yy_wh S (S (26 + 1 + s) i.toNat).toNat).toNat) := by
  rw [show (i + 1).toNat = i.toNat + 1 by omega]
  rfl
noncomputable def sp_72 : qq_P := fun y as S => match y, as with
  | 81, [.inr (55, none)] => some ((2 ≤ S 56 0 ∧ S 56 0 ≤ 8 ∧ 2 ≤ S 56 1 ∧ S 56 1 ≤ 8) ∧ zz_p (zz_nb S) = 1 ∧ zz_p (zz_pl (S 57) (S 58)) = 1, some (yy_fl S), S)
  | _, _ => sp_14 y as S
theorem sp_72_ok {xs : List Int32} (hxs : xs.length ≤ 2048) (d : Nat) : qq_ok xs (d + 8) sp_72 := by
  intro y as S pre r S2 h hp
  unfold sp_72 at h
  split at h
  · cases h; exact f81 hxs (d + 0) S hp
  · exact sp_14_ok hxs (d + 1) y as S pre r S2 h hp
set_option maxRecDepth 20000 in
theorem f80 {xs : List Int32} (hxs : xs.length ≤ 2048) (d : Nat) (S : qq_S) (k : Int) (hp : (0 ≤ k ∧ k < S 4 0 ∧ 0 ≤ S 89 k.toNat ∧ S 89 k.toNat < S 4 0 ∧ -1 ≤ S 87 (S 89 k.toNat).toNat ∧ S 87 (S 89 k.toNat).toNat < 32 ∧ 0 ≤ S 55 12 ∧ S 55 12 ≤ 1) ∧ zz_p (zz_nb S) = 1 ∧ zz_p (yy_tp S) = 1) : qq_E xs (d + 9) 80 [.inr (55, none), .inl k] S (some (if k = S 4 0 - 1 ∧ S 55 12 = 0 then qq_and (yy_op S (S 89 k.toNat).toNat (S 25 (S 89 k.toNat).toNat).toNat) (yy_fl S) else yy_op S (S 89 k.toNat).toNat (S 25 (S 89 k.toNat).toNat).toNat)) (S) := by
  have g1 := zz_pi1.mp hp.2.1
  have g2 := zz_pi1.mp hp.2.2
  have g3 := yy_tp_pl g2
  have g4 := g2.1
  have n0 := g1.1
  have gd := g1.2.2.1 (S 89 k.toNat).toNat (by omega)
  have L : ∀ (k9 : Nat) (i m : Int) (u5 : Option qq_V), S 25 (S 89 k.toNat).toNat - i < (k9 : Int) → (0 ≤ i ∧ i ≤ S 25 (S 89 k.toNat).toNat) → (m = yy_op S (S 89 k.toNat).toNat i.toNat) → qq_p xs (d + 8) (mm_mr mm_m80) (mm_mk mm_m80) (fun r S' => r = some (if k = S 4 0 - 1 ∧ S 55 12 = 0 then qq_and (yy_op S (S 89 k.toNat).toNat (S 25 (S 89 k.toNat).toNat).toNat) (yy_fl S) else yy_op S (S 89 k.toNat).toNat (S 25 (S 89 k.toNat).toNat).toNat) ∧ S' = S) 33 [some (.inr (55, none)), some (.inl k), some (.inl (S 89 k.toNat)), some (.inl m), some (.inl i), u5] [] (S) := by
    intro k9
    induction k9 with
    | zero =>
      intro i m u5 hm h1 h2
      exfalso
      omega
    | succ k9 ih =>
      intro i m u5 hm h1 h2
      refine qq_fsound hxs (sp_72_ok hxs (d + 0)) [33] 300 ?_
      repeat' first | apply And.intro | intro _ | (simp only [qq_tab]) | (simp only [qq_pl])
      all_goals (
        (have es := yy_op_s S (S 89 k.toNat).toNat h1.1
         first
         | omega
         | exact zz_p1 g3
         | exact hp.2.1
         | (have ei : i = S 25 (S 89 k.toNat).toNat := by omega
            rw [ei] at h2
            first
            | (rw [if_pos (by omega), ← h2]; done)
            | (rw [if_neg (by omega), ← h2]; done))
         | (have r := gd.2.2 i.toNat (by omega)
            have gp := g3 (S (26 + 1 + (S 89 k.toNat).toNat) i.toNat).toNat (by omega)
            first
            | omega
            | exact (zz_bin _).1
            | exact (zz_bin _).2
            | (have c : S 57 (S (26 + 1 + (S 89 k.toNat).toNat) i.toNat).toNat = -1 := Classical.not_not.mp (zz_bi0.mp (by assumption))
               exact ih (i + 1) m _ (by omega) (by omega) (by rw [es, if_pos c]; exact h2))
            | (have c : ¬ S 57 (S (26 + 1 + (S 89 k.toNat).toNat) i.toNat).toNat = -1 := Classical.not_not.mp (fun z => absurd (zz_bi0.mpr z) (by assumption))
               have wh := yy_tp_wh g2 (t := (S (26 + 1 + (S 89 k.toNat).toNat) i.toNat).toNat) (by omega) c
               have ew : (if S 57 (S (26 + 1 + (S 89 k.toNat).toNat) i.toNat).toNat = -1 then -1 else S 58 (S (26 + 1 + (S 89 k.toNat).toNat) i.toNat).toNat * S 56 0 + S 57 (S (26 + 1 + (S 89 k.toNat).toNat) i.toNat).toNat) = yy_wh S (S (26 + 1 + (S 89 k.toNat).toNat) i.toNat).toNat := rfl
               rw [if_neg c] at es
               first
               | omega
               | (rw [ew]; omega)
               | exact ih (i + 1) _ _ (by omega) (by omega) (by rw [es, h2]; rfl))
            | skip)
         | skip))
  have h : qq_p xs (d + 8) (mm_mr mm_m80) (mm_mk mm_m80) (fun r S' => r = some (if k = S 4 0 - 1 ∧ S 55 12 = 0 then qq_and (yy_op S (S 89 k.toNat).toNat (S 25 (S 89 k.toNat).toNat).toNat) (yy_fl S) else yy_op S (S 89 k.toNat).toNat (S 25 (S 89 k.toNat).toNat).toNat) ∧ S' = S) 0 (qq_ent mm_m80 [.inr (55, none), .inl k]) [] S := by
    refine qq_fsound hxs (sp_72_ok hxs (d + 0)) [33] 300 ?_
    repeat' first | apply And.intro | intro _ | (simp only [qq_tab]) | (simp only [qq_pl])
    all_goals (
      first
      | omega
      | (exact L (S 25 (S 89 k.toNat).toNat + 1).toNat 0 _ _ (by omega) (by omega) (yy_op0p (by assumption)))
      | (exact L (S 25 (S 89 k.toNat).toNat + 1).toNat 0 _ _ (by omega) (by omega) (yy_op0n (by assumption)))
      | skip)
  obtain ⟨r, S', hE, e1, e2⟩ := qq_call_of (y := 80) rfl (Nat.le_of_ble_eq_true rfl) h
  rw [e1, e2] at hE
  exact hE
/-- the points inside the edges from s at p -/
def yy_pp (S : qq_S) (s : Nat) (p : Nat) : Nat → Int
  | 0 => 0
  | i + 1 => if S 57 (S (26 + 1 + s) i).toNat = -1 then yy_pp S s p i else qq_or (yy_pp S s p i) (S (61 + 1 + p) (yy_wh S (S (26 + 1 + s) i).toNat).toNat)
theorem yy_pp_s (S : qq_S) (s p : Nat) {i : Int} (h : 0 ≤ i) : yy_pp S s p (i + 1).toNat = if S 57 (S (26 + 1 + s) i.toNat).toNat = -1 then yy_pp S s p i.toNat else qq_or (yy_pp S s p i.toNat) (S (61 + 1 + p) (yy_wh S (S (26 + 1 + s) i.toNat).toNat).toNat) := by
  rw [show (i + 1).toNat = i.toNat + 1 by omega]
  rfl
def yy_pf (S : qq_S) (s p : Nat) (tk : Int) (i : Nat) : Prop := ¬ S 57 (S (26 + 1 + s) i).toNat = -1 ∧ (¬ qq_and (yy_pp S s p (i + 1)) tk = 0 ∨ (qq_and (zz_dr (S 57) (S 58) s (S (26 + 1 + s) i).toNat) 1 = 1 ∧ zz_xx (S 4 2) (S 57) (S 58) (S 22) (S 23) s (S (26 + 1 + s) i).toNat))
noncomputable def yy_ps (S : qq_S) (s p : Nat) (tk : Int) : Int := if zz_p (∃ i : Nat, (i : Int) < S 25 s ∧ yy_pf S s p tk i) = 1 then -1 else yy_pp S s p (S 25 s).toNat
theorem yy_and_in (x y : Int) : qq_in (qq_and x y) := by
  unfold qq_in qq_and
  have h1 : -2147483648 ≤ (Int32.ofInt x &&& Int32.ofInt y).toInt := Int32.le_toInt _
  have h2 : (Int32.ofInt x &&& Int32.ofInt y).toInt ≤ 2147483647 := Int32.toInt_le _
  exact ⟨h1, h2⟩
set_option maxRecDepth 20000 in
theorem f82 {xs : List Int32} (hxs : xs.length ≤ 2048) (d : Nat) (S : qq_S) (s : Int) (p : Int) (tk : Int) (hp : (0 ≤ s ∧ s < 10 ∧ 0 ≤ p ∧ p < 25) ∧ zz_p (zz_nb S) = 1 ∧ zz_p (yy_tp S) = 1) : qq_E xs (d + 10) 82 [.inr (55, none), .inl s, .inl p, .inl tk] S (some (yy_ps S s.toNat p.toNat tk)) (S) := by
  have g1 := zz_pi1.mp hp.2.1
  have g2 := zz_pi1.mp hp.2.2
  have g3 := yy_tp_pl g2
  have g4 := g2.1
  have n0 := g1.1
  have gd := g1.2.2.1 s.toNat (by omega)
  have L : ∀ (k9 : Nat) (i m : Int) (u6 u7 : Option qq_V), S 25 s.toNat - i < (k9 : Int) → (0 ≤ i ∧ i ≤ S 25 s.toNat) → (m = yy_pp S s.toNat p.toNat i.toNat) → (∀ j : Nat, (j : Int) < i → ¬ yy_pf S s.toNat p.toNat tk j) → qq_p xs (d + 9) (mm_mr mm_m82) (mm_mk mm_m82) (fun r S' => r = some (yy_ps S s.toNat p.toNat tk) ∧ S' = S) 6 [some (.inr (55, none)), some (.inl s), some (.inl p), some (.inl tk), some (.inl m), some (.inl i), u6, u7] [] (S) := by
    intro k9
    induction k9 with
    | zero =>
      intro i m u6 u7 hm h1 h2 h3
      exfalso
      omega
    | succ k9 ih =>
      intro i m u6 u7 hm h1 h2 h3
      refine qq_fsound hxs (sp_52_ok hxs (d + 0)) [6] 300 ?_
      repeat' first | apply And.intro | intro _ | (simp only [qq_tab]) | (simp only [qq_pl])
      all_goals (
        (have es := yy_pp_s S s.toNat p.toNat h1.1
         have ei1 : (i + 1).toNat = i.toNat + 1 := by omega
         first
         | omega
         | exact zz_p1 g3
         | exact hp.2.1
         | exact (zz_pin _).1
         | exact (zz_pin _).2
         | exact (yy_and_in _ _).1
         | exact (yy_and_in _ _).2
         | (have ei : i = S 25 s.toNat := by omega
            rw [ei] at h2 h3
            unfold yy_ps
            rw [zz_p0 (fun ⟨j, h8, h9⟩ => h3 j h8 h9), if_neg (by decide), ← h2])
         | (have r := gd.2.2 i.toNat (by omega)
            have gp := g3 (S (26 + 1 + s.toNat) i.toNat).toNat (by omega)
            have gs := g3 s.toNat (by omega)
            first
            | omega
            | exact (zz_bin _).1
            | exact (zz_bin _).2
            | (have c : S 57 (S (26 + 1 + s.toNat) i.toNat).toNat = -1 := Classical.not_not.mp (zz_bi0.mp (by assumption))
               refine ih (i + 1) m _ _ (by omega) (by omega) (by rw [es, if_pos c]; exact h2) (fun j hj => ?_)
               by_cases e : j = i.toNat
               · rw [e]; exact fun z => z.1 c
               · exact h3 j (by omega))
            | (have c : ¬ S 57 (S (26 + 1 + s.toNat) i.toNat).toNat = -1 := Classical.not_not.mp (fun z => absurd (zz_bi0.mpr z) (by assumption))
               have wh := yy_tp_wh g2 (t := (S (26 + 1 + s.toNat) i.toNat).toNat) (by omega) c
               have ew : (if S 57 (S (26 + 1 + s.toNat) i.toNat).toNat = -1 then -1 else S 58 (S (26 + 1 + s.toNat) i.toNat).toNat * S 56 0 + S 57 (S (26 + 1 + s.toNat) i.toNat).toNat) = yy_wh S (S (26 + 1 + s.toNat) i.toNat).toNat := rfl
               rw [if_neg c] at es
               have em : yy_pp S s.toNat p.toNat (i.toNat + 1) = qq_or m (S (61 + 1 + p.toNat) (yy_wh S (S (26 + 1 + s.toNat) i.toNat).toNat).toNat) := by rw [← ei1, es, ← h2]
               have fail : yy_pf S s.toNat p.toNat tk i.toNat → yy_ps S s.toNat p.toNat tk = -1 := fun z => by
                 unfold yy_ps
                 rw [zz_p1 ⟨i.toNat, by omega, z⟩, if_pos rfl]
               have go : ¬ yy_pf S s.toNat p.toNat tk i.toNat → ∀ j : Nat, (j : Int) < i + 1 → ¬ yy_pf S s.toNat p.toNat tk j := fun z j hj => by
                 by_cases e : j = i.toNat
                 · rw [e]; exact z
                 · exact h3 j (by omega)
               first
               | omega
               | (rw [ew]; omega)
               | (have a1 : ¬ qq_and (qq_or m (S (61 + 1 + p.toNat) (yy_wh S (S (26 + 1 + s.toNat) i.toNat).toNat).toNat)) tk = 0 := by assumption
                  rw [fail ⟨c, Or.inl (by rw [em]; exact a1)⟩]; done)
               | (have a1 : qq_and (qq_or m (S (61 + 1 + p.toNat) (yy_wh S (S (26 + 1 + s.toNat) i.toNat).toNat).toNat)) tk = 0 := by assumption
                  first
                  | (have a2 : ¬ qq_and (zz_dr (S 57) (S 58) s.toNat (S (26 + 1 + s.toNat) i.toNat).toNat) 1 = 1 := by assumption
                     exact ih (i + 1) _ _ _ (by omega) (by omega) (by rw [ei1, em]; rfl) (go (fun z => z.2.elim (fun y => y (by rw [em]; exact a1)) (fun y => a2 y.1))))
                  | (have a2 : qq_and (zz_dr (S 57) (S 58) s.toNat (S (26 + 1 + s.toNat) i.toNat).toNat) 1 = 1 := by assumption
                     have a3 : ¬ zz_xx (S 4 2) (S 57) (S 58) (S 22) (S 23) s.toNat (S (26 + 1 + s.toNat) i.toNat).toNat := zz_pi0.mp (by assumption)
                     exact ih (i + 1) _ _ _ (by omega) (by omega) (by rw [ei1, em]; rfl) (go (fun z => z.2.elim (fun y => y (by rw [em]; exact a1)) (fun y => a3 y.2))))
                  | (have a2 : qq_and (zz_dr (S 57) (S 58) s.toNat (S (26 + 1 + s.toNat) i.toNat).toNat) 1 = 1 := by assumption
                     have a3 : zz_xx (S 4 2) (S 57) (S 58) (S 22) (S 23) s.toNat (S (26 + 1 + s.toNat) i.toNat).toNat := Classical.not_not.mp (fun z => absurd (zz_pi0.mpr z) (by assumption))
                     rw [fail ⟨c, Or.inr ⟨a2, a3⟩⟩]; done)))
            | skip)
         | skip))
  have h : qq_p xs (d + 9) (mm_mr mm_m82) (mm_mk mm_m82) (fun r S' => r = some (yy_ps S s.toNat p.toNat tk) ∧ S' = S) 0 (qq_ent mm_m82 [.inr (55, none), .inl s, .inl p, .inl tk]) [] S := by
    refine qq_fsound hxs (sp_52_ok hxs (d + 0)) [6] 300 ?_
    repeat' first | apply And.intro | intro _ | (simp only [qq_tab]) | (simp only [qq_pl])
    all_goals (
      first
      | omega
      | exact L (S 25 s.toNat + 1).toNat 0 0 _ _ (by omega) (by omega) rfl (fun j hj => by omega)
      | skip)
  obtain ⟨r, S', hE, e1, e2⟩ := qq_call_of (y := 82) rfl (Nat.le_of_ble_eq_true rfl) h
  rw [e1, e2] at hE
  exact hE
