def zz_eb (a b : Int) : Int := if 4 < qq_and (a - b) 7 then 8 - qq_and (a - b) 7 else qq_and (a - b) 7
def zz_ap (a b : Int) : Int := if 4 < zz_abs (a - b) then 8 - zz_abs (a - b) else zz_abs (a - b)
theorem zz_eb_ap {a b : Int} (ha : 0 ≤ a ∧ a ≤ 7) (hb : 0 ≤ b ∧ b ≤ 7) : zz_eb a b = zz_ap a b := by
  unfold zz_eb zz_ap zz_abs
  rw [zz_and7 _ (by omega)]
  repeat' split
  all_goals omega
theorem zz_ap_bd {a b : Int} (ha : 0 ≤ a ∧ a ≤ 7) (hb : 0 ≤ b ∧ b ≤ 7) : 0 ≤ zz_ap a b ∧ zz_ap a b ≤ 4 := by
  unfold zz_ap zz_abs
  repeat' split
  all_goals omega
theorem zz_mdr_bd (X Y : Nat → Int) (a b : Nat) : 0 ≤ zz_mdr X Y a b ∧ zz_mdr X Y a b ≤ 7 := zz_md_bd _ _
theorem zz_dr_bd (X Y : Nat → Int) (a b : Nat) : -1 ≤ zz_dr X Y a b ∧ zz_dr X Y a b ≤ 7 := zz_dir_bd _ _
/-- the bend behind place i of a row -/
def zz_bnd (X Y : Nat → Int) (row : Nat → Int) (i : Nat) : Int := zz_eb (zz_dr X Y (row i).toNat (row (i + 1)).toNat) (zz_dr X Y (row (i + 1)).toNat (row (i + 2)).toNat)
def zz_bln (X Y : Nat → Int) (row : Nat → Int) (Z : Int) : Int := zz_sum (zz_bnd X Y row) (Z - 2).toNat
def zz_bds (S : qq_S) (X Y : Nat → Int) : Int := zz_sum (fun l => zz_bln X Y (S (8 + 1 + l)) (S 7 l)) (S 4 1).toNat
def zz_trn (S : qq_S) (X Y : Nat → Int) (e : Nat) : Int := zz_eb (zz_dr X Y (S 22 e).toNat (S 23 e).toNat) (S 24 e)
def zz_lns (S : qq_S) (X Y : Nat → Int) : Int := zz_sum (fun e => zz_ln X Y (S 22 e).toNat (S 23 e).toNat) (S 4 2).toNat
def zz_trs (S : qq_S) (X Y : Nat → Int) : Int := zz_sum (zz_trn S X Y) (S 4 2).toNat
def zz_cst (S : qq_S) (X Y : Nat → Int) : Int := zz_bds S X Y * S 52 0 + zz_lns S X Y * S 52 1 + zz_trs S X Y * S 52 2
def zz_mbnd (S : qq_S) (l i : Nat) : Int := zz_ap (zz_mdr (zz_mx S) (zz_my S) (S 119 (10 * l + i)).toNat (S 119 (10 * l + (i + 1))).toNat) (zz_mdr (zz_mx S) (zz_my S) (S 119 (10 * l + (i + 1))).toNat (S 119 (10 * l + (i + 2))).toNat)
def zz_mbds (S : qq_S) : Int := zz_sum (fun l => zz_sum (zz_mbnd S l) (S 118 l - 2).toNat) (S 115 2).toNat
def zz_mlns (S : qq_S) : Int := zz_sum (fun e => zz_ln (zz_mx S) (zz_my S) (S 120 e).toNat (S 121 e).toNat) (S 115 3).toNat
def zz_mtrn (S : qq_S) (e : Nat) : Int := zz_ap (zz_mdr (zz_mx S) (zz_my S) (S 120 e).toNat (S 121 e).toNat) (zz_td (S 116 (S 121 e).toNat - S 116 (S 120 e).toNat) (S 117 (S 121 e).toNat - S 117 (S 120 e).toNat))
def zz_mtrs (S : qq_S) : Int := zz_sum (zz_mtrn S) (S 115 3).toNat
def zz_mcst (S : qq_S) : Int := S 115 15 * zz_mbds S + S 115 16 * zz_mlns S + S 115 17 * zz_mtrs S
set_option maxRecDepth 20000 in
theorem f65_54 {xs : List Int32} (hxs : xs.length ≤ 2048) (d : Nat) (S : qq_S) (e : Int) (hp : (0 ≤ e ∧ e < S 4 2) ∧ zz_p (zz_nb S) = 1 ∧ zz_p (zz_pl (S 49) (S 50)) = 1) : qq_E xs (d + 17) 65 [.inr (54, none), .inl e] S (some (zz_trn S (S 49) (S 50) e.toNat)) (S) := by
  have g1 := zz_pi1.mp hp.2.1
  have g2 := zz_pi1.mp hp.2.2
  have n0 := g1.1
  have n1 := g1.2.1 e.toNat (by omega)
  have q1 := g2 (S 22 e.toNat).toNat (by omega)
  have q2 := g2 (S 23 e.toNat).toNat (by omega)
  have b1 := zz_dir_bd (S 49 (S 23 e.toNat).toNat - S 49 (S 22 e.toNat).toNat) (S 50 (S 23 e.toNat).toNat - S 50 (S 22 e.toNat).toNat)
  have h : qq_p xs (d + 16) (mm_mr mm_m65) (mm_mk mm_m65) (fun r S' => r = some (zz_trn S (S 49) (S 50) e.toNat) ∧ S' = S) 0 (qq_ent mm_m65 [.inr (54, none), .inl e]) [] S := by
    refine qq_fsound hxs (sp_25_ok hxs (d + 0)) [] 300 ?_
    repeat' first | apply And.intro | intro _ | (simp only [qq_tab]) | (simp only [qq_pl])
    all_goals (first | rfl | omega)
  obtain ⟨r, S', hE, e1, e2⟩ := qq_call_of (y := 65) rfl (Nat.le_of_ble_eq_true rfl) h
  rw [e1, e2] at hE
  exact hE
set_option maxRecDepth 20000 in
theorem f66_54 {xs : List Int32} (hxs : xs.length ≤ 2048) (d : Nat) (S : qq_S) (l : Int) (i : Int) (hp : (0 ≤ l ∧ l < S 4 1 ∧ 1 ≤ i ∧ i + 1 < S 7 l.toNat) ∧ zz_p (zz_nb S) = 1 ∧ zz_p (zz_pl (S 49) (S 50)) = 1) : qq_E xs (d + 17) 66 [.inr (54, none), .inl l, .inl i] S (some (zz_bnd (S 49) (S 50) (S (8 + 1 + l.toNat)) (i - 1).toNat)) (S) := by
  have g1 := zz_pi1.mp hp.2.1
  have g2 := zz_pi1.mp hp.2.2
  have n0 := g1.1
  have n1 := g1.2.2.2 l.toNat (by omega)
  have r0 := n1.2.2.1 (i - 1).toNat (by omega)
  have r1 := n1.2.2.1 ((i - 1).toNat + 1) (by omega)
  have r2 := n1.2.2.1 ((i - 1).toNat + 2) (by omega)
  have q0 := g2 (S (8 + 1 + l.toNat) (i - 1).toNat).toNat (by omega)
  have q1 := g2 (S (8 + 1 + l.toNat) ((i - 1).toNat + 1)).toNat (by omega)
  have q2 := g2 (S (8 + 1 + l.toNat) ((i - 1).toNat + 2)).toNat (by omega)
  have b1 := zz_dr_bd (S 49) (S 50) (S (8 + 1 + l.toNat) (i - 1).toNat).toNat (S (8 + 1 + l.toNat) ((i - 1).toNat + 1)).toNat
  have b2 := zz_dr_bd (S 49) (S 50) (S (8 + 1 + l.toNat) ((i - 1).toNat + 1)).toNat (S (8 + 1 + l.toNat) ((i - 1).toNat + 2)).toNat
  have e1 : i.toNat = (i - 1).toNat + 1 := by omega
  have e2 : (i + 1).toNat = (i - 1).toNat + 2 := by omega
  unfold zz_dr at b1 b2
  have h : qq_p xs (d + 16) (mm_mr mm_m66) (mm_mk mm_m66) (fun r S' => r = some (zz_bnd (S 49) (S 50) (S (8 + 1 + l.toNat)) (i - 1).toNat) ∧ S' = S) 0 (qq_ent mm_m66 [.inr (54, none), .inl l, .inl i]) [] S := by
    refine qq_fsound hxs (sp_25_ok hxs (d + 0)) [] 300 ?_
    repeat' first | apply And.intro | intro _ | (simp only [qq_tab]) | (simp only [qq_pl])
    all_goals (
      ((try simp only [e1, e2])
       first | rfl | omega))
  obtain ⟨r, S', hE, e1, e2⟩ := qq_call_of (y := 66) rfl (Nat.le_of_ble_eq_true rfl) h
  rw [e1, e2] at hE
  exact hE
noncomputable def sp_26_54 : qq_P := fun y as S => match y, as with
  | 65, [.inr (54, none), .inl e] => some ((0 ≤ e ∧ e < S 4 2) ∧ zz_p (zz_nb S) = 1 ∧ zz_p (zz_pl (S 49) (S 50)) = 1, some (zz_trn S (S 49) (S 50) e.toNat), S)
  | 66, [.inr (54, none), .inl l, .inl i] => some ((0 ≤ l ∧ l < S 4 1 ∧ 1 ≤ i ∧ i + 1 < S 7 l.toNat) ∧ zz_p (zz_nb S) = 1 ∧ zz_p (zz_pl (S 49) (S 50)) = 1, some (zz_bnd (S 49) (S 50) (S (8 + 1 + l.toNat)) (i - 1).toNat), S)
  | _, _ => sp_25 y as S
theorem sp_26_54_ok {xs : List Int32} (hxs : xs.length ≤ 2048) (d : Nat) : qq_ok xs (d + 17) sp_26_54 := by
  intro y as S pre r S2 h hp
  unfold sp_26_54 at h
  split at h
  · cases h; exact f65_54 hxs (d + 0) S _ hp
  · cases h; exact f66_54 hxs (d + 0) S _ _ hp
  · exact sp_25_ok hxs (d + 1) y as S pre r S2 h hp
set_option maxRecDepth 20000 in
theorem f65_93 {xs : List Int32} (hxs : xs.length ≤ 2048) (d : Nat) (S : qq_S) (e : Int) (hp : (0 ≤ e ∧ e < S 4 2) ∧ zz_p (zz_nb S) = 1 ∧ zz_p (zz_pl (S 57) (S 58)) = 1) : qq_E xs (d + 17) 65 [.inr (93, none), .inl e] S (some (zz_trn S (S 57) (S 58) e.toNat)) (S) := by
  have g1 := zz_pi1.mp hp.2.1
  have g2 := zz_pi1.mp hp.2.2
  have n0 := g1.1
  have n1 := g1.2.1 e.toNat (by omega)
  have q1 := g2 (S 22 e.toNat).toNat (by omega)
  have q2 := g2 (S 23 e.toNat).toNat (by omega)
  have b1 := zz_dir_bd (S 57 (S 23 e.toNat).toNat - S 57 (S 22 e.toNat).toNat) (S 58 (S 23 e.toNat).toNat - S 58 (S 22 e.toNat).toNat)
  have h : qq_p xs (d + 16) (mm_mr mm_m65) (mm_mk mm_m65) (fun r S' => r = some (zz_trn S (S 57) (S 58) e.toNat) ∧ S' = S) 0 (qq_ent mm_m65 [.inr (93, none), .inl e]) [] S := by
    refine qq_fsound hxs (sp_25_ok hxs (d + 0)) [] 300 ?_
    repeat' first | apply And.intro | intro _ | (simp only [qq_tab]) | (simp only [qq_pl])
    all_goals (first | rfl | omega)
  obtain ⟨r, S', hE, e1, e2⟩ := qq_call_of (y := 65) rfl (Nat.le_of_ble_eq_true rfl) h
  rw [e1, e2] at hE
  exact hE
set_option maxRecDepth 20000 in
theorem f66_93 {xs : List Int32} (hxs : xs.length ≤ 2048) (d : Nat) (S : qq_S) (l : Int) (i : Int) (hp : (0 ≤ l ∧ l < S 4 1 ∧ 1 ≤ i ∧ i + 1 < S 7 l.toNat) ∧ zz_p (zz_nb S) = 1 ∧ zz_p (zz_pl (S 57) (S 58)) = 1) : qq_E xs (d + 17) 66 [.inr (93, none), .inl l, .inl i] S (some (zz_bnd (S 57) (S 58) (S (8 + 1 + l.toNat)) (i - 1).toNat)) (S) := by
  have g1 := zz_pi1.mp hp.2.1
  have g2 := zz_pi1.mp hp.2.2
  have n0 := g1.1
  have n1 := g1.2.2.2 l.toNat (by omega)
  have r0 := n1.2.2.1 (i - 1).toNat (by omega)
  have r1 := n1.2.2.1 ((i - 1).toNat + 1) (by omega)
  have r2 := n1.2.2.1 ((i - 1).toNat + 2) (by omega)
  have q0 := g2 (S (8 + 1 + l.toNat) (i - 1).toNat).toNat (by omega)
  have q1 := g2 (S (8 + 1 + l.toNat) ((i - 1).toNat + 1)).toNat (by omega)
  have q2 := g2 (S (8 + 1 + l.toNat) ((i - 1).toNat + 2)).toNat (by omega)
  have b1 := zz_dr_bd (S 57) (S 58) (S (8 + 1 + l.toNat) (i - 1).toNat).toNat (S (8 + 1 + l.toNat) ((i - 1).toNat + 1)).toNat
  have b2 := zz_dr_bd (S 57) (S 58) (S (8 + 1 + l.toNat) ((i - 1).toNat + 1)).toNat (S (8 + 1 + l.toNat) ((i - 1).toNat + 2)).toNat
  have e1 : i.toNat = (i - 1).toNat + 1 := by omega
  have e2 : (i + 1).toNat = (i - 1).toNat + 2 := by omega
  unfold zz_dr at b1 b2
  have h : qq_p xs (d + 16) (mm_mr mm_m66) (mm_mk mm_m66) (fun r S' => r = some (zz_bnd (S 57) (S 58) (S (8 + 1 + l.toNat)) (i - 1).toNat) ∧ S' = S) 0 (qq_ent mm_m66 [.inr (93, none), .inl l, .inl i]) [] S := by
    refine qq_fsound hxs (sp_25_ok hxs (d + 0)) [] 300 ?_
    repeat' first | apply And.intro | intro _ | (simp only [qq_tab]) | (simp only [qq_pl])
    all_goals (
      ((try simp only [e1, e2])
       first | rfl | omega))
  obtain ⟨r, S', hE, e1, e2⟩ := qq_call_of (y := 66) rfl (Nat.le_of_ble_eq_true rfl) h
  rw [e1, e2] at hE
  exact hE
noncomputable def sp_26_93 : qq_P := fun y as S => match y, as with
  | 65, [.inr (93, none), .inl e] => some ((0 ≤ e ∧ e < S 4 2) ∧ zz_p (zz_nb S) = 1 ∧ zz_p (zz_pl (S 57) (S 58)) = 1, some (zz_trn S (S 57) (S 58) e.toNat), S)
  | 66, [.inr (93, none), .inl l, .inl i] => some ((0 ≤ l ∧ l < S 4 1 ∧ 1 ≤ i ∧ i + 1 < S 7 l.toNat) ∧ zz_p (zz_nb S) = 1 ∧ zz_p (zz_pl (S 57) (S 58)) = 1, some (zz_bnd (S 57) (S 58) (S (8 + 1 + l.toNat)) (i - 1).toNat), S)
  | _, _ => sp_26_54 y as S
theorem sp_26_93_ok {xs : List Int32} (hxs : xs.length ≤ 2048) (d : Nat) : qq_ok xs (d + 17) sp_26_93 := by
  intro y as S pre r S2 h hp
  unfold sp_26_93 at h
  split at h
  · cases h; exact f65_93 hxs (d + 0) S _ hp
  · cases h; exact f66_93 hxs (d + 0) S _ _ hp
  · exact sp_26_54_ok hxs (d + 0) y as S pre r S2 h hp
set_option maxRecDepth 20000 in
theorem f62 {xs : List Int32} (hxs : xs.length ≤ 2048) (d : Nat) (S : qq_S) (hp : zz_p (zz_nb S) = 1 ∧ zz_p (zz_pl (S 49) (S 50)) = 1) : qq_E xs (d + 18) 62 [.inr (54, none)] S (some (zz_lns S (S 49) (S 50))) (S) := by
  have g1 := zz_pi1.mp hp.1
  have g2 := zz_pi1.mp hp.2
  have n0 := g1.1
  have L : ∀ (k9 : Nat) (i c : Int), S 4 2 - i < (k9 : Int) → (0 ≤ i ∧ i ≤ S 4 2) → (c = zz_sum (fun e => zz_ln (S 49) (S 50) (S 22 e).toNat (S 23 e).toNat) i.toNat) → qq_p xs (d + 17) (mm_mr mm_m62) (mm_mk mm_m62) (fun r S' => r = some (zz_lns S (S 49) (S 50)) ∧ S' = S) 4 [some (.inr (54, none)), some (.inl c), some (.inl i)] [] (S) := by
    intro k9
    induction k9 with
    | zero =>
      intro i c hm h1 h2
      exfalso
      omega
    | succ k9 ih =>
      intro i c hm h1 h2
      refine qq_fsound hxs (sp_26_93_ok hxs (d + 0)) [4] 300 ?_
      repeat' first | apply And.intro | intro _ | (simp only [qq_tab]) | (simp only [qq_pl])
      all_goals (
        (first
         | omega
         | exact hp.1
         | exact hp.2
         | (have ei : i = S 4 2 := by omega
            subst ei
            first | rfl | (rw [h2]; first | done | rfl))
         | (have il : i < S 4 2 := by omega
            have n1 := g1.2.1 i.toNat (by omega)
            first
            | omega
            | (apply ok <;> omega)
            | (refine ih _ _ ?_ ?_ ?_ <;> first | omega | (rw [zz_sum_s _ i (by omega), h2]; try rfl)))))
  have h : qq_p xs (d + 17) (mm_mr mm_m62) (mm_mk mm_m62) (fun r S' => r = some (zz_lns S (S 49) (S 50)) ∧ S' = S) 0 (qq_ent mm_m62 [.inr (54, none)]) [] S := by
    refine qq_fsound hxs (sp_26_93_ok hxs (d + 0)) [4] 300 ?_
    repeat' first | apply And.intro | intro _ | (simp only [qq_tab]) | (simp only [qq_pl])
    all_goals (first | omega | exact L (S 4 2 + 1).toNat 0 0 (by omega) (by omega) rfl)
  obtain ⟨r, S', hE, e1, e2⟩ := qq_call_of (y := 62) rfl (Nat.le_of_ble_eq_true rfl) h
  rw [e1, e2] at hE
  exact hE
set_option maxRecDepth 20000 in
theorem f63 {xs : List Int32} (hxs : xs.length ≤ 2048) (d : Nat) (S : qq_S) (hp : zz_p (zz_nb S) = 1 ∧ zz_p (zz_pl (S 49) (S 50)) = 1) : qq_E xs (d + 18) 63 [.inr (54, none)] S (some (zz_trs S (S 49) (S 50))) (S) := by
  have g1 := zz_pi1.mp hp.1
  have g2 := zz_pi1.mp hp.2
  have n0 := g1.1
  have L : ∀ (k9 : Nat) (i c : Int), S 4 2 - i < (k9 : Int) → (0 ≤ i ∧ i ≤ S 4 2) → (c = zz_sum (zz_trn S (S 49) (S 50)) i.toNat) → qq_p xs (d + 17) (mm_mr mm_m63) (mm_mk mm_m63) (fun r S' => r = some (zz_trs S (S 49) (S 50)) ∧ S' = S) 4 [some (.inr (54, none)), some (.inl c), some (.inl i)] [] (S) := by
    intro k9
    induction k9 with
    | zero =>
      intro i c hm h1 h2
      exfalso
      omega
    | succ k9 ih =>
      intro i c hm h1 h2
      refine qq_fsound hxs (sp_26_93_ok hxs (d + 0)) [4] 300 ?_
      repeat' first | apply And.intro | intro _ | (simp only [qq_tab]) | (simp only [qq_pl])
      all_goals (
        (first
         | omega
         | exact hp.1
         | exact hp.2
         | (have ei : i = S 4 2 := by omega
            subst ei
            first | rfl | (rw [h2]; first | done | rfl))
         | (have il : i < S 4 2 := by omega
            have n1 := g1.2.1 i.toNat (by omega)
            first
            | omega
            | (apply ok <;> omega)
            | (refine ih _ _ ?_ ?_ ?_ <;> first | omega | (rw [zz_sum_s _ i (by omega), h2]; try rfl)))))
  have h : qq_p xs (d + 17) (mm_mr mm_m63) (mm_mk mm_m63) (fun r S' => r = some (zz_trs S (S 49) (S 50)) ∧ S' = S) 0 (qq_ent mm_m63 [.inr (54, none)]) [] S := by
    refine qq_fsound hxs (sp_26_93_ok hxs (d + 0)) [4] 300 ?_
    repeat' first | apply And.intro | intro _ | (simp only [qq_tab]) | (simp only [qq_pl])
    all_goals (first | omega | exact L (S 4 2 + 1).toNat 0 0 (by omega) (by omega) rfl)
  obtain ⟨r, S', hE, e1, e2⟩ := qq_call_of (y := 63) rfl (Nat.le_of_ble_eq_true rfl) h
  rw [e1, e2] at hE
  exact hE
set_option maxRecDepth 20000 in
theorem f61 {xs : List Int32} (hxs : xs.length ≤ 2048) (d : Nat) (S : qq_S) (hp : zz_p (zz_nb S) = 1 ∧ zz_p (zz_pl (S 49) (S 50)) = 1) : qq_E xs (d + 18) 61 [.inr (54, none)] S (some (zz_bds S (S 49) (S 50))) (S) := by
  have g1 := zz_pi1.mp hp.1
  have g2 := zz_pi1.mp hp.2
  have n0 := g1.1
  have Li : ∀ (k9 : Nat) (l i c : Int), 11 - i < (k9 : Int) → (0 ≤ l ∧ l < S 4 1 ∧ 1 ≤ i ∧ i ≤ 10) → (c = zz_sum (fun l => zz_bln (S 49) (S 50) (S (8 + 1 + l)) (S 7 l)) l.toNat + zz_sum (zz_bnd (S 49) (S 50) (S (8 + 1 + l.toNat))) (i - 1).toNat) → (i = 1 ∨ i ≤ S 7 l.toNat - 1) → (∀ c2 : Int, c2 = zz_sum (fun l => zz_bln (S 49) (S 50) (S (8 + 1 + l)) (S 7 l)) (l + 1).toNat → ∀ u, qq_p xs (d + 17) (mm_mr mm_m61) (mm_mk mm_m61) (fun r S' => r = some (zz_bds S (S 49) (S 50)) ∧ S' = S) 4 [some (.inr (54, none)), some (.inl c2), some (.inl (l + 1)), u] [] S) → qq_p xs (d + 17) (mm_mr mm_m61) (mm_mk mm_m61) (fun r S' => r = some (zz_bds S (S 49) (S 50)) ∧ S' = S) 17 [some (.inr (54, none)), some (.inl c), some (.inl l), some (.inl i)] [] (S) := by
    intro k9
    induction k9 with
    | zero =>
      intro l i c hm h1 h2 h5 h4
      exfalso
      omega
    | succ k9 ih =>
      intro l i c hm h1 h2 h5 h4
      refine qq_fsound hxs (sp_26_93_ok hxs (d + 0)) [17, 4] 300 ?_
      repeat' first | apply And.intro | intro _ | (simp only [qq_tab]) | (simp only [qq_pl])
      all_goals (
        (have n1 := g1.2.2.2 l.toNat (by omega)
         first
         | omega
         | exact hp.1
         | exact hp.2
         | (refine h4 c ?_ _
            rw [zz_sum_s _ l (by omega), h2]
            show _ = _ + zz_bln _ _ _ _
            unfold zz_bln
            rw [show (i - 1).toNat = (S 7 l.toNat - 2).toNat by omega])
         | (refine ih l (i + 1) _ ?_ ?_ ?_ ?_ h4 <;> first | omega | (rw [show (i + 1 - 1).toNat = (i - 1).toNat + 1 by omega, h2]; show _ = _ + (zz_sum _ _ + _); omega))))
  have L : ∀ (k9 : Nat) (l c : Int) (u : Option qq_V), S 4 1 - l < (k9 : Int) → (0 ≤ l ∧ l ≤ S 4 1) → (c = zz_sum (fun l => zz_bln (S 49) (S 50) (S (8 + 1 + l)) (S 7 l)) l.toNat) → qq_p xs (d + 17) (mm_mr mm_m61) (mm_mk mm_m61) (fun r S' => r = some (zz_bds S (S 49) (S 50)) ∧ S' = S) 4 [some (.inr (54, none)), some (.inl c), some (.inl l), u] [] (S) := by
    intro k9
    induction k9 with
    | zero =>
      intro l c u hm h1 h2
      exfalso
      omega
    | succ k9 ih =>
      intro l c u hm h1 h2
      refine qq_fsound hxs (sp_26_93_ok hxs (d + 0)) [17, 4] 300 ?_
      repeat' first | apply And.intro | intro _ | (simp only [qq_tab]) | (simp only [qq_pl])
      all_goals (
        (first
         | omega
         | (have ei : l = S 4 1 := by omega
            subst ei
            first | rfl | (rw [h2]; first | done | rfl))
         | (have n1 := g1.2.2.2 l.toNat (by omega)
            refine Li 11 l 1 c (by omega) (by omega) (by rw [h2]; exact (Int.add_zero _).symm) (by omega) (fun c2 hc u2 => ih _ _ _ (by omega) (by omega) hc))))
  have h : qq_p xs (d + 17) (mm_mr mm_m61) (mm_mk mm_m61) (fun r S' => r = some (zz_bds S (S 49) (S 50)) ∧ S' = S) 0 (qq_ent mm_m61 [.inr (54, none)]) [] S := by
    refine qq_fsound hxs (sp_26_93_ok hxs (d + 0)) [17, 4] 300 ?_
    repeat' first | apply And.intro | intro _ | (simp only [qq_tab]) | (simp only [qq_pl])
    all_goals (first | omega | exact L (S 4 1 + 1).toNat 0 0 _ (by omega) (by omega) rfl)
  obtain ⟨r, S', hE, e1, e2⟩ := qq_call_of (y := 61) rfl (Nat.le_of_ble_eq_true rfl) h
  rw [e1, e2] at hE
  exact hE
noncomputable def sp_27 : qq_P := fun y as S => match y, as with
  | 62, [.inr (54, none)] => some (zz_p (zz_nb S) = 1 ∧ zz_p (zz_pl (S 49) (S 50)) = 1, some (zz_lns S (S 49) (S 50)), S)
  | 63, [.inr (54, none)] => some (zz_p (zz_nb S) = 1 ∧ zz_p (zz_pl (S 49) (S 50)) = 1, some (zz_trs S (S 49) (S 50)), S)
  | 61, [.inr (54, none)] => some (zz_p (zz_nb S) = 1 ∧ zz_p (zz_pl (S 49) (S 50)) = 1, some (zz_bds S (S 49) (S 50)), S)
  | _, _ => sp_26_93 y as S
theorem sp_27_ok {xs : List Int32} (hxs : xs.length ≤ 2048) (d : Nat) : qq_ok xs (d + 18) sp_27 := by
  intro y as S pre r S2 h hp
  unfold sp_27 at h
  split at h
  · cases h; exact f62 hxs (d + 0) S hp
  · cases h; exact f63 hxs (d + 0) S hp
  · cases h; exact f61 hxs (d + 0) S hp
  · exact sp_26_93_ok hxs (d + 1) y as S pre r S2 h hp
set_option maxRecDepth 20000 in
theorem f60 {xs : List Int32} (hxs : xs.length ≤ 2048) (d : Nat) (S : qq_S) (hp : zz_p (zz_nb S) = 1 ∧ zz_p (zz_pl (S 49) (S 50)) = 1) : qq_E xs (d + 19) 60 [.inr (54, none)] S (some (zz_cst S (S 49) (S 50))) (S) := by
  have h : qq_p xs (d + 18) (mm_mr mm_m60) (mm_mk mm_m60) (fun r S' => r = some (zz_cst S (S 49) (S 50)) ∧ S' = S) 0 (qq_ent mm_m60 [.inr (54, none)]) [] S := by
    refine qq_fsound hxs (sp_27_ok hxs (d + 0)) [] 300 ?_
    repeat' first | apply And.intro | intro _ | (simp only [qq_tab]) | (simp only [qq_pl])
    all_goals (first | rfl | exact hp.1 | exact hp.2)
  obtain ⟨r, S', hE, e1, e2⟩ := qq_call_of (y := 60) rfl (Nat.le_of_ble_eq_true rfl) h
  rw [e1, e2] at hE
  exact hE
noncomputable def sp_28 : qq_P := fun y as S => match y, as with
  | 60, [.inr (54, none)] => some (zz_p (zz_nb S) = 1 ∧ zz_p (zz_pl (S 49) (S 50)) = 1, some (zz_cst S (S 49) (S 50)), S)
  | _, _ => sp_27 y as S
theorem sp_28_ok {xs : List Int32} (hxs : xs.length ≤ 2048) (d : Nat) : qq_ok xs (d + 19) sp_28 := by
  intro y as S pre r S2 h hp
  unfold sp_28 at h
  split at h
  · cases h; exact f60 hxs (d + 0) S hp
  · exact sp_27_ok hxs (d + 1) y as S pre r S2 h hp
theorem zz_eC_ne (S : qq_S) {a : Nat} (h : a ≠ 53) : zz_eC S a = S a := by
  unfold zz_eC zz_bl
  rw [qq_ueq h, qq_ueq h, qq_ueq h]
theorem zz_eC_nb {S : qq_S} (h : zz_nb S) : zz_nb (zz_eC S) := by
  have r : ∀ b : Nat, b ≤ 38 → ∀ s : Nat, s < 10 → zz_eC S (b + s) = S (b + s) := fun b hb s hs => zz_eC_ne S (by omega)
  unfold zz_nb at *
  obtain ⟨h1, h2, h3, h4⟩ := h
  rw [zz_eC_ne S (by decide), zz_eC_ne S (by decide), zz_eC_ne S (by decide), zz_eC_ne S (by decide), zz_eC_ne S (by decide), zz_eC_ne S (by decide)]
  refine ⟨h1, h2, fun s hs => ?_, fun l hl => ?_⟩
  · rw [r (26 + 1) (by omega) s hs, r (37 + 1) (by omega) s hs]
    exact h3 s hs
  · rw [r (8 + 1) (by omega) l (by omega), r (15 + 1) (by omega) l (by omega)]
    exact h4 l hl
theorem zz_eC_bds (S : qq_S) (h : S 4 1 ≤ 6) : zz_bds (zz_eC S) (S 49) (S 50) = zz_bds S (S 49) (S 50) := by
  unfold zz_bds
  rw [zz_eC_ne S (show 4 ≠ 53 by decide), zz_eC_ne S (show 7 ≠ 53 by decide)]
  exact zz_sum_c (fun l hl => by rw [zz_eC_ne S (show 8 + 1 + l ≠ 53 by omega)])
theorem zz_eC_lns (S : qq_S) : zz_lns (zz_eC S) (S 49) (S 50) = zz_lns S (S 49) (S 50) := by
  unfold zz_lns
  rw [zz_eC_ne S (show 4 ≠ 53 by decide), zz_eC_ne S (show 22 ≠ 53 by decide), zz_eC_ne S (show 23 ≠ 53 by decide)]
theorem zz_eC_trs (S : qq_S) : zz_trs (zz_eC S) (S 49) (S 50) = zz_trs S (S 49) (S 50) := by
  unfold zz_trs
  rw [zz_eC_ne S (show 4 ≠ 53 by decide)]
  refine zz_sum_c (fun e _ => ?_)
  unfold zz_trn
  rw [zz_eC_ne S (show 24 ≠ 53 by decide), zz_eC_ne S (show 22 ≠ 53 by decide), zz_eC_ne S (show 23 ≠ 53 by decide)]
set_option maxRecDepth 20000 in
theorem f98 {xs : List Int32} (hxs : xs.length ≤ 2048) (d : Nat) (S : qq_S) (a : Int) (hp : qq_in a ∧ zz_p (zz_nb S) = 1 ∧ zz_p (zz_pl (S 49) (S 50)) = 1 ∧ qq_in (S 52 3)) : qq_E xs (d + 20) 98 [.inr (3, none), .inl a] S (some (if ¬ (0 ≤ a ∧ a ≤ 3) then -1 else if ¬ (zz_vC S).1 = 0 then -6 else if a = 1 then zz_bds S (S 49) (S 50) else if a = 2 then zz_lns S (S 49) (S 50) else if a = 3 then zz_trs S (S 49) (S 50) else zz_cst S (S 49) (S 50))) (if ¬ (0 ≤ a ∧ a ≤ 3) then S else zz_eC S) := by
  have g1 := zz_pi1.mp hp.2.1
  have g2 := zz_pi1.mp hp.2.2.1
  have n0 := g1.1
  have x49 := zz_eC_ne S (show 49 ≠ 53 by decide)
  have x50 := zz_eC_ne S (show 50 ≠ 53 by decide)
  have x52 := zz_eC_ne S (show 52 ≠ 53 by decide)
  have pb : zz_p (zz_nb (zz_eC S)) = 1 := zz_p1 (zz_eC_nb g1)
  have pl : zz_p (zz_pl (zz_eC S 49) (zz_eC S 50)) = 1 := by rw [x49, x50]; exact hp.2.2.1
  have y1 : zz_bds (zz_eC S) (zz_eC S 49) (zz_eC S 50) = zz_bds S (S 49) (S 50) := by rw [x49, x50]; exact zz_eC_bds S (by omega)
  have y2 : zz_lns (zz_eC S) (zz_eC S 49) (zz_eC S 50) = zz_lns S (S 49) (S 50) := by rw [x49, x50]; exact zz_eC_lns S
  have y3 : zz_trs (zz_eC S) (zz_eC S 49) (zz_eC S 50) = zz_trs S (S 49) (S 50) := by rw [x49, x50]; exact zz_eC_trs S
  have y4 : zz_cst (zz_eC S) (zz_eC S 49) (zz_eC S 50) = zz_cst S (S 49) (S 50) := by
    unfold zz_cst
    rw [y1, y2, y3, x52]
  have hv := zz_p01 ((zz_vC S).1 = 0)
  have h : qq_p xs (d + 19) (mm_mr mm_m98) (mm_mk mm_m98) (fun r S' => r = some (if ¬ (0 ≤ a ∧ a ≤ 3) then -1 else if ¬ (zz_vC S).1 = 0 then -6 else if a = 1 then zz_bds S (S 49) (S 50) else if a = 2 then zz_lns S (S 49) (S 50) else if a = 3 then zz_trs S (S 49) (S 50) else zz_cst S (S 49) (S 50)) ∧ S' = if ¬ (0 ≤ a ∧ a ≤ 3) then S else zz_eC S) 0 (qq_ent mm_m98 [.inr (3, none), .inl a]) [] S := by
    refine qq_fsound hxs (sp_28_ok hxs (d + 0)) [] 300 ?_
    repeat' first | apply And.intro | intro _ | (simp only [qq_tab]) | (simp only [qq_pl])
    all_goals (
      first
      | omega
      | exact pb
      | exact pl
      | exact hp.2.1
      | exact hp.2.2.1
      | exact hp.2.2.2.1
      | exact hp.2.2.2.2
      | exact (zz_bin _).1
      | exact (zz_bin _).2
      | exact hp.1.1
      | exact hp.1.2
      | (have c0 : ¬ (0 ≤ a ∧ a ≤ 3) := zz_bi0.mp (by assumption)
         rw [if_pos c0])
      | (have c0 : (0 ≤ a ∧ a ≤ 3) := Classical.not_not.mp (fun z => absurd (zz_bi0.mpr z) (by assumption))
         have nc0 := not_not_intro c0
         first
         | (rw [if_neg nc0]; done)
         | (have cv : ¬ (zz_vC S).1 = 0 := zz_pi0.mp (by assumption)
            rw [if_neg nc0, if_pos cv]; done)
         | (have cv : (zz_vC S).1 = 0 := Classical.not_not.mp (fun z => absurd (zz_pi0.mpr z) (by assumption))
            have ncv := not_not_intro cv
            rw [if_neg nc0, if_neg ncv]
            first
            | (rw [if_pos (by omega), y1]; done)
            | (rw [if_neg (by omega), if_pos (by omega), y2]; done)
            | (rw [if_neg (by omega), if_neg (by omega), if_pos (by omega), y3]; done)
            | (rw [if_neg (by omega), if_neg (by omega), if_neg (by omega), y4]; done))))
  obtain ⟨r, S', hE, e1, e2⟩ := qq_call_of (y := 98) rfl (Nat.le_of_ble_eq_true rfl) h
  rw [e1, e2] at hE
  exact hE
