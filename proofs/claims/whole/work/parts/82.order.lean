/-! The search's order. -/
def zz_o01 (S : qq_S) : Prop := ∀ t : Nat, (t : Int) < S 4 0 → S 90 t = 0 ∨ S 90 t = 1
theorem zz_ec_bd {O ring : Nat → Int} (n : Nat) : 0 ≤ zz_sum (fun i => if O (ring i).toNat = 0 then 0 else 1) n ∧ zz_sum (fun i => if O (ring i).toNat = 0 then 0 else 1) n ≤ n := by
  have := zz_sum_bd (f := fun i => if O (ring i).toNat = 0 then 0 else 1) (n := n) (a := 0) (b := 1) (fun j _ => by
    show 0 ≤ (if O (ring j).toNat = 0 then (0 : Int) else 1) ∧ (if O (ring j).toNat = 0 then (0 : Int) else 1) ≤ 1
    split <;> omega)
  omega
set_option maxRecDepth 20000 in
theorem f76 {xs : List Int32} (hxs : xs.length ≤ 2048) (d : Nat) (S : qq_S) (s : Int) (hp : (0 ≤ s ∧ s < 10) ∧ zz_p (zz_nb S) = 1 ∧ zz_p (zz_o01 S) = 1) : qq_E xs (d + 8) 76 [.inr (55, none), .inl s] S (some (zz_sum (fun i => if S 90 (S (26 + 1 + s.toNat) i).toNat = 0 then 0 else 1) (S 25 s.toNat).toNat)) (S) := by
  have g1 := zz_pi1.mp hp.2.1
  have g2 := zz_pi1.mp hp.2.2
  have n0 := g1.1
  have gd := g1.2.2.1 s.toNat (by omega)
  have L : ∀ (k9 : Nat) (i m : Int), S 25 s.toNat - i < (k9 : Int) → (0 ≤ i ∧ i ≤ S 25 s.toNat) → (m = zz_sum (fun i => if S 90 (S (26 + 1 + s.toNat) i).toNat = 0 then 0 else 1) i.toNat) → qq_p xs (d + 7) (mm_mr mm_m76) (mm_mk mm_m76) (fun r S' => r = some (zz_sum (fun i => if S 90 (S (26 + 1 + s.toNat) i).toNat = 0 then 0 else 1) (S 25 s.toNat).toNat) ∧ S' = S) 4 [some (.inr (55, none)), some (.inl s), some (.inl m), some (.inl i)] [] (S) := by
    intro k9
    induction k9 with
    | zero =>
      intro i m hm h1 h2
      exfalso
      omega
    | succ k9 ih =>
      intro i m hm h1 h2
      refine qq_fsound hxs (sp_14_ok hxs (d + 0)) [4] 300 ?_
      repeat' first | apply And.intro | intro _ | (simp only [qq_tab]) | (simp only [qq_pl])
      all_goals (first | (
        (have mb := zz_ec_bd (O := S 90) (ring := S (26 + 1 + s.toNat)) i.toNat
         first
         | omega
         | (rw [h2, show i = S 25 s.toNat by omega]; done)
         | (have r := gd.2.2 i.toNat (by omega)
            have o := g2 (S (26 + 1 + s.toNat) i.toNat).toNat (by omega)
            have es := zz_sum_s (fun i => if S 90 (S (26 + 1 + s.toNat) i).toNat = 0 then 0 else 1) i h1.1
            first
            | omega
            | (have c : S 90 (S (26 + 1 + s.toNat) i.toNat).toNat = 0 := by assumption
               rw [if_pos c] at es
               exact ih (i + 1) (m + 0) (by omega) (by omega) (by omega))
            | (have c : ¬ S 90 (S (26 + 1 + s.toNat) i.toNat).toNat = 0 := by assumption
               rw [if_neg c] at es
               exact ih (i + 1) (m + 1) (by omega) (by omega) (by omega)))
         | skip))
                                                                                          | skip)
  have h : qq_p xs (d + 7) (mm_mr mm_m76) (mm_mk mm_m76) (fun r S' => r = some (zz_sum (fun i => if S 90 (S (26 + 1 + s.toNat) i).toNat = 0 then 0 else 1) (S 25 s.toNat).toNat) ∧ S' = S) 0 (qq_ent mm_m76 [.inr (55, none), .inl s]) [] S := by
    refine qq_fsound hxs (sp_14_ok hxs (d + 0)) [4] 300 ?_
    repeat' first | apply And.intro | intro _ | (simp only [qq_tab]) | (simp only [qq_pl])
    all_goals (first | (
      first
      | omega
      | exact L (S 25 s.toNat + 1).toNat 0 0 (by omega) (by omega) rfl
      | skip)
                                                                                          | skip)
  obtain ⟨r, S', hE, e1, e2⟩ := qq_call_of (y := 76) rfl (Nat.le_of_ble_eq_true rfl) h
  rw [e1, e2] at hE
  exact hE
noncomputable def sp_70 : qq_P := fun y as S => match y, as with
  | 76, [.inr (55, none), .inl s] => some ((0 ≤ s ∧ s < 10) ∧ zz_p (zz_nb S) = 1 ∧ zz_p (zz_o01 S) = 1, some (zz_sum (fun i => if S 90 (S (26 + 1 + s.toNat) i).toNat = 0 then 0 else 1) (S 25 s.toNat).toNat), S)
  | _, _ => sp_14 y as S
theorem sp_70_ok {xs : List Int32} (hxs : xs.length ≤ 2048) (d : Nat) : qq_ok xs (d + 8) sp_70 := by
  intro y as S pre r S2 h hp
  unfold sp_70 at h
  split at h
  · cases h; exact f76 hxs (d + 0) S _ hp
  · exact sp_14_ok hxs (d + 1) y as S pre r S2 h hp
set_option maxRecDepth 20000 in
theorem f75 {xs : List Int32} (hxs : xs.length ≤ 2048) (d : Nat) (S : qq_S) (s : Int) (hp : (0 ≤ s ∧ s < 10 ∧ qq_in (S 87 s.toNat)) ∧ zz_p (zz_nb S) = 1 ∧ zz_p (zz_o01 S) = 1) : qq_E xs (d + 9) 75 [.inr (55, none), .inl s] S (some ((if S 87 s.toNat = -1 then 0 else 10000) + 100 * zz_sum (fun i => if S 90 (S (26 + 1 + s.toNat) i).toNat = 0 then 0 else 1) (S 25 s.toNat).toNat + S 25 s.toNat)) (S) := by
  have h : qq_p xs (d + 8) (mm_mr mm_m75) (mm_mk mm_m75) (fun r S' => r = some ((if S 87 s.toNat = -1 then 0 else 10000) + 100 * zz_sum (fun i => if S 90 (S (26 + 1 + s.toNat) i).toNat = 0 then 0 else 1) (S 25 s.toNat).toNat + S 25 s.toNat) ∧ S' = S) 0 (qq_ent mm_m75 [.inr (55, none), .inl s]) [] S := by
    refine qq_fsound hxs (sp_70_ok hxs (d + 0)) [] 300 ?_
    repeat' first | apply And.intro | intro _ | (simp only [qq_tab]) | (simp only [qq_pl])
    all_goals (first | (
      first
      | omega
      | exact hp.2.1
      | exact hp.2.2
      | exact hp.1.2.2.1
      | exact hp.1.2.2.2
      | (have c : S 87 s.toNat = -1 := by assumption
         rw [if_pos c]; done)
      | (have c : ¬ S 87 s.toNat = -1 := by assumption
         rw [if_neg c]; done)
      | skip)
                                                                                          | skip)
  obtain ⟨r, S', hE, e1, e2⟩ := qq_call_of (y := 75) rfl (Nat.le_of_ble_eq_true rfl) h
  rw [e1, e2] at hE
  exact hE
noncomputable def sp_71 : qq_P := fun y as S => match y, as with
  | 75, [.inr (55, none), .inl s] => some ((0 ≤ s ∧ s < 10 ∧ qq_in (S 87 s.toNat)) ∧ zz_p (zz_nb S) = 1 ∧ zz_p (zz_o01 S) = 1, some ((if S 87 s.toNat = -1 then 0 else 10000) + 100 * zz_sum (fun i => if S 90 (S (26 + 1 + s.toNat) i).toNat = 0 then 0 else 1) (S 25 s.toNat).toNat + S 25 s.toNat), S)
  | _, _ => sp_70 y as S
theorem sp_71_ok {xs : List Int32} (hxs : xs.length ≤ 2048) (d : Nat) : qq_ok xs (d + 9) sp_71 := by
  intro y as S pre r S2 h hp
  unfold sp_71 at h
  split at h
  · cases h; exact f75 hxs (d + 0) S _ hp
  · exact sp_70_ok hxs (d + 1) y as S pre r S2 h hp
