/-! What a station has a share in. -/
def zz_b3 (X row : Nat → Int) (k : Nat) : Prop := ¬ X (row k).toNat = -1 ∧ ¬ X (row (k + 1)).toNat = -1 ∧ ¬ X (row (k + 2)).toNat = -1
noncomputable def zz_bf1 (X Y row : Nat → Int) (rk : Int) (k : Nat) : Int := @ite Int ((rk - 2 ≤ k ∧ k ≤ rk) ∧ zz_b3 X row k) (Classical.propDecidable _) (zz_bnd X Y row k) 0
noncomputable def zz_bl1 (X Y row : Nat → Int) (rk Z : Int) : Int := if rk = -1 then 0 else zz_sum (zz_bf1 X Y row rk) (Z - 2).toNat
noncomputable def zz_ba (S : qq_S) (X Y : Nat → Int) (s : Nat) : Int := zz_sum (fun l => zz_bl1 X Y (S (8 + 1 + l)) (S (15 + 1 + l) s) (S 7 l)) (S 4 1).toNat
def zz_ar1 (S : qq_S) (X Y : Nat → Int) (s i : Nat) : Int := if X (S (26 + 1 + s) i).toNat = -1 then 0 else zz_ln X Y s (S (26 + 1 + s) i).toNat * S 52 1 + zz_trn S X Y (S (37 + 1 + s) (S (26 + 1 + s) i).toNat).toNat * S 52 2
noncomputable def zz_ar (S : qq_S) (X Y : Nat → Int) (s : Nat) : Int := zz_sum (zz_ar1 S X Y s) (S 25 s).toNat + zz_ba S X Y s * S 52 0
theorem zz_sum_z {f : Nat → Int} {m n : Nat} (hmn : m ≤ n) (h : ∀ k, m ≤ k → k < n → f k = 0) : zz_sum f n = zz_sum f m := by
  induction n with
  | zero => rw [show m = 0 by omega]
  | succ n ih =>
    by_cases e : m = n + 1
    · rw [e]
    · have : zz_sum f (n + 1) = zz_sum f n + f n := rfl
      rw [this, ih (by omega) (fun k h1 h2 => h k h1 (by omega)), h n (by omega) (by omega)]
      exact Int.add_zero _
theorem zz_sum_z0 {f : Nat → Int} {n : Nat} (h : ∀ k, k < n → f k = 0) : zz_sum f n = 0 := zz_sum_z (m := 0) (by omega) (fun k _ hk => h k hk)
theorem zz_bf1_no {X Y row : Nat → Int} {rk : Int} {k : Nat} (h : ¬ (rk - 2 ≤ k ∧ k ≤ rk)) : zz_bf1 X Y row rk k = 0 := by
  unfold zz_bf1
  rw [if_neg (fun z => h z.1)]
theorem zz_bf1_yes {X Y row : Nat → Int} {rk : Int} {k : Nat} (h : rk - 2 ≤ k ∧ k ≤ rk) (hp : zz_b3 X row k) : zz_bf1 X Y row rk k = zz_bnd X Y row k := by
  unfold zz_bf1
  rw [if_pos ⟨h, hp⟩]
theorem zz_bf1_np {X Y row : Nat → Int} {rk : Int} {k : Nat} (hp : ¬ zz_b3 X row k) : zz_bf1 X Y row rk k = 0 := by
  unfold zz_bf1
  rw [if_neg (fun z => hp z.2)]
set_option maxRecDepth 20000 in
theorem f69_54 {xs : List Int32} (hxs : xs.length ≤ 2048) (d : Nat) (S : qq_S) (l : Nat) (i : Int) (hp : ((l : Int) < S 4 1 ∧ 1 ≤ i ∧ i + 1 < S 7 l) ∧ zz_p (zz_nb S) = 1 ∧ zz_p (zz_pl (S 49) (S 50)) = 1) : qq_E xs (d + 18) 69 [.inr (54, none), .inr (8, some l), .inl i] S (some (zz_p (zz_b3 (S 49) (S (8 + 1 + l)) (i - 1).toNat))) (S) := by
  have g1 := zz_pi1.mp hp.2.1
  have g2 := zz_pi1.mp hp.2.2
  have n0 := g1.1
  have n1 := g1.2.2.2 l (by omega)
  have r0 := n1.2.2.1 (i - 1).toNat (by omega)
  have r1 := n1.2.2.1 ((i - 1).toNat + 1) (by omega)
  have r2 := n1.2.2.1 ((i - 1).toNat + 2) (by omega)
  have q0 := g2 (S (8 + 1 + l) (i - 1).toNat).toNat (by omega)
  have q1 := g2 (S (8 + 1 + l) ((i - 1).toNat + 1)).toNat (by omega)
  have q2 := g2 (S (8 + 1 + l) ((i - 1).toNat + 2)).toNat (by omega)
  have e1 : i.toNat = (i - 1).toNat + 1 := by omega
  have e2 : (i + 1).toNat = (i - 1).toNat + 2 := by omega
  have h : qq_p xs (d + 17) (mm_mr mm_m69) (mm_mk mm_m69) (fun r S' => r = some (zz_p (zz_b3 (S 49) (S (8 + 1 + l)) (i - 1).toNat)) ∧ S' = S) 0 (qq_ent mm_m69 [.inr (54, none), .inr (8, some l), .inl i]) [] S := by
    refine qq_fsound hxs (sp_26_93_ok hxs (d + 0)) [] 300 ?_
    repeat' first | apply And.intro | intro _ | (simp only [qq_tab]) | (simp only [qq_pl])
    all_goals (
      ((try simp only [e1, e2] at *)
       first
       | omega
       | exact (zz_bin _).1
       | exact (zz_bin _).2
       | exact Or.inl trivial
       | exact Or.inr trivial
       | ((try simp only [zz_bi0, Classical.not_not] at *)
          first
          | exact congrArg some (zz_p1 ⟨by assumption, by assumption, by assumption⟩).symm
          | exact congrArg some (zz_p0 (fun z => absurd (by assumption) z.1)).symm
          | exact congrArg some (zz_p0 (fun z => absurd (by assumption) z.2.1)).symm
          | exact congrArg some (zz_p0 (fun z => absurd (by assumption) z.2.2)).symm)))
  obtain ⟨r, S', hE, e1, e2⟩ := qq_call_of (y := 69) rfl (Nat.le_of_ble_eq_true rfl) h
  rw [e1, e2] at hE
  exact hE
set_option maxRecDepth 20000 in
theorem f69_93 {xs : List Int32} (hxs : xs.length ≤ 2048) (d : Nat) (S : qq_S) (l : Nat) (i : Int) (hp : ((l : Int) < S 4 1 ∧ 1 ≤ i ∧ i + 1 < S 7 l) ∧ zz_p (zz_nb S) = 1 ∧ zz_p (zz_pl (S 57) (S 58)) = 1) : qq_E xs (d + 18) 69 [.inr (93, none), .inr (8, some l), .inl i] S (some (zz_p (zz_b3 (S 57) (S (8 + 1 + l)) (i - 1).toNat))) (S) := by
  have g1 := zz_pi1.mp hp.2.1
  have g2 := zz_pi1.mp hp.2.2
  have n0 := g1.1
  have n1 := g1.2.2.2 l (by omega)
  have r0 := n1.2.2.1 (i - 1).toNat (by omega)
  have r1 := n1.2.2.1 ((i - 1).toNat + 1) (by omega)
  have r2 := n1.2.2.1 ((i - 1).toNat + 2) (by omega)
  have q0 := g2 (S (8 + 1 + l) (i - 1).toNat).toNat (by omega)
  have q1 := g2 (S (8 + 1 + l) ((i - 1).toNat + 1)).toNat (by omega)
  have q2 := g2 (S (8 + 1 + l) ((i - 1).toNat + 2)).toNat (by omega)
  have e1 : i.toNat = (i - 1).toNat + 1 := by omega
  have e2 : (i + 1).toNat = (i - 1).toNat + 2 := by omega
  have h : qq_p xs (d + 17) (mm_mr mm_m69) (mm_mk mm_m69) (fun r S' => r = some (zz_p (zz_b3 (S 57) (S (8 + 1 + l)) (i - 1).toNat)) ∧ S' = S) 0 (qq_ent mm_m69 [.inr (93, none), .inr (8, some l), .inl i]) [] S := by
    refine qq_fsound hxs (sp_26_93_ok hxs (d + 0)) [] 300 ?_
    repeat' first | apply And.intro | intro _ | (simp only [qq_tab]) | (simp only [qq_pl])
    all_goals (
      ((try simp only [e1, e2] at *)
       first
       | omega
       | exact (zz_bin _).1
       | exact (zz_bin _).2
       | exact Or.inl trivial
       | exact Or.inr trivial
       | ((try simp only [zz_bi0, Classical.not_not] at *)
          first
          | exact congrArg some (zz_p1 ⟨by assumption, by assumption, by assumption⟩).symm
          | exact congrArg some (zz_p0 (fun z => absurd (by assumption) z.1)).symm
          | exact congrArg some (zz_p0 (fun z => absurd (by assumption) z.2.1)).symm
          | exact congrArg some (zz_p0 (fun z => absurd (by assumption) z.2.2)).symm)))
  obtain ⟨r, S', hE, e1, e2⟩ := qq_call_of (y := 69) rfl (Nat.le_of_ble_eq_true rfl) h
  rw [e1, e2] at hE
  exact hE
noncomputable def sp_56 : qq_P := fun y as S => match y, as with
  | 69, [.inr (54, none), .inr (8, some l), .inl i] => some (((l : Int) < S 4 1 ∧ 1 ≤ i ∧ i + 1 < S 7 l) ∧ zz_p (zz_nb S) = 1 ∧ zz_p (zz_pl (S 49) (S 50)) = 1, some (zz_p (zz_b3 (S 49) (S (8 + 1 + l)) (i - 1).toNat)), S)
  | 69, [.inr (93, none), .inr (8, some l), .inl i] => some (((l : Int) < S 4 1 ∧ 1 ≤ i ∧ i + 1 < S 7 l) ∧ zz_p (zz_nb S) = 1 ∧ zz_p (zz_pl (S 57) (S 58)) = 1, some (zz_p (zz_b3 (S 57) (S (8 + 1 + l)) (i - 1).toNat)), S)
  | _, _ => sp_26_93 y as S
theorem sp_56_ok {xs : List Int32} (hxs : xs.length ≤ 2048) (d : Nat) : qq_ok xs (d + 18) sp_56 := by
  intro y as S pre r S2 h hp
  unfold sp_56 at h
  split at h
  · cases h; exact f69_54 hxs (d + 0) S _ _ hp
  · cases h; exact f69_93 hxs (d + 0) S _ _ hp
  · exact sp_26_93_ok hxs (d + 1) y as S pre r S2 h hp
set_option maxRecDepth 20000 in
theorem f68_54 {xs : List Int32} (hxs : xs.length ≤ 2048) (d : Nat) (S : qq_S) (s : Int) (hp : (0 ≤ s ∧ s < 10) ∧ zz_p (zz_nb S) = 1 ∧ zz_p (zz_pl (S 49) (S 50)) = 1) : qq_E xs (d + 19) 68 [.inr (54, none), .inl s] S (some (zz_ba S (S 49) (S 50) s.toNat)) (S) := by
  have g1 := zz_pi1.mp hp.2.1
  have g2 := zz_pi1.mp hp.2.2
  have n0 := g1.1
  have Li : ∀ (k9 : Nat) (l c rk en i : Int), 12 - i < (k9 : Int) → (0 ≤ l ∧ l < S 4 1 ∧ 1 ≤ i ∧ i ≤ 11) → (rk = S (15 + 1 + l.toNat) s.toNat ∧ ¬ rk = -1 ∧ en = (if S 7 l.toNat - 2 < rk + 1 then S 7 l.toNat - 2 else rk + 1)) → (rk - 1 ≤ i ∧ (i ≤ en + 1 ∨ (i = 1 ∧ S 7 l.toNat ≤ 2))) → (c = zz_sum (fun l => zz_bl1 (S 49) (S 50) (S (8 + 1 + l)) (S (15 + 1 + l) s.toNat) (S 7 l)) l.toNat + zz_sum (zz_bf1 (S 49) (S 50) (S (8 + 1 + l.toNat)) (S (15 + 1 + l.toNat) s.toNat)) (i - 1).toNat) → (∀ c2 : Int, c2 = zz_sum (fun l => zz_bl1 (S 49) (S 50) (S (8 + 1 + l)) (S (15 + 1 + l) s.toNat) (S 7 l)) (l + 1).toNat → ∀ u v w, qq_p xs (d + 18) (mm_mr mm_m68) (mm_mk mm_m68) (fun r S' => r = some (zz_ba S (S 49) (S 50) s.toNat) ∧ S' = S) 4 [some (.inr (54, none)), some (.inl s), some (.inl c2), some (.inl (l + 1)), u, v, w] [] S) → qq_p xs (d + 18) (mm_mr mm_m68) (mm_mk mm_m68) (fun r S' => r = some (zz_ba S (S 49) (S 50) s.toNat) ∧ S' = S) 67 [some (.inr (54, none)), some (.inl s), some (.inl c), some (.inl l), some (.inl rk), some (.inl en), some (.inl i)] [] (S) := by
    intro k9
    induction k9 with
    | zero =>
      intro l c rk en i hm h1 h6 h7 h2 h4
      exfalso
      omega
    | succ k9 ih =>
      intro l c rk en i hm h1 h6 h7 h2 h4
      refine qq_fsound hxs (sp_56_ok hxs (d + 0)) [67, 4] 300 ?_
      repeat' first | apply And.intro | intro _ | (simp only [qq_tab]) | (simp only [qq_pl])
      all_goals (
        (have n1 := g1.2.2.2 l.toNat (by omega)
         have rb := n1.2.2.2 s.toNat (by omega)
         have ef : en ≤ S 7 l.toNat - 2 ∧ en ≤ rk + 1 ∧ (en = S 7 l.toNat - 2 ∨ en = rk + 1) := by
           have := h6.2.2
           split at this <;> omega
         first
         | omega
         | exact hp.2.1
         | exact hp.2.2
         | exact (zz_pin _).1
         | exact (zz_pin _).2
         | (have gt : en < i := by omega
            refine h4 c ?_ _ _ _
            rw [zz_sum_s _ l (by omega), h2]
            congr 1
            show _ = zz_bl1 _ _ _ _ _
            unfold zz_bl1
            rw [if_neg (by omega)]
            rcases h7.2 with z | z
            · rcases Int.lt_or_le (i - 1) (S 7 l.toNat - 2) with y | y
              · exact (zz_sum_z (by omega) (fun k k1 k2 => zz_bf1_no (by omega))).symm
              · rw [show (i - 1).toNat = (S 7 l.toNat - 2).toNat by omega]
            · rw [show (i - 1).toNat = (S 7 l.toNat - 2).toNat by omega])
         | (have le : i ≤ en := by omega
            have e9 : (i + 1 - 1).toNat = (i - 1).toNat + 1 := by omega
            first
            | omega
            | (have z0 : zz_p (zz_b3 (S 49) (S (8 + 1 + l.toNat)) (i - 1).toNat) = 0 := by assumption
               refine ih l c rk en (i + 1) (by omega) (by omega) h6 (by omega) ?_ h4
               rw [e9, h2]
               show _ = _ + (zz_sum _ _ + _)
               rw [zz_bf1_np (zz_pi0.mp z0)]
               omega)
            | (have z0 : ¬ zz_p (zz_b3 (S 49) (S (8 + 1 + l.toNat)) (i - 1).toNat) = 0 := by assumption
               have yb : zz_b3 (S 49) (S (8 + 1 + l.toNat)) (i - 1).toNat := Classical.not_not.mp (fun w => z0 (zz_pi0.mpr w))
               refine ih l _ rk en (i + 1) (by omega) (by omega) h6 (by omega) ?_ h4
               rw [e9, h2]
               show _ = _ + (zz_sum _ _ + _)
               rw [zz_bf1_yes (by omega) yb]
               omega))))
  have L : ∀ (k9 : Nat) (l c : Int) (u v w : Option qq_V), S 4 1 - l < (k9 : Int) → (0 ≤ l ∧ l ≤ S 4 1) → (c = zz_sum (fun l => zz_bl1 (S 49) (S 50) (S (8 + 1 + l)) (S (15 + 1 + l) s.toNat) (S 7 l)) l.toNat) → qq_p xs (d + 18) (mm_mr mm_m68) (mm_mk mm_m68) (fun r S' => r = some (zz_ba S (S 49) (S 50) s.toNat) ∧ S' = S) 4 [some (.inr (54, none)), some (.inl s), some (.inl c), some (.inl l), u, v, w] [] (S) := by
    intro k9
    induction k9 with
    | zero =>
      intro l c u v w hm h1 h2
      exfalso
      omega
    | succ k9 ih =>
      intro l c u v w hm h1 h2
      refine qq_fsound hxs (sp_56_ok hxs (d + 0)) [67, 4] 300 ?_
      repeat' first | apply And.intro | intro _ | (simp only [qq_tab]) | (simp only [qq_pl])
      all_goals (
        (first
         | omega
         | (have ei : l = S 4 1 := by omega
            subst ei
            first | rfl | (rw [h2]; first | done | rfl))
         | (have n1 := g1.2.2.2 l.toNat (by omega)
            have rb := n1.2.2.2 s.toNat (by omega)
            first
            | omega
            | (have z0 : S (15 + 1 + l.toNat) s.toNat = -1 := by assumption
               refine ih _ _ _ _ _ (by omega) (by omega) ?_
               rw [zz_sum_s _ l (by omega), h2]
               show _ = _ + zz_bl1 _ _ _ _ _
               unfold zz_bl1
               rw [if_pos z0]
               omega)
            | (have z0 : ¬ S (15 + 1 + l.toNat) s.toNat = -1 := by assumption
               refine Li 12 l c _ _ _ (by split <;> omega) (by split <;> omega) ⟨rfl, z0, rfl⟩ ?_ ?_ (fun c2 hc u2 v2 w2 => ih _ _ _ _ _ (by omega) (by omega) hc)
               · refine ⟨by split <;> omega, ?_⟩
                 split <;> split <;> omega
               · rw [h2, zz_sum_z0 (f := zz_bf1 _ _ _ _) (fun k hk => zz_bf1_no (by split at hk <;> omega))]
                 omega))))
  have h : qq_p xs (d + 18) (mm_mr mm_m68) (mm_mk mm_m68) (fun r S' => r = some (zz_ba S (S 49) (S 50) s.toNat) ∧ S' = S) 0 (qq_ent mm_m68 [.inr (54, none), .inl s]) [] S := by
    refine qq_fsound hxs (sp_56_ok hxs (d + 0)) [67, 4] 300 ?_
    repeat' first | apply And.intro | intro _ | (simp only [qq_tab]) | (simp only [qq_pl])
    all_goals (first | omega | exact L (S 4 1 + 1).toNat 0 0 _ _ _ (by omega) (by omega) rfl)
  obtain ⟨r, S', hE, e1, e2⟩ := qq_call_of (y := 68) rfl (Nat.le_of_ble_eq_true rfl) h
  rw [e1, e2] at hE
  exact hE
set_option maxRecDepth 20000 in
theorem f68_93 {xs : List Int32} (hxs : xs.length ≤ 2048) (d : Nat) (S : qq_S) (s : Int) (hp : (0 ≤ s ∧ s < 10) ∧ zz_p (zz_nb S) = 1 ∧ zz_p (zz_pl (S 57) (S 58)) = 1) : qq_E xs (d + 19) 68 [.inr (93, none), .inl s] S (some (zz_ba S (S 57) (S 58) s.toNat)) (S) := by
  have g1 := zz_pi1.mp hp.2.1
  have g2 := zz_pi1.mp hp.2.2
  have n0 := g1.1
  have Li : ∀ (k9 : Nat) (l c rk en i : Int), 12 - i < (k9 : Int) → (0 ≤ l ∧ l < S 4 1 ∧ 1 ≤ i ∧ i ≤ 11) → (rk = S (15 + 1 + l.toNat) s.toNat ∧ ¬ rk = -1 ∧ en = (if S 7 l.toNat - 2 < rk + 1 then S 7 l.toNat - 2 else rk + 1)) → (rk - 1 ≤ i ∧ (i ≤ en + 1 ∨ (i = 1 ∧ S 7 l.toNat ≤ 2))) → (c = zz_sum (fun l => zz_bl1 (S 57) (S 58) (S (8 + 1 + l)) (S (15 + 1 + l) s.toNat) (S 7 l)) l.toNat + zz_sum (zz_bf1 (S 57) (S 58) (S (8 + 1 + l.toNat)) (S (15 + 1 + l.toNat) s.toNat)) (i - 1).toNat) → (∀ c2 : Int, c2 = zz_sum (fun l => zz_bl1 (S 57) (S 58) (S (8 + 1 + l)) (S (15 + 1 + l) s.toNat) (S 7 l)) (l + 1).toNat → ∀ u v w, qq_p xs (d + 18) (mm_mr mm_m68) (mm_mk mm_m68) (fun r S' => r = some (zz_ba S (S 57) (S 58) s.toNat) ∧ S' = S) 4 [some (.inr (93, none)), some (.inl s), some (.inl c2), some (.inl (l + 1)), u, v, w] [] S) → qq_p xs (d + 18) (mm_mr mm_m68) (mm_mk mm_m68) (fun r S' => r = some (zz_ba S (S 57) (S 58) s.toNat) ∧ S' = S) 67 [some (.inr (93, none)), some (.inl s), some (.inl c), some (.inl l), some (.inl rk), some (.inl en), some (.inl i)] [] (S) := by
    intro k9
    induction k9 with
    | zero =>
      intro l c rk en i hm h1 h6 h7 h2 h4
      exfalso
      omega
    | succ k9 ih =>
      intro l c rk en i hm h1 h6 h7 h2 h4
      refine qq_fsound hxs (sp_56_ok hxs (d + 0)) [67, 4] 300 ?_
      repeat' first | apply And.intro | intro _ | (simp only [qq_tab]) | (simp only [qq_pl])
      all_goals (
        (have n1 := g1.2.2.2 l.toNat (by omega)
         have rb := n1.2.2.2 s.toNat (by omega)
         have ef : en ≤ S 7 l.toNat - 2 ∧ en ≤ rk + 1 ∧ (en = S 7 l.toNat - 2 ∨ en = rk + 1) := by
           have := h6.2.2
           split at this <;> omega
         first
         | omega
         | exact hp.2.1
         | exact hp.2.2
         | exact (zz_pin _).1
         | exact (zz_pin _).2
         | (have gt : en < i := by omega
            refine h4 c ?_ _ _ _
            rw [zz_sum_s _ l (by omega), h2]
            congr 1
            show _ = zz_bl1 _ _ _ _ _
            unfold zz_bl1
            rw [if_neg (by omega)]
            rcases h7.2 with z | z
            · rcases Int.lt_or_le (i - 1) (S 7 l.toNat - 2) with y | y
              · exact (zz_sum_z (by omega) (fun k k1 k2 => zz_bf1_no (by omega))).symm
              · rw [show (i - 1).toNat = (S 7 l.toNat - 2).toNat by omega]
            · rw [show (i - 1).toNat = (S 7 l.toNat - 2).toNat by omega])
         | (have le : i ≤ en := by omega
            have e9 : (i + 1 - 1).toNat = (i - 1).toNat + 1 := by omega
            first
            | omega
            | (have z0 : zz_p (zz_b3 (S 57) (S (8 + 1 + l.toNat)) (i - 1).toNat) = 0 := by assumption
               refine ih l c rk en (i + 1) (by omega) (by omega) h6 (by omega) ?_ h4
               rw [e9, h2]
               show _ = _ + (zz_sum _ _ + _)
               rw [zz_bf1_np (zz_pi0.mp z0)]
               omega)
            | (have z0 : ¬ zz_p (zz_b3 (S 57) (S (8 + 1 + l.toNat)) (i - 1).toNat) = 0 := by assumption
               have yb : zz_b3 (S 57) (S (8 + 1 + l.toNat)) (i - 1).toNat := Classical.not_not.mp (fun w => z0 (zz_pi0.mpr w))
               refine ih l _ rk en (i + 1) (by omega) (by omega) h6 (by omega) ?_ h4
               rw [e9, h2]
               show _ = _ + (zz_sum _ _ + _)
               rw [zz_bf1_yes (by omega) yb]
               omega))))
  have L : ∀ (k9 : Nat) (l c : Int) (u v w : Option qq_V), S 4 1 - l < (k9 : Int) → (0 ≤ l ∧ l ≤ S 4 1) → (c = zz_sum (fun l => zz_bl1 (S 57) (S 58) (S (8 + 1 + l)) (S (15 + 1 + l) s.toNat) (S 7 l)) l.toNat) → qq_p xs (d + 18) (mm_mr mm_m68) (mm_mk mm_m68) (fun r S' => r = some (zz_ba S (S 57) (S 58) s.toNat) ∧ S' = S) 4 [some (.inr (93, none)), some (.inl s), some (.inl c), some (.inl l), u, v, w] [] (S) := by
    intro k9
    induction k9 with
    | zero =>
      intro l c u v w hm h1 h2
      exfalso
      omega
    | succ k9 ih =>
      intro l c u v w hm h1 h2
      refine qq_fsound hxs (sp_56_ok hxs (d + 0)) [67, 4] 300 ?_
      repeat' first | apply And.intro | intro _ | (simp only [qq_tab]) | (simp only [qq_pl])
      all_goals (
        (first
         | omega
         | (have ei : l = S 4 1 := by omega
            subst ei
            first | rfl | (rw [h2]; first | done | rfl))
         | (have n1 := g1.2.2.2 l.toNat (by omega)
            have rb := n1.2.2.2 s.toNat (by omega)
            first
            | omega
            | (have z0 : S (15 + 1 + l.toNat) s.toNat = -1 := by assumption
               refine ih _ _ _ _ _ (by omega) (by omega) ?_
               rw [zz_sum_s _ l (by omega), h2]
               show _ = _ + zz_bl1 _ _ _ _ _
               unfold zz_bl1
               rw [if_pos z0]
               omega)
            | (have z0 : ¬ S (15 + 1 + l.toNat) s.toNat = -1 := by assumption
               refine Li 12 l c _ _ _ (by split <;> omega) (by split <;> omega) ⟨rfl, z0, rfl⟩ ?_ ?_ (fun c2 hc u2 v2 w2 => ih _ _ _ _ _ (by omega) (by omega) hc)
               · refine ⟨by split <;> omega, ?_⟩
                 split <;> split <;> omega
               · rw [h2, zz_sum_z0 (f := zz_bf1 _ _ _ _) (fun k hk => zz_bf1_no (by split at hk <;> omega))]
                 omega))))
  have h : qq_p xs (d + 18) (mm_mr mm_m68) (mm_mk mm_m68) (fun r S' => r = some (zz_ba S (S 57) (S 58) s.toNat) ∧ S' = S) 0 (qq_ent mm_m68 [.inr (93, none), .inl s]) [] S := by
    refine qq_fsound hxs (sp_56_ok hxs (d + 0)) [67, 4] 300 ?_
    repeat' first | apply And.intro | intro _ | (simp only [qq_tab]) | (simp only [qq_pl])
    all_goals (first | omega | exact L (S 4 1 + 1).toNat 0 0 _ _ _ (by omega) (by omega) rfl)
  obtain ⟨r, S', hE, e1, e2⟩ := qq_call_of (y := 68) rfl (Nat.le_of_ble_eq_true rfl) h
  rw [e1, e2] at hE
  exact hE
noncomputable def sp_57 : qq_P := fun y as S => match y, as with
  | 68, [.inr (54, none), .inl s] => some ((0 ≤ s ∧ s < 10) ∧ zz_p (zz_nb S) = 1 ∧ zz_p (zz_pl (S 49) (S 50)) = 1, some (zz_ba S (S 49) (S 50) s.toNat), S)
  | 68, [.inr (93, none), .inl s] => some ((0 ≤ s ∧ s < 10) ∧ zz_p (zz_nb S) = 1 ∧ zz_p (zz_pl (S 57) (S 58)) = 1, some (zz_ba S (S 57) (S 58) s.toNat), S)
  | _, _ => sp_56 y as S
theorem sp_57_ok {xs : List Int32} (hxs : xs.length ≤ 2048) (d : Nat) : qq_ok xs (d + 19) sp_57 := by
  intro y as S pre r S2 h hp
  unfold sp_57 at h
  split at h
  · cases h; exact f68_54 hxs (d + 0) S _ hp
  · cases h; exact f68_93 hxs (d + 0) S _ hp
  · exact sp_56_ok hxs (d + 1) y as S pre r S2 h hp
set_option maxRecDepth 20000 in
theorem f67_54 {xs : List Int32} (hxs : xs.length ≤ 2048) (d : Nat) (S : qq_S) (s : Int) (hp : (0 ≤ s ∧ s < 10) ∧ zz_p (zz_nb S) = 1 ∧ zz_p (zz_pl (S 49) (S 50)) = 1) : qq_E xs (d + 20) 67 [.inr (54, none), .inl s] S (some (zz_ar S (S 49) (S 50) s.toNat)) (S) := by
  have g1 := zz_pi1.mp hp.2.1
  have g2 := zz_pi1.mp hp.2.2
  have n0 := g1.1
  have gd := g1.2.2.1 s.toNat (by omega)
  have L : ∀ (k9 : Nat) (i c : Int) (u : Option qq_V), S 25 s.toNat - i < (k9 : Int) → (0 ≤ i ∧ i ≤ S 25 s.toNat) → (c = zz_sum (zz_ar1 S (S 49) (S 50) s.toNat) i.toNat) → qq_p xs (d + 19) (mm_mr mm_m67) (mm_mk mm_m67) (fun r S' => r = some (zz_ar S (S 49) (S 50) s.toNat) ∧ S' = S) 4 [some (.inr (54, none)), some (.inl s), some (.inl c), some (.inl i), u] [] (S) := by
    intro k9
    induction k9 with
    | zero =>
      intro i c u hm h1 h2
      exfalso
      omega
    | succ k9 ih =>
      intro i c u hm h1 h2
      refine qq_fsound hxs (sp_57_ok hxs (d + 0)) [4] 300 ?_
      repeat' first | apply And.intro | intro _ | (simp only [qq_tab]) | (simp only [qq_pl])
      all_goals (
        (first
         | omega
         | exact hp.2.1
         | exact hp.2.2
         | exact (zz_bin _).1
         | exact (zz_bin _).2
         | (have ei : i = S 25 s.toNat := by omega
            subst ei
            rw [h2]
            first | done | rfl)
         | (have il : i < S 25 s.toNat := by omega
            have r := gd.2.2 i.toNat (by omega)
            have q1 := g2 (S (26 + 1 + s.toNat) i.toNat).toNat (by omega)
            first
            | omega
            | (have z0 : S 49 (S (26 + 1 + s.toNat) i.toNat).toNat = -1 := Classical.not_not.mp (zz_bi0.mp (by assumption))
               refine ih _ _ _ (by omega) (by omega) ?_
               rw [zz_sum_s _ i (by omega), h2]
               unfold zz_ar1
               rw [if_pos z0]
               omega)
            | (have z0 : ¬ S 49 (S (26 + 1 + s.toNat) i.toNat).toNat = -1 := Classical.not_not.mp (fun w => absurd (zz_bi0.mpr w) (by assumption))
               refine ih _ _ _ (by omega) (by omega) ?_
               rw [zz_sum_s _ i (by omega), h2]
               congr 1
               unfold zz_ar1
               rw [if_neg z0]))))
  have h : qq_p xs (d + 19) (mm_mr mm_m67) (mm_mk mm_m67) (fun r S' => r = some (zz_ar S (S 49) (S 50) s.toNat) ∧ S' = S) 0 (qq_ent mm_m67 [.inr (54, none), .inl s]) [] S := by
    refine qq_fsound hxs (sp_57_ok hxs (d + 0)) [4] 300 ?_
    repeat' first | apply And.intro | intro _ | (simp only [qq_tab]) | (simp only [qq_pl])
    all_goals (first | omega | exact L (S 25 s.toNat + 1).toNat 0 0 _ (by omega) (by omega) rfl)
  obtain ⟨r, S', hE, e1, e2⟩ := qq_call_of (y := 67) rfl (Nat.le_of_ble_eq_true rfl) h
  rw [e1, e2] at hE
  exact hE
set_option maxRecDepth 20000 in
theorem f67_93 {xs : List Int32} (hxs : xs.length ≤ 2048) (d : Nat) (S : qq_S) (s : Int) (hp : (0 ≤ s ∧ s < 10) ∧ zz_p (zz_nb S) = 1 ∧ zz_p (zz_pl (S 57) (S 58)) = 1) : qq_E xs (d + 20) 67 [.inr (93, none), .inl s] S (some (zz_ar S (S 57) (S 58) s.toNat)) (S) := by
  have g1 := zz_pi1.mp hp.2.1
  have g2 := zz_pi1.mp hp.2.2
  have n0 := g1.1
  have gd := g1.2.2.1 s.toNat (by omega)
  have L : ∀ (k9 : Nat) (i c : Int) (u : Option qq_V), S 25 s.toNat - i < (k9 : Int) → (0 ≤ i ∧ i ≤ S 25 s.toNat) → (c = zz_sum (zz_ar1 S (S 57) (S 58) s.toNat) i.toNat) → qq_p xs (d + 19) (mm_mr mm_m67) (mm_mk mm_m67) (fun r S' => r = some (zz_ar S (S 57) (S 58) s.toNat) ∧ S' = S) 4 [some (.inr (93, none)), some (.inl s), some (.inl c), some (.inl i), u] [] (S) := by
    intro k9
    induction k9 with
    | zero =>
      intro i c u hm h1 h2
      exfalso
      omega
    | succ k9 ih =>
      intro i c u hm h1 h2
      refine qq_fsound hxs (sp_57_ok hxs (d + 0)) [4] 300 ?_
      repeat' first | apply And.intro | intro _ | (simp only [qq_tab]) | (simp only [qq_pl])
      all_goals (
        (first
         | omega
         | exact hp.2.1
         | exact hp.2.2
         | exact (zz_bin _).1
         | exact (zz_bin _).2
         | (have ei : i = S 25 s.toNat := by omega
            subst ei
            rw [h2]
            first | done | rfl)
         | (have il : i < S 25 s.toNat := by omega
            have r := gd.2.2 i.toNat (by omega)
            have q1 := g2 (S (26 + 1 + s.toNat) i.toNat).toNat (by omega)
            first
            | omega
            | (have z0 : S 57 (S (26 + 1 + s.toNat) i.toNat).toNat = -1 := Classical.not_not.mp (zz_bi0.mp (by assumption))
               refine ih _ _ _ (by omega) (by omega) ?_
               rw [zz_sum_s _ i (by omega), h2]
               unfold zz_ar1
               rw [if_pos z0]
               omega)
            | (have z0 : ¬ S 57 (S (26 + 1 + s.toNat) i.toNat).toNat = -1 := Classical.not_not.mp (fun w => absurd (zz_bi0.mpr w) (by assumption))
               refine ih _ _ _ (by omega) (by omega) ?_
               rw [zz_sum_s _ i (by omega), h2]
               congr 1
               unfold zz_ar1
               rw [if_neg z0]))))
  have h : qq_p xs (d + 19) (mm_mr mm_m67) (mm_mk mm_m67) (fun r S' => r = some (zz_ar S (S 57) (S 58) s.toNat) ∧ S' = S) 0 (qq_ent mm_m67 [.inr (93, none), .inl s]) [] S := by
    refine qq_fsound hxs (sp_57_ok hxs (d + 0)) [4] 300 ?_
    repeat' first | apply And.intro | intro _ | (simp only [qq_tab]) | (simp only [qq_pl])
    all_goals (first | omega | exact L (S 25 s.toNat + 1).toNat 0 0 _ (by omega) (by omega) rfl)
  obtain ⟨r, S', hE, e1, e2⟩ := qq_call_of (y := 67) rfl (Nat.le_of_ble_eq_true rfl) h
  rw [e1, e2] at hE
  exact hE
noncomputable def sp_58 : qq_P := fun y as S => match y, as with
  | 67, [.inr (54, none), .inl s] => some ((0 ≤ s ∧ s < 10) ∧ zz_p (zz_nb S) = 1 ∧ zz_p (zz_pl (S 49) (S 50)) = 1, some (zz_ar S (S 49) (S 50) s.toNat), S)
  | 67, [.inr (93, none), .inl s] => some ((0 ≤ s ∧ s < 10) ∧ zz_p (zz_nb S) = 1 ∧ zz_p (zz_pl (S 57) (S 58)) = 1, some (zz_ar S (S 57) (S 58) s.toNat), S)
  | _, _ => sp_57 y as S
theorem sp_58_ok {xs : List Int32} (hxs : xs.length ≤ 2048) (d : Nat) : qq_ok xs (d + 20) sp_58 := by
  intro y as S pre r S2 h hp
  unfold sp_58 at h
  split at h
  · cases h; exact f67_54 hxs (d + 0) S _ hp
  · cases h; exact f67_93 hxs (d + 0) S _ hp
  · exact sp_57_ok hxs (d + 1) y as S pre r S2 h hp
