/-! Whether a station that was moved goes with the others. -/
def zz_bE (X Y : Nat → Int) (ring : Nat → Nat → Int) (sp : Int) (s i : Nat) : Prop := ¬ X (ring s i).toNat = -1 ∧ (zz_ln X Y s (ring s i).toNat < sp ∨ zz_dr X Y s (ring s i).toNat = -1)
def zz_bA (X Y : Nat → Int) (s t : Nat) : Prop := ¬ t = s ∧ X t = X s ∧ Y t = Y s
def zz_dn (X lo hi : Nat → Int) (e : Nat) : Prop := ¬ X (lo e).toNat = -1 ∧ ¬ X (hi e).toNat = -1
def zz_bO (X Y lo hi : Nat → Int) (s e : Nat) : Prop := zz_dn X lo hi e ∧ zz_cov X Y lo hi e s
def zz_bX (X Y lo hi : Nat → Int) (a b e : Nat) : Prop := zz_dn X lo hi e ∧ zz_crs X Y a b (lo e).toNat (hi e).toNat
def zz_bC (X Y : Nat → Int) (a b t : Nat) : Prop := (¬ t = a ∧ ¬ t = b) ∧ ¬ X t = -1 ∧ zz_lies X Y t a b
def zz_xx (E : Int) (X Y lo hi : Nat → Int) (a b : Nat) : Prop := ∃ e : Nat, (e : Int) < E ∧ zz_bX X Y lo hi a b e
def zz_clr (n E : Int) (X Y lo hi : Nat → Int) (a b : Nat) : Prop := (∀ t : Nat, (t : Int) < n → ¬ zz_bC X Y a b t) ∧ ¬ zz_xx E X Y lo hi a b
def zz_bL (n E : Int) (X Y lo hi : Nat → Int) (ring : Nat → Nat → Int) (s i : Nat) : Prop := ¬ X (ring s i).toNat = -1 ∧ ¬ zz_clr n E X Y lo hi s (ring s i).toNat
noncomputable def zz_bR (X Y dg : Nat → Int) (ring : Nat → Nat → Int) (s i : Nat) : Prop := ¬ X (ring s i).toNat = -1 ∧ zz_tw X Y dg ring (ring s i).toNat
def zz_gE (X Y dg : Nat → Int) (ring : Nat → Nat → Int) (sp : Int) (s : Nat) : Prop := ∀ i : Nat, (i : Int) < dg s → ¬ zz_bE X Y ring sp s i
def zz_gA (n : Int) (X Y : Nat → Int) (s : Nat) : Prop := ∀ t : Nat, (t : Int) < n → ¬ zz_bA X Y s t
def zz_gO (E : Int) (X Y lo hi : Nat → Int) (s : Nat) : Prop := ∀ e : Nat, (e : Int) < E → ¬ zz_bO X Y lo hi s e
def zz_gL (n E : Int) (X Y lo hi dg : Nat → Int) (ring : Nat → Nat → Int) (s : Nat) : Prop := ∀ i : Nat, (i : Int) < dg s → ¬ zz_bL n E X Y lo hi ring s i
noncomputable def zz_gR (X Y dg : Nat → Int) (ring : Nat → Nat → Int) (s : Nat) : Prop := (∀ i : Nat, (i : Int) < dg s → ¬ zz_bR X Y dg ring s i) ∧ ¬ zz_tw X Y dg ring s
noncomputable def zz_fits (n E : Int) (X Y lo hi dg : Nat → Int) (ring : Nat → Nat → Int) (s : Nat) : Prop := zz_gA n X Y s ∧ zz_gO E X Y lo hi s ∧ zz_gL n E X Y lo hi dg ring s ∧ zz_gR X Y dg ring s
theorem zz_dr_bd0 (X Y : Nat → Int) (a b : Nat) : -1 ≤ zz_dr X Y a b ∧ zz_dr X Y a b ≤ 7 := zz_dir_bd _ _
set_option maxRecDepth 20000 in
theorem f17_53 {xs : List Int32} (hxs : xs.length ≤ 2048) (d : Nat) (S : qq_S) (e : Int) (hp : (0 ≤ e ∧ e < S 4 2) ∧ zz_p (zz_nb S) = 1 ∧ zz_p (zz_pl (S 49) (S 50)) = 1) : qq_E xs (d + 8) 17 [.inr (53, none), .inl e] S (some (zz_p (zz_dn (S 49) (S 22) (S 23) e.toNat))) (S) := by
  have g1 := zz_pi1.mp hp.2.1
  have g2 := zz_pi1.mp hp.2.2
  have n0 := g1.1
  have n1 := g1.2.1 e.toNat (by omega)
  have q1 := g2 (S 22 e.toNat).toNat (by omega)
  have q2 := g2 (S 23 e.toNat).toNat (by omega)
  have h : qq_p xs (d + 7) (mm_mr mm_m17) (mm_mk mm_m17) (fun r S' => r = some (zz_p (zz_dn (S 49) (S 22) (S 23) e.toNat)) ∧ S' = S) 0 (qq_ent mm_m17 [.inr (53, none), .inl e]) [] S := by
    refine qq_fsound hxs (sp_14_ok hxs (d + 0)) [] 300 ?_
    repeat' first | apply And.intro | intro _ | (simp only [qq_tab]) | (simp only [qq_pl])
    all_goals (
      first
      | omega
      | exact (zz_bin _).1
      | exact (zz_bin _).2
      | exact Or.inl trivial
      | exact Or.inr trivial
      | ((try simp only [zz_bi0, Classical.not_not] at *)
         first
         | exact congrArg some (zz_p1 ⟨by assumption, by assumption⟩).symm
         | exact congrArg some (zz_p0 (fun z => absurd (by assumption) z.1)).symm
         | exact congrArg some (zz_p0 (fun z => absurd (by assumption) z.2)).symm))
  obtain ⟨r, S', hE, e1, e2⟩ := qq_call_of (y := 17) rfl (Nat.le_of_ble_eq_true rfl) h
  rw [e1, e2] at hE
  exact hE
set_option maxRecDepth 20000 in
theorem f17_92 {xs : List Int32} (hxs : xs.length ≤ 2048) (d : Nat) (S : qq_S) (e : Int) (hp : (0 ≤ e ∧ e < S 4 2) ∧ zz_p (zz_nb S) = 1 ∧ zz_p (zz_pl (S 57) (S 58)) = 1) : qq_E xs (d + 8) 17 [.inr (92, none), .inl e] S (some (zz_p (zz_dn (S 57) (S 22) (S 23) e.toNat))) (S) := by
  have g1 := zz_pi1.mp hp.2.1
  have g2 := zz_pi1.mp hp.2.2
  have n0 := g1.1
  have n1 := g1.2.1 e.toNat (by omega)
  have q1 := g2 (S 22 e.toNat).toNat (by omega)
  have q2 := g2 (S 23 e.toNat).toNat (by omega)
  have h : qq_p xs (d + 7) (mm_mr mm_m17) (mm_mk mm_m17) (fun r S' => r = some (zz_p (zz_dn (S 57) (S 22) (S 23) e.toNat)) ∧ S' = S) 0 (qq_ent mm_m17 [.inr (92, none), .inl e]) [] S := by
    refine qq_fsound hxs (sp_14_ok hxs (d + 0)) [] 300 ?_
    repeat' first | apply And.intro | intro _ | (simp only [qq_tab]) | (simp only [qq_pl])
    all_goals (
      first
      | omega
      | exact (zz_bin _).1
      | exact (zz_bin _).2
      | exact Or.inl trivial
      | exact Or.inr trivial
      | ((try simp only [zz_bi0, Classical.not_not] at *)
         first
         | exact congrArg some (zz_p1 ⟨by assumption, by assumption⟩).symm
         | exact congrArg some (zz_p0 (fun z => absurd (by assumption) z.1)).symm
         | exact congrArg some (zz_p0 (fun z => absurd (by assumption) z.2)).symm))
  obtain ⟨r, S', hE, e1, e2⟩ := qq_call_of (y := 17) rfl (Nat.le_of_ble_eq_true rfl) h
  rw [e1, e2] at hE
  exact hE
set_option maxRecDepth 20000 in
theorem f13 {xs : List Int32} (hxs : xs.length ≤ 2048) (d : Nat) (S : qq_S) (s : Int) (hp : (0 ≤ s ∧ s < 10 ∧ 0 ≤ S 52 3 ∧ S 52 3 ≤ 100) ∧ zz_p (zz_nb S) = 1 ∧ zz_p (zz_pl (S 49) (S 50)) = 1) : qq_E xs (d + 8) 13 [.inr (53, none), .inl s] S (some (zz_p (zz_gE (S 49) (S 50) (S 25) (fun s => S (26 + 1 + s)) (S 52 3) s.toNat))) (S) := by
  have g1 := zz_pi1.mp hp.2.1
  have g2 := zz_pi1.mp hp.2.2
  have n0 := g1.1
  have gd := g1.2.2.1 s.toNat (by omega)
  have L : ∀ (k9 : Nat) (i : Int) (u : Option qq_V), S 25 s.toNat - i < (k9 : Int) → (0 ≤ i ∧ i ≤ S 25 s.toNat) → (∀ j : Nat, (j : Int) < i → ¬ (zz_bE (S 49) (S 50) (fun s => S (26 + 1 + s)) (S 52 3) s.toNat) j) → qq_p xs (d + 7) (mm_mr mm_m13) (mm_mk mm_m13) (fun r S' => r = some (zz_p (zz_gE (S 49) (S 50) (S 25) (fun s => S (26 + 1 + s)) (S 52 3) s.toNat)) ∧ S' = S) 2 [some (.inr (53, none)), some (.inl s), some (.inl i), u] [] (S) := by
    intro k9
    induction k9 with
    | zero =>
      intro i u hm h1 h2
      exfalso
      omega
    | succ k9 ih =>
      intro i u hm h1 h2
      refine qq_fsound hxs (sp_14_ok hxs (d + 0)) [2] 300 ?_
      repeat' first | apply And.intro | intro _ | (simp only [qq_tab]) | (simp only [qq_pl])
      all_goals (
        (first
         | omega
         | exact (zz_pin _).1
         | exact (zz_pin _).2
         | exact (zz_bin _).1
         | exact (zz_bin _).2
         | exact zz_p01 _
         | exact Or.inl trivial
         | exact Or.inr trivial
         
         | (have ei : i = S 25 s.toNat := by omega
            have aN : ∀ j : Nat, (j : Int) < S 25 s.toNat → ¬ (zz_bE (S 49) (S 50) (fun s => S (26 + 1 + s)) (S 52 3) s.toNat) j := fun j hj => h2 j (by omega)
            exact congrArg some (zz_p1 aN).symm)
         | (have il : i < S 25 s.toNat := by omega
            have r := gd.2.2 i.toNat (by omega); have q1 := g2 (S (26 + 1 + s.toNat) i.toNat).toNat (by omega); have q2 := g2 s.toNat (by omega); have db := zz_dr_bd0 (S 49) (S 50) s.toNat (S (26 + 1 + s.toNat) i.toNat).toNat; have lb := zz_ln_bd g2 (a := s.toNat) (b := (S (26 + 1 + s.toNat) i.toNat).toNat) (by omega) (by omega); unfold zz_dr at db
            first
            | omega
            | (unfold qq_in; omega)
            | (have b9 : (zz_bE (S 49) (S 50) (fun s => S (26 + 1 + s)) (S 52 3) s.toNat) i.toNat := by ((try simp only [zz_pi0, zz_bi0, Classical.not_not] at *); unfold zz_bE; first | exact ⟨by assumption, Or.inl (by assumption)⟩ | exact ⟨by assumption, Or.inr (by assumption)⟩)
               exact congrArg some (zz_p0 (fun z => z i.toNat (by omega) b9)).symm)
            | (refine ih _ _ (by omega) (by omega) (zz_ext (P := (zz_bE (S 49) (S 50) (fun s => S (26 + 1 + s)) (S 52 3) s.toNat)) h2 (show ¬ (zz_bE (S 49) (S 50) (fun s => S (26 + 1 + s)) (S 52 3) s.toNat) i.toNat by ((try simp only [zz_pi0, zz_bi0, Classical.not_not] at *); first | exact fun z => absurd (by assumption) z.1 | exact fun z => z.2.elim (fun w => absurd w (by first | assumption | exact Int.not_lt.mpr (by assumption))) (fun w => absurd w (by assumption)))) (by omega))))))
  have h : qq_p xs (d + 7) (mm_mr mm_m13) (mm_mk mm_m13) (fun r S' => r = some (zz_p (zz_gE (S 49) (S 50) (S 25) (fun s => S (26 + 1 + s)) (S 52 3) s.toNat)) ∧ S' = S) 0 (qq_ent mm_m13 [.inr (53, none), .inl s]) [] S := by
    refine qq_fsound hxs (sp_14_ok hxs (d + 0)) [2] 300 ?_
    repeat' first | apply And.intro | intro _ | (simp only [qq_tab]) | (simp only [qq_pl])
    all_goals (first | omega | exact L (S 25 s.toNat + 1).toNat 0 _ (by omega) (by omega) (fun j hj => by omega))
  obtain ⟨r, S', hE, e1, e2⟩ := qq_call_of (y := 13) rfl (Nat.le_of_ble_eq_true rfl) h
  rw [e1, e2] at hE
  exact hE
set_option maxRecDepth 20000 in
theorem f15 {xs : List Int32} (hxs : xs.length ≤ 2048) (d : Nat) (S : qq_S) (s : Int) (hp : (0 ≤ s ∧ s < 10) ∧ zz_p (zz_nb S) = 1 ∧ zz_p (zz_pl (S 49) (S 50)) = 1) : qq_E xs (d + 8) 15 [.inr (53, none), .inl s] S (some (zz_p (zz_gA (S 4 0) (S 49) (S 50) s.toNat))) (S) := by
  have g1 := zz_pi1.mp hp.2.1
  have g2 := zz_pi1.mp hp.2.2
  have n0 := g1.1
  have L : ∀ (k9 : Nat) (i : Int), S 4 0 - i < (k9 : Int) → (0 ≤ i ∧ i ≤ S 4 0) → (∀ j : Nat, (j : Int) < i → ¬ (zz_bA (S 49) (S 50) s.toNat) j) → qq_p xs (d + 7) (mm_mr mm_m15) (mm_mk mm_m15) (fun r S' => r = some (zz_p (zz_gA (S 4 0) (S 49) (S 50) s.toNat)) ∧ S' = S) 2 [some (.inr (53, none)), some (.inl s), some (.inl i)] [] (S) := by
    intro k9
    induction k9 with
    | zero =>
      intro i hm h1 h2
      exfalso
      omega
    | succ k9 ih =>
      intro i hm h1 h2
      refine qq_fsound hxs (sp_14_ok hxs (d + 0)) [2] 300 ?_
      repeat' first | apply And.intro | intro _ | (simp only [qq_tab]) | (simp only [qq_pl])
      all_goals (
        (first
         | omega
         | exact (zz_pin _).1
         | exact (zz_pin _).2
         | exact (zz_bin _).1
         | exact (zz_bin _).2
         | exact zz_p01 _
         | exact Or.inl trivial
         | exact Or.inr trivial
         | exact hp.2.2
         | (have ei : i = S 4 0 := by omega
            have aN : ∀ j : Nat, (j : Int) < S 4 0 → ¬ (zz_bA (S 49) (S 50) s.toNat) j := fun j hj => h2 j (by omega)
            exact congrArg some (zz_p1 aN).symm)
         | (have il : i < S 4 0 := by omega
            skip
            first
            | omega
            | (unfold qq_in; omega)
            | (have b9 : (zz_bA (S 49) (S 50) s.toNat) i.toNat := by ((try simp only [zz_pi0, zz_bi0, Classical.not_not] at *); unfold zz_bA; exact ⟨by omega, by omega, by omega⟩)
               exact congrArg some (zz_p0 (fun z => z i.toNat (by omega) b9)).symm)
            | (refine ih _ (by omega) (by omega) (zz_ext (P := (zz_bA (S 49) (S 50) s.toNat)) h2 (show ¬ (zz_bA (S 49) (S 50) s.toNat) i.toNat by ((try simp only [zz_pi0, zz_bi0, Classical.not_not] at *); unfold zz_bA; omega)) (by omega))))))
  have h : qq_p xs (d + 7) (mm_mr mm_m15) (mm_mk mm_m15) (fun r S' => r = some (zz_p (zz_gA (S 4 0) (S 49) (S 50) s.toNat)) ∧ S' = S) 0 (qq_ent mm_m15 [.inr (53, none), .inl s]) [] S := by
    refine qq_fsound hxs (sp_14_ok hxs (d + 0)) [2] 300 ?_
    repeat' first | apply And.intro | intro _ | (simp only [qq_tab]) | (simp only [qq_pl])
    all_goals (first | omega | exact L (S 4 0 + 1).toNat 0 (by omega) (by omega) (fun j hj => by omega))
  obtain ⟨r, S', hE, e1, e2⟩ := qq_call_of (y := 15) rfl (Nat.le_of_ble_eq_true rfl) h
  rw [e1, e2] at hE
  exact hE
noncomputable def sp_51 : qq_P := fun y as S => match y, as with
  | 17, [.inr (53, none), .inl e] => some ((0 ≤ e ∧ e < S 4 2) ∧ zz_p (zz_nb S) = 1 ∧ zz_p (zz_pl (S 49) (S 50)) = 1, some (zz_p (zz_dn (S 49) (S 22) (S 23) e.toNat)), S)
  | 17, [.inr (92, none), .inl e] => some ((0 ≤ e ∧ e < S 4 2) ∧ zz_p (zz_nb S) = 1 ∧ zz_p (zz_pl (S 57) (S 58)) = 1, some (zz_p (zz_dn (S 57) (S 22) (S 23) e.toNat)), S)
  | 13, [.inr (53, none), .inl s] => some ((0 ≤ s ∧ s < 10 ∧ 0 ≤ S 52 3 ∧ S 52 3 ≤ 100) ∧ zz_p (zz_nb S) = 1 ∧ zz_p (zz_pl (S 49) (S 50)) = 1, some (zz_p (zz_gE (S 49) (S 50) (S 25) (fun s => S (26 + 1 + s)) (S 52 3) s.toNat)), S)
  | 15, [.inr (53, none), .inl s] => some ((0 ≤ s ∧ s < 10) ∧ zz_p (zz_nb S) = 1 ∧ zz_p (zz_pl (S 49) (S 50)) = 1, some (zz_p (zz_gA (S 4 0) (S 49) (S 50) s.toNat)), S)
  | _, _ => sp_14 y as S
theorem sp_51_ok {xs : List Int32} (hxs : xs.length ≤ 2048) (d : Nat) : qq_ok xs (d + 8) sp_51 := by
  intro y as S pre r S2 h hp
  unfold sp_51 at h
  split at h
  · cases h; exact f17_53 hxs (d + 0) S _ hp
  · cases h; exact f17_92 hxs (d + 0) S _ hp
  · cases h; exact f13 hxs (d + 0) S _ hp
  · cases h; exact f15 hxs (d + 0) S _ hp
  · exact sp_14_ok hxs (d + 1) y as S pre r S2 h hp
set_option maxRecDepth 20000 in
theorem f20_53 {xs : List Int32} (hxs : xs.length ≤ 2048) (d : Nat) (S : qq_S) (a : Int) (b : Int) (hp : (0 ≤ a ∧ a < 10 ∧ 0 ≤ b ∧ b < 10) ∧ zz_p (zz_nb S) = 1 ∧ zz_p (zz_pl (S 49) (S 50)) = 1) : qq_E xs (d + 9) 20 [.inr (53, none), .inl a, .inl b] S (some (zz_p (zz_xx (S 4 2) (S 49) (S 50) (S 22) (S 23) a.toNat b.toNat))) (S) := by
  have g1 := zz_pi1.mp hp.2.1
  have g2 := zz_pi1.mp hp.2.2
  have n0 := g1.1
  have L : ∀ (k9 : Nat) (i : Int), S 4 2 - i < (k9 : Int) → (0 ≤ i ∧ i ≤ S 4 2) → (∀ j : Nat, (j : Int) < i → ¬ (zz_bX (S 49) (S 50) (S 22) (S 23) a.toNat b.toNat) j) → qq_p xs (d + 8) (mm_mr mm_m20) (mm_mk mm_m20) (fun r S' => r = some (zz_p (zz_xx (S 4 2) (S 49) (S 50) (S 22) (S 23) a.toNat b.toNat)) ∧ S' = S) 2 [some (.inr (53, none)), some (.inl a), some (.inl b), some (.inl i)] [] (S) := by
    intro k9
    induction k9 with
    | zero =>
      intro i hm h1 h2
      exfalso
      omega
    | succ k9 ih =>
      intro i hm h1 h2
      refine qq_fsound hxs (sp_51_ok hxs (d + 0)) [2] 300 ?_
      repeat' first | apply And.intro | intro _ | (simp only [qq_tab]) | (simp only [qq_pl])
      all_goals (
        (first
         | omega
         | exact (zz_pin _).1
         | exact (zz_pin _).2
         | exact (zz_bin _).1
         | exact (zz_bin _).2
         | exact zz_p01 _
         | exact Or.inl trivial
         | exact Or.inr trivial
         | exact hp.2.1
         | exact hp.2.2
         | (have ei : i = S 4 2 := by omega
            have aN : ∀ j : Nat, (j : Int) < S 4 2 → ¬ (zz_bX (S 49) (S 50) (S 22) (S 23) a.toNat b.toNat) j := fun j hj => h2 j (by omega)
            exact congrArg some (zz_p0 (fun ⟨e, he, z⟩ => aN e he z)).symm)
         | (have il : i < S 4 2 := by omega
            have n1 := g1.2.1 i.toNat (by omega)
            first
            | omega
            | (unfold qq_in; omega)
            | (have b9 : (zz_bX (S 49) (S 50) (S 22) (S 23) a.toNat b.toNat) i.toNat := by ((try simp only [zz_pi0, zz_bi0, Classical.not_not] at *); exact ⟨by assumption, by assumption⟩)
               exact congrArg some (zz_p1 ⟨i.toNat, by omega, b9⟩).symm)
            | (refine ih _ (by omega) (by omega) (zz_ext (P := (zz_bX (S 49) (S 50) (S 22) (S 23) a.toNat b.toNat)) h2 (show ¬ (zz_bX (S 49) (S 50) (S 22) (S 23) a.toNat b.toNat) i.toNat by ((try simp only [zz_pi0, zz_bi0, Classical.not_not] at *); first | exact fun z => absurd z.1 (by assumption) | exact fun z => absurd z.2 (by assumption))) (by omega))))))
  have h : qq_p xs (d + 8) (mm_mr mm_m20) (mm_mk mm_m20) (fun r S' => r = some (zz_p (zz_xx (S 4 2) (S 49) (S 50) (S 22) (S 23) a.toNat b.toNat)) ∧ S' = S) 0 (qq_ent mm_m20 [.inr (53, none), .inl a, .inl b]) [] S := by
    refine qq_fsound hxs (sp_51_ok hxs (d + 0)) [2] 300 ?_
    repeat' first | apply And.intro | intro _ | (simp only [qq_tab]) | (simp only [qq_pl])
    all_goals (first | omega | exact L (S 4 2 + 1).toNat 0 (by omega) (by omega) (fun j hj => by omega))
  obtain ⟨r, S', hE, e1, e2⟩ := qq_call_of (y := 20) rfl (Nat.le_of_ble_eq_true rfl) h
  rw [e1, e2] at hE
  exact hE
set_option maxRecDepth 20000 in
theorem f21_53 {xs : List Int32} (hxs : xs.length ≤ 2048) (d : Nat) (S : qq_S) (s : Int) (hp : (0 ≤ s ∧ s < 10) ∧ zz_p (zz_nb S) = 1 ∧ zz_p (zz_pl (S 49) (S 50)) = 1) : qq_E xs (d + 9) 21 [.inr (53, none), .inl s] S (some (zz_p (zz_gR (S 49) (S 50) (S 25) (fun s => S (26 + 1 + s)) s.toNat))) (S) := by
  have g1 := zz_pi1.mp hp.2.1
  have g2 := zz_pi1.mp hp.2.2
  have n0 := g1.1
  have gd := g1.2.2.1 s.toNat (by omega)
  have L : ∀ (k9 : Nat) (i : Int) (u : Option qq_V), S 25 s.toNat - i < (k9 : Int) → (0 ≤ i ∧ i ≤ S 25 s.toNat) → (∀ j : Nat, (j : Int) < i → ¬ (zz_bR (S 49) (S 50) (S 25) (fun s => S (26 + 1 + s)) s.toNat) j) → qq_p xs (d + 8) (mm_mr mm_m21) (mm_mk mm_m21) (fun r S' => r = some (zz_p (zz_gR (S 49) (S 50) (S 25) (fun s => S (26 + 1 + s)) s.toNat)) ∧ S' = S) 2 [some (.inr (53, none)), some (.inl s), some (.inl i), u] [] (S) := by
    intro k9
    induction k9 with
    | zero =>
      intro i u hm h1 h2
      exfalso
      omega
    | succ k9 ih =>
      intro i u hm h1 h2
      refine qq_fsound hxs (sp_51_ok hxs (d + 0)) [2] 300 ?_
      repeat' first | apply And.intro | intro _ | (simp only [qq_tab]) | (simp only [qq_pl])
      all_goals (
        (first
         | omega
         | exact (zz_pin _).1
         | exact (zz_pin _).2
         | exact (zz_bin _).1
         | exact (zz_bin _).2
         | exact zz_p01 _
         | exact Or.inl trivial
         | exact Or.inr trivial
         | exact hp.2.1
         | exact hp.2.2
         | (have ei : i = S 25 s.toNat := by omega
            have aN : ∀ j : Nat, (j : Int) < S 25 s.toNat → ¬ (zz_bR (S 49) (S 50) (S 25) (fun s => S (26 + 1 + s)) s.toNat) j := fun j hj => h2 j (by omega)
            refine congrArg some (zz_pc ?_); unfold zz_gR zz_tw; exact ⟨fun z => ⟨aN, not_not_intro z⟩, fun z => Classical.not_not.mp z.2⟩)
         | (have il : i < S 25 s.toNat := by omega
            have r := gd.2.2 i.toNat (by omega); have q1 := g2 (S (26 + 1 + s.toNat) i.toNat).toNat (by omega)
            first
            | omega
            | (unfold qq_in; omega)
            | (have b9 : (zz_bR (S 49) (S 50) (S 25) (fun s => S (26 + 1 + s)) s.toNat) i.toNat := by ((try simp only [zz_pi0, zz_bi0, Classical.not_not] at *); exact ⟨by assumption, by assumption⟩)
               exact congrArg some (zz_p0 (fun z => z.1 i.toNat (by omega) b9)).symm)
            | (refine ih _ _ (by omega) (by omega) (zz_ext (P := (zz_bR (S 49) (S 50) (S 25) (fun s => S (26 + 1 + s)) s.toNat)) h2 (show ¬ (zz_bR (S 49) (S 50) (S 25) (fun s => S (26 + 1 + s)) s.toNat) i.toNat by ((try simp only [zz_pi0, zz_bi0, Classical.not_not] at *); first | exact fun z => absurd (by assumption) z.1 | exact fun z => z.2 (by assumption))) (by omega))))))
  have h : qq_p xs (d + 8) (mm_mr mm_m21) (mm_mk mm_m21) (fun r S' => r = some (zz_p (zz_gR (S 49) (S 50) (S 25) (fun s => S (26 + 1 + s)) s.toNat)) ∧ S' = S) 0 (qq_ent mm_m21 [.inr (53, none), .inl s]) [] S := by
    refine qq_fsound hxs (sp_51_ok hxs (d + 0)) [2] 300 ?_
    repeat' first | apply And.intro | intro _ | (simp only [qq_tab]) | (simp only [qq_pl])
    all_goals (first | omega | exact L (S 25 s.toNat + 1).toNat 0 _ (by omega) (by omega) (fun j hj => by omega))
  obtain ⟨r, S', hE, e1, e2⟩ := qq_call_of (y := 21) rfl (Nat.le_of_ble_eq_true rfl) h
  rw [e1, e2] at hE
  exact hE
set_option maxRecDepth 20000 in
theorem f20_92 {xs : List Int32} (hxs : xs.length ≤ 2048) (d : Nat) (S : qq_S) (a : Int) (b : Int) (hp : (0 ≤ a ∧ a < 10 ∧ 0 ≤ b ∧ b < 10) ∧ zz_p (zz_nb S) = 1 ∧ zz_p (zz_pl (S 57) (S 58)) = 1) : qq_E xs (d + 9) 20 [.inr (92, none), .inl a, .inl b] S (some (zz_p (zz_xx (S 4 2) (S 57) (S 58) (S 22) (S 23) a.toNat b.toNat))) (S) := by
  have g1 := zz_pi1.mp hp.2.1
  have g2 := zz_pi1.mp hp.2.2
  have n0 := g1.1
  have L : ∀ (k9 : Nat) (i : Int), S 4 2 - i < (k9 : Int) → (0 ≤ i ∧ i ≤ S 4 2) → (∀ j : Nat, (j : Int) < i → ¬ (zz_bX (S 57) (S 58) (S 22) (S 23) a.toNat b.toNat) j) → qq_p xs (d + 8) (mm_mr mm_m20) (mm_mk mm_m20) (fun r S' => r = some (zz_p (zz_xx (S 4 2) (S 57) (S 58) (S 22) (S 23) a.toNat b.toNat)) ∧ S' = S) 2 [some (.inr (92, none)), some (.inl a), some (.inl b), some (.inl i)] [] (S) := by
    intro k9
    induction k9 with
    | zero =>
      intro i hm h1 h2
      exfalso
      omega
    | succ k9 ih =>
      intro i hm h1 h2
      refine qq_fsound hxs (sp_51_ok hxs (d + 0)) [2] 300 ?_
      repeat' first | apply And.intro | intro _ | (simp only [qq_tab]) | (simp only [qq_pl])
      all_goals (
        (first
         | omega
         | exact (zz_pin _).1
         | exact (zz_pin _).2
         | exact (zz_bin _).1
         | exact (zz_bin _).2
         | exact zz_p01 _
         | exact Or.inl trivial
         | exact Or.inr trivial
         | exact hp.2.1
         | exact hp.2.2
         | (have ei : i = S 4 2 := by omega
            have aN : ∀ j : Nat, (j : Int) < S 4 2 → ¬ (zz_bX (S 57) (S 58) (S 22) (S 23) a.toNat b.toNat) j := fun j hj => h2 j (by omega)
            exact congrArg some (zz_p0 (fun ⟨e, he, z⟩ => aN e he z)).symm)
         | (have il : i < S 4 2 := by omega
            have n1 := g1.2.1 i.toNat (by omega)
            first
            | omega
            | (unfold qq_in; omega)
            | (have b9 : (zz_bX (S 57) (S 58) (S 22) (S 23) a.toNat b.toNat) i.toNat := by ((try simp only [zz_pi0, zz_bi0, Classical.not_not] at *); exact ⟨by assumption, by assumption⟩)
               exact congrArg some (zz_p1 ⟨i.toNat, by omega, b9⟩).symm)
            | (refine ih _ (by omega) (by omega) (zz_ext (P := (zz_bX (S 57) (S 58) (S 22) (S 23) a.toNat b.toNat)) h2 (show ¬ (zz_bX (S 57) (S 58) (S 22) (S 23) a.toNat b.toNat) i.toNat by ((try simp only [zz_pi0, zz_bi0, Classical.not_not] at *); first | exact fun z => absurd z.1 (by assumption) | exact fun z => absurd z.2 (by assumption))) (by omega))))))
  have h : qq_p xs (d + 8) (mm_mr mm_m20) (mm_mk mm_m20) (fun r S' => r = some (zz_p (zz_xx (S 4 2) (S 57) (S 58) (S 22) (S 23) a.toNat b.toNat)) ∧ S' = S) 0 (qq_ent mm_m20 [.inr (92, none), .inl a, .inl b]) [] S := by
    refine qq_fsound hxs (sp_51_ok hxs (d + 0)) [2] 300 ?_
    repeat' first | apply And.intro | intro _ | (simp only [qq_tab]) | (simp only [qq_pl])
    all_goals (first | omega | exact L (S 4 2 + 1).toNat 0 (by omega) (by omega) (fun j hj => by omega))
  obtain ⟨r, S', hE, e1, e2⟩ := qq_call_of (y := 20) rfl (Nat.le_of_ble_eq_true rfl) h
  rw [e1, e2] at hE
  exact hE
set_option maxRecDepth 20000 in
theorem f21_92 {xs : List Int32} (hxs : xs.length ≤ 2048) (d : Nat) (S : qq_S) (s : Int) (hp : (0 ≤ s ∧ s < 10) ∧ zz_p (zz_nb S) = 1 ∧ zz_p (zz_pl (S 57) (S 58)) = 1) : qq_E xs (d + 9) 21 [.inr (92, none), .inl s] S (some (zz_p (zz_gR (S 57) (S 58) (S 25) (fun s => S (26 + 1 + s)) s.toNat))) (S) := by
  have g1 := zz_pi1.mp hp.2.1
  have g2 := zz_pi1.mp hp.2.2
  have n0 := g1.1
  have gd := g1.2.2.1 s.toNat (by omega)
  have L : ∀ (k9 : Nat) (i : Int) (u : Option qq_V), S 25 s.toNat - i < (k9 : Int) → (0 ≤ i ∧ i ≤ S 25 s.toNat) → (∀ j : Nat, (j : Int) < i → ¬ (zz_bR (S 57) (S 58) (S 25) (fun s => S (26 + 1 + s)) s.toNat) j) → qq_p xs (d + 8) (mm_mr mm_m21) (mm_mk mm_m21) (fun r S' => r = some (zz_p (zz_gR (S 57) (S 58) (S 25) (fun s => S (26 + 1 + s)) s.toNat)) ∧ S' = S) 2 [some (.inr (92, none)), some (.inl s), some (.inl i), u] [] (S) := by
    intro k9
    induction k9 with
    | zero =>
      intro i u hm h1 h2
      exfalso
      omega
    | succ k9 ih =>
      intro i u hm h1 h2
      refine qq_fsound hxs (sp_51_ok hxs (d + 0)) [2] 300 ?_
      repeat' first | apply And.intro | intro _ | (simp only [qq_tab]) | (simp only [qq_pl])
      all_goals (
        (first
         | omega
         | exact (zz_pin _).1
         | exact (zz_pin _).2
         | exact (zz_bin _).1
         | exact (zz_bin _).2
         | exact zz_p01 _
         | exact Or.inl trivial
         | exact Or.inr trivial
         | exact hp.2.1
         | exact hp.2.2
         | (have ei : i = S 25 s.toNat := by omega
            have aN : ∀ j : Nat, (j : Int) < S 25 s.toNat → ¬ (zz_bR (S 57) (S 58) (S 25) (fun s => S (26 + 1 + s)) s.toNat) j := fun j hj => h2 j (by omega)
            refine congrArg some (zz_pc ?_); unfold zz_gR zz_tw; exact ⟨fun z => ⟨aN, not_not_intro z⟩, fun z => Classical.not_not.mp z.2⟩)
         | (have il : i < S 25 s.toNat := by omega
            have r := gd.2.2 i.toNat (by omega); have q1 := g2 (S (26 + 1 + s.toNat) i.toNat).toNat (by omega)
            first
            | omega
            | (unfold qq_in; omega)
            | (have b9 : (zz_bR (S 57) (S 58) (S 25) (fun s => S (26 + 1 + s)) s.toNat) i.toNat := by ((try simp only [zz_pi0, zz_bi0, Classical.not_not] at *); exact ⟨by assumption, by assumption⟩)
               exact congrArg some (zz_p0 (fun z => z.1 i.toNat (by omega) b9)).symm)
            | (refine ih _ _ (by omega) (by omega) (zz_ext (P := (zz_bR (S 57) (S 58) (S 25) (fun s => S (26 + 1 + s)) s.toNat)) h2 (show ¬ (zz_bR (S 57) (S 58) (S 25) (fun s => S (26 + 1 + s)) s.toNat) i.toNat by ((try simp only [zz_pi0, zz_bi0, Classical.not_not] at *); first | exact fun z => absurd (by assumption) z.1 | exact fun z => z.2 (by assumption))) (by omega))))))
  have h : qq_p xs (d + 8) (mm_mr mm_m21) (mm_mk mm_m21) (fun r S' => r = some (zz_p (zz_gR (S 57) (S 58) (S 25) (fun s => S (26 + 1 + s)) s.toNat)) ∧ S' = S) 0 (qq_ent mm_m21 [.inr (92, none), .inl s]) [] S := by
    refine qq_fsound hxs (sp_51_ok hxs (d + 0)) [2] 300 ?_
    repeat' first | apply And.intro | intro _ | (simp only [qq_tab]) | (simp only [qq_pl])
    all_goals (first | omega | exact L (S 25 s.toNat + 1).toNat 0 _ (by omega) (by omega) (fun j hj => by omega))
  obtain ⟨r, S', hE, e1, e2⟩ := qq_call_of (y := 21) rfl (Nat.le_of_ble_eq_true rfl) h
  rw [e1, e2] at hE
  exact hE
set_option maxRecDepth 20000 in
theorem f16 {xs : List Int32} (hxs : xs.length ≤ 2048) (d : Nat) (S : qq_S) (s : Int) (hp : (0 ≤ s ∧ s < 10) ∧ zz_p (zz_nb S) = 1 ∧ zz_p (zz_pl (S 49) (S 50)) = 1) : qq_E xs (d + 9) 16 [.inr (53, none), .inl s] S (some (zz_p (zz_gO (S 4 2) (S 49) (S 50) (S 22) (S 23) s.toNat))) (S) := by
  have g1 := zz_pi1.mp hp.2.1
  have g2 := zz_pi1.mp hp.2.2
  have n0 := g1.1
  have L : ∀ (k9 : Nat) (i : Int), S 4 2 - i < (k9 : Int) → (0 ≤ i ∧ i ≤ S 4 2) → (∀ j : Nat, (j : Int) < i → ¬ (zz_bO (S 49) (S 50) (S 22) (S 23) s.toNat) j) → qq_p xs (d + 8) (mm_mr mm_m16) (mm_mk mm_m16) (fun r S' => r = some (zz_p (zz_gO (S 4 2) (S 49) (S 50) (S 22) (S 23) s.toNat)) ∧ S' = S) 2 [some (.inr (53, none)), some (.inl s), some (.inl i)] [] (S) := by
    intro k9
    induction k9 with
    | zero =>
      intro i hm h1 h2
      exfalso
      omega
    | succ k9 ih =>
      intro i hm h1 h2
      refine qq_fsound hxs (sp_51_ok hxs (d + 0)) [2] 300 ?_
      repeat' first | apply And.intro | intro _ | (simp only [qq_tab]) | (simp only [qq_pl])
      all_goals (
        (first
         | omega
         | exact (zz_pin _).1
         | exact (zz_pin _).2
         | exact (zz_bin _).1
         | exact (zz_bin _).2
         | exact zz_p01 _
         | exact Or.inl trivial
         | exact Or.inr trivial
         | exact hp.2.1
         | exact hp.2.2
         | (have ei : i = S 4 2 := by omega
            have aN : ∀ j : Nat, (j : Int) < S 4 2 → ¬ (zz_bO (S 49) (S 50) (S 22) (S 23) s.toNat) j := fun j hj => h2 j (by omega)
            exact congrArg some (zz_p1 aN).symm)
         | (have il : i < S 4 2 := by omega
            skip
            first
            | omega
            | (unfold qq_in; omega)
            | (have b9 : (zz_bO (S 49) (S 50) (S 22) (S 23) s.toNat) i.toNat := by ((try simp only [zz_pi0, zz_bi0, Classical.not_not] at *); have e9 : ((s.toNat : Nat) : Int) = s := (by omega); unfold zz_bO zz_cov; rw [e9]; exact ⟨by assumption, by assumption⟩)
               exact congrArg some (zz_p0 (fun z => z i.toNat (by omega) b9)).symm)
            | (refine ih _ (by omega) (by omega) (zz_ext (P := (zz_bO (S 49) (S 50) (S 22) (S 23) s.toNat)) h2 (show ¬ (zz_bO (S 49) (S 50) (S 22) (S 23) s.toNat) i.toNat by ((try simp only [zz_pi0, zz_bi0, Classical.not_not] at *); have e9 : ((s.toNat : Nat) : Int) = s := (by omega); unfold zz_bO zz_cov; rw [e9]; first | exact fun z => absurd z.1 (by assumption) | exact fun z => absurd z.2 (by assumption))) (by omega))))))
  have h : qq_p xs (d + 8) (mm_mr mm_m16) (mm_mk mm_m16) (fun r S' => r = some (zz_p (zz_gO (S 4 2) (S 49) (S 50) (S 22) (S 23) s.toNat)) ∧ S' = S) 0 (qq_ent mm_m16 [.inr (53, none), .inl s]) [] S := by
    refine qq_fsound hxs (sp_51_ok hxs (d + 0)) [2] 300 ?_
    repeat' first | apply And.intro | intro _ | (simp only [qq_tab]) | (simp only [qq_pl])
    all_goals (first | omega | exact L (S 4 2 + 1).toNat 0 (by omega) (by omega) (fun j hj => by omega))
  obtain ⟨r, S', hE, e1, e2⟩ := qq_call_of (y := 16) rfl (Nat.le_of_ble_eq_true rfl) h
  rw [e1, e2] at hE
  exact hE
noncomputable def sp_52 : qq_P := fun y as S => match y, as with
  | 20, [.inr (53, none), .inl a, .inl b] => some ((0 ≤ a ∧ a < 10 ∧ 0 ≤ b ∧ b < 10) ∧ zz_p (zz_nb S) = 1 ∧ zz_p (zz_pl (S 49) (S 50)) = 1, some (zz_p (zz_xx (S 4 2) (S 49) (S 50) (S 22) (S 23) a.toNat b.toNat)), S)
  | 21, [.inr (53, none), .inl s] => some ((0 ≤ s ∧ s < 10) ∧ zz_p (zz_nb S) = 1 ∧ zz_p (zz_pl (S 49) (S 50)) = 1, some (zz_p (zz_gR (S 49) (S 50) (S 25) (fun s => S (26 + 1 + s)) s.toNat)), S)
  | 20, [.inr (92, none), .inl a, .inl b] => some ((0 ≤ a ∧ a < 10 ∧ 0 ≤ b ∧ b < 10) ∧ zz_p (zz_nb S) = 1 ∧ zz_p (zz_pl (S 57) (S 58)) = 1, some (zz_p (zz_xx (S 4 2) (S 57) (S 58) (S 22) (S 23) a.toNat b.toNat)), S)
  | 21, [.inr (92, none), .inl s] => some ((0 ≤ s ∧ s < 10) ∧ zz_p (zz_nb S) = 1 ∧ zz_p (zz_pl (S 57) (S 58)) = 1, some (zz_p (zz_gR (S 57) (S 58) (S 25) (fun s => S (26 + 1 + s)) s.toNat)), S)
  | 16, [.inr (53, none), .inl s] => some ((0 ≤ s ∧ s < 10) ∧ zz_p (zz_nb S) = 1 ∧ zz_p (zz_pl (S 49) (S 50)) = 1, some (zz_p (zz_gO (S 4 2) (S 49) (S 50) (S 22) (S 23) s.toNat)), S)
  | _, _ => sp_51 y as S
theorem sp_52_ok {xs : List Int32} (hxs : xs.length ≤ 2048) (d : Nat) : qq_ok xs (d + 9) sp_52 := by
  intro y as S pre r S2 h hp
  unfold sp_52 at h
  split at h
  · cases h; exact f20_53 hxs (d + 0) S _ _ hp
  · cases h; exact f21_53 hxs (d + 0) S _ hp
  · cases h; exact f20_92 hxs (d + 0) S _ _ hp
  · cases h; exact f21_92 hxs (d + 0) S _ hp
  · cases h; exact f16 hxs (d + 0) S _ hp
  · exact sp_51_ok hxs (d + 1) y as S pre r S2 h hp
set_option maxRecDepth 20000 in
theorem f19 {xs : List Int32} (hxs : xs.length ≤ 2048) (d : Nat) (S : qq_S) (a : Int) (b : Int) (hp : (0 ≤ a ∧ a < 10 ∧ 0 ≤ b ∧ b < 10) ∧ zz_p (zz_nb S) = 1 ∧ zz_p (zz_pl (S 49) (S 50)) = 1) : qq_E xs (d + 10) 19 [.inr (53, none), .inl a, .inl b] S (some (zz_p (zz_clr (S 4 0) (S 4 2) (S 49) (S 50) (S 22) (S 23) a.toNat b.toNat))) (S) := by
  have g1 := zz_pi1.mp hp.2.1
  have g2 := zz_pi1.mp hp.2.2
  have n0 := g1.1
  have L : ∀ (k9 : Nat) (i : Int), S 4 0 - i < (k9 : Int) → (0 ≤ i ∧ i ≤ S 4 0) → (∀ j : Nat, (j : Int) < i → ¬ (zz_bC (S 49) (S 50) a.toNat b.toNat) j) → qq_p xs (d + 9) (mm_mr mm_m19) (mm_mk mm_m19) (fun r S' => r = some (zz_p (zz_clr (S 4 0) (S 4 2) (S 49) (S 50) (S 22) (S 23) a.toNat b.toNat)) ∧ S' = S) 2 [some (.inr (53, none)), some (.inl a), some (.inl b), some (.inl i)] [] (S) := by
    intro k9
    induction k9 with
    | zero =>
      intro i hm h1 h2
      exfalso
      omega
    | succ k9 ih =>
      intro i hm h1 h2
      refine qq_fsound hxs (sp_52_ok hxs (d + 0)) [2] 300 ?_
      repeat' first | apply And.intro | intro _ | (simp only [qq_tab]) | (simp only [qq_pl])
      all_goals (
        (first
         | omega
         | exact (zz_pin _).1
         | exact (zz_pin _).2
         | exact (zz_bin _).1
         | exact (zz_bin _).2
         | exact zz_p01 _
         | exact Or.inl trivial
         | exact Or.inr trivial
         | exact hp.2.1
         | exact hp.2.2
         | (have ei : i = S 4 0 := by omega
            have aN : ∀ j : Nat, (j : Int) < S 4 0 → ¬ (zz_bC (S 49) (S 50) a.toNat b.toNat) j := fun j hj => h2 j (by omega)
            ((try simp only [zz_pi0, zz_bi0, Classical.not_not] at *); first | exact congrArg some (zz_p1 ⟨aN, by assumption⟩).symm | exact congrArg some (zz_p0 (fun z => z.2 (by assumption))).symm))
         | (have il : i < S 4 0 := by omega
            have q1 := g2 i.toNat (by omega)
            first
            | omega
            | (unfold qq_in; omega)
            | (have b9 : (zz_bC (S 49) (S 50) a.toNat b.toNat) i.toNat := by ((try simp only [zz_pi0, zz_bi0, Classical.not_not] at *); exact ⟨⟨by omega, by omega⟩, by assumption, by assumption⟩)
               exact congrArg some (zz_p0 (fun z => z.1 i.toNat (by omega) b9)).symm)
            | (refine ih _ (by omega) (by omega) (zz_ext (P := (zz_bC (S 49) (S 50) a.toNat b.toNat)) h2 (show ¬ (zz_bC (S 49) (S 50) a.toNat b.toNat) i.toNat by ((try simp only [zz_pi0, zz_bi0, Classical.not_not] at *); first | exact fun z => absurd (by omega) z.1.1 | exact fun z => absurd (by omega) z.1.2 | exact fun z => absurd (by assumption) z.2.1 | exact fun z => absurd z.2.2 (by assumption))) (by omega))))))
  have h : qq_p xs (d + 9) (mm_mr mm_m19) (mm_mk mm_m19) (fun r S' => r = some (zz_p (zz_clr (S 4 0) (S 4 2) (S 49) (S 50) (S 22) (S 23) a.toNat b.toNat)) ∧ S' = S) 0 (qq_ent mm_m19 [.inr (53, none), .inl a, .inl b]) [] S := by
    refine qq_fsound hxs (sp_52_ok hxs (d + 0)) [2] 300 ?_
    repeat' first | apply And.intro | intro _ | (simp only [qq_tab]) | (simp only [qq_pl])
    all_goals (first | omega | exact L (S 4 0 + 1).toNat 0 (by omega) (by omega) (fun j hj => by omega))
  obtain ⟨r, S', hE, e1, e2⟩ := qq_call_of (y := 19) rfl (Nat.le_of_ble_eq_true rfl) h
  rw [e1, e2] at hE
  exact hE
noncomputable def sp_53 : qq_P := fun y as S => match y, as with
  | 19, [.inr (53, none), .inl a, .inl b] => some ((0 ≤ a ∧ a < 10 ∧ 0 ≤ b ∧ b < 10) ∧ zz_p (zz_nb S) = 1 ∧ zz_p (zz_pl (S 49) (S 50)) = 1, some (zz_p (zz_clr (S 4 0) (S 4 2) (S 49) (S 50) (S 22) (S 23) a.toNat b.toNat)), S)
  | _, _ => sp_52 y as S
theorem sp_53_ok {xs : List Int32} (hxs : xs.length ≤ 2048) (d : Nat) : qq_ok xs (d + 10) sp_53 := by
  intro y as S pre r S2 h hp
  unfold sp_53 at h
  split at h
  · cases h; exact f19 hxs (d + 0) S _ _ hp
  · exact sp_52_ok hxs (d + 1) y as S pre r S2 h hp
set_option maxRecDepth 20000 in
theorem f18 {xs : List Int32} (hxs : xs.length ≤ 2048) (d : Nat) (S : qq_S) (s : Int) (hp : (0 ≤ s ∧ s < 10) ∧ zz_p (zz_nb S) = 1 ∧ zz_p (zz_pl (S 49) (S 50)) = 1) : qq_E xs (d + 11) 18 [.inr (53, none), .inl s] S (some (zz_p (zz_gL (S 4 0) (S 4 2) (S 49) (S 50) (S 22) (S 23) (S 25) (fun s => S (26 + 1 + s)) s.toNat))) (S) := by
  have g1 := zz_pi1.mp hp.2.1
  have g2 := zz_pi1.mp hp.2.2
  have n0 := g1.1
  have gd := g1.2.2.1 s.toNat (by omega)
  have L : ∀ (k9 : Nat) (i : Int) (u : Option qq_V), S 25 s.toNat - i < (k9 : Int) → (0 ≤ i ∧ i ≤ S 25 s.toNat) → (∀ j : Nat, (j : Int) < i → ¬ (zz_bL (S 4 0) (S 4 2) (S 49) (S 50) (S 22) (S 23) (fun s => S (26 + 1 + s)) s.toNat) j) → qq_p xs (d + 10) (mm_mr mm_m18) (mm_mk mm_m18) (fun r S' => r = some (zz_p (zz_gL (S 4 0) (S 4 2) (S 49) (S 50) (S 22) (S 23) (S 25) (fun s => S (26 + 1 + s)) s.toNat)) ∧ S' = S) 2 [some (.inr (53, none)), some (.inl s), some (.inl i), u] [] (S) := by
    intro k9
    induction k9 with
    | zero =>
      intro i u hm h1 h2
      exfalso
      omega
    | succ k9 ih =>
      intro i u hm h1 h2
      refine qq_fsound hxs (sp_53_ok hxs (d + 0)) [2] 300 ?_
      repeat' first | apply And.intro | intro _ | (simp only [qq_tab]) | (simp only [qq_pl])
      all_goals (
        (first
         | omega
         | exact (zz_pin _).1
         | exact (zz_pin _).2
         | exact (zz_bin _).1
         | exact (zz_bin _).2
         | exact zz_p01 _
         | exact Or.inl trivial
         | exact Or.inr trivial
         | exact hp.2.1
         | exact hp.2.2
         | (have ei : i = S 25 s.toNat := by omega
            have aN : ∀ j : Nat, (j : Int) < S 25 s.toNat → ¬ (zz_bL (S 4 0) (S 4 2) (S 49) (S 50) (S 22) (S 23) (fun s => S (26 + 1 + s)) s.toNat) j := fun j hj => h2 j (by omega)
            exact congrArg some (zz_p1 aN).symm)
         | (have il : i < S 25 s.toNat := by omega
            have r := gd.2.2 i.toNat (by omega); have q1 := g2 (S (26 + 1 + s.toNat) i.toNat).toNat (by omega)
            first
            | omega
            | (unfold qq_in; omega)
            | (have b9 : (zz_bL (S 4 0) (S 4 2) (S 49) (S 50) (S 22) (S 23) (fun s => S (26 + 1 + s)) s.toNat) i.toNat := by ((try simp only [zz_pi0, zz_bi0, Classical.not_not] at *); exact ⟨by assumption, by assumption⟩)
               exact congrArg some (zz_p0 (fun z => z i.toNat (by omega) b9)).symm)
            | (refine ih _ _ (by omega) (by omega) (zz_ext (P := (zz_bL (S 4 0) (S 4 2) (S 49) (S 50) (S 22) (S 23) (fun s => S (26 + 1 + s)) s.toNat)) h2 (show ¬ (zz_bL (S 4 0) (S 4 2) (S 49) (S 50) (S 22) (S 23) (fun s => S (26 + 1 + s)) s.toNat) i.toNat by ((try simp only [zz_pi0, zz_bi0, Classical.not_not] at *); first | exact fun z => absurd (by assumption) z.1 | exact fun z => z.2 (by assumption))) (by omega))))))
  have h : qq_p xs (d + 10) (mm_mr mm_m18) (mm_mk mm_m18) (fun r S' => r = some (zz_p (zz_gL (S 4 0) (S 4 2) (S 49) (S 50) (S 22) (S 23) (S 25) (fun s => S (26 + 1 + s)) s.toNat)) ∧ S' = S) 0 (qq_ent mm_m18 [.inr (53, none), .inl s]) [] S := by
    refine qq_fsound hxs (sp_53_ok hxs (d + 0)) [2] 300 ?_
    repeat' first | apply And.intro | intro _ | (simp only [qq_tab]) | (simp only [qq_pl])
    all_goals (first | omega | exact L (S 25 s.toNat + 1).toNat 0 _ (by omega) (by omega) (fun j hj => by omega))
  obtain ⟨r, S', hE, e1, e2⟩ := qq_call_of (y := 18) rfl (Nat.le_of_ble_eq_true rfl) h
  rw [e1, e2] at hE
  exact hE
noncomputable def sp_54 : qq_P := fun y as S => match y, as with
  | 18, [.inr (53, none), .inl s] => some ((0 ≤ s ∧ s < 10) ∧ zz_p (zz_nb S) = 1 ∧ zz_p (zz_pl (S 49) (S 50)) = 1, some (zz_p (zz_gL (S 4 0) (S 4 2) (S 49) (S 50) (S 22) (S 23) (S 25) (fun s => S (26 + 1 + s)) s.toNat)), S)
  | _, _ => sp_53 y as S
theorem sp_54_ok {xs : List Int32} (hxs : xs.length ≤ 2048) (d : Nat) : qq_ok xs (d + 11) sp_54 := by
  intro y as S pre r S2 h hp
  unfold sp_54 at h
  split at h
  · cases h; exact f18 hxs (d + 0) S _ hp
  · exact sp_53_ok hxs (d + 1) y as S pre r S2 h hp
set_option maxRecDepth 20000 in
theorem f14 {xs : List Int32} (hxs : xs.length ≤ 2048) (d : Nat) (S : qq_S) (s : Int) (hp : (0 ≤ s ∧ s < 10) ∧ zz_p (zz_nb S) = 1 ∧ zz_p (zz_pl (S 49) (S 50)) = 1) : qq_E xs (d + 12) 14 [.inr (53, none), .inl s] S (some (zz_p (zz_fits (S 4 0) (S 4 2) (S 49) (S 50) (S 22) (S 23) (S 25) (fun s => S (26 + 1 + s)) s.toNat))) (S) := by
  have h : qq_p xs (d + 11) (mm_mr mm_m14) (mm_mk mm_m14) (fun r S' => r = some (zz_p (zz_fits (S 4 0) (S 4 2) (S 49) (S 50) (S 22) (S 23) (S 25) (fun s => S (26 + 1 + s)) s.toNat)) ∧ S' = S) 0 (qq_ent mm_m14 [.inr (53, none), .inl s]) [] S := by
    refine qq_fsound hxs (sp_54_ok hxs (d + 0)) [] 300 ?_
    repeat' first | apply And.intro | intro _ | (simp only [qq_tab]) | (simp only [qq_pl])
    all_goals (
      first
      | omega
      | exact hp.2.1
      | exact hp.2.2
      | exact (zz_pin _).1
      | exact (zz_pin _).2
      | exact Or.inl trivial
      | exact Or.inr trivial
      | ((try simp only [zz_pi0, Classical.not_not] at *)
         first
         | exact congrArg some (zz_p1 ⟨by assumption, by assumption, by assumption, by assumption⟩).symm
         | exact congrArg some (zz_p0 (fun z => absurd z.1 (by assumption))).symm
         | exact congrArg some (zz_p0 (fun z => absurd z.2.1 (by assumption))).symm
         | exact congrArg some (zz_p0 (fun z => absurd z.2.2.1 (by assumption))).symm
         | exact congrArg some (zz_p0 (fun z => absurd z.2.2.2 (by assumption))).symm))
  obtain ⟨r, S', hE, e1, e2⟩ := qq_call_of (y := 14) rfl (Nat.le_of_ble_eq_true rfl) h
  rw [e1, e2] at hE
  exact hE
noncomputable def sp_55 : qq_P := fun y as S => match y, as with
  | 14, [.inr (53, none), .inl s] => some ((0 ≤ s ∧ s < 10) ∧ zz_p (zz_nb S) = 1 ∧ zz_p (zz_pl (S 49) (S 50)) = 1, some (zz_p (zz_fits (S 4 0) (S 4 2) (S 49) (S 50) (S 22) (S 23) (S 25) (fun s => S (26 + 1 + s)) s.toNat)), S)
  | _, _ => sp_54 y as S
theorem sp_55_ok {xs : List Int32} (hxs : xs.length ≤ 2048) (d : Nat) : qq_ok xs (d + 12) sp_55 := by
  intro y as S pre r S2 h hp
  unfold sp_55 at h
  split at h
  · cases h; exact f14 hxs (d + 0) S _ hp
  · exact sp_54_ok hxs (d + 1) y as S pre r S2 h hp
