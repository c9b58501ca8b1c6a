set_option maxRecDepth 20000 in
theorem f151 {xs : List Int32} (hxs : xs.length ≤ 2048) (d : Nat) (S : qq_S) (a : Int) (b : Int) (hp : 0 ≤ a ∧ a ≤ 7 ∧ 0 ≤ b ∧ b ≤ 7) : qq_E xs (d + 4) 151 [.inl a, .inl b] S (some (zz_ap a b)) (S) := by
  have h : qq_p xs (d + 3) (mm_mr mm_m151) (mm_mk mm_m151) (fun r S' => r = some (zz_ap a b) ∧ S' = S) 0 (qq_ent mm_m151 [.inl a, .inl b]) [] S := by
    refine qq_fsound hxs (sp_8_ok hxs (d + 0)) [] 300 ?_
    repeat' first | apply And.intro | intro _ | (simp only [qq_tab]) | (simp only [qq_pl])
    all_goals (first | rfl | omega | (have u1 : 0 ≤ zz_abs (a - b) ∧ zz_abs (a - b) ≤ 7 := (by unfold zz_abs; split <;> omega); first | omega | (unfold zz_ap; grind)))
  obtain ⟨r, S', hE, e1, e2⟩ := qq_call_of (y := 151) rfl (Nat.le_of_ble_eq_true rfl) h
  rw [e1, e2] at hE
  exact hE
noncomputable def sp_29 : qq_P := fun y as S => match y, as with
  | 151, [.inl a, .inl b] => some (0 ≤ a ∧ a ≤ 7 ∧ 0 ≤ b ∧ b ≤ 7, some (zz_ap a b), S)
  | _, _ => sp_28 y as S
theorem sp_29_ok {xs : List Int32} (hxs : xs.length ≤ 2048) (d : Nat) : qq_ok xs (d + 19) sp_29 := by
  intro y as S pre r S2 h hp
  unfold sp_29 at h
  split at h
  · cases h; exact f151 hxs (d + 15) S _ _ hp
  · exact sp_28_ok hxs (d + 0) y as S pre r S2 h hp
set_option maxRecDepth 20000 in
theorem f153 {xs : List Int32} (hxs : xs.length ≤ 2048) (d : Nat) (S : qq_S) (hp : zz_p (zz_N S) = 1 ∧ zz_p (zz_mall S) = 1) : qq_E xs (d + 20) 153 [.inr (115, none)] S (some (zz_mlns S)) (S) := by
  have gN := zz_pi1.mp hp.1
  have gA := zz_pi1.mp hp.2
  have gb := gN.1.1
  have gE := gN.2.2.1.1
  have gm := zz_N_ml gN
  have e3 : S 115 3 = S 4 2 := by omega
  have e2 : S 115 2 = S 4 1 := by omega
  have ok : ∀ a : Int, 0 ≤ a → a < S 4 0 → zz_p (zz_mok S a) = 1 := fun a a0 a1 => zz_mall_ok gA (by omega) a0 a1
  have L : ∀ (k9 : Nat) (i c : Int), S 115 3 - i < (k9 : Int) → (0 ≤ i ∧ i ≤ S 115 3) → (c = zz_sum (fun e => zz_ln (zz_mx S) (zz_my S) (S 120 e).toNat (S 121 e).toNat) i.toNat) → qq_p xs (d + 19) (mm_mr mm_m153) (mm_mk mm_m153) (fun r S' => r = some (zz_mlns S) ∧ S' = S) 4 [some (.inr (115, none)), some (.inl c), some (.inl i)] [] (S) := by
    intro k9
    induction k9 with
    | zero =>
      intro i c hm h1 h2
      exfalso
      omega
    | succ k9 ih =>
      intro i c hm h1 h2
      refine qq_fsound hxs (sp_29_ok hxs (d + 0)) [4] 300 ?_
      repeat' first | apply And.intro | intro _ | (simp only [qq_tab]) | (simp only [qq_pl])
      all_goals (
        (first
         | omega
         | exact hp.1
         | exact hp.2
         | (have ei : i = S 115 3 := by omega
            subst ei
            first | rfl | (rw [h2]; first | done | rfl))
         | (have il : i < S 115 3 := by omega
            have n1 := zz_N_me gN (e := i.toNat) (by omega)
            first
            | omega
            | (apply ok <;> omega)
            | (refine ih _ _ ?_ ?_ ?_ <;> first | omega | (rw [zz_sum_s _ i (by omega), h2]; try rfl)))))
  have h : qq_p xs (d + 19) (mm_mr mm_m153) (mm_mk mm_m153) (fun r S' => r = some (zz_mlns S) ∧ S' = S) 0 (qq_ent mm_m153 [.inr (115, none)]) [] S := by
    refine qq_fsound hxs (sp_29_ok hxs (d + 0)) [4] 300 ?_
    repeat' first | apply And.intro | intro _ | (simp only [qq_tab]) | (simp only [qq_pl])
    all_goals (first | omega | exact L (S 115 3 + 1).toNat 0 0 (by omega) (by omega) rfl)
  obtain ⟨r, S', hE, e1, e2⟩ := qq_call_of (y := 153) rfl (Nat.le_of_ble_eq_true rfl) h
  rw [e1, e2] at hE
  exact hE
set_option maxRecDepth 20000 in
theorem f154 {xs : List Int32} (hxs : xs.length ≤ 2048) (d : Nat) (S : qq_S) (hp : zz_p (zz_N S) = 1 ∧ zz_p (zz_mall S) = 1) : qq_E xs (d + 20) 154 [.inr (115, none)] S (some (zz_mtrs S)) (S) := by
  have gN := zz_pi1.mp hp.1
  have gA := zz_pi1.mp hp.2
  have gb := gN.1.1
  have gE := gN.2.2.1.1
  have gm := zz_N_ml gN
  have e3 : S 115 3 = S 4 2 := by omega
  have e2 : S 115 2 = S 4 1 := by omega
  have ok : ∀ a : Int, 0 ≤ a → a < S 4 0 → zz_p (zz_mok S a) = 1 := fun a a0 a1 => zz_mall_ok gA (by omega) a0 a1
  have L : ∀ (k9 : Nat) (i c : Int), S 115 3 - i < (k9 : Int) → (0 ≤ i ∧ i ≤ S 115 3) → (c = zz_sum (zz_mtrn S) i.toNat) → qq_p xs (d + 19) (mm_mr mm_m154) (mm_mk mm_m154) (fun r S' => r = some (zz_mtrs S) ∧ S' = S) 4 [some (.inr (115, none)), some (.inl c), some (.inl i)] [] (S) := by
    intro k9
    induction k9 with
    | zero =>
      intro i c hm h1 h2
      exfalso
      omega
    | succ k9 ih =>
      intro i c hm h1 h2
      refine qq_fsound hxs (sp_29_ok hxs (d + 0)) [4] 300 ?_
      repeat' first | apply And.intro | intro _ | (simp only [qq_tab]) | (simp only [qq_pl])
      all_goals (
        (first
         | omega
         | exact hp.1
         | exact hp.2
         | (have ei : i = S 115 3 := by omega
            subst ei
            first | rfl | (rw [h2]; first | done | rfl))
         | (have il : i < S 115 3 := by omega
            have n1 := zz_N_me gN (e := i.toNat) (by omega)
            have x1 := gN.1.2.1 (S 120 i.toNat).toNat (by omega)
            have x2 := gN.1.2.1 (S 121 i.toNat).toNat (by omega)
            have t1 := zz_td_bd (S 116 (S 121 i.toNat).toNat - S 116 (S 120 i.toNat).toNat) (S 117 (S 121 i.toNat).toNat - S 117 (S 120 i.toNat).toNat)
            have t2 := zz_mdr_bd (zz_mx S) (zz_my S) (S 120 i.toNat).toNat (S 121 i.toNat).toNat
            first
            | omega
            | (apply ok <;> omega)
            | (refine ih _ _ ?_ ?_ ?_ <;> first | omega | (rw [zz_sum_s _ i (by omega), h2]; try rfl)))))
  have h : qq_p xs (d + 19) (mm_mr mm_m154) (mm_mk mm_m154) (fun r S' => r = some (zz_mtrs S) ∧ S' = S) 0 (qq_ent mm_m154 [.inr (115, none)]) [] S := by
    refine qq_fsound hxs (sp_29_ok hxs (d + 0)) [4] 300 ?_
    repeat' first | apply And.intro | intro _ | (simp only [qq_tab]) | (simp only [qq_pl])
    all_goals (first | omega | exact L (S 115 3 + 1).toNat 0 0 (by omega) (by omega) rfl)
  obtain ⟨r, S', hE, e1, e2⟩ := qq_call_of (y := 154) rfl (Nat.le_of_ble_eq_true rfl) h
  rw [e1, e2] at hE
  exact hE
set_option maxRecDepth 20000 in
theorem f152 {xs : List Int32} (hxs : xs.length ≤ 2048) (d : Nat) (S : qq_S) (hp : zz_p (zz_N S) = 1 ∧ zz_p (zz_mall S) = 1) : qq_E xs (d + 20) 152 [.inr (115, none)] S (some (zz_mbds S)) (S) := by
  have gN := zz_pi1.mp hp.1
  have gA := zz_pi1.mp hp.2
  have gb := gN.1.1
  have gE := gN.2.2.1.1
  have gm := zz_N_ml gN
  have e3 : S 115 3 = S 4 2 := by omega
  have e2 : S 115 2 = S 4 1 := by omega
  have ok : ∀ a : Int, 0 ≤ a → a < S 4 0 → zz_p (zz_mok S a) = 1 := fun a a0 a1 => zz_mall_ok gA (by omega) a0 a1
  have Li : ∀ (k9 : Nat) (l i c : Int) (u : Option qq_V), 11 - i < (k9 : Int) → (0 ≤ l ∧ l < S 115 2 ∧ 1 ≤ i ∧ i ≤ 10) → (c = zz_sum (fun l => zz_sum (zz_mbnd S l) (S 118 l - 2).toNat) l.toNat + zz_sum (zz_mbnd S l.toNat) (i - 1).toNat) → (i = 1 ∨ i + 1 ≤ S 118 l.toNat) → (∀ c2 : Int, c2 = zz_sum (fun l => zz_sum (zz_mbnd S l) (S 118 l - 2).toNat) (l + 1).toNat → ∀ u v, qq_p xs (d + 19) (mm_mr mm_m152) (mm_mk mm_m152) (fun r S' => r = some (zz_mbds S) ∧ S' = S) 4 [some (.inr (115, none)), some (.inl c2), some (.inl (l + 1)), u, v] [] S) → qq_p xs (d + 19) (mm_mr mm_m152) (mm_mk mm_m152) (fun r S' => r = some (zz_mbds S) ∧ S' = S) 14 [some (.inr (115, none)), some (.inl c), some (.inl l), some (.inl i), u] [] (S) := by
    intro k9
    induction k9 with
    | zero =>
      intro l i c u hm h1 h2 h5 h4
      exfalso
      omega
    | succ k9 ih =>
      intro l i c u hm h1 h2 h5 h4
      refine qq_fsound hxs (sp_29_ok hxs (d + 0)) [14, 4] 300 ?_
      repeat' first | apply And.intro | intro _ | (simp only [qq_tab]) | (simp only [qq_pl])
      all_goals (
        (have n1 := gm.2 l.toNat (by omega)
         first
         | omega
         | (have z9 : S 118 l.toNat ≤ i + 1 := by assumption
            refine h4 c ?_ _ _
            rw [zz_sum_s _ l (by omega), h2, show (i - 1).toNat = (S 118 l.toNat - 2).toNat by omega])
         | (have il : i + 1 < S 118 l.toNat := by omega
            have q0 := gN.2.1.1 l.toNat (by omega)
            have q1 := (gN.2.1.1 l.toNat (by omega)).2.2.2 (i - 1).toNat (by omega)
            have q2 := (gN.2.1.1 l.toNat (by omega)).2.2.2 ((i - 1).toNat + 1) (by omega)
            have q3 := (gN.2.1.1 l.toNat (by omega)).2.2.2 ((i - 1).toNat + 2) (by omega)
            have a1 : (10 * l + i - 1).toNat = 10 * l.toNat + (i - 1).toNat := by omega
            have a2 : (10 * l + i).toNat = 10 * l.toNat + ((i - 1).toNat + 1) := by omega
            have a3 : (10 * l + i + 1).toNat = 10 * l.toNat + ((i - 1).toNat + 2) := by omega
            have m1 := zz_mdr_bd (zz_mx S) (zz_my S) (S 119 (10 * l.toNat + (i - 1).toNat)).toNat (S 119 (10 * l.toNat + ((i - 1).toNat + 1))).toNat
            have m2 := zz_mdr_bd (zz_mx S) (zz_my S) (S 119 (10 * l.toNat + ((i - 1).toNat + 1))).toNat (S 119 (10 * l.toNat + ((i - 1).toNat + 2))).toNat
            (try simp only [a1, a2, a3] at *)
            first
            | omega
            | (apply ok <;> omega)
            | (refine ih l (i + 1) (c + zz_mbnd S l.toNat (i - 1).toNat) _ ?_ ?_ ?_ ?_ h4 <;> first | omega | (rw [show (i + 1 - 1).toNat = (i - 1).toNat + 1 by omega, h2]; show _ = _ + (zz_sum _ _ + _); omega))
            | (have q := ih l (i + 1) (c + zz_mbnd S l.toNat (i - 1).toNat) (some (.inl (S 119 (10 * l.toNat + ((i - 1).toNat + 1))))) (by omega) (by omega) (by rw [show (i + 1 - 1).toNat = (i - 1).toNat + 1 by omega, h2]; show _ = _ + (zz_sum _ _ + _); omega) (by omega) h4
               unfold zz_mbnd at q
               rw [← a1, ← a2, ← a3] at q
               exact q))))
  have L : ∀ (k9 : Nat) (l c : Int) (u v : Option qq_V), S 115 2 - l < (k9 : Int) → (0 ≤ l ∧ l ≤ S 115 2) → (c = zz_sum (fun l => zz_sum (zz_mbnd S l) (S 118 l - 2).toNat) l.toNat) → qq_p xs (d + 19) (mm_mr mm_m152) (mm_mk mm_m152) (fun r S' => r = some (zz_mbds S) ∧ S' = S) 4 [some (.inr (115, none)), some (.inl c), some (.inl l), u, v] [] (S) := by
    intro k9
    induction k9 with
    | zero =>
      intro l c u v hm h1 h2
      exfalso
      omega
    | succ k9 ih =>
      intro l c u v hm h1 h2
      refine qq_fsound hxs (sp_29_ok hxs (d + 0)) [14, 4] 300 ?_
      repeat' first | apply And.intro | intro _ | (simp only [qq_tab]) | (simp only [qq_pl])
      all_goals (
        (first
         | omega
         | (have ei : l = S 115 2 := by omega
            subst ei
            first | rfl | (rw [h2]; first | done | rfl))
         | (have n1 := gm.2 l.toNat (by omega)
            refine Li 11 l 1 c _ (by omega) (by omega) (by rw [h2]; exact (Int.add_zero _).symm) (by omega) (fun c2 hc u2 v2 => ih _ _ _ _ (by omega) (by omega) hc))))
  have h : qq_p xs (d + 19) (mm_mr mm_m152) (mm_mk mm_m152) (fun r S' => r = some (zz_mbds S) ∧ S' = S) 0 (qq_ent mm_m152 [.inr (115, none)]) [] S := by
    refine qq_fsound hxs (sp_29_ok hxs (d + 0)) [14, 4] 300 ?_
    repeat' first | apply And.intro | intro _ | (simp only [qq_tab]) | (simp only [qq_pl])
    all_goals (first | omega | exact L (S 115 2 + 1).toNat 0 0 _ _ (by omega) (by omega) rfl)
  obtain ⟨r, S', hE, e1, e2⟩ := qq_call_of (y := 152) rfl (Nat.le_of_ble_eq_true rfl) h
  rw [e1, e2] at hE
  exact hE
noncomputable def sp_30 : qq_P := fun y as S => match y, as with
  | 153, [.inr (115, none)] => some (zz_p (zz_N S) = 1 ∧ zz_p (zz_mall S) = 1, some (zz_mlns S), S)
  | 154, [.inr (115, none)] => some (zz_p (zz_N S) = 1 ∧ zz_p (zz_mall S) = 1, some (zz_mtrs S), S)
  | 152, [.inr (115, none)] => some (zz_p (zz_N S) = 1 ∧ zz_p (zz_mall S) = 1, some (zz_mbds S), S)
  | _, _ => sp_29 y as S
theorem sp_30_ok {xs : List Int32} (hxs : xs.length ≤ 2048) (d : Nat) : qq_ok xs (d + 20) sp_30 := by
  intro y as S pre r S2 h hp
  unfold sp_30 at h
  split at h
  · cases h; exact f153 hxs (d + 0) S hp
  · cases h; exact f154 hxs (d + 0) S hp
  · cases h; exact f152 hxs (d + 0) S hp
  · exact sp_29_ok hxs (d + 1) y as S pre r S2 h hp
set_option maxRecDepth 20000 in
theorem f155 {xs : List Int32} (hxs : xs.length ≤ 2048) (d : Nat) (S : qq_S) (hp : zz_p (zz_N S) = 1 ∧ zz_p (zz_mall S) = 1) : qq_E xs (d + 21) 155 [.inr (115, none)] S (some (zz_mcst S)) (S) := by
  have h : qq_p xs (d + 20) (mm_mr mm_m155) (mm_mk mm_m155) (fun r S' => r = some (zz_mcst S) ∧ S' = S) 0 (qq_ent mm_m155 [.inr (115, none)]) [] S := by
    refine qq_fsound hxs (sp_30_ok hxs (d + 0)) [] 300 ?_
    repeat' first | apply And.intro | intro _ | (simp only [qq_tab]) | (simp only [qq_pl])
    all_goals (first | rfl | exact hp.1 | exact hp.2)
  obtain ⟨r, S', hE, e1, e2⟩ := qq_call_of (y := 155) rfl (Nat.le_of_ble_eq_true rfl) h
  rw [e1, e2] at hE
  exact hE
noncomputable def sp_31 : qq_P := fun y as S => match y, as with
  | 155, [.inr (115, none)] => some (zz_p (zz_N S) = 1 ∧ zz_p (zz_mall S) = 1, some (zz_mcst S), S)
  | _, _ => sp_30 y as S
theorem sp_31_ok {xs : List Int32} (hxs : xs.length ≤ 2048) (d : Nat) : qq_ok xs (d + 21) sp_31 := by
  intro y as S pre r S2 h hp
  unfold sp_31 at h
  split at h
  · cases h; exact f155 hxs (d + 0) S hp
  · exact sp_30_ok hxs (d + 1) y as S pre r S2 h hp
theorem zz_vd_ok {n E : Nat} {p1 : Nat → Prop} {p2 : Nat → Nat → Prop} {p3 p4 : Nat → Prop} {p5 p6 : Nat → Nat → Prop} {p7 : Nat → Prop} : (zz_vd n E p1 p2 p3 p4 p5 p6 p7).1 = 0 ↔ (∀ a, a < n → ¬ p1 a) ∧ (∀ a b, a < n → b < n → ¬ p2 a b) ∧ (∀ e, e < E → ¬ p3 e) ∧ (∀ e, e < E → ¬ p4 e) ∧ (∀ e s, e < E → s < n → ¬ p5 e s) ∧ (∀ e f, e < E → f < E → ¬ p6 e f) ∧ (∀ s, s < n → ¬ p7 s) := by
  have two : ∀ (p : Nat → Nat → Prop) (m k : Nat), zz_fst (fun a => ∃ j, j < k ∧ p a j) m = -1 ↔ ∀ a b, a < m → b < k → ¬ p a b := fun p m k => by
    rw [zz_fst_no]
    exact ⟨fun z a b ha hb y => z a ha ⟨b, hb, y⟩, fun z a ha ⟨b, hb, y⟩ => z a b ha hb y⟩
  rw [← two p2, ← two p5, ← two p6, ← zz_fst_no (p := p1), ← zz_fst_no (p := p3), ← zz_fst_no (p := p4), ← zz_fst_no (p := p7)]
  by_cases c1 : zz_fst p1 n = -1
  case neg => rw [zz_vd1 c1]; exact ⟨fun z => by simp at z, fun z => absurd z.1 c1⟩
  by_cases c2 : zz_fst (fun a => ∃ j, j < n ∧ p2 a j) n = -1
  case neg => rw [zz_vd2 c1 c2]; exact ⟨fun z => by simp at z, fun z => absurd z.2.1 c2⟩
  by_cases c3 : zz_fst p3 E = -1
  case neg => rw [zz_vd3 c1 c2 c3]; exact ⟨fun z => by simp at z, fun z => absurd z.2.2.1 c3⟩
  by_cases c4 : zz_fst p4 E = -1
  case neg => rw [zz_vd4 c1 c2 c3 c4]; exact ⟨fun z => by simp at z, fun z => absurd z.2.2.2.1 c4⟩
  by_cases c5 : zz_fst (fun a => ∃ j, j < n ∧ p5 a j) E = -1
  case neg => rw [zz_vd5 c1 c2 c3 c4 c5]; exact ⟨fun z => by simp at z, fun z => absurd z.2.2.2.2.1 c5⟩
  by_cases c6 : zz_fst (fun a => ∃ j, j < E ∧ p6 a j) E = -1
  case neg => rw [zz_vd6 c1 c2 c3 c4 c5 c6]; exact ⟨fun z => by simp at z, fun z => absurd z.2.2.2.2.2.1 c6⟩
  by_cases c7 : zz_fst p7 n = -1
  case neg => rw [zz_vd7 c1 c2 c3 c4 c5 c6 c7]; exact ⟨fun z => by simp at z, fun z => absurd z.2.2.2.2.2.2 c7⟩
  rw [zz_vd0 c1 c2 c3 c4 c5 c6 c7]
  exact ⟨fun _ => ⟨c1, c2, c3, c4, c5, c6, c7⟩, fun _ => rfl⟩
theorem zz_cI_mx {S T : qq_S} (h : zz_cI S T) : zz_mx T = zz_mx S ∧ zz_my T = zz_my S := by
  constructor
  · funext s; unfold zz_mx; rw [h.1 123 (by omega), h.2 12 (by omega)]
  · funext s; unfold zz_my; rw [h.1 123 (by omega), h.2 12 (by omega)]
theorem zz_cI_mc {S T : qq_S} (h : zz_cI S T) : zz_mbds T = zz_mbds S ∧ zz_mlns T = zz_mlns S ∧ zz_mtrs T = zz_mtrs S ∧ zz_mcst T = zz_mcst S := by
  have m := zz_cI_mx h
  have a1 : zz_mbds T = zz_mbds S := by
    unfold zz_mbds
    rw [h.2 2 (by omega), h.1 118 (by omega)]
    refine zz_sum_c (fun l _ => zz_sum_c (fun i _ => ?_))
    unfold zz_mbnd
    rw [m.1, m.2, h.1 119 (by omega)]
  have a2 : zz_mlns T = zz_mlns S := by
    unfold zz_mlns
    rw [h.2 3 (by omega), h.1 120 (by omega), h.1 121 (by omega), m.1, m.2]
  have a3 : zz_mtrs T = zz_mtrs S := by
    unfold zz_mtrs
    rw [h.2 3 (by omega)]
    refine zz_sum_c (fun e _ => ?_)
    unfold zz_mtrn
    rw [m.1, m.2, h.1 120 (by omega), h.1 121 (by omega), h.1 116 (by omega), h.1 117 (by omega)]
  refine ⟨a1, a2, a3, ?_⟩
  unfold zz_mcst
  rw [a1, a2, a3, h.2 15 (by omega), h.2 16 (by omega), h.2 17 (by omega)]
theorem zz_vM_mall {S : qq_S} (h : zz_mpt S) (h10 : 0 ≤ S 4 0) (hv : (zz_vM S).1 = 0) : zz_mall S := by
  have q := (zz_vd_ok.mp hv).1
  refine ⟨h.1, fun i hi => ?_⟩
  have := h.2.2 i hi
  have := q i (by omega)
  omega
set_option maxRecDepth 20000 in
theorem f156 {xs : List Int32} (hxs : xs.length ≤ 2048) (d : Nat) (S : qq_S) (a : Int) (hp : qq_in a ∧ zz_p (zz_N S) = 1 ∧ zz_p (zz_mpt S) = 1) : qq_E xs (d + 22) 156 [.inr (115, none), .inl a] S (some (if ¬ (0 ≤ a ∧ a ≤ 3) then -1 else if ¬ (zz_vM S).1 = 0 then -6 else if a = 0 then zz_mcst S else if a = 1 then zz_mbds S else if a = 2 then zz_mlns S else zz_mtrs S)) (if ¬ (0 ≤ a ∧ a ≤ 3) then S else zz_wS S) := by
  have gN := zz_pi1.mp hp.2.1
  have gP := zz_pi1.mp hp.2.2
  have gb := gN.1.1
  have gE := gN.2.2.1.1
  have cI := zz_cI_wS S
  have pN : zz_p (zz_N (zz_wS S)) = 1 := zz_p1 (zz_N_c (zz_cI_N cI) gN)
  have pA : (zz_vM S).1 = 0 → zz_p (zz_mall (zz_wS S)) = 1 := fun z => by
    have q := zz_vM_mall gP (by omega) z
    refine zz_p1 ?_
    unfold zz_mall at *
    rw [cI.1 123 (by omega), cI.2 12 (by omega), cI.1 4 (by omega)]
    exact q
  have mc := zz_cI_mc cI
  have kb := zz_vd_bd (n := (S 4 0).toNat) (E := (S 4 2).toNat) (p1 := (fun j : Nat => S 123 j = -1)) (p2 := (zz_msm S)) (p3 := (zz_mstr S)) (p4 := (zz_sho (zz_mx S) (zz_my S) (S 120) (S 121) (S 115 14))) (p5 := (zz_cov (zz_mx S) (zz_my S) (S 120) (S 121))) (p6 := (zz_mmt S)) (p7 := (fun s => ¬ zz_mtr S s)) (by omega) (by omega)
  have kv : 0 ≤ (zz_vM S).1 ∧ (zz_vM S).1 ≤ 7 := kb.1
  have h : qq_p xs (d + 21) (mm_mr mm_m156) (mm_mk mm_m156) (fun r S' => r = some (if ¬ (0 ≤ a ∧ a ≤ 3) then -1 else if ¬ (zz_vM S).1 = 0 then -6 else if a = 0 then zz_mcst S else if a = 1 then zz_mbds S else if a = 2 then zz_mlns S else zz_mtrs S) ∧ S' = if ¬ (0 ≤ a ∧ a ≤ 3) then S else zz_wS S) 0 (qq_ent mm_m156 [.inr (115, none), .inl a]) [] S := by
    refine qq_fsound hxs (sp_31_ok hxs (d + 0)) [] 300 ?_
    repeat' first | apply And.intro | intro _ | (simp only [qq_tab]) | (simp only [qq_pl])
    all_goals (
      first
      | omega
      | exact pN
      | (exact pA (by assumption))
      | exact hp.2.1
      | exact hp.2.2
      | exact (zz_bin _).1
      | exact (zz_bin _).2
      | exact hp.1.1
      | exact hp.1.2
      | (have c0 : ¬ (0 ≤ a ∧ a ≤ 3) := zz_bi0.mp (by assumption)
         rw [if_pos c0])
      | (have c0 : (0 ≤ a ∧ a ≤ 3) := Classical.not_not.mp (fun z => absurd (zz_bi0.mpr z) (by assumption))
         have nc0 := not_not_intro c0
         first
         | (rw [if_neg nc0]; done)
         | (have cv : ¬ (zz_vM S).1 = 0 := by assumption
            rw [if_neg nc0, if_pos cv]; done)
         | (have cv : (zz_vM S).1 = 0 := by assumption
            have ncv := not_not_intro cv
            rw [if_neg nc0, if_neg ncv]
            first
            | (rw [if_pos (by omega), mc.2.2.2]; done)
            | (rw [if_neg (by omega), if_pos (by omega), mc.1]; done)
            | (rw [if_neg (by omega), if_neg (by omega), if_pos (by omega), mc.2.1]; done)
            | (rw [if_neg (by omega), if_neg (by omega), if_neg (by omega), mc.2.2.1]; done))))
  obtain ⟨r, S', hE, e1, e2⟩ := qq_call_of (y := 156) rfl (Nat.le_of_ble_eq_true rfl) h
  rw [e1, e2] at hE
  exact hE
