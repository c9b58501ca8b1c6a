def zz_m1 (T : qq_S) (s : Nat) : qq_S := qq_u (qq_u T 129 s (-1)) 130 s (-1)
noncomputable def zz_mk (T : qq_S) (s : Nat) : Int := if 0 < T 125 s then zz_fst (fun p : Nat => zz_mO (zz_m1 T s) s p = -1) 8 else -1
noncomputable def zz_ms (T : qq_S) (s : Nat) : qq_S := if zz_mk T s = -1 then (if 0 < T 125 s then qq_u (zz_m1 T s) 130 s (zz_mO (zz_m1 T s) s 0) else zz_m1 T s) else qq_u (zz_m1 T s) 129 s (zz_mk T s)
noncomputable def zz_mpa (S : qq_S) : Nat → qq_S × Int
  | 0 => (S, 0)
  | s + 1 => (zz_ms (zz_mpa S s).1 s, (zz_mpa S s).2 + (if zz_mk (zz_mpa S s).1 s = -1 then 0 else 1))
theorem zz_m1_ne {T : qq_S} {s a : Nat} (h : ¬ (a = 129 ∨ a = 130)) : zz_m1 T s a = T a := by
  unfold zz_m1
  rw [qq_ueq (by omega), qq_ueq (by omega)]
theorem zz_m1_at {T : qq_S} {s : Nat} : zz_m1 T s 129 s = -1 ∧ zz_m1 T s 130 s = -1 := by
  unfold zz_m1
  rw [qq_us, qq_un' (by decide), qq_us]
  exact ⟨rfl, rfl⟩
theorem zz_m1_oth {T : qq_S} {s a t : Nat} (h : ¬ t = s) : zz_m1 T s a t = T a t := by
  unfold zz_m1
  rw [qq_un (Or.inr h), qq_un (Or.inr h)]
theorem zz_ms_ne {T : qq_S} {s a : Nat} (h : ¬ (a = 129 ∨ a = 130)) : zz_ms T s a = T a := by
  unfold zz_ms
  repeat' split
  · rw [qq_ueq (by omega), zz_m1_ne h]
  · exact zz_m1_ne h
  · rw [qq_ueq (by omega), zz_m1_ne h]
theorem zz_ms_oth {T : qq_S} {s a t : Nat} (h : ¬ t = s) : zz_ms T s a t = T a t := by
  unfold zz_ms
  repeat' split
  · rw [qq_un (Or.inr h), zz_m1_oth h]
  · exact zz_m1_oth h
  · rw [qq_un (Or.inr h), zz_m1_oth h]
theorem zz_mk_bd (T : qq_S) (s : Nat) : -1 ≤ zz_mk T s ∧ zz_mk T s ≤ 7 := by
  have := zz_fst_bd (fun p : Nat => zz_mO (zz_m1 T s) s p = -1) 8
  unfold zz_mk
  split <;> omega
theorem zz_ms_at (T : qq_S) (s : Nat) : zz_ms T s 129 s = zz_mk T s := by
  have m := zz_m1_at (T := T) (s := s)
  unfold zz_ms
  by_cases c : zz_mk T s = -1
  · rw [if_pos c, c]
    split
    · rw [qq_un' (by decide)]; exact m.1
    · exact m.1
  · rw [if_neg c, qq_us]
theorem zz_mpa_ne (S : qq_S) {a : Nat} (h : ¬ (a = 129 ∨ a = 130)) : ∀ s, (zz_mpa S s).1 a = S a
  | 0 => rfl
  | s + 1 => by
    show zz_ms _ _ a = _
    rw [zz_ms_ne h]
    exact zz_mpa_ne S h s
theorem zz_mpa_bd (S : qq_S) : ∀ s t : Nat, t < s → -1 ≤ (zz_mpa S s).1 129 t ∧ (zz_mpa S s).1 129 t ≤ 7
  | 0, t, h => by omega
  | s + 1, t, h => by
    show -1 ≤ zz_ms (zz_mpa S s).1 s 129 t ∧ zz_ms (zz_mpa S s).1 s 129 t ≤ 7
    by_cases e : t = s
    · subst e
      rw [zz_ms_at]
      exact zz_mk_bd _ _
    · rw [zz_ms_oth e]
      exact zz_mpa_bd S s t (by omega)
theorem zz_mpa_c (S : qq_S) : ∀ s : Nat, 0 ≤ (zz_mpa S s).2 ∧ (zz_mpa S s).2 ≤ s
  | 0 => by simp [zz_mpa]
  | s + 1 => by
    have ih := zz_mpa_c S s
    show 0 ≤ (zz_mpa S s).2 + (if zz_mk (zz_mpa S s).1 s = -1 then 0 else 1) ∧ (zz_mpa S s).2 + (if zz_mk (zz_mpa S s).1 s = -1 then 0 else 1) ≤ ((s + 1 : Nat) : Int)
    split <;> omega
theorem zz_cN_o {S T : qq_S} (h : ∀ a : Nat, ¬ (129 ≤ a ∧ a ≤ 131) → T a = S a) : zz_cN S T := ⟨fun a ha => h a (by omega), fun j _ _ => by rw [h 115 (by omega)]⟩
theorem zz_mall_o {S T : qq_S} (h : ∀ a : Nat, ¬ (129 ≤ a ∧ a ≤ 131) → T a = S a) (m : zz_mall S) : zz_mall T := by
  unfold zz_mall at *
  rw [h 115 (by omega), h 123 (by omega), h 4 (by omega)]
  exact m
/-- the told places -/
def zz_told (T : qq_S) (i : Int) : qq_S := fun a j => if a = 131 ∧ (j : Int) < i then T 129 j else T a j
theorem zz_told0 (T : qq_S) : zz_told T 0 = T := by
  funext a j
  unfold zz_told
  rw [if_neg (by omega)]
theorem zz_told_s (T : qq_S) (i : Int) (hi : 0 ≤ i) : qq_u (zz_told T i) 131 i.toNat (zz_told T i 129 i.toNat) = zz_told T (i + 1) := by
  funext a j
  unfold qq_u
  by_cases c : a = 131 ∧ j = i.toNat
  · rw [if_pos c]
    unfold zz_told
    rw [if_neg (by omega), if_pos ⟨c.1, by omega⟩, c.2]
  · rw [if_neg c]
    unfold zz_told
    by_cases d : a = 131 ∧ (j : Int) < i
    · rw [if_pos d, if_pos ⟨d.1, by omega⟩]
    · rw [if_neg d, if_neg (by omega)]
noncomputable def zz_ptr (S : qq_S) : Int := if (zz_vM S).1 = 0 then (zz_mpa (zz_wS S) (S 4 0).toNat).2 else -6
noncomputable def zz_pts (S : qq_S) : qq_S := if (zz_vM S).1 = 0 then qq_u (qq_u (zz_told (zz_mpa (zz_wS S) (S 4 0).toNat).1 (S 4 0)) 115 26 (S 4 0)) 115 0 0 else qq_u (zz_wS S) 115 0 (-6)
set_option maxRecDepth 20000 in
theorem f172 {xs : List Int32} (hxs : xs.length ≤ 2048) (d : Nat) (S : qq_S) (hp : zz_p (zz_N S) = 1 ∧ zz_p (zz_mpt S) = 1 ∧ zz_p (∀ t : Nat, (t : Int) < S 4 0 → 0 ≤ S 125 t ∧ S 125 t ≤ 12) = 1) : qq_E xs (d + 17) 172 [.inr (115, none)] S (some (zz_ptr S)) (zz_pts S) := by
  have gN := zz_pi1.mp hp.1
  have gP := zz_pi1.mp hp.2.1
  have gn := zz_pi1.mp hp.2.2
  have gb := gN.1.1
  have gE := gN.2.2.1.1
  have cI := zz_cI_wS S
  have w4 : zz_wS S 4 = S 4 := cI.1 4 (by omega)
  have w125 : zz_wS S 125 = S 125 := cI.1 125 (by omega)
  have w1 : zz_wS S 115 1 = S 4 0 := by rw [cI.2 1 (by omega)]; omega
  have wN : zz_N (zz_wS S) := zz_N_c (zz_cI_N cI) gN
  have wA : (zz_vM S).1 = 0 → zz_mall (zz_wS S) := fun z => by
    have q := zz_vM_mall gP (by omega) z
    unfold zz_mall at *
    rw [cI.1 123 (by omega), cI.2 12 (by omega), cI.1 4 (by omega)]
    exact q
  have kb := zz_vd_bd (n := (S 4 0).toNat) (E := (S 4 2).toNat) (p1 := (fun j : Nat => S 123 j = -1)) (p2 := (zz_msm S)) (p3 := (zz_mstr S)) (p4 := (zz_sho (zz_mx S) (zz_my S) (S 120) (S 121) (S 115 14))) (p5 := (zz_cov (zz_mx S) (zz_my S) (S 120) (S 121))) (p6 := (zz_mmt S)) (p7 := (fun s => ¬ zz_mtr S s)) (by omega) (by omega)
  have kv : 0 ≤ (zz_vM S).1 ∧ (zz_vM S).1 ≤ 7 := kb.1
  have LC : ∀ (k9 : Nat) (i c : Int) (u : Option qq_V) (T : qq_S), S 4 0 - i < (k9 : Int) → ((zz_vM S).1 = 0) → (0 ≤ i ∧ i ≤ S 4 0) → (T = zz_told (zz_mpa (zz_wS S) (S 4 0).toNat).1 i) → (c = (zz_mpa (zz_wS S) (S 4 0).toNat).2) → qq_p xs (d + 16) (mm_mr mm_m172) (mm_mk mm_m172) (fun r S' => r = some (zz_ptr S) ∧ S' = zz_pts S) 147 [some (.inr (115, none)), some (.inl c), some (.inl i), u] [] (T) := by
    intro k9
    induction k9 with
    | zero =>
      intro i c u T hm cv h1 h2 h3
      exfalso
      omega
    | succ k9 ih =>
      intro i c u T hm cv h1 h2 h3
      refine qq_fsound hxs (sp_42_ok hxs (d + 0)) [147, 42, 42, 18] 300 ?_
      repeat' first | apply And.intro | intro _ | (simp only [qq_tab]) | (simp only [qq_pl])
      all_goals (
        (have t1 : T 115 1 = S 4 0 := by
           rw [h2]
           unfold zz_told
           rw [if_neg (by omega), zz_mpa_ne _ (by omega)]
           exact w1
         have cb := zz_mpa_c (zz_wS S) (S 4 0).toNat
         first
         | omega
         | (have ei : i = S 4 0 := by omega
            subst ei
            first
            | (unfold zz_ptr; rw [if_pos cv, h3]; done)
            | (unfold zz_pts; rw [if_pos cv, ← h2, t1, if_neg (by omega)]; done))
         | (refine ih _ _ _ _ (by omega) cv (by omega) ?_ h3
            rw [h2]
            exact zz_told_s _ _ (by omega))))
  have LB : ∀ (k9 : Nat) (s c p : Int) (T : qq_S), 0 < (k9 : Int) → (0 ≤ s ∧ s < S 4 0) → (T = (zz_mpa (zz_wS S) s.toNat).1) → (¬ zz_mk T s.toNat = -1) → (0 ≤ p ∧ p ≤ 8) → (∀ (u : Option qq_V), qq_p xs (d + 16) (mm_mr mm_m172) (mm_mk mm_m172) (fun r S' => r = some (zz_ptr S) ∧ S' = zz_pts S) 18 [some (.inr (115, none)), some (.inl (c + (if zz_mk T s.toNat = -1 then 0 else 1))), some (.inl (s + 1)), u] [] (zz_ms T s.toNat)) → qq_p xs (d + 16) (mm_mr mm_m172) (mm_mk mm_m172) (fun r S' => r = some (zz_ptr S) ∧ S' = zz_pts S) 42 [some (.inr (115, none)), some (.inl c), some (.inl s), some (.inl p)] [] (qq_u (zz_m1 T s.toNat) 129 s.toNat (zz_mk T s.toNat)) := by
    intro k9
    induction k9 with
    | zero =>
      intro s c p T hm h1 hT h5 h6 h4
      exfalso
      omega
    | succ k9 ih =>
      intro s c p T hm h1 hT h5 h6 h4
      refine qq_fsound hxs (sp_42_ok hxs (d + 0)) [147, 42, 42, 18] 300 ?_
      repeat' first | apply And.intro | intro _ | (simp only [qq_tab]) | (simp only [qq_pl])
      all_goals (
        (have mb := zz_mk_bd T s.toNat
         have es : zz_ms T s.toNat = qq_u (zz_m1 T s.toNat) 129 s.toNat (zz_mk T s.toNat) := by unfold zz_ms; rw [if_neg h5]
         have a1 : qq_u (zz_m1 T s.toNat) 129 s.toNat (zz_mk T s.toNat) 129 s.toNat = zz_mk T s.toNat := qq_us
         have a2 : qq_u (zz_m1 T s.toNat) 129 s.toNat (zz_mk T s.toNat) 125 s.toNat = S 125 s.toNat := by rw [qq_un' (by decide), zz_m1_ne (by omega), hT, zz_mpa_ne _ (by omega), w125]
         have gs := gn s.toNat (by omega)
         first
         | omega
         | (have q := h4 (some (.inl p))
            rw [if_neg h5, es] at q
            exact q)))
  have LA : ∀ (k9 : Nat) (s c p : Int) (T : qq_S), 8 - p < (k9 : Int) → ((zz_vM S).1 = 0) → (0 ≤ s ∧ s < S 4 0) → (T = (zz_mpa (zz_wS S) s.toNat).1) → (0 ≤ p ∧ p ≤ 8) → (0 < p → 0 < T 125 s.toNat) → (∀ j : Nat, (j : Int) < p → ¬ zz_mO (zz_m1 T s.toNat) s.toNat j = -1) → (∀ (u : Option qq_V), qq_p xs (d + 16) (mm_mr mm_m172) (mm_mk mm_m172) (fun r S' => r = some (zz_ptr S) ∧ S' = zz_pts S) 18 [some (.inr (115, none)), some (.inl (c + (if zz_mk T s.toNat = -1 then 0 else 1))), some (.inl (s + 1)), u] [] (zz_ms T s.toNat)) → qq_p xs (d + 16) (mm_mr mm_m172) (mm_mk mm_m172) (fun r S' => r = some (zz_ptr S) ∧ S' = zz_pts S) 42 [some (.inr (115, none)), some (.inl c), some (.inl s), some (.inl p)] [] (zz_m1 T s.toNat) := by
    intro k9
    induction k9 with
    | zero =>
      intro s c p T hm cv h1 hT h6 h7 h2 h4
      exfalso
      omega
    | succ k9 ih =>
      intro s c p T hm cv h1 hT h6 h7 h2 h4
      refine qq_fsound hxs (sp_42_ok hxs (d + 0)) [147, 42, 42, 18] 300 ?_
      repeat' first | apply And.intro | intro _ | (simp only [qq_tab]) | (simp only [qq_pl])
      all_goals (
        (have t4 : ∀ a : Nat, ¬ (129 ≤ a ∧ a ≤ 131) → T a = zz_wS S a := fun a ha => by rw [hT]; exact zz_mpa_ne _ (by omega) _
         have f4 : ∀ a : Nat, ¬ (129 ≤ a ∧ a ≤ 131) → zz_m1 T s.toNat a = zz_wS S a := fun a ha => by rw [zz_m1_ne (by omega)]; exact t4 a ha
         have b4 : zz_m1 T s.toNat 4 0 = S 4 0 := by rw [f4 4 (by omega), w4]
         have a2 : zz_m1 T s.toNat 125 s.toNat = S 125 s.toNat := by rw [f4 125 (by omega), w125]
         have a5 : T 125 s.toNat = S 125 s.toNat := by rw [t4 125 (by omega), w125]
         have gs := gn s.toNat (by omega)
         have mat := zz_m1_at (T := T) (s := s.toNat)
         have ob : ∀ q : Int, -1 ≤ zz_mO (zz_m1 T s.toNat) s.toNat q ∧ zz_mO (zz_m1 T s.toNat) s.toNat q < 300 := fun q => zz_fst_bd _ 300
         have o1 := ob p
         have o0 := ob 0
         first
         | omega
         | exact zz_p1 (zz_N_c (zz_cN_o f4) wN)
         | exact zz_p1 (zz_mall_o f4 (wA cv))
         | (refine zz_p1 ⟨fun t ht => ?_, fun t ht => ?_⟩
            · rw [f4 125 (by omega), w125]
              rw [b4] at ht
              exact gn t ht
            · rw [zz_m1_oth (by omega), hT]
              exact zz_mpa_bd _ _ _ (by omega))
         | (have pl : p < 8 := by omega
            have nz : 0 < S 125 s.toNat := by omega
            have ep : ((p.toNat : Nat) : Int) = p := by omega
            first
            | (have z9 : zz_mO (zz_m1 T s.toNat) s.toNat p = -1 := by assumption
               have e : zz_mk T s.toNat = p := by
                 unfold zz_mk
                 rw [if_pos (by omega), zz_fst_at (p := fun p : Nat => zz_mO (zz_m1 T s.toNat) s.toNat p = -1) (i := p.toNat) (by rw [ep]; exact z9) (fun j hj => h2 j (by omega)) (by omega)]
                 exact ep
               have q := LB 1 s c (p + 1) T (by omega) h1 hT (by omega) (by omega) h4
               rw [e] at q
               exact q)
            | (have z9 : ¬ zz_mO (zz_m1 T s.toNat) s.toNat p = -1 := by assumption
               exact ih s c (p + 1) T (by omega) cv h1 hT (by omega) (fun _ => by omega) (zz_ext (P := fun j : Nat => zz_mO (zz_m1 T s.toNat) s.toNat j = -1) h2 (by rw [ep]; exact z9) (by omega)) h4))
         | (have nz : 0 < S 125 s.toNat := by omega
            have p8 : p = 8 := by omega
            have e : zz_mk T s.toNat = -1 := by
              unfold zz_mk
              rw [if_pos (by omega)]
              exact zz_fst_no.mpr (fun j hj => h2 j (by omega))
            have q := h4 (some (.inl p))
            rw [if_pos e] at q
            unfold zz_ms at q
            rw [if_pos e, if_pos (by omega)] at q
            have z129 : qq_u (zz_m1 T s.toNat) 130 s.toNat (zz_mO (zz_m1 T s.toNat) s.toNat 0) 129 s.toNat = -1 := by rw [qq_un' (by decide)]; exact mat.1
            first
            | omega
            | exact q)
         | (have nz : S 125 s.toNat ≤ 0 := by omega
            have e : zz_mk T s.toNat = -1 := by
              unfold zz_mk
              rw [if_neg (by omega)]
            have q := h4 (some (.inl p))
            rw [if_pos e] at q
            unfold zz_ms at q
            rw [if_pos e, if_neg (by omega)] at q
            first
            | omega
            | exact q)))
  have L : ∀ (k9 : Nat) (s c : Int) (u : Option qq_V) (T : qq_S), S 4 0 - s < (k9 : Int) → ((zz_vM S).1 = 0) → (0 ≤ s ∧ s ≤ S 4 0) → (T = (zz_mpa (zz_wS S) s.toNat).1) → (c = (zz_mpa (zz_wS S) s.toNat).2) → qq_p xs (d + 16) (mm_mr mm_m172) (mm_mk mm_m172) (fun r S' => r = some (zz_ptr S) ∧ S' = zz_pts S) 18 [some (.inr (115, none)), some (.inl c), some (.inl s), u] [] (T) := by
    intro k9
    induction k9 with
    | zero =>
      intro s c u T hm cv h1 hT h3
      exfalso
      omega
    | succ k9 ih =>
      intro s c u T hm cv h1 hT h3
      refine qq_fsound hxs (sp_42_ok hxs (d + 0)) [147, 42, 42, 18] 300 ?_
      repeat' first | apply And.intro | intro _ | (simp only [qq_tab]) | (simp only [qq_pl])
      all_goals (
        (have t4 : ∀ a : Nat, ¬ (129 ≤ a ∧ a ≤ 131) → T a = zz_wS S a := fun a ha => by rw [hT]; exact zz_mpa_ne _ (by omega) _
         have t1 : T 115 1 = S 4 0 := by rw [t4 115 (by omega)]; exact w1
         first
         | omega
         | (have es : s = S 4 0 := by omega
            subst es
            exact LC (S 4 0 + 1).toNat 0 c _ T (by omega) cv (by omega) (by rw [zz_told0]; exact hT) h3)
         | (refine LA 9 s c 0 T (by omega) cv (by omega) hT (by omega) (fun z => by omega) (fun j hj => by omega) (fun u2 => ih _ _ _ _ (by omega) cv (by omega) ?_ ?_)
            · rw [show (s + 1).toNat = s.toNat + 1 by omega, hT]
              rfl
            · rw [show (s + 1).toNat = s.toNat + 1 by omega, h3, hT]
              rfl)))
  have h : qq_p xs (d + 16) (mm_mr mm_m172) (mm_mk mm_m172) (fun r S' => r = some (zz_ptr S) ∧ S' = zz_pts S) 0 (qq_ent mm_m172 [.inr (115, none)]) [] S := by
    refine qq_fsound hxs (sp_42_ok hxs (d + 0)) [147, 42, 42, 18] 300 ?_
    repeat' first | apply And.intro | intro _ | (simp only [qq_tab]) | (simp only [qq_pl])
    all_goals (
      first
      | omega
      | exact hp.1
      | exact hp.2.1
      | (have cv : (zz_vM S).1 = 0 := by assumption
         exact L (S 4 0 + 1).toNat 0 0 _ (zz_wS S) (by omega) cv (by omega) rfl rfl)
      | (have cv : ¬ (zz_vM S).1 = 0 := by assumption
         first
         | (unfold zz_ptr; rw [if_neg cv]; done)
         | (unfold zz_pts; rw [if_neg cv]; rfl)))
  obtain ⟨r, S', hE, e1, e2⟩ := qq_call_of (y := 172) rfl (Nat.le_of_ble_eq_true rfl) h
  rw [e1, e2] at hE
  exact hE
