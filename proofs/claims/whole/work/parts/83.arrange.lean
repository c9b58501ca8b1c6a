/-! countRest and arrange. -/
def yy_ord (S : qq_S) : Prop := (∀ k : Nat, (k : Int) < S 4 0 → 0 ≤ S 89 k ∧ S 89 k < S 4 0) ∧ (∀ j k : Nat, j < k → (k : Int) < S 4 0 → ¬ S 89 j = S 89 k) ∧ (∀ t : Nat, (t : Int) < S 4 0 → ∃ k : Nat, (k : Int) < S 4 0 ∧ S 89 k = t)
/-- so many neighbours of the one of depth k come before it -/
noncomputable def yy_oc (S : qq_S) (k : Nat) : Int := zz_sum (fun i => zz_p (∃ m : Nat, m < k ∧ S 89 m = S (26 + 1 + (S 89 k).toNat) i)) (S 25 (S 89 k).toNat).toNat
def yy_rst (S : qq_S) : Prop := S 91 0 = S 4 2 * S 52 3 * S 52 1 ∧ ∀ k : Nat, (k : Int) < S 4 0 → S 91 (k + 1) = S 91 k - yy_oc S k * S 52 3 * S 52 1
def yy_orr (S : qq_S) : Prop := ∀ k : Nat, (k : Int) < S 4 0 → 0 ≤ S 89 k ∧ S 89 k < S 4 0
set_option maxRecDepth 20000 in
theorem f77 {xs : List Int32} (hxs : xs.length ≤ 2048) (d : Nat) (S : qq_S) (hp : zz_p (zz_nb S) = 1 ∧ zz_p (yy_orr S) = 1) : ∃ S2, qq_E xs (d + 9) 77 [.inr (55, none)] S (none) S2 ∧ (∀ a : Nat, ¬ a = 90 → ¬ a = 91 → S2 a = S a) ∧ yy_rst S2 := by
  have g1 := zz_pi1.mp hp.1
  have g2 := zz_pi1.mp hp.2
  have n0 := g1.1
  have L2 : ∀ (k9 : Nat) (k : Int) (u2 : Option qq_V) (T : qq_S), S 4 0 - k < (k9 : Int) → (0 ≤ k ∧ k ≤ S 4 0) → (∀ a : Nat, ¬ a = 90 → ¬ a = 91 → T a = S a) → (∀ t : Nat, (t : Int) < S 4 0 → T 90 t = zz_p (∃ m : Nat, (m : Int) < k ∧ S 89 m = t)) → (T 91 0 = S 4 2 * S 52 3 * S 52 1) → (∀ j : Nat, (j : Int) < k → T 91 (j + 1) = T 91 j - yy_oc S j * S 52 3 * S 52 1) → qq_p xs (d + 8) (mm_mr mm_m77) (mm_mk mm_m77) (fun r S2 => r = none ∧ zz_p ((∀ a : Nat, ¬ a = 90 → ¬ a = 91 → S2 a = S a) ∧ yy_rst S2) = 1) 57 [some (.inr (55, none)), some (.inl k), u2] [] (T) := by
    intro k9
    induction k9 with
    | zero =>
      intro k u2 T hm h1 h2 h3 h4 h5
      exfalso
      omega
    | succ k9 ih =>
      intro k u2 T hm h1 h2 h3 h4 h5
      refine qq_fsound hxs (sp_70_ok hxs (d + 0)) [57, 2] 300 ?_
      repeat' first | apply And.intro | intro _ | (simp only [qq_tab]) | (simp only [qq_pl])
      all_goals (
        (have t4 : T 4 = S 4 := h2 4 (by omega) (by omega)
         have t40 : T 4 0 = S 4 0 := by rw [t4]
         have t89 : T 89 = S 89 := h2 89 (by omega) (by omega)
         have t52 : T 52 = S 52 := h2 52 (by omega) (by omega)
         have t25 : T 25 = S 25 := h2 25 (by omega) (by omega)
         have tk : T 89 k.toNat = S 89 k.toNat := by rw [t89]
         first
         | omega
         | exact Or.inl trivial
         | exact Or.inr trivial
         | (have ek : k = S 4 0 := by omega
            refine zz_p1 ⟨h2, ?_, fun j hj => ?_⟩
            · rw [t4, t52]; exact h4
            · rw [t4] at hj
              have e : yy_oc T j = yy_oc S j := by
                unfold yy_oc
                rw [t89, t25, h2 (26 + 1 + (S 89 j).toNat) (by have := g2 j hj; omega) (by have := g2 j hj; omega)]
              rw [e, t52]
              exact h5 j (by omega))
         | (have kl : k < S 4 0 := by omega
            have gk := g2 k.toNat (by omega)
            have nT : zz_nb T := zz_nb_of g1 (fun c c1 c2 => h2 c (by omega) (by omega))
            have o1 : zz_o01 T := fun t ht => by
              rw [h3 t (by rw [t4] at ht; exact ht)]
              exact zz_p01 _
            first
            | omega
            | exact zz_p1 nT
            | exact zz_p1 o1
            | (refine ih (k + 1) _ _ (by omega) (by omega) (fun a h9 h8 => ?_) (fun t ht => ?_) ?_ (fun j hj => ?_)
               · rw [qq_ueq (by omega), qq_ueq (by omega)]
                 exact h2 a h9 h8
               · rw [tk, qq_uat, qq_ueq (by omega)]
                 by_cases c : t = (S 89 k.toNat).toNat
                 · rw [if_pos c, zz_p1 ⟨k.toNat, by omega, by omega⟩]
                 · rw [if_neg c, h3 t ht]
                   refine zz_pc ⟨fun ⟨m, h8, h9⟩ => ⟨m, by omega, h9⟩, fun ⟨m, h8, h9⟩ => ⟨m, ?_, h9⟩⟩
                   by_cases cm : m = k.toNat
                   · rw [cm] at h9; omega
                   · omega
               · rw [qq_ueq (by omega), qq_uat, if_neg (by omega)]
                 exact h4
               · rw [qq_ueq (by omega), qq_uat, qq_uat, if_neg (show ¬ j = (k + 1).toNat by omega)]
                 by_cases c : j = k.toNat
                 · rw [if_pos (by omega), c, t52, tk]
                   have e : zz_sum (fun i => if T 90 (T (26 + 1 + (S 89 k.toNat).toNat) i).toNat = 0 then 0 else 1) (T 25 (S 89 k.toNat).toNat).toNat = yy_oc S k.toNat := by
                     unfold yy_oc
                     rw [t25, h2 (26 + 1 + (S 89 k.toNat).toNat) (by omega) (by omega)]
                     refine zz_sum_c (fun i hi => ?_)
                     have gd := g1.2.2.1 (S 89 k.toNat).toNat (by omega)
                     have r := gd.2.2 i (by omega)
                     show (if T 90 (S (26 + 1 + (S 89 k.toNat).toNat) i).toNat = 0 then (0 : Int) else 1) = _
                     rw [h3 (S (26 + 1 + (S 89 k.toNat).toNat) i).toNat (by omega)]
                     have q : (∃ m : Nat, (m : Int) < k ∧ S 89 m = ((S (26 + 1 + (S 89 k.toNat).toNat) i).toNat : Int)) ↔ (∃ m : Nat, m < k.toNat ∧ S 89 m = S (26 + 1 + (S 89 k.toNat).toNat) i) := ⟨fun ⟨m, h8, h9⟩ => ⟨m, by omega, by omega⟩, fun ⟨m, h8, h9⟩ => ⟨m, by omega, by omega⟩⟩
                     rw [zz_pc q]
                     rcases zz_p01 (∃ m : Nat, m < k.toNat ∧ S 89 m = S (26 + 1 + (S 89 k.toNat).toNat) i) with z | z
                     · rw [z]; rfl
                     · rw [z]; rfl
                   rw [e]
                 · rw [if_neg (by omega)]
                   exact h5 j (by omega)))
         | skip))
  have L1 : ∀ (k9 : Nat) (s : Int) (u2 : Option qq_V) (T : qq_S), S 4 0 - s < (k9 : Int) → (0 ≤ s ∧ s ≤ S 4 0) → (∀ a : Nat, ¬ a = 90 → T a = S a) → (∀ t : Nat, (t : Int) < s → T 90 t = 0) → qq_p xs (d + 8) (mm_mr mm_m77) (mm_mk mm_m77) (fun r S2 => r = none ∧ zz_p ((∀ a : Nat, ¬ a = 90 → ¬ a = 91 → S2 a = S a) ∧ yy_rst S2) = 1) 2 [some (.inr (55, none)), some (.inl s), u2] [] (T) := by
    intro k9
    induction k9 with
    | zero =>
      intro s u2 T hm h1 h2 h3
      exfalso
      omega
    | succ k9 ih =>
      intro s u2 T hm h1 h2 h3
      refine qq_fsound hxs (sp_70_ok hxs (d + 0)) [57, 2] 300 ?_
      repeat' first | apply And.intro | intro _ | (simp only [qq_tab]) | (simp only [qq_pl])
      all_goals (
        (have t4 : T 4 = S 4 := h2 4 (by omega)
         have t40 : T 4 0 = S 4 0 := by rw [t4]
         have t52 : T 52 = S 52 := h2 52 (by omega)
         first
         | omega
         | exact Or.inl trivial
         | exact Or.inr trivial
         | (refine ih (s + 1) _ _ (by omega) (by omega) (fun a ha => ?_) (fun t ht => ?_)
            · rw [qq_ueq ha]; exact h2 a ha
            · rw [qq_uat]; split
              · rfl
              · exact h3 t (by omega))
         | (have es : s = S 4 0 := by omega
            have k1 : ∀ a : Nat, ¬ a = 90 → ¬ a = 91 → qq_u T 91 0 (T 4 2 * T 52 3 * T 52 1) a = S a := fun a h8 h9 => by rw [qq_ueq h9]; exact h2 a h8
            have k2 : ∀ t : Nat, (t : Int) < S 4 0 → qq_u T 91 0 (T 4 2 * T 52 3 * T 52 1) 90 t = zz_p (∃ m : Nat, (m : Int) < 0 ∧ S 89 m = t) := fun t ht => by rw [qq_ueq (by omega), h3 t (by omega), zz_p0 (fun ⟨m, h8, _⟩ => by omega)]
            have k3 : qq_u T 91 0 (T 4 2 * T 52 3 * T 52 1) 91 0 = S 4 2 * S 52 3 * S 52 1 := by rw [qq_uat, if_pos rfl, t4, t52]
            exact L2 (S 4 0 + 1).toNat 0 _ (qq_u T 91 0 (T 4 2 * T 52 3 * T 52 1)) (by omega) (by omega) k1 k2 k3 (fun j hj => by omega))
         | skip))
  have h : qq_p xs (d + 8) (mm_mr mm_m77) (mm_mk mm_m77) (fun r S2 => r = none ∧ zz_p ((∀ a : Nat, ¬ a = 90 → ¬ a = 91 → S2 a = S a) ∧ yy_rst S2) = 1) 0 (qq_ent mm_m77 [.inr (55, none)]) [] S := by
    refine qq_fsound hxs (sp_70_ok hxs (d + 0)) [57, 2] 300 ?_
    repeat' first | apply And.intro | intro _ | (simp only [qq_tab]) | (simp only [qq_pl])
    all_goals (
      first
      | omega
      | exact L1 (S 4 0 + 1).toNat 0 _ S (by omega) (by omega) (fun _ _ => rfl) (fun t ht => by omega)
      | skip)
  obtain ⟨r, S2, hE, e1, e2⟩ := qq_call_of (y := 77) rfl (Nat.le_of_ble_eq_true rfl) h
  rw [e1] at hE
  exact ⟨S2, hE, zz_pi1.mp e2⟩
theorem zz_sum_all1 {f : Nat → Int} : ∀ n : Nat, (∀ t, t < n → f t = 1) → zz_sum f n = n
  | 0, _ => rfl
  | n + 1, h => by
    show zz_sum f n + f n = _
    rw [zz_sum_all1 n (fun t ht => h t (by omega)), h n (by omega)]
    omega
theorem zz_sum_set {f g : Nat → Int} {c : Nat} : ∀ n : Nat, c < n → (∀ t, ¬ t = c → g t = f t) → zz_sum g n = zz_sum f n + (g c - f c)
  | 0, h, _ => by omega
  | n + 1, h, hg => by
    show zz_sum g n + g n = zz_sum f n + f n + (g c - f c)
    by_cases e : n = c
    · subst e
      rw [zz_sum_c (f := g) (g := f) (fun j hj => hg j (by omega))]
      omega
    · rw [zz_sum_set n (by omega) hg, hg n e]
      omega
set_option maxRecDepth 20000 in
theorem f74 {xs : List Int32} (hxs : xs.length ≤ 2048) (d : Nat) (S : qq_S) (hp : zz_p (zz_nb S) = 1 ∧ zz_p (∀ t : Nat, (t : Int) < S 4 0 → qq_in (S 87 t)) = 1) : ∃ S2, qq_E xs (d + 10) 74 [.inr (55, none)] S (none) S2 ∧ (∀ a : Nat, ¬ a = 89 → ¬ a = 90 → ¬ a = 91 → S2 a = S a) ∧ yy_ord S2 ∧ yy_rst S2 := by
  have g1 := zz_pi1.mp hp.1
  have g2 := zz_pi1.mp hp.2
  have n0 := g1.1
  have L3 : ∀ (k9 : Nat) (k nx mo s : Int) (u5 : Option qq_V) (T : qq_S), S 4 0 - s < (k9 : Int) → (0 ≤ k ∧ k < S 4 0) → (0 ≤ s ∧ s ≤ S 4 0) → ((∀ a : Nat, ¬ a = 89 → ¬ a = 90 → T a = S a) ∧ (∀ t : Nat, (t : Int) < S 4 0 → T 90 t = zz_p (∃ m : Nat, (m : Int) < k ∧ T 89 m = t)) ∧ (∀ j : Nat, (j : Int) < k → 0 ≤ T 89 j ∧ T 89 j < S 4 0) ∧ (∀ i j : Nat, i < j → (j : Int) < k → ¬ T 89 i = T 89 j) ∧ zz_sum (T 90) (S 4 0).toNat = k) → ((mo = -1 ∧ ∀ t : Nat, (t : Int) < s → T 90 t = 1) ∨ (0 ≤ mo ∧ mo ≤ 20000 ∧ 0 ≤ nx ∧ nx < S 4 0 ∧ T 90 nx.toNat = 0)) → (∀ (v2 v3 v4 v5 : Option qq_V) (T2 : qq_S), ((∀ a : Nat, ¬ a = 89 → ¬ a = 90 → T2 a = S a) ∧ (∀ t : Nat, (t : Int) < S 4 0 → T2 90 t = zz_p (∃ m : Nat, (m : Int) < k + 1 ∧ T2 89 m = t)) ∧ (∀ j : Nat, (j : Int) < k + 1 → 0 ≤ T2 89 j ∧ T2 89 j < S 4 0) ∧ (∀ i j : Nat, i < j → (j : Int) < k + 1 → ¬ T2 89 i = T2 89 j) ∧ zz_sum (T2 90) (S 4 0).toNat = k + 1) → qq_p xs (d + 9) (mm_mr mm_m74) (mm_mk mm_m74) (fun r S2 => r = none ∧ zz_p ((∀ a : Nat, ¬ a = 89 → ¬ a = 90 → ¬ a = 91 → S2 a = S a) ∧ yy_ord S2 ∧ yy_rst S2) = 1) 28 [some (.inr (55, none)), some (.inl (k + 1)), v2, v3, v4, v5] [] T2) → qq_p xs (d + 9) (mm_mr mm_m74) (mm_mk mm_m74) (fun r S2 => r = none ∧ zz_p ((∀ a : Nat, ¬ a = 89 → ¬ a = 90 → ¬ a = 91 → S2 a = S a) ∧ yy_ord S2 ∧ yy_rst S2) = 1) 46 [some (.inr (55, none)), some (.inl k), some (.inl nx), some (.inl mo), some (.inl s), u5] [] (T) := by
    intro k9
    induction k9 with
    | zero =>
      intro k nx mo s u5 T hm h0 h1 h2 h3 h4
      exfalso
      omega
    | succ k9 ih =>
      intro k nx mo s u5 T hm h0 h1 h2 h3 h4
      refine qq_fsound hxs (sp_71_ok hxs (d + 0)) [46, 28, 2, 119] 300 ?_
      repeat' first | apply And.intro | intro _ | (simp only [qq_tab]) | (simp only [qq_pl])
      all_goals (
        (obtain ⟨q1, q2, q3, q4, q5⟩ := h2
         have t4 : T 4 = S 4 := q1 4 (by omega) (by omega)
         have t40 : T 4 0 = S 4 0 := by rw [t4]
         have t87 : T 87 = S 87 := q1 87 (by omega) (by omega)
         have t25 : T 25 = S 25 := q1 25 (by omega) (by omega)
         have nT : zz_nb T := zz_nb_of g1 (fun c c1 c2 => q1 c (by omega) (by omega))
         have o1 : zz_o01 T := fun t ht => by
           rw [q2 t (by rw [t4] at ht; exact ht)]
           exact zz_p01 _
         first
         | omega
         | exact zz_p1 nT
         | exact zz_p1 o1
         | exact Or.inl trivial
         | exact Or.inr trivial
         | (have sl : s < S 4 0 := by omega
            have gf := g2 s.toNat (by omega)
            have o2 := o1 s.toNat (by omega)
            have gd := g1.2.2.1 s.toNat (by omega)
            have t25s : T 25 s.toNat = S 25 s.toNat := by rw [t25]
            have mb := zz_ec_bd (O := T 90) (ring := T (26 + 1 + s.toNat)) (T 25 s.toNat).toNat
            have f87 : T 87 s.toNat = S 87 s.toNat := by rw [t87]
            have hu : 0 ≤ (if T 87 s.toNat = -1 then (0 : Int) else 10000) ∧ (if T 87 s.toNat = -1 then (0 : Int) else 10000) ≤ 10000 := by split <;> omega
            first
            | omega
            | (rw [f87]; exact gf.1)
            | (rw [f87]; exact gf.2)
            | (have c : ¬ T 90 s.toNat = 0 := by assumption
               exact ih k nx mo (s + 1) _ T (by omega) h0 (by omega) ⟨q1, q2, q3, q4, q5⟩ (by
                 rcases h3 with ⟨z1, z2⟩ | z
                 · refine Or.inl ⟨z1, fun t ht => ?_⟩
                   by_cases e : t = s.toNat
                   · rw [e]; omega
                   · exact z2 t (by omega)
                 · exact Or.inr z) h4)
            | (have c : T 90 s.toNat = 0 := by assumption
               first
               | (refine ih k nx mo (s + 1) _ T (by omega) h0 (by omega) ⟨q1, q2, q3, q4, q5⟩ ?_ h4
                  rcases h3 with ⟨z1, z2⟩ | z
                  · exfalso; omega
                  · exact Or.inr z)
               | exact ih k s _ (s + 1) _ T (by omega) h0 (by omega) ⟨q1, q2, q3, q4, q5⟩ (Or.inr (by omega)) h4))
         | (have es : s = S 4 0 := by omega
            have w : 0 ≤ nx ∧ nx < S 4 0 ∧ T 90 nx.toNat = 0 := by
              rcases h3 with ⟨z1, z2⟩ | z
              · have := zz_sum_all1 (f := T 90) (S 4 0).toNat (fun t ht => z2 t (by omega))
                omega
              · omega
            first
            | omega
            | (refine h4 _ _ _ _ _ ⟨fun a h8 h9 => ?_, fun t ht => ?_, fun j hj => ?_, fun i j hij hj => ?_, ?_⟩
               · rw [qq_ueq h9, qq_ueq h8]; exact q1 a h8 h9
               · rw [qq_uat, qq_ueq (by omega), qq_ueq (by omega)]
                 have e89 : ∀ m : Nat, qq_u T 89 k.toNat nx 89 m = if m = k.toNat then nx else T 89 m := fun m => qq_uat
                 by_cases c : t = nx.toNat
                 · rw [if_pos c, zz_p1 ⟨k.toNat, by omega, by rw [e89, if_pos rfl]; omega⟩]
                 · rw [if_neg c, q2 t ht]
                   refine zz_pc ⟨fun ⟨m, h8, h9⟩ => ⟨m, by omega, by rw [e89, if_neg (by omega)]; exact h9⟩, fun ⟨m, h8, h9⟩ => ?_⟩
                   rw [e89] at h9
                   by_cases cm : m = k.toNat
                   · rw [if_pos cm] at h9; omega
                   · rw [if_neg cm] at h9; exact ⟨m, by omega, h9⟩
               · rw [qq_ueq (by omega), qq_uat]
                 split
                 · omega
                 · exact q3 j (by omega)
               · rw [qq_ueq (by omega), qq_uat, qq_uat, if_neg (show ¬ i = k.toNat by omega)]
                 split
                 · intro z
                   have o := q2 nx.toNat (by omega)
                   rw [w.2.2, zz_p1 ⟨i, by omega, by omega⟩] at o
                   omega
                 · exact q4 i j hij (by omega)
               · rw [zz_sum_set (f := T 90) (c := nx.toNat) (S 4 0).toNat (by omega) (fun t ht => by rw [qq_uat, if_neg ht, qq_ueq (by omega)]), q5, qq_uat, if_pos rfl, w.2.2]
                 omega)
            | skip)
         | skip))
  have L2 : ∀ (k9 : Nat) (k : Int) (u2 u3 u4 u5 : Option qq_V) (T : qq_S), S 4 0 - k < (k9 : Int) → (0 ≤ k ∧ k ≤ S 4 0) → ((∀ a : Nat, ¬ a = 89 → ¬ a = 90 → T a = S a) ∧ (∀ t : Nat, (t : Int) < S 4 0 → T 90 t = zz_p (∃ m : Nat, (m : Int) < k ∧ T 89 m = t)) ∧ (∀ j : Nat, (j : Int) < k → 0 ≤ T 89 j ∧ T 89 j < S 4 0) ∧ (∀ i j : Nat, i < j → (j : Int) < k → ¬ T 89 i = T 89 j) ∧ zz_sum (T 90) (S 4 0).toNat = k) → qq_p xs (d + 9) (mm_mr mm_m74) (mm_mk mm_m74) (fun r S2 => r = none ∧ zz_p ((∀ a : Nat, ¬ a = 89 → ¬ a = 90 → ¬ a = 91 → S2 a = S a) ∧ yy_ord S2 ∧ yy_rst S2) = 1) 28 [some (.inr (55, none)), some (.inl k), u2, u3, u4, u5] [] (T) := by
    intro k9
    induction k9 with
    | zero =>
      intro k u2 u3 u4 u5 T hm h1 h2
      exfalso
      omega
    | succ k9 ih =>
      intro k u2 u3 u4 u5 T hm h1 h2
      refine qq_fsound hxs (sp_71_ok hxs (d + 0)) [46, 28, 2, 119] 300 ?_
      repeat' first | apply And.intro | intro _ | (simp only [qq_tab]) | (simp only [qq_pl])
      all_goals (
        (have hq := h2
         obtain ⟨q1, q2, q3, q4, q5⟩ := h2
         have t4 : T 4 = S 4 := q1 4 (by omega) (by omega)
         have t40 : T 4 0 = S 4 0 := by rw [t4]
         first
         | omega
         | exact L3 (S 4 0 + 1).toNat k 0 (-1) 0 _ T (by omega) (by omega) (by omega) hq (Or.inl ⟨rfl, fun t ht => by omega⟩) (fun v2 v3 v4 v5 T2 hT2 => ih (k + 1) v2 v3 v4 v5 T2 (by omega) (by omega) hT2)
         | (have ek : k = S 4 0 := by omega
            have nT : zz_nb T := zz_nb_of g1 (fun c c1 c2 => q1 c (by omega) (by omega))
            obtain ⟨T2, E2, C1, C2⟩ := f77 hxs (d + 0) T ⟨zz_p1 nT, zz_p1 (fun j hj => by rw [t4] at hj ⊢; exact q3 j (by omega))⟩
            show qq_p xs (d + 9) (mm_mr mm_m74) (mm_mk mm_m74) _ 119 [some (.inr (55, none)), some (.inl k), u2, u3, u4, u5] [.inr (55, none)] T
            refine qq_vcall rfl E2 (by omega) rfl rfl rfl (Nat.le_of_ble_eq_true rfl) ?_
            refine qq_fsound hxs (sp_71_ok hxs (d + 0)) [] 300 ?_
            refine ⟨rfl, zz_p1 ⟨fun a h7 h8 h9 => ?_, ?_, C2⟩⟩
            · rw [C1 a h8 h9]; exact q1 a h7 h8
            · have u4 : T2 4 = S 4 := by rw [C1 4 (by omega) (by omega), t4]
              have u89 : T2 89 = T 89 := C1 89 (by omega) (by omega)
              unfold yy_ord
              rw [u4, u89]
              refine ⟨fun j hj => q3 j (by omega), fun i j hij hj => q4 i j hij (by omega), fun t ht => ?_⟩
              have o1 : ∀ t : Nat, t < (S 4 0).toNat → 0 ≤ T 90 t ∧ T 90 t ≤ 1 := fun t ht => by
                rw [q2 t (by omega)]
                rcases zz_p01 (∃ m : Nat, (m : Int) < k ∧ T 89 m = t) with z | z <;> omega
              have : T 90 t = 1 := by
                rcases Int.lt_or_le (T 90 t) 1 with z | z
                · exfalso
                  have s1 : zz_sum (fun i => if i = t then 1 else T 90 i) (S 4 0).toNat = zz_sum (T 90) (S 4 0).toNat + (1 - T 90 t) := by
                    rw [zz_sum_set (f := T 90) (g := fun i => if i = t then 1 else T 90 i) (c := t) (S 4 0).toNat (by omega) (fun i hi => if_neg hi)]
                    show _ + ((if t = t then (1 : Int) else T 90 t) - T 90 t) = _
                    rw [if_pos rfl]
                  have s2 := zz_sum_bd (f := fun i => if i = t then 1 else T 90 i) (n := (S 4 0).toNat) (a := 0) (b := 1) (fun j hj => by
                    show 0 ≤ (if j = t then (1 : Int) else T 90 j) ∧ (if j = t then (1 : Int) else T 90 j) ≤ 1
                    have := o1 j hj
                    split <;> omega)
                  have := o1 t (by omega)
                  omega
                · have := o1 t (by omega); omega
              rw [q2 t ht, zz_pi1] at this
              obtain ⟨m, m1, m2⟩ := this
              exact ⟨m, by omega, m2⟩)))
  have L1 : ∀ (k9 : Nat) (s : Int) (u2 u3 u4 u5 : Option qq_V) (T : qq_S), S 4 0 - s < (k9 : Int) → (0 ≤ s ∧ s ≤ S 4 0) → (∀ a : Nat, ¬ a = 90 → T a = S a) → (∀ t : Nat, (t : Int) < s → T 90 t = 0) → qq_p xs (d + 9) (mm_mr mm_m74) (mm_mk mm_m74) (fun r S2 => r = none ∧ zz_p ((∀ a : Nat, ¬ a = 89 → ¬ a = 90 → ¬ a = 91 → S2 a = S a) ∧ yy_ord S2 ∧ yy_rst S2) = 1) 2 [some (.inr (55, none)), some (.inl s), u2, u3, u4, u5] [] (T) := by
    intro k9
    induction k9 with
    | zero =>
      intro s u2 u3 u4 u5 T hm h1 h2 h3
      exfalso
      omega
    | succ k9 ih =>
      intro s u2 u3 u4 u5 T hm h1 h2 h3
      refine qq_fsound hxs (sp_71_ok hxs (d + 0)) [46, 28, 2, 119] 300 ?_
      repeat' first | apply And.intro | intro _ | (simp only [qq_tab]) | (simp only [qq_pl])
      all_goals (
        (have t4 : T 4 = S 4 := h2 4 (by omega)
         have t40 : T 4 0 = S 4 0 := by rw [t4]
         first
         | omega
         | exact Or.inl trivial
         | exact Or.inr trivial
         | (refine ih (s + 1) _ _ _ _ _ (by omega) (by omega) (fun a ha => ?_) (fun t ht => ?_)
            · rw [qq_ueq ha]; exact h2 a ha
            · rw [qq_uat]; split
              · rfl
              · exact h3 t (by omega))
         | (have es : s = S 4 0 := by omega
            have z0 : ∀ n : Nat, n ≤ (S 4 0).toNat → zz_sum (T 90) n = 0 := fun n hn => zz_sum_z0 (fun e he => h3 e (by omega))
            exact L2 (S 4 0 + 1).toNat 0 _ _ _ _ T (by omega) (by omega) ⟨fun a h8 h9 => h2 a h9, fun t ht => by rw [h3 t (by omega), zz_p0 (fun ⟨m, h8, _⟩ => by omega)], fun j hj => by omega, fun i j _ hj => by omega, z0 _ (Nat.le_refl _)⟩)
         | skip))
  have h : qq_p xs (d + 9) (mm_mr mm_m74) (mm_mk mm_m74) (fun r S2 => r = none ∧ zz_p ((∀ a : Nat, ¬ a = 89 → ¬ a = 90 → ¬ a = 91 → S2 a = S a) ∧ yy_ord S2 ∧ yy_rst S2) = 1) 0 (qq_ent mm_m74 [.inr (55, none)]) [] S := by
    refine qq_fsound hxs (sp_71_ok hxs (d + 0)) [46, 28, 2, 119] 300 ?_
    repeat' first | apply And.intro | intro _ | (simp only [qq_tab]) | (simp only [qq_pl])
    all_goals (
      first
      | omega
      | exact L1 (S 4 0 + 1).toNat 0 _ _ _ _ S (by omega) (by omega) (fun _ _ => rfl) (fun t ht => by omega)
      | skip)
  obtain ⟨r, S2, hE, e1, e2⟩ := qq_call_of (y := 74) rfl (Nat.le_of_ble_eq_true rfl) h
  rw [e1] at hE
  exact ⟨S2, hE, zz_pi1.mp e2⟩
