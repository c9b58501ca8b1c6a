theorem yy_Fh_bd {S : qq_S} (s0 : yy_S0 S) {t : Nat} (ht : (t : Int) < S 4 0) : yy_Fh S t = -1 ∨ (0 ≤ yy_Fh S t ∧ yy_Fh S t < S 48 0 * S 48 1) := by
  have n5 := s0.2.1
  have w := s0.2.2.1
  have q := s0.2.2.2.1 t (by omega)
  unfold yy_Fh
  by_cases c : S 51 t = 0
  · rw [if_pos c]; exact Or.inl rfl
  · rw [if_neg c]
    have np : ¬ S 49 t = -1 := fun z => c (q.2.2.1 z)
    rcases q.1 with z | z
    · omega
    · exact Or.inr (yy_mlt (x := S 49 t) (y := S 50 t) (w := S 48 0) (h := S 48 1) (by omega) (by omega))
theorem yy_G_mk {S T : qq_S} (s0 : yy_S0 S) (h1 : ∀ a : Nat, ¬ (55 ≤ a ∧ a ≤ 91) → T a = S a) (h2 : T 56 0 = S 48 0) (h3 : T 56 1 = S 48 1) (h4 : yy_T T (S 48 0) (S 48 1)) (h5 : ∀ t : Nat, (t : Int) < S 4 0 → T 87 t = yy_Fh S t) (h6 : T 55 12 = 0 ∨ T 55 12 = 1) (h7 : ∀ t : Nat, t < 10 → T 57 t = -1 ∧ T 58 t = -1) : yy_G T := by
  obtain ⟨c1, c2, c3, c4, c5⟩ := s0
  have f4 : T 4 = S 4 := h1 4 (by omega)
  have f52 : T 52 = S 52 := h1 52 (by omega)
  refine ⟨zz_N_c ⟨fun a ha => h1 a (by omega), fun j _ _ => by rw [h1 115 (by omega)]⟩ c1, by rw [f4]; exact c2, by rw [h2, h3]; exact c3, by rw [h2, h3]; exact h4, fun t ht => ?_, h6, by rw [f52]; exact c5, h7⟩
  rw [f4] at ht
  rw [h5 t ht, h2, h3]
  exact yy_Fh_bd ⟨c1, c2, c3, c4, c5⟩ ht
/-- rows looked at so far -/
def yy_lk (S T : qq_S) (q : Int) : Prop := (∀ a : Nat, ¬ (56 ≤ a ∧ a ≤ 86) → T a = S a) ∧ T 56 0 = S 48 0 ∧ T 56 1 = S 48 1 ∧ (∀ t : Nat, t < 10 → T 57 t = -1 ∧ T 58 t = -1) ∧ ∀ p : Nat, (p : Int) < q → yy_tb T (S 48 0) (S 48 1) (S 52 3) p 8 1
theorem yy_lk_s {S T U : qq_S} {x y : Int} (h : yy_lk S T (y * S 48 0 + x)) (hq : 0 ≤ y * S 48 0 + x ∧ y * S 48 0 + x < 25) (g1 : ∀ a : Nat, ¬ a = 60 → ¬ a = 61 + 1 + (y * S 48 0 + x).toNat → U a = T a) (g2 : ∀ j : Nat, ¬ j = (y * S 48 0 + x).toNat → U 60 j = T 60 j) (g3 : yy_tb U (S 48 0) (S 48 1) (S 52 3) (y * S 48 0 + x).toNat 8 1) : yy_lk S U (y * S 48 0 + (x + 1)) := by
  obtain ⟨a1, a2, a3, a4, a5⟩ := h
  refine ⟨fun a ha => by rw [g1 a (by omega) (by omega)]; exact a1 a ha, by rw [g1 56 (by omega) (by omega)]; exact a2, by rw [g1 56 (by omega) (by omega)]; exact a3, fun t ht => by rw [g1 57 (by omega) (by omega), g1 58 (by omega) (by omega)]; exact a4 t ht, fun p hp => ?_⟩
  by_cases e : p = (y * S 48 0 + x).toNat
  · rw [e]; exact g3
  · have q := a5 p (by omega)
    unfold yy_tb at q ⊢
    rw [g2 p e, g1 (61 + 1 + p) (by omega) (by omega)]
    exact q
set_option maxRecDepth 20000 in
theorem f71 {xs : List Int32} (hxs : xs.length ≤ 2048) (S : qq_S) (s0 : yy_S0 S) : ∃ r T, qq_E xs 28 71 [.inr (55, none), .inr (48, none)] S (some r) T ∧ yy_R S T r := by
  have hN := s0.1
  have n5 := s0.2.1
  have w := s0.2.2.1
  have hat := s0.2.2.2.1
  have tms := s0.2.2.2.2
  have gb := hN.1.1
  have nb := zz_N_nb hN
  have whp : 0 < S 48 0 * S 48 1 := Int.mul_pos (by omega) (by omega)
  have L5 : ∀ (k9 : Nat) (s c : Int) (P0 : Nat → Int) (T : qq_S), S 4 0 - s < (k9 : Int) → (0 ≤ s ∧ s ≤ S 4 0) → (0 ≤ c ∧ c ≤ 200000) → yy_B S P0 → yy_cD S P0 = c → (∀ a : Nat, ¬ (55 ≤ a ∧ a ≤ 91) → ¬ a = 49 → ¬ a = 50 → T a = S a) → (∀ t : Nat, T 49 t = (if (t : Int) < s then P0 t % S 48 0 else S 49 t) ∧ T 50 t = (if (t : Int) < s then P0 t / S 48 0 else S 50 t)) → (∀ t : Nat, (t : Int) < S 4 0 → T 88 t = P0 t) → qq_p xs 27 (mm_mr mm_m71) (mm_mk mm_m71) (fun r S2 => zz_p (∃ v, r = some v ∧ yy_R S S2 v) = 1) 189 [some (.inr (55, none)), some (.inr (48, none)), some (.inl c), some (.inl s)] [] T := by
    intro k9
    induction k9 with
    | zero =>
      intro s c P0 T hm h1 h2 h3 h4 h5 h6 h7
      exfalso
      omega
    | succ k9 ih =>
      intro s c P0 T hm h1 h2 h3 h4 h5 h6 h7
      have t4 : T 4 0 = S 4 0 := by rw [h5 4 (by omega) (by omega) (by omega)]
      have t48 : T 48 = S 48 := h5 48 (by omega) (by omega) (by omega)
      have t480 : T 48 0 = S 48 0 := by rw [t48]
      refine qq_fsound hxs (sp_73_ok hxs 7) [189] 300 ?_
      repeat' first | apply And.intro | intro _ | (simp only [qq_tab]) | (simp only [qq_pl])
      all_goals (
        first
        | omega
        | (have z : T 4 0 ≤ s := by assumption
           have es : s = S 4 0 := by omega
           subst es
           exact zz_p1 ⟨c, rfl, Or.inr ⟨h2.1, h2.2, P0, h3, h4, h5, h6⟩⟩)
        | (have z : ¬ T 4 0 ≤ s := by assumption
           have e88 := h7 s.toNat (by omega)
           have pb := h3.1.1 s.toNat (by omega)
           first
           | omega
           | (unfold qq_in; omega)
           | (have em : (if T 88 s.toNat < 0 ∨ T 48 0 < 1 then qq_u (qq_u T 49 s.toNat (-1)) 50 s.toNat (-1) else qq_u (qq_u T 49 s.toNat (T 88 s.toNat % T 48 0)) 50 s.toNat (T 88 s.toNat / T 48 0)) = qq_u (qq_u T 49 s.toNat (P0 s.toNat % S 48 0)) 50 s.toNat (P0 s.toNat / S 48 0) := by
                rw [if_neg (by omega), e88, t480]
              rw [em]
              refine ih (s + 1) c P0 _ (by omega) (by omega) h2 h3 h4 (fun a h8 h9 h10 => ?_) (fun t => ⟨?_, ?_⟩) (fun t ht => ?_)
              · rw [qq_ueq h10, qq_ueq h9]; exact h5 a h8 h9 h10
              · rw [qq_ueq (by decide), qq_uat]
                by_cases e : t = s.toNat
                · rw [if_pos e, if_pos (by omega), e]
                · rw [if_neg e, (h6 t).1]
                  by_cases e2 : (t : Int) < s
                  · rw [if_pos e2, if_pos (by omega)]
                  · rw [if_neg e2, if_neg (by omega)]
              · rw [qq_uat, qq_ueq (by decide)]
                by_cases e : t = s.toNat
                · rw [if_pos e, if_pos (by omega), e]
                · rw [if_neg e, (h6 t).2]
                  by_cases e2 : (t : Int) < s
                  · rw [if_pos e2, if_pos (by omega)]
                  · rw [if_neg e2, if_neg (by omega)]
              · rw [qq_ueq (by decide), qq_ueq (by decide)]; exact h7 t ht)))
  have L4 : ∀ (k9 : Nat) (s c : Int) (F : Nat → Int) (T : qq_S), S 4 0 - s < (k9 : Int) → (0 ≤ s ∧ s ≤ S 4 0) → (0 ≤ c ∧ c ≤ 200000) → yy_J T F s c → yy_G T → yy_Gs S T F → qq_p xs 27 (mm_mr mm_m71) (mm_mk mm_m71) (fun r S2 => zz_p (∃ v, r = some v ∧ yy_R S S2 v) = 1) 164 [some (.inr (55, none)), some (.inr (48, none)), some (.inl c), some (.inl s)] [] T := by
    intro k9
    induction k9 with
    | zero =>
      intro s c F T hm h1 h2 h3 h4 h5
      exfalso
      omega
    | succ k9 ih =>
      intro s c F T hm h1 h2 h3 h4 h5
      have t4 : T 4 0 = S 4 0 := by rw [h5.1 4 (by omega)]
      refine qq_fsound hxs (sp_73_ok hxs 7) [164, 178, 189] 300 ?_
      repeat' first | apply And.intro | intro _ | (simp only [qq_tab]) | (simp only [qq_pl])
      all_goals (
        first
        | omega
        | (have z : T 4 0 ≤ s := by assumption
           have es : s = S 4 0 := by omega
           rw [es] at h3
           have B := yy_J_B s0 h5 h3
           exact L5 (S 4 0 + 1).toNat 0 c (T 88) T (by omega) (by omega) h2 B.1 B.2 (fun a h8 _ _ => h5.1 a h8) (fun t => by
             rw [if_neg (by omega), if_neg (by omega), h5.1 49 (by omega), h5.1 50 (by omega)]
             exact ⟨rfl, rfl⟩) (fun _ _ => rfl))
        | (have z : ¬ T 4 0 ≤ s := by assumption
           obtain ⟨U, E, u1, u2, u3⟩ := f73 hxs T F s c h4 h3 (by omega) (by omega)
           show qq_p xs 27 (mm_mr mm_m71) (mm_mk mm_m71) _ 178 [some (.inr (55, none)), some (.inr (48, none)), some (.inl c), some (.inl s)] [.inl c, .inl s, .inr (55, none)] T
           refine qq_vcall rfl E (by decide) rfl rfl rfl (Nat.le_of_ble_eq_true rfl) ?_
           refine qq_fsound hxs (sp_73_ok hxs 7) [164] 300 ?_
           refine ih (s + 1) c F U (by omega) (by omega) h2 u2 u3 ⟨fun a ha => ?_, ?_, ?_, h5.2.2.2.1, ?_⟩
           · rw [u1.1 a (by omega) (by omega)]; exact h5.1 a ha
           · rw [u1.1 56 (by omega) (by omega)]; exact h5.2.1
           · rw [u1.1 56 (by omega) (by omega)]; exact h5.2.2.1
           · rw [u1.2 12 (by omega) (by omega)]; exact h5.2.2.2.2))
  have L3 : ∀ (k9 : Nat) (s : Int) (u3 : Option qq_V) (T : qq_S), S 4 0 - s < (k9 : Int) → (0 ≤ s ∧ s ≤ S 4 0) → (∀ a : Nat, ¬ (55 ≤ a ∧ a ≤ 91) → T a = S a) → (T 56 0 = S 48 0 ∧ T 56 1 = S 48 1) → yy_T T (S 48 0) (S 48 1) → (∀ t : Nat, t < 10 → T 57 t = -1 ∧ T 58 t = -1) → (T 55 12 = 0 ∨ T 55 12 = 1) → (T 55 12 = 0 ↔ ∀ t : Nat, (t : Int) < S 4 0 → S 51 t = 0) → (∀ t : Nat, (t : Int) < s → T 87 t = yy_Fh S t) → qq_p xs 27 (mm_mr mm_m71) (mm_mk mm_m71) (fun r S2 => zz_p (∃ v, r = some v ∧ yy_R S S2 v) = 1) 77 [some (.inr (55, none)), some (.inr (48, none)), some (.inl s), u3] [] T := by
    intro k9
    induction k9 with
    | zero =>
      intro s u3 T hm h1 h2 h3 h4 h5 h6 h7 h8
      exfalso
      omega
    | succ k9 ih =>
      intro s u3 T hm h1 h2 h3 h4 h5 h6 h7 h8
      have t4 : T 4 0 = S 4 0 := by rw [h2 4 (by omega)]
      have t49 : T 49 = S 49 := h2 49 (by omega)
      have t50 : T 50 = S 50 := h2 50 (by omega)
      have t51 : T 51 = S 51 := h2 51 (by omega)
      have t48 : T 48 = S 48 := h2 48 (by omega)
      refine qq_fsound hxs (sp_73_ok hxs 7) [77, 119] 300 ?_
      repeat' first | apply And.intro | intro _ | (simp only [qq_tab]) | (simp only [qq_pl])
      all_goals (
        first
        | omega
        | exact Or.inl trivial
        | exact Or.inr trivial
        | (have z : T 4 0 ≤ s := by assumption
           have es : s = S 4 0 := by omega
           subst es
           obtain ⟨U, E, u1, u2, u3⟩ := f74 hxs 0 T ⟨zz_p1 (zz_nb_of nb (fun a h9 h10 => h2 a (by omega))), zz_p1 (fun t ht => by
             rw [t4] at ht
             have := yy_Fh_bd s0 ht
             rw [h8 t ht]
             unfold qq_in
             omega)⟩
           have fr : ∀ a : Nat, ¬ (55 ≤ a ∧ a ≤ 91) → qq_u (qq_u U 55 13 2147483647) 55 14 (U 91 0) a = S a := fun a ha => by rw [qq_ueq (by omega), qq_ueq (by omega), u1 a (by omega) (by omega) (by omega)]; exact h2 a ha
           have fr2 : ∀ a : Nat, ¬ a = 55 → qq_u (qq_u U 55 13 2147483647) 55 14 (U 91 0) a = U a := fun a ha => by rw [qq_ueq ha, qq_ueq ha]
           have fr3 : ∀ j : Nat, ¬ j = 13 → ¬ j = 14 → qq_u (qq_u U 55 13 2147483647) 55 14 (U 91 0) 55 j = T 55 j := fun j hj1 hj2 => by rw [qq_uat, if_neg hj2, qq_uat, if_neg hj1, u1 55 (by omega) (by omega) (by omega)]
           have m13 : qq_u (qq_u U 55 13 2147483647) 55 14 (U 91 0) 55 13 = 2147483647 := by rw [qq_uat, if_neg (by decide), qq_uat, if_pos rfl]
           have m14 : qq_u (qq_u U 55 13 2147483647) 55 14 (U 91 0) 55 14 = U 91 0 := by rw [qq_uat, if_pos rfl]
           have n4 : U 4 = S 4 := by rw [u1 4 (by omega) (by omega) (by omega)]; exact h2 4 (by omega)
           have gT : yy_T (qq_u (qq_u U 55 13 2147483647) 55 14 (U 91 0)) (S 48 0) (S 48 1) := fun p hp => by
             have q := h4 p hp
             unfold yy_tb at q ⊢
             rw [fr2 52 (by omega), fr2 60 (by omega), fr2 (61 + 1 + p) (by omega), u1 52 (by omega) (by omega) (by omega), u1 60 (by omega) (by omega) (by omega), u1 (61 + 1 + p) (by omega) (by omega) (by omega)]
             exact q
           have G3 : yy_G (qq_u (qq_u U 55 13 2147483647) 55 14 (U 91 0)) := yy_G_mk s0 fr (by rw [fr2 56 (by omega), u1 56 (by omega) (by omega) (by omega)]; exact h3.1) (by rw [fr2 56 (by omega), u1 56 (by omega) (by omega) (by omega)]; exact h3.2) gT (fun t ht => by rw [fr2 87 (by omega), u1 87 (by omega) (by omega) (by omega)]; exact h8 t ht) (by rw [fr3 12 (by omega) (by omega)]; exact h6) (fun t ht => by rw [fr2 57 (by omega), fr2 58 (by omega), u1 57 (by omega) (by omega) (by omega), u1 58 (by omega) (by omega) (by omega)]; exact h5 t ht)
           have O3 : yy_ord (qq_u (qq_u U 55 13 2147483647) 55 14 (U 91 0)) := by
             unfold yy_ord
             rw [fr2 4 (by omega), fr2 89 (by omega)]; exact u2
           have R3 : yy_rst (qq_u (qq_u U 55 13 2147483647) 55 14 (U 91 0)) := by
             unfold yy_rst
             rw [fr2 4 (by omega), fr2 91 (by omega), fr2 52 (by omega)]
             refine ⟨u3.1, fun q hq => ?_⟩
             have oq := u2.1 q hq
             rw [yy_oc_c (S := U) (T := qq_u (qq_u U 55 13 2147483647) 55 14 (U 91 0)) (fun a h9 h10 => fr2 a (by omega)) (fr2 89 (by omega)) (by rw [n4] at oq; omega)]
             exact u3.2 q hq
           have f52 : qq_u (qq_u U 55 13 2147483647) 55 14 (U 91 0) 52 = S 52 := fr 52 (by omega)
           have f4 : qq_u (qq_u U 55 13 2147483647) 55 14 (U 91 0) 4 = S 4 := fr 4 (by omega)
           have rb := yy_rst_bd G3.1 O3 R3 (by rw [f52]; omega) 0 (by rw [f4]; omega)
           rw [fr2 91 (by omega)] at rb
           have C3 := yy_G_C G3 O3 R3 (by rw [m14]; omega)
           obtain ⟨r2, V, E2, b2, P2⟩ := f78 hxs (S 4 0).toNat (5 - (S 4 0).toNat) (qq_u (qq_u U 55 13 2147483647) 55 14 (U 91 0)) 0 0 0 (by rw [f4]; omega) C3 (yy_I0 G3) (fun _ => by rw [m13]; omega) (by rw [m13]; omega)
           rw [show 5 - (S 4 0).toNat + (S 4 0).toNat = 5 by omega, show ((0 : Nat) : Int) = 0 from rfl] at E2
           obtain ⟨p1, p2, p3, p4, p5, p6, p7⟩ := P2
           have Gs3 : yy_Gs S (qq_u (qq_u U 55 13 2147483647) 55 14 (U 91 0)) (qq_u (qq_u U 55 13 2147483647) 55 14 (U 91 0) 87) := ⟨fr, by rw [fr2 56 (by omega), u1 56 (by omega) (by omega) (by omega)]; exact h3.1, by rw [fr2 56 (by omega), u1 56 (by omega) (by omega) (by omega)]; exact h3.2, fun t ht => by rw [fr2 87 (by omega), u1 87 (by omega) (by omega) (by omega)]; exact h8 t ht, by rw [fr3 12 (by omega) (by omega)]; exact h7⟩
           have frV : ∀ a : Nat, ¬ (55 ≤ a ∧ a ≤ 91) → V a = S a := fun a ha => by rw [p1.1 a (by omega) (by omega) (by omega) (by omega)]; exact fr a ha
           have fsV : yy_fs (qq_u (qq_u U 55 13 2147483647) 55 14 (U 91 0)) V := ⟨fun a h9 h10 => by
             by_cases e57 : a = 57
             · rw [e57]; rw [p2]
             · by_cases e58 : a = 58
               · rw [e58]; rw [p3]
               · exact p1.1 a h9 e57 e58 (by omega), fun q h9 h10 => p1.2 q h9⟩
           show qq_p xs 27 (mm_mr mm_m71) (mm_mk mm_m71) _ 119 _ [.inr (55, none)] T
           refine qq_vcall rfl E (by decide) rfl rfl rfl (Nat.le_of_ble_eq_true rfl) ?_
           refine qq_fsound hxs (sp_73_ok hxs 7) [142] 300 ?_
           repeat' first | apply And.intro | intro _
           all_goals (first | omega | skip)
           show qq_p xs 27 (mm_mr mm_m71) (mm_mk mm_m71) _ 142 _ [.inl 0, .inl 0, .inl 0, .inr (55, none)] (qq_u (qq_u U 55 13 2147483647) 55 14 (U 91 0))
           refine qq_vcall rfl E2 (by decide) rfl rfl rfl (Nat.le_of_ble_eq_true rfl) ?_
           rw [m13] at p4 p6 p7
           unfold yy_fd at p5
           rw [m13] at p5
           refine qq_fsound hxs (sp_73_ok hxs 7) [164] 300 ?_
           repeat' first | apply And.intro | intro _
           all_goals (first
             | omega
             | (have z9 : V 55 13 = 2147483647 := by assumption
                refine zz_p1 ⟨-1, rfl, Or.inl ⟨rfl, fun Q hQ => ?_, frV⟩⟩
                obtain ⟨A, a1, a2, a3⟩ := yy_Gs_sh s0 Gs3 hQ
                have e0 : r2 = 0 := by
                  rcases b2 with b2 | b2
                  · exact b2
                  · have := p6 b2; omega
                have l := (p7 e0).1 A a1 (yy_ex0 G3 A)
                have cb := yy_cq0 C3 (Q := A) a1
                omega)
             | (have z9 : ¬ V 55 13 = 2147483647 := by assumption
                rcases p5 with ⟨y, _⟩ | ⟨_, y2, _, y4⟩
                · exact absurd y z9
                · have cb := yy_cq0 C3 (Q := V 88) y2
                  have GV : yy_G V := yy_G_fs fsV (fun t ht => by
                    rw [p1.1 87 (by omega) (by omega) (by omega) (by omega)]
                    exact G3.2.2.2.2.1 t ht) G3
                  have v87 : V 87 = qq_u (qq_u U 55 13 2147483647) 55 14 (U 91 0) 87 := p1.1 87 (by omega) (by omega) (by omega) (by omega)
                  have JV : yy_J V (qq_u (qq_u U 55 13 2147483647) 55 14 (U 91 0) 87) 0 (V 55 13) := by
                    refine ⟨fun t ht => ⟨fun h9 => by omega, fun _ => by rw [v87]⟩, (yy_CdF_fs fsV G3.1).mpr y2, by rw [yy_cq_fs fsV G3.1]; exact y4, fun Q hQ => ?_, fun Q _ _ q hq => by omega⟩
                    rw [yy_cq_fs fsV G3.1]
                    have hQ := (yy_CdF_fs fsV G3.1).mp hQ
                    rcases b2 with b2 | b2
                    · exact (p7 b2).1 Q hQ (yy_ex0 G3 Q)
                    · have l1 := (p6 b2).2
                      have l2 := yy_low0 G3 C3 (Q := Q) hQ
                      rw [fr2 91 (by omega)] at l2
                      rw [m14] at l1
                      omega
                  refine L4 (S 4 0 + 1).toNat 0 (V 55 13) (qq_u (qq_u U 55 13 2147483647) 55 14 (U 91 0) 87) V (by omega) (by omega) (by omega) JV GV ⟨frV, ?_, ?_, Gs3.2.2.2.1, ?_⟩
                  · rw [p1.1 56 (by omega) (by omega) (by omega) (by omega)]; exact Gs3.2.1
                  · rw [p1.1 56 (by omega) (by omega) (by omega) (by omega)]; exact Gs3.2.2.1
                  · rw [p1.2 12 (by omega)]; exact Gs3.2.2.2.2)))
        | (have z : ¬ T 4 0 ≤ s := by assumption
           have q := hat s.toNat (by omega)
           have e51 : T 51 s.toNat = S 51 s.toNat := by rw [t51]
           have e49 : T 49 s.toNat = S 49 s.toNat := by rw [t49]
           have a49 := q.1
           unfold i_at at a49
           have nxt : ∀ v : Int, v = yy_Fh S s.toNat → qq_p xs 27 (mm_mr mm_m71) (mm_mk mm_m71) (fun r S2 => zz_p (∃ v, r = some v ∧ yy_R S S2 v) = 1) 77 [some (.inr (55, none)), some (.inr (48, none)), some (.inl (s + 1)), u3] [] (qq_u T 87 s.toNat v) := fun v hv => by
             refine ih (s + 1) u3 _ (by omega) (by omega) (fun a ha => ?_) ?_ (fun p hp => ?_) (fun t ht => ?_) ?_ ?_ (fun t ht => ?_)
             · rw [qq_ueq (by omega)]; exact h2 a ha
             · rw [qq_ueq (by decide)]; exact h3
             · have q := h4 p hp
               unfold yy_tb at q ⊢
               rw [qq_ueq (by decide), qq_ueq (by decide), qq_ueq (by omega)]
               exact q
             · rw [qq_ueq (by decide), qq_ueq (by decide)]; exact h5 t ht
             · rw [qq_ueq (by decide)]; exact h6
             · rw [qq_ueq (by decide)]; exact h7
             · rw [qq_uat]
               by_cases e : t = s.toNat
               · rw [if_pos e, e]; exact hv
               · rw [if_neg e]; exact h8 t (by omega)
           first
           | omega
           | (unfold qq_in; omega)
           | (have c : T 51 s.toNat = 0 := by assumption
              exact nxt (-1) (by unfold yy_Fh; rw [if_pos (by omega)]))
           | (have c : ¬ T 51 s.toNat = 0 := by assumption
              have np : ¬ S 49 s.toNat = -1 := fun y => by have := q.2.2.1 y; omega
              have em : (if T 49 s.toNat = -1 then -1 else T 50 s.toNat * T 48 0 + T 49 s.toNat) = yy_Fh S s.toNat := by
                unfold yy_Fh
                rw [if_neg (by omega), if_neg (by omega), t49, t50, t48]
              rw [em]
              exact nxt _ rfl)))
  -- all rows are looked at
  have L0 : ∀ (v2 v3 : Option qq_V) (T : qq_S), yy_lk S T (S 48 1 * S 48 0) → qq_p xs 27 (mm_mr mm_m71) (mm_mk mm_m71) (fun r S2 => zz_p (∃ v, r = some v ∧ yy_R S S2 v) = 1) 59 [some (.inr (55, none)), some (.inr (48, none)), v2, v3] [] T := by
    intro v2 v3 T h
    obtain ⟨a1, a2, a3, a4, a5⟩ := h
    have t51 : T 51 = S 51 := a1 51 (by omega)
    have t52 : T 52 = S 52 := a1 52 (by omega)
    have cnt := yy_cnt0 (S 51) 10
    have cb := zz_cnt_bd (S 51) 0 10
    have all0 : (∀ i : Nat, i < 10 → S 51 i = 0) ↔ ∀ t : Nat, (t : Int) < S 4 0 → S 51 t = 0 := by
      constructor
      · exact fun h t ht => h t (by omega)
      · intro h t ht
        by_cases e : (t : Int) < S 4 0
        · exact h t e
        · have q := hat t ht
          exact q.2.2.1 (q.2.2.2 (by omega))
    have nxt : ∀ b : Int, (b = 0 ∨ b = 1) → (b = 0 ↔ ∀ t : Nat, (t : Int) < S 4 0 → S 51 t = 0) → qq_p xs 27 (mm_mr mm_m71) (mm_mk mm_m71) (fun r S2 => zz_p (∃ v, r = some v ∧ yy_R S S2 v) = 1) 77 [some (.inr (55, none)), some (.inr (48, none)), some (.inl 0), v3] [] (qq_u T 55 12 b) := fun b hb1 hb2 => by
      refine L3 (S 4 0 + 1).toNat 0 v3 _ (by omega) (by omega) (fun a ha => ?_) ?_ (fun p hp => ?_) (fun t ht => ?_) ?_ ?_ (fun t ht => by omega)
      · rw [qq_ueq (by omega)]; exact a1 a (by omega)
      · rw [qq_ueq (by decide)]; exact ⟨a2, a3⟩
      · have q := a5 p (by rw [Int.mul_comm]; exact hp)
        unfold yy_tb at q ⊢
        rw [qq_ueq (by decide), qq_ueq (by decide), qq_ueq (by omega), t52]
        exact q
      · rw [qq_ueq (by decide), qq_ueq (by decide)]; exact a4 t ht
      · rw [qq_uat, if_pos rfl]; exact hb1
      · rw [qq_uat, if_pos rfl]; exact hb2
    refine qq_fsound hxs (sp_73_ok hxs 7) [77] 300 ?_
    repeat' first | apply And.intro | intro _ | (simp only [qq_tab]) | (simp only [qq_pl])
    all_goals (
      (try rw [t51])
      first
      | omega
      | exact Or.inl trivial
      | exact Or.inr trivial
      | (have z : zz_cnt (T 51) 0 10 ≤ 0 := by assumption
         rw [t51] at z
         exact nxt 0 (Or.inl rfl) ⟨fun _ => all0.mp (cnt.mp z), fun _ => rfl⟩)
      | (have z : ¬ zz_cnt (T 51) 0 10 ≤ 0 := by assumption
         rw [t51] at z
         exact nxt 1 (Or.inr rfl) ⟨fun y => absurd y (by decide), fun y => absurd (cnt.mpr (all0.mpr y)) z⟩)
      | (rename_i q9 hq9
         have := (hat q9 hq9).2.1
         unfold qq_in
         rw [t51]
         omega)
      | (rename_i q9 hq9
         have := (hat q9 hq9).2.1
         unfold qq_in
         omega)
      | (rename_i q9 hq9
         have := (hat q9 hq9).2.1
         (try rw [t51])
         omega))
  have L2 : ∀ (k9 : Nat) (y x : Int) (T : qq_S), S 48 0 - x < (k9 : Int) → (0 ≤ y ∧ y < S 48 1 ∧ 0 ≤ x ∧ x ≤ S 48 0) → yy_lk S T (y * S 48 0 + x) → (∀ (v3 : Option qq_V) (T2 : qq_S), yy_lk S T2 ((y + 1) * S 48 0) → qq_p xs 27 (mm_mr mm_m71) (mm_mk mm_m71) (fun r S2 => zz_p (∃ v, r = some v ∧ yy_R S S2 v) = 1) 17 [some (.inr (55, none)), some (.inr (48, none)), some (.inl (y + 1)), v3] [] T2) → qq_p xs 27 (mm_mr mm_m71) (mm_mk mm_m71) (fun r S2 => zz_p (∃ v, r = some v ∧ yy_R S S2 v) = 1) 30 [some (.inr (55, none)), some (.inr (48, none)), some (.inl y), some (.inl x)] [] T := by
    intro k9
    induction k9 with
    | zero =>
      intro y x T hm h1 h2 h3
      exfalso
      omega
    | succ k9 ih =>
      intro y x T hm h1 h2 h3
      have t560 := h2.2.1
      have t561 := h2.2.2.1
      have t52 : T 52 = S 52 := h2.1 52 (by omega)
      refine qq_fsound hxs (sp_73_ok hxs 7) [30, 44, 17] 300 ?_
      repeat' first | apply And.intro | intro _ | (simp only [qq_tab]) | (simp only [qq_pl])
      all_goals (
        first
        | omega
        | (have z : T 56 0 ≤ x := by assumption
           have ex : x = S 48 0 := by omega
           refine h3 _ T ?_
           rw [ex] at h2
           rw [Int.add_mul, Int.one_mul]
           exact h2)
        | (have z : ¬ T 56 0 ≤ x := by assumption
           have pb := yy_mlt (x := x) (y := y) (w := S 48 0) (h := S 48 1) (by omega) (by omega)
           obtain ⟨U, E, u1, u2, u3⟩ := f72 hxs 0 T x y ⟨by rw [t560, t561]; exact w, by omega, by rw [t52]; omega⟩
           rw [t560] at u1 u2 u3
           rw [t561, t52] at u3
           show qq_p xs 27 (mm_mr mm_m71) (mm_mk mm_m71) _ 44 [some (.inr (55, none)), some (.inr (48, none)), some (.inl y), some (.inl x)] [.inl y, .inl x, .inr (55, none)] T
           refine qq_vcall rfl E (by decide) rfl rfl rfl (Nat.le_of_ble_eq_true rfl) ?_
           refine qq_fsound hxs (sp_73_ok hxs 7) [30] 300 ?_
           exact ih y (x + 1) U (by omega) (by omega) (yy_lk_s h2 (by omega) u1 u2 u3) h3))
  have L1 : ∀ (k9 : Nat) (y : Int) (v3 : Option qq_V) (T : qq_S), S 48 1 - y < (k9 : Int) → (0 ≤ y ∧ y ≤ S 48 1) → yy_lk S T (y * S 48 0) → qq_p xs 27 (mm_mr mm_m71) (mm_mk mm_m71) (fun r S2 => zz_p (∃ v, r = some v ∧ yy_R S S2 v) = 1) 17 [some (.inr (55, none)), some (.inr (48, none)), some (.inl y), v3] [] T := by
    intro k9
    induction k9 with
    | zero =>
      intro y v3 T hm h1 h2
      exfalso
      omega
    | succ k9 ih =>
      intro y v3 T hm h1 h2
      have t561 := h2.2.2.1
      refine qq_fsound hxs (sp_73_ok hxs 7) [30, 17, 59] 300 ?_
      repeat' first | apply And.intro | intro _ | (simp only [qq_tab]) | (simp only [qq_pl])
      all_goals (
        first
        | omega
        | (have z : T 56 1 ≤ y := by assumption
           have ey : y = S 48 1 := by omega
           rw [ey] at h2
           exact L0 _ _ T h2)
        | (have z : ¬ T 56 1 ≤ y := by assumption
           exact L2 (S 48 0 + 1).toNat y 0 T (by omega) (by omega) (by rw [Int.add_zero]; exact h2) (fun v3 T2 k2 => ih (y + 1) v3 T2 (by omega) (by omega) k2)))
  have h : qq_p xs 27 (mm_mr mm_m71) (mm_mk mm_m71) (fun r S2 => zz_p (∃ v, r = some v ∧ yy_R S S2 v) = 1) 0 (qq_ent mm_m71 [.inr (55, none), .inr (48, none)]) [] S := by
    have b0 : yy_lk S (zz_rs (qq_u (qq_u S 56 0 (S 48 0)) 56 1 (S 48 1)) 57 58 59 10) (0 * S 48 0) := by
      refine ⟨fun a ha => ?_, ?_, ?_, fun t ht => ?_, fun p hp => by rw [Int.zero_mul] at hp; omega⟩
      · rw [zz_rs_ne (by omega) (by omega) (by omega), qq_ueq (by omega), qq_ueq (by omega)]
      · rw [zz_rs_ne (by omega) (by omega) (by omega), qq_uat, if_neg (by decide), qq_uat, if_pos rfl]
      · rw [zz_rs_ne (by omega) (by omega) (by omega), qq_uat, if_pos rfl]
      · rw [zz_rs_x, zz_rs_y]
        show (if (t : Int) < 10 then (-1 : Int) else _) = -1 ∧ (if (t : Int) < 10 then (-1 : Int) else _) = -1
        rw [if_pos (by omega), if_pos (by omega)]
        exact ⟨rfl, rfl⟩
    refine qq_fsound hxs (sp_73_ok hxs 7) [17] 300 ?_
    repeat' first | apply And.intro | intro _ | (simp only [qq_tab]) | (simp only [qq_pl])
    all_goals (
      first
      | omega
      | exact trivial
      | exact L1 (S 48 1 + 1).toNat 0 none _ (by omega) (by omega) b0)
  obtain ⟨r, S2, hE, e⟩ := qq_call_of (y := 71) rfl (Nat.le_of_ble_eq_true rfl) h
  obtain ⟨v, e1, e2⟩ := zz_pi1.mp e
  rw [e1] at hE
  exact ⟨v, S2, hE, e2⟩
