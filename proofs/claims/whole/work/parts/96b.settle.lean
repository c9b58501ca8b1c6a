theorem yy_G_J {S T : qq_S} {F : Nat → Int} {s c : Int} (g : yy_G S) (j : yy_J S F s c) (h : yy_fs S T) (jT : yy_J T F (s + 1) c) : yy_G T := by
  have gb := g.1.1.1
  have f4 : T 4 = S 4 := h.1 4 (by omega) (by omega)
  have f56 : T 56 = S 56 := h.1 56 (by omega) (by omega)
  refine yy_G_fs h (fun t ht => ?_) g
  have ht2 : (t : Int) < T 4 0 := by rw [f4]; exact ht
  by_cases e : (t : Int) < s + 1
  · rw [(jT.1 t ht2).1 e]
    have := jT.2.1.1 t ht2
    rw [f56] at this
    exact Or.inr ⟨this.1, this.2.1⟩
  · rw [(jT.1 t ht2).2 (by omega), ← (j.1 t ht).2 (by omega)]
    exact g.2.2.2.2.1 t ht
set_option maxRecDepth 20000 in
theorem f73 {xs : List Int32} (hxs : xs.length ≤ 2048) (S : qq_S) (F : Nat → Int) (s c : Int) (g : yy_G S) (j : yy_J S F s c) (hs : 0 ≤ s ∧ s < S 4 0) (hc : 0 ≤ c ∧ c ≤ 1000000) : ∃ T, qq_E xs 27 73 [.inr (55, none), .inl s, .inl c] S none T ∧ yy_fs S T ∧ yy_J T F (s + 1) c ∧ yy_G T := by
  have hN := g.1
  have gb := hN.1.1
  have w := g.2.2.1
  have n5 := g.2.1
  have nb := zz_N_nb hN
  have f87 := g.2.2.2.2.1
  have f87s := f87 s.toNat (by omega)
  have pb := j.2.1.1 s.toNat (by omega)
  have L : ∀ (k9 : Nat) (p : Int) (T : qq_S), S 88 s.toNat - p < (k9 : Int) → (0 ≤ p ∧ p ≤ S 88 s.toNat) → S 87 s.toNat = -1 → yy_K S T F s c p → qq_p xs 26 (mm_mr mm_m73) (mm_mk mm_m73) (fun r S2 => r = none ∧ zz_p (yy_fs S S2 ∧ yy_J S2 F (s + 1) c) = 1) 29 [some (.inr (55, none)), some (.inl s), some (.inl c), some (.inl p)] [] T := by
    intro k9
    induction k9 with
    | zero =>
      intro p T hm h1 hu k
      exfalso
      omega
    | succ k9 ih =>
      intro p T hm h1 hu k
      have t88 := k.2.2.2.2.1 s.toNat (by omega)
      refine qq_fsound hxs (sp_73_ok hxs 6) [29, 57] 300 ?_
      repeat' first | apply And.intro | intro _ | (simp only [qq_tab]) | (simp only [qq_pl])
      all_goals (
        first
        | omega
        | (have z : T 88 s.toNat ≤ p := by assumption
           refine zz_p1 ⟨⟨fun a h8 h9 => ?_, fun q h8 h9 => ?_⟩, yy_K_end g j hs k (by omega)⟩
           · rw [qq_ueq (by omega)]; exact k.1.1 a h8 h9
           · rw [qq_ueq (by decide)]; exact k.1.2 q h8 h9)
        | (have z : ¬ T 88 s.toNat ≤ p := by assumption
           have hp : 0 ≤ p ∧ p < S 88 s.toNat := by omega
           have m1 : yy_fs S (qq_u (qq_u T 87 s.toNat p) 55 13 (c + 1)) := ⟨fun a h8 h9 => by rw [qq_ueq h8, qq_ueq (by omega)]; exact k.1.1 a h8 h9, fun q h8 h9 => by rw [qq_uat, if_neg h8, qq_ueq (by decide)]; exact k.1.2 q h8 h9⟩
           have m2 : ∀ a : Nat, 88 ≤ a → a ≤ 91 → qq_u (qq_u T 87 s.toNat p) 55 13 (c + 1) a = T a := fun a h8 h9 => by rw [qq_ueq (by omega), qq_ueq (by omega)]
           have m3 : qq_u (qq_u T 87 s.toNat p) 55 13 (c + 1) 87 s.toNat = p ∧ ∀ t : Nat, ¬ t = s.toNat → qq_u (qq_u T 87 s.toNat p) 55 13 (c + 1) 87 t = S 87 t := ⟨by rw [qq_ueq (by decide), qq_uat, if_pos rfl], fun t ht => by rw [qq_ueq (by decide), qq_uat, if_neg ht]; exact k.2.2.2.2.2.1 t ht⟩
           have m4 : qq_u (qq_u T 87 s.toNat p) 55 13 (c + 1) 55 13 = c + 1 ∧ qq_u (qq_u T 87 s.toNat p) 55 13 (c + 1) 55 14 = c := ⟨by rw [qq_uat, if_pos rfl], by rw [qq_uat, if_neg (by decide), qq_ueq (by decide)]; exact k.2.2.2.1⟩
           have gM : yy_G (qq_u (qq_u T 87 s.toNat p) 55 13 (c + 1)) := yy_G_fs m1 (fun t ht => by
             by_cases e : t = s.toNat
             · rw [e, m3.1]; exact Or.inr (by omega)
             · rw [m3.2 t e]; exact f87 t ht) g
           have f4 : qq_u (qq_u T 87 s.toNat p) 55 13 (c + 1) 4 = S 4 := m1.1 4 (by omega) (by omega)
           have t4 : T 4 = S 4 := k.1.1 4 (by omega) (by omega)
           have nMT : ∀ a : Nat, 4 ≤ a → a < 48 → qq_u (qq_u T 87 s.toNat p) 55 13 (c + 1) a = T a := fun a h8 h9 => by rw [qq_ueq (by omega), qq_ueq (by omega)]
           have oM : yy_ord (qq_u (qq_u T 87 s.toNat p) 55 13 (c + 1)) := by
             unfold yy_ord
             rw [f4, ← t4, m2 89 (by omega) (by omega)]; exact k.2.1
           have rM : yy_rst (qq_u (qq_u T 87 s.toNat p) 55 13 (c + 1)) := by
             unfold yy_rst
             rw [f4, ← t4, m2 91 (by omega) (by omega), qq_ueq (show 52 ≠ 55 by decide), qq_ueq (show 52 ≠ 87 by decide)]
             refine ⟨k.2.2.1.1, fun q hq => ?_⟩
             have oq := k.2.1.1 q hq
             rw [yy_oc_c nMT (m2 89 (by omega) (by omega)) (by rw [t4] at oq; omega)]
             exact k.2.2.1.2 q hq
           have cM := yy_G_C gM oM rM (by rw [m4.2]; omega)
           obtain ⟨r2, U, E2, b2, P2⟩ := f78 hxs (S 4 0).toNat (5 - (S 4 0).toNat) (qq_u (qq_u T 87 s.toNat p) 55 13 (c + 1)) 0 0 0 (by rw [f4]; omega) cM (yy_I0 gM) (fun e9 => by rw [f4] at e9; omega) (by rw [m4.1]; omega)
           rw [show 5 - (S 4 0).toNat + (S 4 0).toNat = 5 by omega, show ((0 : Nat) : Int) = 0 from rfl] at E2
           have K := yy_K_go g j hs k hp hu m1 m2 m3 m4 P2 b2
           show qq_p xs 26 (mm_mr mm_m73) (mm_mk mm_m73) _ 57 [some (.inr (55, none)), some (.inl s), some (.inl c), some (.inl p)] [.inl 0, .inl 0, .inl 0, .inr (55, none)] (qq_u (qq_u T 87 s.toNat p) 55 13 (c + 1))
           refine qq_vcall rfl E2 (by decide) rfl rfl rfl (Nat.le_of_ble_eq_true rfl) ?_
           refine qq_fsound hxs (sp_73_ok hxs 6) [29] 300 ?_
           repeat' first | apply And.intro | intro _
           all_goals (first
             | omega
             | rfl
             | (have e0 : r2 = 0 := by assumption
                exact ih (p + 1) U (by omega) (by omega) hu (K.2.1 e0))
             | (have e0 : r2 = 1 := by omega
                exact zz_p1 ⟨K.2.2, K.1 e0⟩))))
  have h : qq_p xs 26 (mm_mr mm_m73) (mm_mk mm_m73) (fun r S2 => r = none ∧ zz_p (yy_fs S S2 ∧ yy_J S2 F (s + 1) c) = 1) 0 (qq_ent mm_m73 [.inr (55, none), .inl s, .inl c]) [] S := by
    refine qq_fsound hxs (sp_73_ok hxs 6) [19, 29] 300 ?_
    repeat' first | apply And.intro | intro _ | (simp only [qq_tab]) | (simp only [qq_pl])
    all_goals (
      first
      | omega
      | (have z : ¬ S 87 s.toNat = -1 := by assumption
         exact zz_p1 ⟨yy_fs0 S, yy_J_held j hs z⟩)
      | (have z : S 87 s.toNat = -1 := by assumption
         obtain ⟨T, E, C1, C2, C3⟩ := f74 hxs 0 (qq_u S 87 s.toNat 0) ⟨zz_p1 (zz_nb_of nb (fun a h8 h9 => qq_ueq (by omega))), zz_p1 (fun t ht => by
           rw [qq_ueq (show 4 ≠ 87 by decide)] at ht
           have := f87 t ht
           rw [qq_uat]
           unfold qq_in
           split <;> omega)⟩
         have k0 : yy_K S (qq_u T 55 14 c) F s c 0 := by
           have fs : yy_fs S (qq_u T 55 14 c) := ⟨fun a h8 h9 => by rw [qq_ueq h8, C1 a (by omega) (by omega) (by omega), qq_ueq (by omega)], fun q h8 h9 => by rw [qq_uat, if_neg h9, C1 55 (by omega) (by omega) (by omega), qq_ueq (by omega)]⟩
           have u4 : qq_u T 55 14 c 4 = T 4 := qq_ueq (by decide)
           have u52 : qq_u T 55 14 c 52 = T 52 := qq_ueq (by decide)
           have u89 : qq_u T 55 14 c 89 = T 89 := qq_ueq (by decide)
           have u91 : qq_u T 55 14 c 91 = T 91 := qq_ueq (by decide)
           have t4 : T 4 = S 4 := by rw [C1 4 (by omega) (by omega) (by omega), qq_ueq (by decide)]
           refine ⟨fs, ?_, ?_, by rw [qq_uat, if_pos rfl], fun t ht => by rw [qq_ueq (by decide), C1 88 (by omega) (by omega) (by omega), qq_ueq (by decide)], fun t ht => by rw [qq_ueq (by decide), C1 87 (by omega) (by omega) (by omega), qq_uat, if_neg ht], fun Q a b h8 h9 => ?_⟩
           · unfold yy_ord
             rw [u4, u89]; exact C2
           · unfold yy_rst
             rw [u4, u52, u91]
             refine ⟨C3.1, fun q hq => ?_⟩
             have oq := C2.1 q hq
             rw [yy_oc_c (S := T) (T := qq_u T 55 14 c) (fun a h8 h9 => qq_ueq (by omega)) u89 (by rw [t4] at oq; omega)]
             exact C3.2 q hq
           · have := (a.1 s.toNat (by omega)).1
             omega
         show qq_p xs 26 (mm_mr mm_m73) (mm_mk mm_m73) _ 19 _ [.inr (55, none)] (qq_u S 87 s.toNat 0)
         refine qq_vcall rfl E (by decide) rfl rfl rfl (Nat.le_of_ble_eq_true rfl) ?_
         refine qq_fsound hxs (sp_73_ok hxs 6) [29] 300 ?_
         exact L (S 88 s.toNat + 1).toNat 0 (qq_u T 55 14 c) (by omega) (by omega) z k0))
  obtain ⟨r, S2, hE, e1, e2⟩ := qq_call_of (y := 73) rfl (Nat.le_of_ble_eq_true rfl) h
  rw [e1] at hE
  obtain ⟨e3, e4⟩ := zz_pi1.mp e2
  exact ⟨S2, hE, e3, e4, yy_G_J g j e3 e4⟩
