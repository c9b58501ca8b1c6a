/-- what lead does in the class -/
def zz_lc (S : qq_S) (a b : Int) : Prop := (0 ≤ a ∧ a < S 4 1) ∧ (0 ≤ b ∧ b < S 4 0)
def zz_ldr (S : qq_S) (a b : Int) : Int := if ¬ ((0 ≤ a ∧ a < S 4 1) ∧ (0 ≤ b ∧ b < S 4 0)) then -2 else if ¬ S (15 + 1 + a.toNat) b.toNat = -1 then -4 else if 10 ≤ S 7 a.toNat then -5 else S 7 a.toNat + 1
def zz_ld (S S2 : qq_S) (a b : Int) : Prop :=
  (zz_ldr S a b < 0 ∧ S2 = qq_u S 3 9 (zz_ldr S a b)) ∨ (zz_lc S a b ∧ S (15 + 1 + a.toNat) b.toNat = -1 ∧ S 7 a.toNat < 10 ∧ zz_ldr S a b = S 7 a.toNat + 1 ∧ ∃ T, zz_ex S T a.toNat b.toNat ∧ S2 = qq_u T 3 9 0)
theorem zz_N_CE {S : qq_S} (h : zz_N S) : zz_CE S := by
  obtain ⟨h1, h2, h3, h4⟩ := h
  have b := h1.1
  have r : ∀ x : Nat, x < 10 → qq_R S 38 10 x = S (37 + 1 + x) := fun x hx => by rw [qq_R_at hx, show 37 + 1 + x = 38 + x by omega]
  refine ⟨by omega, fun i hi => ?_, h1.2.2, ⟨h3.1.1, h3.1.2.1⟩, fun e he => ?_, fun x y hx hy => ?_, h3.2.2.2.1, fun s hs => ?_⟩
  · have := h1.2.1 i hi
    omega
  · have q := h3.2.1 e he
    rw [r _ (by omega), r _ (by omega)] at q
    exact ⟨q.1, q.2.1, q.2.2.1, q.2.2.2.2.2.1, q.2.2.2.2.2.2.1, q.2.2.2.2.2.2.2⟩
  · have q := h3.2.2.1 x y hx hy
    rw [r x hx] at q
    exact q
  · have q := h4 s hs
    rw [r s hs, qq_R_at hs, show 27 + s = 26 + 1 + s by omega] at q
    exact q
set_option maxRecDepth 20000 in
theorem f87 {xs : List Int32} (hxs : xs.length ≤ 2048) (d : Nat) (S : qq_S) (a b : Int) (ha : qq_in a) (hb : qq_in b) (hN : zz_N S) : ∃ S2, qq_E xs (d + 25) 87 [.inr (3, none), .inl a, .inl b] S (some (zz_ldr S a b)) S2 ∧ zz_ld S S2 a b := by
  have gb := hN.1.1
  have gn := zz_N_nb hN
  have gC := zz_N_CE hN
  have h : qq_p xs (d + 24) (mm_mr mm_m87) (mm_mk mm_m87) (fun r S2 => r = some (zz_ldr S a b) ∧ zz_p (zz_ld S S2 a b) = 1) 0 (qq_ent mm_m87 [.inr (3, none), .inl a, .inl b]) [] S := by
    refine qq_fsound hxs (sp_6_ok hxs (d + 21)) [79] 100 ?_
    repeat' first | apply And.intro | intro _
    all_goals first
      | omega
      | exact ha.1 | exact ha.2 | exact hb.1 | exact hb.2
      | exact (zz_bin _).1 | exact (zz_bin _).2
      | trivial
      | (have c1 : ¬ (0 ≤ a ∧ a < S 4 1) := zz_bi0.mp (by assumption)
         have er : zz_ldr S a b = -2 := if_pos (fun z => c1 z.1)
         first | (rw [er]; done) | exact zz_p1 (Or.inl ⟨by rw [er]; decide, by rw [er]⟩))
      | (have c1 : (0 ≤ a ∧ a < S 4 1) := Classical.not_not.mp (fun z => absurd (zz_bi0.mpr z) (by assumption))
         first
         | omega
         | (have c2 : ¬ (0 ≤ b ∧ b < S 4 0) := zz_bi0.mp (by assumption)
            have er : zz_ldr S a b = -2 := if_pos (fun z => c2 z.2)
            first | (rw [er]; done) | exact zz_p1 (Or.inl ⟨by rw [er]; decide, by rw [er]⟩))
         | (have c2 : (0 ≤ b ∧ b < S 4 0) := Classical.not_not.mp (fun z => absurd (zz_bi0.mpr z) (by assumption))
            have q := gn.2.2.2 a.toNat (by omega)
            have q2 := q.2.2.2 b.toNat (by omega)
            have n12 : ¬ ¬ ((0 ≤ a ∧ a < S 4 1) ∧ (0 ≤ b ∧ b < S 4 0)) := not_not_intro ⟨c1, c2⟩
            first
            | omega
            | (have c3 : ¬ S (15 + 1 + a.toNat) b.toNat = -1 := by assumption
               have er : zz_ldr S a b = -4 := by unfold zz_ldr; rw [if_neg n12, if_pos c3]
               first | (rw [er]; done) | exact zz_p1 (Or.inl ⟨by rw [er]; decide, by rw [er]⟩))
            | (have c3 : S (15 + 1 + a.toNat) b.toNat = -1 := by assumption
               first
               | (have c4 : 10 ≤ S 7 a.toNat := by omega
                  have er : zz_ldr S a b = -5 := by unfold zz_ldr; rw [if_neg n12, if_neg (not_not_intro c3), if_pos c4]
                  first | (rw [er]; done) | exact zz_p1 (Or.inl ⟨by rw [er]; decide, by rw [er]⟩))
               | (have c4 : S 7 a.toNat < 10 := by omega
                  have er : zz_ldr S a b = S 7 a.toNat + 1 := by unfold zz_ldr; rw [if_neg n12, if_neg (not_not_intro c3), if_neg (by omega)]
                  obtain ⟨T, E, X⟩ := f36 hxs (d + 0) S a b (by omega) c2 (by omega) (fun pz => by
                    have r := q.2.2.1 (S 7 a.toNat - 1).toNat (by omega)
                    refine ⟨r.1, r.2, fun z => ?_⟩
                    have w := (hN.2.1.1 a.toNat (by omega)).2.2.2 (S 7 a.toNat - 1).toNat (by omega)
                    rw [qq_R_at (show a.toNat < 6 by omega), qq_R_at (show a.toNat < 6 by omega)] at w
                    have w2 := w.2.2.2
                    rw [show 9 + a.toNat = 8 + 1 + a.toNat by omega, z, show 16 + a.toNat = 15 + 1 + a.toNat by omega] at w2
                    omega) gC
                  refine qq_vcall rfl E (by omega) rfl rfl rfl (Nat.le_of_ble_eq_true rfl) ?_
                  refine qq_fsound hxs (sp_6_ok hxs (d + 21)) [] 100 ?_
                  repeat' first | apply And.intro | intro _
                  all_goals first | trivial | (rw [er]; done) | exact zz_p1 (Or.inr ⟨⟨c1, c2⟩, c3, c4, er, T, X, rfl⟩)))))
  obtain ⟨r, S2, hE, e1, e2⟩ := qq_call_of (y := 87) rfl (Nat.le_of_ble_eq_true rfl) h
  rw [e1] at hE
  exact ⟨S2, hE, zz_pi1.mp e2⟩
/-- what finds needs: the class's edges are those of the lines -/
def zz_fp (S : qq_S) : Prop := (0 ≤ S 4 0 ∧ S 4 0 ≤ 10 ∧ S 115 1 = S 4 0) ∧ (0 ≤ S 4 2 ∧ S 4 2 ≤ 45) ∧ (∀ e : Nat, (e : Int) < S 4 2 → 0 ≤ S 22 e ∧ S 22 e < S 23 e ∧ S 23 e < S 4 0) ∧ (∀ e f : Nat, e < f → (f : Int) < S 4 2 → S 22 e < S 22 f ∨ (S 22 e = S 22 f ∧ S 23 e < S 23 f)) ∧ (∀ a b : Nat, a < b → (b : Int) < S 4 0 → (zz_mled S a b ↔ ∃ e : Nat, (e : Int) < S 4 2 ∧ S 22 e = a ∧ S 23 e = b))
def zz_fd (S : qq_S) : qq_S := fun a j => if a = 120 ∧ (j : Int) < S 4 2 then S 22 j else if a = 121 ∧ (j : Int) < S 4 2 then S 23 j else if a = 115 ∧ j = 3 then S 4 2 else S a j
/-- the pairs before a, b are found -/
def zz_FJ (S T : qq_S) (a b : Nat) (c : Int) : Prop := ((∀ x : Nat, ¬ (x = 120 ∨ x = 121 ∨ x = 115) → T x = S x) ∧ (∀ j : Nat, ¬ j = 3 → T 115 j = S 115 j) ∧ T 115 3 = c ∧ 0 ≤ c ∧ c ≤ S 4 2) ∧ (∀ e : Nat, (e : Int) < c → T 120 e = S 22 e ∧ T 121 e = S 23 e ∧ zz_bf (S 22 e).toNat (S 23 e).toNat a b) ∧ (∀ e : Nat, c ≤ e → T 120 e = S 120 e ∧ T 121 e = S 121 e ∧ ((e : Int) < S 4 2 → ¬ zz_bf (S 22 e).toNat (S 23 e).toNat a b))
theorem zz_FJ_c {S T : qq_S} {a b a2 b2 : Nat} {c : Int} (h : zz_FJ S T a b c) (hb : ∀ e : Nat, (e : Int) < S 4 2 → (zz_bf (S 22 e).toNat (S 23 e).toNat a b ↔ zz_bf (S 22 e).toNat (S 23 e).toNat a2 b2)) : zz_FJ S T a2 b2 c := by
  obtain ⟨h1, h2, h3⟩ := h
  refine ⟨h1, fun e he => ?_, fun e he => ?_⟩
  · have q := h2 e he
    exact ⟨q.1, q.2.1, (hb e (by omega)).mp q.2.2⟩
  · have q := h3 e he
    exact ⟨q.1, q.2.1, fun z w => q.2.2 z ((hb e z).mpr w)⟩
theorem zz_FJ_end {S T : qq_S} {a b : Nat} {c : Int} (h : zz_FJ S T a b c) (he : ∀ e : Nat, (e : Int) < S 4 2 → zz_bf (S 22 e).toNat (S 23 e).toNat a b) : T = zz_fd S := by
  obtain ⟨⟨h1, h2, h3, h4, h5⟩, h6, h7⟩ := h
  have ec : c = S 4 2 := by
    by_cases z : c = S 4 2
    · exact z
    · exact absurd (he c.toNat (by omega)) ((h7 c.toNat (by omega)).2.2 (by omega))
  funext x j
  unfold zz_fd
  by_cases c1 : x = 120
  · subst c1
    by_cases z : (j : Int) < S 4 2
    · rw [if_pos ⟨rfl, z⟩]; exact (h6 j (by omega)).1
    · rw [if_neg (fun w => z w.2), if_neg (by omega), if_neg (by omega)]; exact (h7 j (by omega)).1
  · rw [if_neg (fun w => c1 w.1)]
    by_cases c2 : x = 121
    · subst c2
      by_cases z : (j : Int) < S 4 2
      · rw [if_pos ⟨rfl, z⟩]; exact (h6 j (by omega)).2.1
      · rw [if_neg (fun w => z w.2), if_neg (by omega)]; exact (h7 j (by omega)).2.1
    · rw [if_neg (fun w => c2 w.1)]
      by_cases c3 : x = 115
      · subst c3
        by_cases z : j = 3
        · rw [if_pos ⟨rfl, z⟩, z, h3, ec]
        · rw [if_neg (fun w => z w.2)]; exact h2 j z
      · rw [if_neg (fun w => c3 w.1), h1 x (by omega)]
theorem zz_FJ_step {S T U : qq_S} {a b : Nat} {c : Int} (h : zz_FJ S T a b c) (hp : zz_fp S) (hab : a < b) (hbn : (b : Int) < S 4 0) (hl : zz_mled S a b) (u1 : ∀ x : Nat, ¬ (x = 120 ∨ x = 121 ∨ x = 115) → U x = T x) (u2 : ∀ j : Nat, ¬ j = 3 → U 115 j = T 115 j) (u3 : U 115 3 = T 115 3 + 1) (u4 : ∀ e : Nat, U 120 e = if e = (T 115 3).toNat then (a : Int) else T 120 e) (u5 : ∀ e : Nat, U 121 e = if e = (T 115 3).toNat then (b : Int) else T 121 e) : c < S 4 2 ∧ zz_FJ S U a (b + 1) (c + 1) := by
  obtain ⟨⟨h1, h2, h3, h4, h5⟩, h6, h7⟩ := h
  obtain ⟨e, he, e1, e2⟩ := (hp.2.2.2.2 a b hab hbn).mp hl
  have ge : ¬ (e : Int) < c := fun z => by
    have := (h6 e z).2.2
    rw [e1, e2, Int.toNat_natCast, Int.toNat_natCast] at this
    unfold zz_bf at this
    omega
  have ee : (e : Int) = c := by
    by_cases z : (e : Int) = c
    · exact z
    · have srt := hp.2.2.2.1 c.toNat e (by omega) he
      have r := hp.2.2.1 c.toNat (by omega)
      refine absurd ?_ ((h7 c.toNat (by omega)).2.2 (by omega))
      unfold zz_bf
      omega
  refine ⟨by omega, ⟨fun x hx => by rw [u1 x hx]; exact h1 x hx, fun j hj => by rw [u2 j hj]; exact h2 j hj, by omega, by omega, by omega⟩, fun f hf => ?_, fun f hf => ?_⟩
  · rw [u4, u5]
    by_cases z : f = e
    · subst z
      rw [if_pos (by omega), if_pos (by omega), e1, e2, Int.toNat_natCast, Int.toNat_natCast]
      exact ⟨rfl, rfl, Or.inr ⟨rfl, by omega⟩⟩
    · rw [if_neg (by omega), if_neg (by omega)]
      have q := h6 f (by omega)
      refine ⟨q.1, q.2.1, ?_⟩
      have q2 := q.2.2
      unfold zz_bf at *
      omega
  · rw [u4, u5, if_neg (by omega), if_neg (by omega)]
    have q := h7 f (by omega)
    refine ⟨q.1, q.2.1, fun hf2 w => ?_⟩
    have srt := hp.2.2.2.1 e f (by omega) hf2
    have r := hp.2.2.1 f hf2
    unfold zz_bf at w
    omega
set_option maxRecDepth 20000 in
theorem f122 {xs : List Int32} (hxs : xs.length ≤ 2048) (d : Nat) (S : qq_S) (hp : zz_p (zz_ml S) = 1 ∧ zz_p (zz_fp S) = 1) : qq_E xs (d + 22) 122 [.inr (115, none)] S (none) (zz_fd S) := by
  have gm := zz_pi1.mp hp.1
  have gp := zz_pi1.mp hp.2
  have g1 := gp.1
  have g2 := gp.2.1
  have g3 := gp.2.2.1
  have ml : ∀ T : qq_S, (∀ x : Nat, ¬ (x = 120 ∨ x = 121 ∨ x = 115) → T x = S x) → (∀ j : Nat, ¬ j = 3 → T 115 j = S 115 j) → zz_p (zz_ml T) = 1 ∧ ∀ a b, zz_mled T a b = zz_mled S a b := fun T t1 t2 => by
    have e1 : T 115 2 = S 115 2 := t2 2 (by decide)
    have e2 : T 118 = S 118 := t1 118 (by omega)
    have e3 : T 119 = S 119 := t1 119 (by omega)
    refine ⟨zz_p1 ?_, fun a b => ?_⟩
    · unfold zz_ml at *
      rw [e1, e2, e3]
      exact gm
    · unfold zz_mled
      rw [e1, e2, e3]
  have Li : ∀ (k9 : Nat) (a b : Int) (T : qq_S) (c : Int), S 4 0 - b < (k9 : Int) → (0 ≤ a ∧ a < S 4 0 ∧ a < b ∧ b ≤ S 4 0) → (zz_FJ S T a.toNat b.toNat c) → (∀ (u : Option qq_V) (T2 : qq_S) (c2 : Int), zz_FJ S T2 (a + 1).toNat 0 c2 → qq_p xs (d + 21) (mm_mr mm_m122) (mm_mk mm_m122) (fun r S' => r = none ∧ S' = zz_fd S) 7 [some (.inr (115, none)), some (.inl (a + 1)), u] [] T2) → qq_p xs (d + 21) (mm_mr mm_m122) (mm_mk mm_m122) (fun r S' => r = none ∧ S' = zz_fd S) 19 [some (.inr (115, none)), some (.inl a), some (.inl b)] [] (T) := by
    intro k9
    induction k9 with
    | zero =>
      intro a b T c hm h1 h3 h4
      exfalso
      omega
    | succ k9 ih =>
      intro a b T c hm h1 h3 h4
      refine qq_fsound hxs (sp_32_ok hxs (d + 0)) [19, 7] 300 ?_
      repeat' first | apply And.intro | intro _ | (simp only [qq_tab]) | (simp only [qq_pl])
      all_goals (
        (have t1 : T 115 1 = S 4 0 := by rw [h3.1.2.1 1 (by decide)]; omega
         have t3 := h3.1.2.2
         have mm := ml T h3.1.1 h3.1.2.1
         have ml1 := mm.1
         have ea : ((a.toNat : Nat) : Int) = a := by omega
         have eb : ((b.toNat : Nat) : Int) = b := by omega
         first
         | omega
         | exact mm.1
         | exact (zz_pin _).1
         | exact (zz_pin _).2
         | (have eb : b = S 4 0 := by omega
            refine h4 _ _ c ?_
            rw [show (a + 1).toNat = a.toNat + 1 by omega]
            exact zz_FJ_c h3 (fun e he => by have := g3 e he; unfold zz_bf; omega))
         | (have bl : b < S 4 0 := by omega
            have ie := gp.2.2.2.2 a.toNat b.toNat (by omega) (by omega)
            have e1 : (b + 1).toNat = b.toNat + 1 := by omega
            first
            | (have z0 : zz_p (zz_mled T a.toNat b.toNat) = 0 := by assumption
               rw [mm.2] at z0
               have nl := zz_pi0.mp z0
               refine ih a (b + 1) T c (by omega) (by omega) ?_ h4
               rw [e1]
               refine zz_FJ_c h3 (fun e he => ?_)
               have := g3 e he
               have ne : ¬ (S 22 e = a ∧ S 23 e = b) := fun z => nl (ie.mpr ⟨e, he, by omega, by omega⟩)
               unfold zz_bf
               omega)
            | (have z0 : ¬ zz_p (zz_mled T a.toNat b.toNat) = 0 := by assumption
               rw [mm.2] at z0
               have yl : zz_mled S a.toNat b.toNat := Classical.not_not.mp (fun w => z0 (zz_pi0.mpr w))
               have lt : c < S 4 2 := (zz_FJ_step (U := fun x j => if x = 115 ∧ j = 3 then T 115 3 + 1 else if x = 120 ∧ j = (T 115 3).toNat then (a.toNat : Int) else if x = 121 ∧ j = (T 115 3).toNat then (b.toNat : Int) else T x j) h3 gp (by omega) (by omega) yl (fun x hx => by funext j; rw [if_neg (by omega), if_neg (by omega), if_neg (by omega)]) (fun j hj => by rw [if_neg (by omega), if_neg (by omega), if_neg (by omega)]) (by rw [if_pos ⟨rfl, rfl⟩]) (fun e => by rw [if_neg (by omega)]; by_cases q : e = (T 115 3).toNat <;> simp [q]) (fun e => by rw [if_neg (by omega), if_neg (by omega)]; by_cases q : e = (T 115 3).toNat <;> simp [q])).1
               (try simp (disch := omega) only [qq_ueq])
               first
               | omega
               | (refine ih a (b + 1) _ (c + 1) (by omega) (by omega) ?_ h4
                  rw [e1]
                  refine (zz_FJ_step h3 gp (by omega) (by omega) yl ?_ ?_ ?_ ?_ ?_).2
                  · intro x hx
                    simp (disch := omega) only [qq_ueq]
                  · intro j hj
                    rw [qq_un (Or.inr hj)]
                    simp (disch := omega) only [qq_ueq]
                  · simp (disch := omega) only [qq_ueq, qq_us]
                  · intro e
                    simp (disch := omega) only [qq_ueq, qq_uat, ea]
                  · intro e
                    simp (disch := omega) only [qq_ueq, qq_uat, eb])))))
  have L : ∀ (k9 : Nat) (a : Int) (u : Option qq_V) (T : qq_S) (c : Int), S 4 0 - a < (k9 : Int) → (0 ≤ a ∧ a ≤ S 4 0) → (zz_FJ S T a.toNat 0 c) → qq_p xs (d + 21) (mm_mr mm_m122) (mm_mk mm_m122) (fun r S' => r = none ∧ S' = zz_fd S) 7 [some (.inr (115, none)), some (.inl a), u] [] (T) := by
    intro k9
    induction k9 with
    | zero =>
      intro a u T c hm h1 h3
      exfalso
      omega
    | succ k9 ih =>
      intro a u T c hm h1 h3
      refine qq_fsound hxs (sp_32_ok hxs (d + 0)) [19, 7] 300 ?_
      repeat' first | apply And.intro | intro _ | (simp only [qq_tab]) | (simp only [qq_pl])
      all_goals (
        (have t1 : T 115 1 = S 4 0 := by rw [h3.1.2.1 1 (by decide)]; omega
         first
         | omega
         | (have ea : a = S 4 0 := by omega
            exact zz_FJ_end h3 (fun e he => by have := g3 e he; unfold zz_bf; omega))
         | exact Li (S 4 0 + 1).toNat a (a + 1) T c (by omega) (by omega) (zz_FJ_c h3 (fun e he => by have := g3 e he; unfold zz_bf; omega)) (fun u2 T2 c2 k1 => ih _ _ _ _ (by omega) (by omega) k1)))
  have h : qq_p xs (d + 21) (mm_mr mm_m122) (mm_mk mm_m122) (fun r S' => r = none ∧ S' = zz_fd S) 0 (qq_ent mm_m122 [.inr (115, none)]) [] S := by
    refine qq_fsound hxs (sp_32_ok hxs (d + 0)) [19, 7] 300 ?_
    repeat' first | apply And.intro | intro _ | (simp only [qq_tab]) | (simp only [qq_pl])
    all_goals (first
      | omega
      | exact L (S 4 0 + 1).toNat 0 _ _ 0 (by omega) (by omega) ⟨⟨fun x hx => qq_ueq (by omega), fun j hj => qq_un (Or.inr hj), qq_us, by omega, by omega⟩, fun e he => by omega, fun e he => ⟨by rw [qq_ueq (by decide)], by rw [qq_ueq (by decide)], fun z w => by unfold zz_bf at w; omega⟩⟩)
  obtain ⟨r, S', hE, e1, e2⟩ := qq_call_of (y := 122) rfl (Nat.le_of_ble_eq_true rfl) h
  rw [e1, e2] at hE
  exact hE
noncomputable def sp_33 : qq_P := fun y as S => match y, as with
  | 122, [.inr (115, none)] => some (zz_p (zz_ml S) = 1 ∧ zz_p (zz_fp S) = 1, none, zz_fd S)
  | _, _ => sp_32 y as S
theorem sp_33_ok {xs : List Int32} (hxs : xs.length ≤ 2048) (d : Nat) : qq_ok xs (d + 22) sp_33 := by
  intro y as S pre r S2 h hp
  unfold sp_33 at h
  split at h
  · cases h; exact f122 hxs (d + 0) S hp
  · exact sp_32_ok hxs (d + 1) y as S pre r S2 h hp
