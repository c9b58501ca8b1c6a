/-! best of the class; mayBe, costTo, begins, steps of the reference. -/
def yy_R9 (S T : qq_S) (r : Int) : Prop := (¬ (S 4 0 ≤ 5 ∧ S 48 0 * S 48 1 ≤ 25) ∧ r = -5 ∧ T = qq_u S 3 9 (-5)) ∨ ((S 4 0 ≤ 5 ∧ S 48 0 * S 48 1 ≤ 25) ∧ ∃ v U, yy_R S U v ∧ ((v = -1 ∧ r = -6 ∧ T = qq_u U 3 9 (-6)) ∨ (¬ v = -1 ∧ r = v ∧ T = qq_u U 3 9 0)))
set_option maxRecDepth 20000 in
theorem f99 {xs : List Int32} (hxs : xs.length ≤ 2048) (S : qq_S) (hb : (0 ≤ S 4 0 ∧ S 4 0 ≤ 10) ∧ (2 ≤ S 48 0 ∧ S 48 0 ≤ 8 ∧ 2 ≤ S 48 1 ∧ S 48 1 ≤ 8)) (s0 : S 4 0 ≤ 5 → S 48 0 * S 48 1 ≤ 25 → yy_S0 S) : ∃ r T, qq_E xs 29 99 [.inr (3, none)] S (some r) T ∧ yy_R9 S T r := by
  have wb := zz_mb2 (show 0 ≤ S 48 0 ∧ S 48 0 ≤ 8 by omega) (show 0 ≤ S 48 1 ∧ S 48 1 ≤ 8 by omega)
  have h : qq_p xs 28 (mm_mr mm_m99) (mm_mk mm_m99) (fun r S2 => zz_p (∃ v, r = some v ∧ yy_R9 S S2 v) = 1) 0 (qq_ent mm_m99 [.inr (3, none)]) [] S := by
    refine qq_fsound hxs (sp_73_ok hxs 8) [38] 300 ?_
    repeat' first | apply And.intro | intro _ | (simp only [qq_tab]) | (simp only [qq_pl])
    all_goals (
      first
      | omega
      | exact trivial
      | (refine zz_p1 ⟨-5, rfl, Or.inl ⟨by omega, rfl, rfl⟩⟩)
      | (have c5 : S 4 0 ≤ 5 := by omega
         have c25 : S 48 0 * S 48 1 ≤ 25 := by omega
         obtain ⟨v, U, E, R⟩ := f71 hxs S (s0 c5 c25)
         have vb : -1 ≤ v ∧ v ≤ 200000 := by
           rcases R with R | R
           · have := R.1; omega
           · have := R.1; have := R.2.1; omega
         show qq_p xs 28 (mm_mr mm_m99) (mm_mk mm_m99) _ 38 _ [.inr (48, none), .inr (55, none)] S
         refine qq_vcall rfl E (by decide) rfl rfl rfl (Nat.le_of_ble_eq_true rfl) ?_
         refine qq_fsound hxs (sp_73_ok hxs 8) [] 300 ?_
         repeat' first | apply And.intro | intro _
         all_goals (
           first
           | omega
           | exact trivial
           | (have e : v = -1 := by assumption
              exact zz_p1 ⟨-6, rfl, Or.inr ⟨⟨c5, c25⟩, v, U, R, Or.inl ⟨e, rfl, rfl⟩⟩⟩)
           | (have e : ¬ v = -1 := by assumption
              exact zz_p1 ⟨v, rfl, Or.inr ⟨⟨c5, c25⟩, v, U, R, Or.inr ⟨e, rfl, rfl⟩⟩⟩))))
  obtain ⟨r, S2, hE, e⟩ := qq_call_of (y := 99) rfl (Nat.le_of_ble_eq_true rfl) h
  obtain ⟨v, e1, e2⟩ := zz_pi1.mp e
  rw [e1] at hE
  exact ⟨v, S2, hE, e2⟩
/-- a drawing of the first ones that may become an allowed one -/
def yy_e9 (S : qq_S) (s : Int) (e : Nat) : Prop := S 121 e ≤ s → ((zz_str (zz_mx S (S 121 e).toNat - zz_mx S (S 120 e).toNat) (zz_my S (S 121 e).toNat - zz_my S (S 120 e).toNat) ∧ ¬ zz_ln (zz_mx S) (zz_my S) (S 120 e).toNat (S 121 e).toNat < S 115 14) ∧ ∀ t : Nat, (t : Int) ≤ s → ¬ (t : Int) = S 120 e → ¬ (t : Int) = S 121 e → ¬ zz_lies (zz_mx S) (zz_my S) t (S 120 e).toNat (S 121 e).toNat)
def yy_mb (S : qq_S) (s : Int) : Prop := (∀ t : Nat, (t : Int) < s → ¬ S 123 t = S 123 s.toNat) ∧ ∀ e : Nat, (e : Int) < S 4 2 → yy_e9 S s e
/-- the first s + 1 are placed -/
def yy_ml (S : qq_S) (s : Int) : Prop := (2 ≤ S 115 12 ∧ S 115 12 ≤ 8) ∧ (0 ≤ S 115 14 ∧ S 115 14 ≤ 100) ∧ (∀ t : Nat, (t : Int) ≤ s → 0 ≤ S 123 t ∧ S 123 t ≤ 63)
theorem yy_ml_ok {S : qq_S} {s : Int} (h : yy_ml S s) (hs : s < 10) {a : Int} (h0 : 0 ≤ a) (h1 : a ≤ s) : zz_p (zz_mok S a) = 1 := zz_p1 ⟨h.1, h0, by omega, h.2.2 a.toNat (by omega)⟩
set_option maxRecDepth 20000 in
theorem f157 {xs : List Int32} (hxs : xs.length ≤ 2048) (d : Nat) (S : qq_S) (s : Int) (hp : (0 ≤ s ∧ s < S 4 0) ∧ zz_p (zz_N S) = 1 ∧ zz_p (yy_ml S s) = 1) : qq_E xs (d + 20) 157 [.inr (115, none), .inl s] S (some (zz_p (yy_mb S s))) (S) := by
  have gN := zz_pi1.mp hp.2.1
  have gM := zz_pi1.mp hp.2.2
  have gb := gN.1.1
  have gE := gN.2.2.1.1
  have e3 : S 115 3 = S 4 2 := by omega
  have ok : ∀ a : Int, 0 ≤ a → a ≤ s → zz_p (zz_mok S a) = 1 := fun a a0 a1 => yy_ml_ok gM (by omega) a0 a1
  have ps := gM.2.2 s.toNat (by omega)
  have L3 : ∀ (k9 : Nat) (e t : Int), s + 1 - t < (k9 : Int) → (0 ≤ e ∧ e < S 115 3 ∧ 0 ≤ t ∧ t ≤ s + 1) → (∀ j : Nat, (j : Int) < s → ¬ S 123 j = S 123 s.toNat) → (∀ j : Nat, (j : Int) < e → yy_e9 S s j) → (S 121 e.toNat ≤ s) → (zz_str (zz_mx S (S 121 e.toNat).toNat - zz_mx S (S 120 e.toNat).toNat) (zz_my S (S 121 e.toNat).toNat - zz_my S (S 120 e.toNat).toNat) ∧ ¬ zz_ln (zz_mx S) (zz_my S) (S 120 e.toNat).toNat (S 121 e.toNat).toNat < S 115 14) → (∀ j : Nat, (j : Int) < t → ¬ (j : Int) = S 120 e.toNat → ¬ (j : Int) = S 121 e.toNat → ¬ zz_lies (zz_mx S) (zz_my S) j (S 120 e.toNat).toNat (S 121 e.toNat).toNat) → (∀ (v3 : Option qq_V), (∀ j : Nat, (j : Int) < e + 1 → yy_e9 S s j) → qq_p xs (d + 19) (mm_mr mm_m157) (mm_mk mm_m157) (fun r S' => r = some (zz_p (yy_mb S s)) ∧ S' = S) 32 [some (.inr (115, none)), some (.inl s), some (.inl (e + 1)), v3] [] S) → qq_p xs (d + 19) (mm_mr mm_m157) (mm_mk mm_m157) (fun r S' => r = some (zz_p (yy_mb S s)) ∧ S' = S) 99 [some (.inr (115, none)), some (.inl s), some (.inl e), some (.inl t)] [] (S) := by
    intro k9
    induction k9 with
    | zero =>
      intro e t hm h1 h2 h3 h4 h5 h6 h7
      exfalso
      omega
    | succ k9 ih =>
      intro e t hm h1 h2 h3 h4 h5 h6 h7
      refine qq_fsound hxs (sp_29_ok hxs (d + 0)) [99, 32, 2] 300 ?_
      repeat' first | apply And.intro | intro _ | (simp only [qq_tab]) | (simp only [qq_pl])
      all_goals (
        (have n1 := zz_N_me gN (e := e.toNat) (by omega)
         first
         | omega
         | exact (zz_pin _).1
         | exact (zz_pin _).2
         | exact Or.inl trivial
         | exact Or.inr trivial
         | (apply ok <;> omega)
         | (have et : s < t := by omega
            refine h7 _ (fun j hj => ?_)
            by_cases c : j = e.toNat
            · rw [c]
              exact fun _ => ⟨h5, fun q hq => h6 q (by omega)⟩
            · exact h3 j (by omega))
         | (have c : t = S 120 e.toNat ∨ t = S 121 e.toNat := by first | exact Or.inl (by assumption) | exact Or.inr (by assumption)
            exact ih e (t + 1) (by omega) (by omega) h2 h3 h4 h5 (fun j hj n1 n2 => by
              by_cases z : j = t.toNat
              · omega
              · exact h6 j (by omega) n1 n2) h7)
         | (have z0 : ¬ zz_lies (zz_mx S) (zz_my S) t.toNat (S 120 e.toNat).toNat (S 121 e.toNat).toNat := zz_pi0.mp (by assumption)
            exact ih e (t + 1) (by omega) (by omega) h2 h3 h4 h5 (fun j hj n1 n2 => by
              by_cases z : j = t.toNat
              · rw [z]; exact z0
              · exact h6 j (by omega) n1 n2) h7)
         | (have z0 : zz_lies (zz_mx S) (zz_my S) t.toNat (S 120 e.toNat).toNat (S 121 e.toNat).toNat := Classical.not_not.mp (fun z => absurd (zz_pi0.mpr z) (by assumption))
            rw [zz_p0 (fun z => (z.2 e.toNat (by omega) h4).2 t.toNat (by omega) (by omega) (by omega) z0)])
         | skip))
  have L2 : ∀ (k9 : Nat) (e : Int) (v3 : Option qq_V), S 115 3 - e < (k9 : Int) → (0 ≤ e ∧ e ≤ S 115 3) → (∀ j : Nat, (j : Int) < s → ¬ S 123 j = S 123 s.toNat) → (∀ j : Nat, (j : Int) < e → yy_e9 S s j) → qq_p xs (d + 19) (mm_mr mm_m157) (mm_mk mm_m157) (fun r S' => r = some (zz_p (yy_mb S s)) ∧ S' = S) 32 [some (.inr (115, none)), some (.inl s), some (.inl e), v3] [] (S) := by
    intro k9
    induction k9 with
    | zero =>
      intro e v3 hm h1 h2 h3
      exfalso
      omega
    | succ k9 ih =>
      intro e v3 hm h1 h2 h3
      refine qq_fsound hxs (sp_29_ok hxs (d + 0)) [99, 32, 2] 300 ?_
      repeat' first | apply And.intro | intro _ | (simp only [qq_tab]) | (simp only [qq_pl])
      all_goals (
        (first
         | omega
         | exact Or.inl trivial
         | exact Or.inr trivial
         | exact (zz_pin _).1
         | exact (zz_pin _).2
         | (have ee : e = S 115 3 := by omega
            rw [zz_p1 ⟨h2, fun j hj => h3 j (by omega)⟩])
         | (have el : e < S 115 3 := by omega
            have n1 := zz_N_me gN (e := e.toNat) (by omega)
            first
            | omega
            | (apply ok <;> omega)
            | (have z : ¬ S 121 e.toNat ≤ s := by assumption
               exact ih (e + 1) _ (by omega) (by omega) h2 (fun j hj => by
                 by_cases c : j = e.toNat
                 · rw [c]; exact fun y => absurd y z
                 · exact h3 j (by omega)))
            | (have z : S 121 e.toNat ≤ s := by assumption
               have lb := zz_mln (ok (S 120 e.toNat) (by omega) (by omega)) (ok (S 121 e.toNat) (by omega) (by omega))
               have sb := gM.2.1
               first
               | omega
               | (apply ok <;> omega)
               | (have z1 : ¬ zz_str (zz_mx S (S 121 e.toNat).toNat - zz_mx S (S 120 e.toNat).toNat) (zz_my S (S 121 e.toNat).toNat - zz_my S (S 120 e.toNat).toNat) := zz_pi0.mp (by assumption)
                  rw [zz_p0 (fun y => z1 (y.2 e.toNat (by omega) z).1.1)])
               | (have z1 : zz_str (zz_mx S (S 121 e.toNat).toNat - zz_mx S (S 120 e.toNat).toNat) (zz_my S (S 121 e.toNat).toNat - zz_my S (S 120 e.toNat).toNat) := Classical.not_not.mp (fun y => absurd (zz_pi0.mpr y) (by assumption))
                  first
                  | (have z2 : ¬ S 115 14 ≤ zz_ln (zz_mx S) (zz_my S) (S 120 e.toNat).toNat (S 121 e.toNat).toNat := by assumption
                     rw [zz_p0 (fun y => (y.2 e.toNat (by omega) z).1.2 (by omega))])
                  | (have z2 : S 115 14 ≤ zz_ln (zz_mx S) (zz_my S) (S 120 e.toNat).toNat (S 121 e.toNat).toNat := by assumption
                     exact L3 (s + 2).toNat e 0 (by omega) (by omega) h2 h3 z ⟨z1, by omega⟩ (fun j hj => by omega) (fun v3 k1 => ih (e + 1) v3 (by omega) (by omega) h2 k1)))))
         | skip))
  have L1 : ∀ (k9 : Nat) (t : Int) (v3 : Option qq_V), s - t < (k9 : Int) → (0 ≤ t ∧ t ≤ s) → (∀ j : Nat, (j : Int) < t → ¬ S 123 j = S 123 s.toNat) → qq_p xs (d + 19) (mm_mr mm_m157) (mm_mk mm_m157) (fun r S' => r = some (zz_p (yy_mb S s)) ∧ S' = S) 2 [some (.inr (115, none)), some (.inl s), some (.inl t), v3] [] (S) := by
    intro k9
    induction k9 with
    | zero =>
      intro t v3 hm h1 h2
      exfalso
      omega
    | succ k9 ih =>
      intro t v3 hm h1 h2
      refine qq_fsound hxs (sp_29_ok hxs (d + 0)) [99, 32, 2] 300 ?_
      repeat' first | apply And.intro | intro _ | (simp only [qq_tab]) | (simp only [qq_pl])
      all_goals (
        (first
         | omega
         | exact Or.inl trivial
         | exact Or.inr trivial
         | (have et : t = s := by omega
            subst et
            exact L2 (S 115 3 + 1).toNat 0 _ (by omega) (by omega) h2 (fun j hj => by omega))
         | (have pt := gM.2.2 t.toNat (by omega)
            first
            | omega
            | (have z : ¬ S 123 t.toNat = S 123 s.toNat := by assumption
               exact ih (t + 1) _ (by omega) (by omega) (fun j hj => by
                 by_cases c : j = t.toNat
                 · rw [c]; exact z
                 · exact h2 j (by omega)))
            | (have z : S 123 t.toNat = S 123 s.toNat := by assumption
               rw [zz_p0 (fun y => y.1 t.toNat (by omega) z)]))
         | skip))
  have h : qq_p xs (d + 19) (mm_mr mm_m157) (mm_mk mm_m157) (fun r S' => r = some (zz_p (yy_mb S s)) ∧ S' = S) 0 (qq_ent mm_m157 [.inr (115, none), .inl s]) [] S := by
    refine qq_fsound hxs (sp_29_ok hxs (d + 0)) [99, 32, 2] 300 ?_
    repeat' first | apply And.intro | intro _ | (simp only [qq_tab]) | (simp only [qq_pl])
    all_goals (
      first
      | omega
      | exact L1 (s + 1).toNat 0 _ (by omega) (by omega) (fun t ht => by omega)
      | skip)
  obtain ⟨r, S', hE, e1, e2⟩ := qq_call_of (y := 157) rfl (Nat.le_of_ble_eq_true rfl) h
  rw [e1, e2] at hE
  exact hE
/-- what an edge costs at least, the first s + 1 placed -/
def yy_ct (S : qq_S) (s : Int) (e : Nat) : Int := if s < S 121 e then S 115 16 * S 115 14 else S 115 16 * zz_ln (zz_mx S) (zz_my S) (S 120 e).toNat (S 121 e).toNat + S 115 17 * zz_mtrn S e
set_option maxRecDepth 20000 in
theorem f158 {xs : List Int32} (hxs : xs.length ≤ 2048) (d : Nat) (S : qq_S) (s : Int) (hp : (0 ≤ s ∧ s < S 4 0) ∧ zz_p (zz_N S) = 1 ∧ zz_p (yy_ml S s) = 1) : qq_E xs (d + 20) 158 [.inr (115, none), .inl s] S (some (zz_sum (yy_ct S s) (S 4 2).toNat)) (S) := by
  have gN := zz_pi1.mp hp.2.1
  have gM := zz_pi1.mp hp.2.2
  have gb := gN.1.1
  have gE := gN.2.2.1.1
  have e3 : S 115 3 = S 4 2 := by omega
  have ok : ∀ a : Int, 0 ≤ a → a ≤ s → zz_p (zz_mok S a) = 1 := fun a a0 a1 => yy_ml_ok gM (by omega) a0 a1
  have L : ∀ (k9 : Nat) (e c : Int), S 115 3 - e < (k9 : Int) → (0 ≤ e ∧ e ≤ S 115 3) → (c = zz_sum (yy_ct S s) e.toNat) → qq_p xs (d + 19) (mm_mr mm_m158) (mm_mk mm_m158) (fun r S' => r = some (zz_sum (yy_ct S s) (S 4 2).toNat) ∧ S' = S) 4 [some (.inr (115, none)), some (.inl s), some (.inl c), some (.inl e)] [] (S) := by
    intro k9
    induction k9 with
    | zero =>
      intro e c hm h1 h2
      exfalso
      omega
    | succ k9 ih =>
      intro e c hm h1 h2
      refine qq_fsound hxs (sp_29_ok hxs (d + 0)) [4] 300 ?_
      repeat' first | apply And.intro | intro _ | (simp only [qq_tab]) | (simp only [qq_pl])
      all_goals (
        (first
         | omega
         | (have ee : e = S 115 3 := by omega
            rw [h2, ee, e3]; done)
         | (have el : e < S 115 3 := by omega
            have n1 := zz_N_me gN (e := e.toNat) (by omega)
            have x1 := gN.1.2.1 (S 120 e.toNat).toNat (by omega)
            have x2 := gN.1.2.1 (S 121 e.toNat).toNat (by omega)
            have t1 := zz_td_bd (S 116 (S 121 e.toNat).toNat - S 116 (S 120 e.toNat).toNat) (S 117 (S 121 e.toNat).toNat - S 117 (S 120 e.toNat).toNat)
            have t2 := zz_mdr_bd (zz_mx S) (zz_my S) (S 120 e.toNat).toNat (S 121 e.toNat).toNat
            have es := zz_sum_s (yy_ct S s) e (by omega)
            first
            | omega
            | (apply ok <;> omega)
            | (have z : ¬ S 121 e.toNat ≤ s := by assumption
               have ec : yy_ct S s e.toNat = S 115 16 * S 115 14 := if_pos (by omega)
               exact ih (e + 1) _ (by omega) (by omega) (by rw [es, ec, h2]))
            | (have z : S 121 e.toNat ≤ s := by assumption
               have ec : yy_ct S s e.toNat = S 115 16 * zz_ln (zz_mx S) (zz_my S) (S 120 e.toNat).toNat (S 121 e.toNat).toNat + S 115 17 * zz_mtrn S e.toNat := if_neg (by omega)
               exact ih (e + 1) _ (by omega) (by omega) (by rw [es, ec, h2]; rfl)))
         | skip))
  have h : qq_p xs (d + 19) (mm_mr mm_m158) (mm_mk mm_m158) (fun r S' => r = some (zz_sum (yy_ct S s) (S 4 2).toNat) ∧ S' = S) 0 (qq_ent mm_m158 [.inr (115, none), .inl s]) [] S := by
    refine qq_fsound hxs (sp_29_ok hxs (d + 0)) [4] 300 ?_
    repeat' first | apply And.intro | intro _ | (simp only [qq_tab]) | (simp only [qq_pl])
    all_goals (
      first
      | omega
      | exact L (S 115 3 + 1).toNat 0 0 (by omega) (by omega) rfl
      | skip)
  obtain ⟨r, S', hE, e1, e2⟩ := qq_call_of (y := 158) rfl (Nat.le_of_ble_eq_true rfl) h
  rw [e1, e2] at hE
  exact hE
set_option maxRecDepth 20000 in
theorem f160 {xs : List Int32} (hxs : xs.length ≤ 2048) (d : Nat) (S : qq_S) (s : Int) (hp : 0 ≤ s ∧ s < 10 ∧ qq_in (S 124 s.toNat)) : qq_E xs (d + 20) 160 [.inr (115, none), .inl s] S (none) (qq_u (qq_u S 128 s.toNat 0) 123 s.toNat (if S 124 s.toNat = 0 then -1 else S 126 s.toNat)) := by
  have h : qq_p xs (d + 19) (mm_mr mm_m160) (mm_mk mm_m160) (fun r S' => r = none ∧ S' = qq_u (qq_u S 128 s.toNat 0) 123 s.toNat (if S 124 s.toNat = 0 then -1 else S 126 s.toNat)) 0 (qq_ent mm_m160 [.inr (115, none), .inl s]) [] S := by
    refine qq_fsound hxs (sp_29_ok hxs (d + 0)) [] 300 ?_
    repeat' first | apply And.intro | intro _ | (simp only [qq_tab]) | (simp only [qq_pl])
    all_goals (
      first
      | omega
      | exact Or.inl trivial
      | exact Or.inr trivial
      | exact hp.2.2.1
      | exact hp.2.2.2
      | rfl
      | (have z : S 124 s.toNat = 0 := by assumption
         rw [if_pos z])
      | (have z : ¬ S 124 s.toNat = 0 := by assumption
         rw [if_neg z, qq_ueq (by decide)])
      | skip)
  obtain ⟨r, S', hE, e1, e2⟩ := qq_call_of (y := 160) rfl (Nat.le_of_ble_eq_true rfl) h
  rw [e1, e2] at hE
  exact hE
set_option maxRecDepth 20000 in
theorem f161 {xs : List Int32} (hxs : xs.length ≤ 2048) (d : Nat) (S : qq_S) (s : Int) (hp : (0 ≤ s ∧ s < 10 ∧ 0 ≤ S 124 s.toNat ∧ S 124 s.toNat ≤ 1 ∧ 0 ≤ S 128 s.toNat ∧ S 128 s.toNat ≤ 1 ∧ -1 ≤ S 123 s.toNat ∧ S 123 s.toNat ≤ 100) ∧ (2 ≤ S 115 12 ∧ S 115 12 ≤ 8 ∧ 2 ≤ S 115 13 ∧ S 115 13 ≤ 8)) : qq_E xs (d + 20) 161 [.inr (115, none), .inl s] S (some (if S 124 s.toNat = 0 then (if S 123 s.toNat + 1 < S 115 12 * S 115 13 then 1 else 0) else (if S 128 s.toNat = 0 then 1 else 0))) (if S 124 s.toNat = 0 then qq_u S 123 s.toNat (S 123 s.toNat + 1) else qq_u S 128 s.toNat 1) := by
  have wb := zz_mb2 (show 0 ≤ S 115 12 ∧ S 115 12 ≤ 8 by omega) (show 0 ≤ S 115 13 ∧ S 115 13 ≤ 8 by omega)
  have h : qq_p xs (d + 19) (mm_mr mm_m161) (mm_mk mm_m161) (fun r S' => r = some (if S 124 s.toNat = 0 then (if S 123 s.toNat + 1 < S 115 12 * S 115 13 then 1 else 0) else (if S 128 s.toNat = 0 then 1 else 0)) ∧ S' = if S 124 s.toNat = 0 then qq_u S 123 s.toNat (S 123 s.toNat + 1) else qq_u S 128 s.toNat 1) 0 (qq_ent mm_m161 [.inr (115, none), .inl s]) [] S := by
    refine qq_fsound hxs (sp_29_ok hxs (d + 0)) [] 300 ?_
    repeat' first | apply And.intro | intro _ | (simp only [qq_tab]) | (simp only [qq_pl])
    all_goals (
      first
      | omega
      | exact Or.inl trivial
      | exact Or.inr trivial
      | rfl
      | (have z : S 124 s.toNat = 0 := by assumption
         have u1 : qq_u S 123 s.toNat (S 123 s.toNat + 1) 123 s.toNat = S 123 s.toNat + 1 := by rw [qq_uat, if_pos rfl]
         have u2 : qq_u S 123 s.toNat (S 123 s.toNat + 1) 115 = S 115 := qq_ueq (by decide)
         have u3 : qq_u S 123 s.toNat (S 123 s.toNat + 1) 115 12 * qq_u S 123 s.toNat (S 123 s.toNat + 1) 115 13 = S 115 12 * S 115 13 := by rw [u2]
         first
         | omega
         | (rw [if_pos z]; done)
         | (rw [if_pos z, if_pos (by omega)]; done)
         | (rw [if_pos z, if_neg (by omega)]; done))
      | (have z : ¬ S 124 s.toNat = 0 := by assumption
         first
         | (rw [if_neg z]; done)
         | (rw [if_neg z, if_pos (by assumption)]; done)
         | (rw [if_neg z, if_neg (by assumption)]; done))
      | skip)
  obtain ⟨r, S', hE, e1, e2⟩ := qq_call_of (y := 161) rfl (Nat.le_of_ble_eq_true rfl) h
  rw [e1, e2] at hE
  exact hE
noncomputable def sp_74 : qq_P := fun y as S => match y, as with
  | 157, [.inr (115, none), .inl s] => some ((0 ≤ s ∧ s < S 4 0) ∧ zz_p (zz_N S) = 1 ∧ zz_p (yy_ml S s) = 1, some (zz_p (yy_mb S s)), S)
  | 158, [.inr (115, none), .inl s] => some ((0 ≤ s ∧ s < S 4 0) ∧ zz_p (zz_N S) = 1 ∧ zz_p (yy_ml S s) = 1, some (zz_sum (yy_ct S s) (S 4 2).toNat), S)
  | 160, [.inr (115, none), .inl s] => some (0 ≤ s ∧ s < 10 ∧ qq_in (S 124 s.toNat), none, qq_u (qq_u S 128 s.toNat 0) 123 s.toNat (if S 124 s.toNat = 0 then -1 else S 126 s.toNat))
  | 161, [.inr (115, none), .inl s] => some ((0 ≤ s ∧ s < 10 ∧ 0 ≤ S 124 s.toNat ∧ S 124 s.toNat ≤ 1 ∧ 0 ≤ S 128 s.toNat ∧ S 128 s.toNat ≤ 1 ∧ -1 ≤ S 123 s.toNat ∧ S 123 s.toNat ≤ 100) ∧ (2 ≤ S 115 12 ∧ S 115 12 ≤ 8 ∧ 2 ≤ S 115 13 ∧ S 115 13 ≤ 8), some (if S 124 s.toNat = 0 then (if S 123 s.toNat + 1 < S 115 12 * S 115 13 then 1 else 0) else (if S 128 s.toNat = 0 then 1 else 0)), if S 124 s.toNat = 0 then qq_u S 123 s.toNat (S 123 s.toNat + 1) else qq_u S 128 s.toNat 1)
  | _, _ => sp_31 y as S
theorem sp_74_ok {xs : List Int32} (hxs : xs.length ≤ 2048) (d : Nat) : qq_ok xs (d + 21) sp_74 := by
  intro y as S pre r S2 h hp
  unfold sp_74 at h
  split at h
  · cases h; exact f157 hxs (d + 1) S _ hp
  · cases h; exact f158 hxs (d + 1) S _ hp
  · cases h; exact f160 hxs (d + 1) S _ hp
  · cases h; exact f161 hxs (d + 1) S _ hp
  · exact sp_31_ok hxs (d + 0) y as S pre r S2 h hp
