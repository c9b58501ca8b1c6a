/-! Numbering the edges: one pair after the other. -/
theorem qq_uat {S : qq_S} {q k e : Nat} {x : Int} : qq_u S q k x q e = if e = k then x else S q e := by
  unfold qq_u
  by_cases c : e = k
  · rw [if_pos ⟨rfl, c⟩, if_pos c]
  · rw [if_neg (fun z => c z.2), if_neg c]
def zz_bf (x y a b : Nat) : Prop := x < a ∨ (x = a ∧ y < b)
def zz_tri : Nat → Int
  | 0 => 0
  | a + 1 => zz_tri a + (9 - a)
theorem zz_tri_bd (a : Nat) (h : a ≤ 9) : zz_tri (a + 1) ≤ 45 ∧ 0 ≤ zz_tri a := by
  have : ∀ a : Fin 10, zz_tri (a.val + 1) ≤ 45 ∧ 0 ≤ zz_tri a.val := by decide
  exact this ⟨a, by omega⟩
/-- the pairs before a, b are numbered -/
def zz_J (S T : qq_S) (a b : Nat) : Prop :=
  ((∀ c : Nat, ¬ (c = 4 ∨ c = 22 ∨ c = 23 ∨ c = 24 ∨ (38 ≤ c ∧ c < 48)) → T c = S c) ∧ (∀ j : Nat, ¬ j = 2 → T 4 j = S 4 j) ∧ 0 ≤ T 4 2) ∧
  (∀ e : Nat, (e : Int) < T 4 2 → 0 ≤ T 22 e ∧ T 22 e < T 23 e ∧ T 23 e < S 4 0 ∧ zz_bf (T 22 e).toNat (T 23 e).toNat a b ∧ T 24 e = zz_td (S 5 (T 23 e).toNat - S 5 (T 22 e).toNat) (S 6 (T 23 e).toNat - S 6 (T 22 e).toNat) ∧ T (37 + 1 + (T 22 e).toNat) (T 23 e).toNat = e ∧ T (37 + 1 + (T 23 e).toNat) (T 22 e).toNat = e) ∧
  (∀ e f : Nat, e < f → (f : Int) < T 4 2 → T 22 e < T 22 f ∨ (T 22 e = T 22 f ∧ T 23 e < T 23 f)) ∧
  (∀ x y : Nat, x < y → (y : Int) < S 4 0 → zz_bf x y a b → ¬ S (37 + 1 + x) y = -1 → ∃ e : Nat, (e : Int) < T 4 2 ∧ T 22 e = x ∧ T 23 e = y) ∧
  (∀ x y : Nat, x < 10 → y < 10 → (T (37 + 1 + x) y = -1 ↔ S (37 + 1 + x) y = -1) ∧ -1 ≤ T (37 + 1 + x) y ∧ T (37 + 1 + x) y ≤ 100)
theorem zz_J_c {S T : qq_S} {a b a2 b2 : Nat} (h : zz_J S T a b) (hb : ∀ x y : Nat, x < y → (y : Int) < S 4 0 → ¬ S (37 + 1 + x) y = -1 → (zz_bf x y a b ↔ zz_bf x y a2 b2)) (h10 : S 4 0 ≤ 10) : zz_J S T a2 b2 := by
  obtain ⟨h1, h2, h3, h4, h5⟩ := h
  refine ⟨h1, fun e he => ?_, h3, fun x y hx hy hz hn => ?_, h5⟩
  · obtain ⟨q1, q2, q3, q4, q5, q6, q7⟩ := h2 e he
    refine ⟨q1, q2, q3, ?_, q5, q6, q7⟩
    refine (hb _ _ (by omega) (by omega) ?_).mp q4
    intro z
    have := (h5 (T 22 e).toNat (T 23 e).toNat (by omega) (by omega)).1.mpr z
    omega
  · exact h4 x y hx hy ((hb x y hx hy hn).mpr hz) hn
theorem zz_J_step {S T U : qq_S} {a b : Nat} (h : zz_J S T a b) (hab : a < b) (hbn : (b : Int) < S 4 0) (h10 : S 4 0 ≤ 10) (hn : ¬ S (37 + 1 + a) b = -1) (hn2 : ¬ S (37 + 1 + b) a = -1) (hE : T 4 2 ≤ 44)
    (u4 : U 4 2 = T 4 2 + 1) (u4j : ∀ j : Nat, ¬ j = 2 → U 4 j = T 4 j) (u22 : ∀ e : Nat, U 22 e = if e = (T 4 2).toNat then (a : Int) else T 22 e) (u23 : ∀ e : Nat, U 23 e = if e = (T 4 2).toNat then (b : Int) else T 23 e) (u24 : ∀ e : Nat, U 24 e = if e = (T 4 2).toNat then zz_td (S 5 b - S 5 a) (S 6 b - S 6 a) else T 24 e)
    (ue : ∀ x y : Nat, x < 10 → y < 10 → U (37 + 1 + x) y = if (x = a ∧ y = b) ∨ (x = b ∧ y = a) then T 4 2 else T (37 + 1 + x) y) (uo : ∀ c : Nat, ¬ (c = 4 ∨ c = 22 ∨ c = 23 ∨ c = 24 ∨ (38 ≤ c ∧ c < 48)) → U c = T c) : zz_J S U a (b + 1) := by
  obtain ⟨h1, h2, h3, h4, h5⟩ := h
  have E0 := h1.2.2
  refine ⟨⟨fun c hc => by rw [uo c hc]; exact h1.1 c hc, fun j hj => by rw [u4j j hj]; exact h1.2.1 j hj, by omega⟩, fun e he => ?_, fun e f hef hf => ?_, fun x y hx hy hz hxy => ?_, fun x y hx hy => ?_⟩
  · rw [u22, u23, u24]
    by_cases c : e = (T 4 2).toNat
    · rw [if_pos c, if_pos c, if_pos c, Int.toNat_natCast, Int.toNat_natCast, ue a b (by omega) (by omega), ue b a (by omega) (by omega), if_pos (Or.inl ⟨rfl, rfl⟩), if_pos (Or.inr ⟨rfl, rfl⟩)]
      refine ⟨by omega, by omega, hbn, Or.inr ⟨rfl, by omega⟩, rfl, by omega, by omega⟩
    · rw [if_neg c, if_neg c, if_neg c]
      obtain ⟨q1, q2, q3, q4, q5, q6, q7⟩ := h2 e (by omega)
      unfold zz_bf at q4
      rw [ue _ _ (by omega) (by omega), ue _ _ (by omega) (by omega), if_neg (by omega), if_neg (by omega)]
      refine ⟨q1, q2, q3, ?_, q5, q6, q7⟩
      unfold zz_bf
      omega
  · rw [u22, u22, u23, u23]
    by_cases c : f = (T 4 2).toNat
    · rw [if_pos c, if_pos c, if_neg (by omega), if_neg (by omega)]
      obtain ⟨q1, q2, q3, q4, -⟩ := h2 e (by omega)
      unfold zz_bf at q4
      omega
    · rw [if_neg c, if_neg c, if_neg (by omega), if_neg (by omega)]
      exact h3 e f hef (by omega)
  · by_cases c : x = a ∧ y = b
    · refine ⟨(T 4 2).toNat, by omega, ?_, ?_⟩
      · rw [u22, if_pos rfl, c.1]
      · rw [u23, if_pos rfl, c.2]
    · obtain ⟨e, he, k1, k2⟩ := h4 x y hx hy (by unfold zz_bf at *; omega) hxy
      refine ⟨e, by omega, ?_, ?_⟩
      · rw [u22, if_neg (by omega)]; exact k1
      · rw [u23, if_neg (by omega)]; exact k2
  · rw [ue x y hx hy]
    by_cases c : (x = a ∧ y = b) ∨ (x = b ∧ y = a)
    · rw [if_pos c]
      rcases c with ⟨c1, c2⟩ | ⟨c1, c2⟩
      · subst c1; subst c2
        exact ⟨⟨fun z => by omega, fun z => absurd z hn⟩, by omega, by omega⟩
      · subst c1; subst c2
        exact ⟨⟨fun z => by omega, fun z => absurd z hn2⟩, by omega, by omega⟩
    · rw [if_neg c]
      exact h5 x y hx hy
/-- what the pairs that are joined must be -/
def zz_sy (S : qq_S) : Prop := (0 ≤ S 4 0 ∧ S 4 0 ≤ 10) ∧ (∀ i : Nat, (i : Int) < S 4 0 → 0 ≤ S 5 i ∧ S 5 i ≤ 1000 ∧ 0 ≤ S 6 i ∧ S 6 i ≤ 1000) ∧ (∀ i j : Nat, (i : Int) < S 4 0 → (j : Int) < S 4 0 → S 5 i = S 5 j → S 6 i = S 6 j → i = j) ∧ (∀ x y : Nat, x < 10 → y < 10 → -1 ≤ S (37 + 1 + x) y ∧ S (37 + 1 + x) y ≤ 100 ∧ (¬ S (37 + 1 + x) y = -1 → ¬ S (37 + 1 + y) x = -1 ∧ (x : Int) < S 4 0 ∧ (y : Int) < S 4 0 ∧ ¬ x = y))
set_option maxRecDepth 20000 in
theorem f38 {xs : List Int32} (hxs : xs.length ≤ 2048) (d : Nat) (S : qq_S) (hp : zz_p (zz_sy S) = 1) : ∃ S2, qq_E xs (d + 22) 38 [.inr (4, none)] S (none) S2 ∧ zz_J S S2 (S 4 0).toNat 0 ∧ S2 4 2 ≤ 45 := by
  obtain ⟨g1, g2, g3, g4⟩ := zz_pi1.mp hp
  have Li : ∀ (k9 : Nat) (a b : Int) (T : qq_S), S 4 0 - b < (k9 : Int) → (0 ≤ a ∧ a < S 4 0 ∧ a < b ∧ b ≤ S 4 0) → (zz_J S T a.toNat b.toNat) → (T 4 2 ≤ zz_tri a.toNat + (b - a - 1)) → (∀ (u : Option qq_V) (T2 : qq_S), zz_J S T2 (a + 1).toNat 0 → T2 4 2 ≤ zz_tri (a + 1).toNat → qq_p xs (d + 21) (mm_mr mm_m38) (mm_mk mm_m38) (fun r S2 => r = none ∧ zz_p (zz_J S S2 (S 4 0).toNat 0 ∧ S2 4 2 ≤ 45) = 1) 7 [some (.inr (4, none)), some (.inl (a + 1)), u] [] T2) → qq_p xs (d + 21) (mm_mr mm_m38) (mm_mk mm_m38) (fun r S2 => r = none ∧ zz_p (zz_J S S2 (S 4 0).toNat 0 ∧ S2 4 2 ≤ 45) = 1) 19 [some (.inr (4, none)), some (.inl a), some (.inl b)] [] (T) := by
    intro k9
    induction k9 with
    | zero =>
      intro a b T hm h1 h3 h5 h4
      exfalso
      omega
    | succ k9 ih =>
      intro a b T hm h1 h3 h5 h4
      refine qq_fsound hxs (sp_32_ok hxs (d + 0)) [19, 7] 300 ?_
      repeat' first | apply And.intro | intro _ | (simp only [qq_tab]) | (simp only [qq_pl])
      all_goals (
        (have tb := zz_tri_bd a.toNat (by omega); have et : zz_tri (a.toNat + 1) = zz_tri a.toNat + (9 - (a.toNat : Int)) := rfl
         have t0 : T 4 0 = S 4 0 := h3.1.2.1 0 (by decide)
         have x5 : T 5 = S 5 := h3.1.1 5 (by omega)
         have x6 : T 6 = S 6 := h3.1.1 6 (by omega)
         have E0 := h3.1.2.2
         (try simp only [t0] at *)
         first
         | omega
         | (have eb : b = S 4 0 := by omega
            have e1 : (a + 1).toNat = a.toNat + 1 := by omega
            refine h4 _ _ ?_ ?_
            · rw [e1]
              exact zz_J_c h3 (fun x y hx hy hn => by unfold zz_bf; omega) (by omega)
            · rw [e1]
              omega)
         | (have bl : b < S 4 0 := by omega
            have v := g4 a.toNat b.toNat (by omega) (by omega)
            have vi := h3.2.2.2.2 a.toNat b.toNat (by omega) (by omega)
            have w := h3.2.2.2.2
            have tv := vi.2
            have dp : ¬ (S 5 b.toNat - S 5 a.toNat = 0 ∧ S 6 b.toNat - S 6 a.toNat = 0) := fun z => by
              have := g3 b.toNat a.toNat (by omega) (by omega) (by omega) (by omega)
              omega
            have p1 := g2 a.toNat (by omega)
            have p2 := g2 b.toNat (by omega)
            have ea : ((a.toNat : Nat) : Int) = a := by omega
            have eb : ((b.toNat : Nat) : Int) = b := by omega
            have e1 : (b + 1).toNat = b.toNat + 1 := by omega
            (try simp (disch := omega) only [qq_ueq, x5, x6])
            first
            | omega
            | exact zz_p1 dp
            | (have z9 : T (37 + 1 + a.toNat) b.toNat = -1 := by assumption
               refine ih a (b + 1) T (by omega) (by omega) ?_ (by omega) h4
               rw [e1]
               exact zz_J_c h3 (fun x y hx hy hn => by
                 unfold zz_bf
                 by_cases c : x = a.toNat ∧ y = b.toNat
                 · exact absurd (vi.1.mp z9) (by rw [← c.1, ← c.2]; exact hn)
                 · omega) (by omega))
            | (have z9 : ¬ T (37 + 1 + a.toNat) b.toNat = -1 := by assumption
               have z8 : ¬ S (37 + 1 + a.toNat) b.toNat = -1 := fun z => z9 (vi.1.mpr z)
               refine ih a (b + 1) _ (by omega) (by omega) ?_ ?_ h4
               · rw [e1]
                 refine zz_J_step (T := T) h3 (by omega) (by omega) (by omega) z8 (v.2.2 z8).1 (by omega) ?_ ?_ ?_ ?_ ?_ ?_ ?_
                 · simp (disch := omega) only [qq_ueq, qq_us]
                 · intro j hj
                   rw [qq_un (Or.inr hj)]
                   simp (disch := omega) only [qq_ueq]
                 · intro e
                   simp (disch := omega) only [qq_ueq, qq_uat, ea]
                 · intro e
                   simp (disch := omega) only [qq_ueq, qq_uat, eb]
                 · intro e
                   simp (disch := omega) only [qq_ueq, qq_uat, x5, x6]
                 · intro x y hx hy
                   simp (disch := omega) only [qq_ueq]
                   unfold qq_u
                   have i1 : (37 + 1 + x = 37 + 1 + b.toNat) ↔ x = b.toNat := by omega
                   have i2 : (37 + 1 + x = 37 + 1 + a.toNat) ↔ x = a.toNat := by omega
                   simp only [i1, i2]
                   grind
                 · intro c hc
                   simp (disch := omega) only [qq_ueq]
               · simp (disch := omega) only [qq_ueq, qq_us]
                 omega))))
  have L : ∀ (k9 : Nat) (a : Int) (u : Option qq_V) (T : qq_S), S 4 0 - a < (k9 : Int) → (0 ≤ a ∧ a ≤ S 4 0) → (zz_J S T a.toNat 0) → (T 4 2 ≤ zz_tri a.toNat) → qq_p xs (d + 21) (mm_mr mm_m38) (mm_mk mm_m38) (fun r S2 => r = none ∧ zz_p (zz_J S S2 (S 4 0).toNat 0 ∧ S2 4 2 ≤ 45) = 1) 7 [some (.inr (4, none)), some (.inl a), u] [] (T) := by
    intro k9
    induction k9 with
    | zero =>
      intro a u T hm h1 h3 h5
      exfalso
      omega
    | succ k9 ih =>
      intro a u T hm h1 h3 h5
      refine qq_fsound hxs (sp_32_ok hxs (d + 0)) [19, 7] 300 ?_
      repeat' first | apply And.intro | intro _ | (simp only [qq_tab]) | (simp only [qq_pl])
      all_goals (
        (have t0 : T 4 0 = S 4 0 := h3.1.2.1 0 (by decide)
         (try simp only [t0] at *)
         first
         | omega
         | rfl
         | (have ea : a = S 4 0 := by omega
            subst ea
            refine zz_p1 ⟨h3, ?_⟩
            by_cases z : S 4 0 = 0
            · rw [z] at h5
              have : zz_tri (0 : Int).toNat = 0 := rfl
              omega
            · have tb := zz_tri_bd ((S 4 0).toNat - 1) (by omega)
              rw [show (S 4 0).toNat - 1 + 1 = (S 4 0).toNat by omega] at tb
              omega)
         | (exact Li (S 4 0 + 1).toNat a (a + 1) T (by omega) (by omega) (zz_J_c h3 (fun x y hx hy hn => by unfold zz_bf; omega) (by omega)) (by omega) (fun u2 T2 k1 k2 => ih _ _ _ (by omega) (by omega) k1 k2))))
  have h : qq_p xs (d + 21) (mm_mr mm_m38) (mm_mk mm_m38) (fun r S2 => r = none ∧ zz_p (zz_J S S2 (S 4 0).toNat 0 ∧ S2 4 2 ≤ 45) = 1) 0 (qq_ent mm_m38 [.inr (4, none)]) [] S := by
    refine qq_fsound hxs (sp_32_ok hxs (d + 0)) [19, 7] 300 ?_
    repeat' first | apply And.intro | intro _ | (simp only [qq_tab]) | (simp only [qq_pl])
    all_goals (first
      | omega
      | exact L (S 4 0 + 1).toNat 0 _ _ (by omega) (by omega) ⟨⟨fun c hc => qq_ueq (fun z => hc (Or.inl z)), fun j hj => qq_un (Or.inr hj), by rw [qq_us]; omega⟩, fun e he => by rw [qq_us] at he; omega, fun e f hef hf => by rw [qq_us] at hf; omega, fun x y hx hy hz => by unfold zz_bf at hz; omega, fun x y hx hy => by rw [qq_ueq (by omega)]; exact ⟨Iff.rfl, (g4 x y hx hy).1, (g4 x y hx hy).2.1⟩⟩ (by rw [qq_us]; exact Int.le_refl 0))
  obtain ⟨r, S2, hE, e1, e2⟩ := qq_call_of (y := 38) rfl (Nat.le_of_ble_eq_true rfl) h
  rw [e1] at hE
  exact ⟨S2, hE, zz_pi1.mp e2⟩
