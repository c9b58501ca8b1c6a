/-! best of the reference. -/
theorem yy_core {xs : List Int32} (hxs : xs.length ≤ 2048) (K : qq_K) {S : qq_S} (z : yy_Z S) : ∀ (m r : Nat) (s c : Int) (k3 : Option qq_V) (T : qq_S), s + m + 1 = S 4 0 → 0 ≤ s → yy_rem S T s < (r : Int) → yy_V S T c s → (∀ (c2 : Int) (q3 : Option qq_V) (U : qq_S), yy_V S U c2 (s - 1) → (∀ j : Nat, (j : Int) < s → U 123 j = T 123 j ∧ U 128 j = T 128 j) → qq_p xs 28 (mm_mr mm_m159) (mm_mk mm_m159) K 75 [some (.inr (115, none)), some (.inl c2), some (.inl (s - 1)), q3] [] U) → qq_p xs 28 (mm_mr mm_m159) (mm_mk mm_m159) K 75 [some (.inr (115, none)), some (.inl c), some (.inl s), k3] [] T := by
  have pos : ∀ (s c : Int) (T : qq_S), 0 ≤ s → s < S 4 0 → yy_V S T c s → 0 ≤ yy_rem S T s := fun s c T h0 h1 v => by
    have v4 := v.2.2.2.1 h0
    unfold yy_rem
    split
    · rename_i e
      rcases v4.1 with x | x
      · omega
      · omega
    · have := v4.2
      omega
  intro m
  induction m with
  | zero =>
    intro r
    induction r with
    | zero =>
      intro s c k3 T h1 h2 h3 h4 h5
      have := pos s c T h2 (by omega) h4
      omega
    | succ r ih =>
      intro s c k3 T h1 h2 h3 h4 h5
      refine yy_iter hxs K z s c k3 T (by omega) h4 (fun q3 U V fr => h5 c q3 U V fr) (fun c2 q3 U V fr rm => ?_) (fun h => by omega)
      exact ih s c2 q3 U h1 h2 (by omega) V (fun c3 q4 U2 V2 fr2 => h5 c3 q4 U2 V2 (fun j hj => ⟨by rw [(fr2 j hj).1, (fr j hj).1], by rw [(fr2 j hj).2, (fr j hj).2]⟩))
  | succ m ihm =>
    intro r
    induction r with
    | zero =>
      intro s c k3 T h1 h2 h3 h4 h5
      have := pos s c T h2 (by omega) h4
      omega
    | succ r ih =>
      intro s c k3 T h1 h2 h3 h4 h5
      refine yy_iter hxs K z s c k3 T (by omega) h4 (fun q3 U V fr => h5 c q3 U V fr) (fun c2 q3 U V fr rm => ?_) (fun _ q3 U V fr rm => ?_)
      · exact ih s c2 q3 U h1 h2 (by omega) V (fun c3 q4 U2 V2 fr2 => h5 c3 q4 U2 V2 (fun j hj => ⟨by rw [(fr2 j hj).1, (fr j hj).1], by rw [(fr2 j hj).2, (fr j hj).2]⟩))
      · have p1 := pos (s + 1) c U (by omega) (by omega) V
        refine ihm (yy_rem S U (s + 1) + 1).toNat (s + 1) c q3 U (by omega) (by omega) (by omega) V (fun c3 q4 U2 V2 fr2 => ?_)
        rw [show s + 1 - 1 = s by omega] at V2 ⊢
        have rm2 : yy_rem S U2 s = yy_rem S U s := by
          unfold yy_rem
          rw [(fr2 s.toNat (by omega)).1, (fr2 s.toNat (by omega)).2]
        have fr3 : ∀ j : Nat, (j : Int) < s → U2 123 j = T 123 j ∧ U2 128 j = T 128 j := fun j hj => ⟨by rw [(fr2 j (by omega)).1, (fr j hj).1], by rw [(fr2 j (by omega)).2, (fr j hj).2]⟩
        exact ih s c3 q4 U2 h1 h2 (by omega) V2 (fun c4 q5 U3 V3 fr4 => h5 c4 q5 U3 V3 (fun j hj => ⟨by rw [(fr4 j hj).1, (fr3 j hj).1], by rw [(fr4 j hj).2, (fr3 j hj).2]⟩))
/-- without stations -/
theorem yy_n0 {S : qq_S} (hN : zz_N S) (h0 : S 4 0 = 0) (Q : Nat → Int) : yy_Dm S Q ∧ yy_cm S Q = 0 := by
  have gb := hN.1.1
  have gn := zz_N_nb hN
  have g0 := gn.1
  have e0 : S 4 2 = 0 := by
    rcases Int.lt_or_le 0 (S 4 2) with c | c
    · have := gn.2.1 0 (by omega)
      omega
    · omega
  refine ⟨⟨fun t ht => by omega, ?_⟩, ?_⟩
  · refine zz_vd_ok.mpr ⟨fun a ha => ?_, fun a b ha => ?_, fun e he => ?_, fun e he => ?_, fun e s he => ?_, fun e f he => ?_, fun s hs => ?_⟩
    · rw [yy_sp0 (by decide)] at ha; omega
    · rw [yy_sp0 (by decide)] at ha; omega
    · rw [yy_sp0 (by decide)] at he; omega
    · rw [yy_sp0 (by decide)] at he; omega
    · rw [yy_sp0 (by decide)] at he; omega
    · rw [yy_sp0 (by decide)] at he; omega
    · rw [yy_sp0 (by decide)] at hs; omega
  · have gE := hN.2.2.1.1
    have a1 : zz_mbds (yy_sp S Q) = 0 := zz_sum_z0 (fun l hl => by
      rw [yy_sp0 (by decide)] at hl
      have q := hN.2.1.1 l (by omega)
      have e : S 7 l = 0 := by
        rcases Int.lt_or_le 0 (S 7 l) with c | c
        · have r := q.2.2.2 0 (by omega)
          omega
        · omega
      rw [yy_sp0 (by decide), q.2.2.1, e]
      rfl)
    have a2 : zz_mlns (yy_sp S Q) = 0 := zz_sum_z0 (fun e he => by rw [yy_sp0 (by decide)] at he; omega)
    have a3 : zz_mtrs (yy_sp S Q) = 0 := zz_sum_z0 (fun e he => by rw [yy_sp0 (by decide)] at he; omega)
    unfold yy_cm zz_mcst
    rw [a1, a2, a3]
    omega
def yy_Bm (S : qq_S) (B : Nat → Int) : Prop := yy_Dm S B ∧ ∀ Q, yy_Dm S Q → yy_cm S B < yy_cm S Q ∨ (yy_cm S B = yy_cm S Q ∧ ¬ yy_lt (S 4 0) Q B)
def yy_Rm (S T : qq_S) (r : Int) : Prop := (¬ (S 4 0 ≤ 5 ∧ S 115 12 * S 115 13 ≤ 25) ∧ r = -5 ∧ T = qq_u S 115 0 (-5)) ∨ ((S 4 0 ≤ 5 ∧ S 115 12 * S 115 13 ≤ 25) ∧ ∃ U, yy_fm S U ∧ ((r = -6 ∧ T = qq_u U 115 0 (-6) ∧ (∀ Q, ¬ yy_Dm S Q) ∧ ∀ t : Nat, (t : Int) < S 4 0 → U 123 t = S 123 t) ∨ (0 ≤ r ∧ r ≤ 1000000 ∧ T = qq_u U 115 0 0 ∧ ∃ B, yy_Bm S B ∧ yy_cm S B = r ∧ ∀ t : Nat, (t : Int) < S 4 0 → U 123 t = B t)))
/-- what the loop leaves -/
def yy_F (S T : qq_S) (c : Int) : Prop := yy_fm S T ∧ (∀ t : Nat, (t : Int) < S 4 0 → T 126 t = S 123 t) ∧ ((c = -1 ∧ ∀ Q, ¬ yy_Dm S Q) ∨ (0 ≤ c ∧ c ≤ 1000000 ∧ ∃ B, yy_Bm S B ∧ yy_cm S B = c ∧ ∀ t : Nat, (t : Int) < S 4 0 → T 127 t = B t))
theorem yy_V_F {S T : qq_S} {c : Int} (v : yy_V S T c (-1)) : yy_F S T c := by
  refine ⟨v.1, fun t ht => (v.2.1 t ht).1, ?_⟩
  rcases v.2.2.2.2 with ⟨a, b⟩ | ⟨a, b, B, b1, b2, b3, b4, b5⟩
  · exact Or.inl ⟨a, fun Q hQ => b Q hQ (Or.inl rfl)⟩
  · exact Or.inr ⟨a, b, B, ⟨b1, fun Q hQ => by rw [b2]; exact b4 Q hQ (Or.inl rfl)⟩, b2, b3⟩
set_option maxRecDepth 20000 in
theorem f159 {xs : List Int32} (hxs : xs.length ≤ 2048) (S : qq_S) (hN : zz_N S) (hb : 2 ≤ S 115 12 ∧ S 115 12 ≤ 8 ∧ 2 ≤ S 115 13 ∧ S 115 13 ≤ 8) (h124 : qq_in (S 124 0)) (hz : S 4 0 ≤ 5 → S 115 12 * S 115 13 ≤ 25 → yy_Z S) : ∃ r T, qq_E xs 29 159 [.inr (115, none)] S (some r) T ∧ yy_Rm S T r := by
  have gb := hN.1.1
  have e1 : S 115 1 = S 4 0 := by omega
  have wb := zz_mb2 (show 0 ≤ S 115 12 ∧ S 115 12 ≤ 8 by omega) (show 0 ≤ S 115 13 ∧ S 115 13 ≤ 8 by omega)
  have hr : ∀ x : Int, x < ((x + 1).toNat : Int) := fun x => by omega
  -- the points at the end
  have L3 : (S 4 0 ≤ 5 ∧ S 115 12 * S 115 13 ≤ 25) → ∀ (k9 : Nat) (k c : Int) (u2 : Option qq_V) (T : qq_S), S 4 0 - k < (k9 : Int) → (0 ≤ k ∧ k ≤ S 4 0) → yy_F S T c → (∀ t : Nat, (t : Int) < k → T 123 t = if c = -1 then S 123 t else T 127 t) → qq_p xs 28 (mm_mr mm_m159) (mm_mk mm_m159) (fun r S2 => zz_p (∃ v, r = some v ∧ yy_Rm S S2 v) = 1) 207 [some (.inr (115, none)), some (.inl c), u2, some (.inl k)] [] T := by
    intro sm k9
    induction k9 with
    | zero =>
      intro k c u2 T hm h1 h2 h3
      exfalso
      omega
    | succ k9 ih =>
      intro k c u2 T hm h1 h2 h3
      have t1 : T 115 1 = S 4 0 := by rw [h2.1.2 1 (by omega)]; omega
      have cb : -1 ≤ c ∧ c ≤ 1000000 := by
        rcases h2.2.2 with ⟨a, _⟩ | ⟨a, b, _⟩
        · omega
        · omega
      have nxt : ∀ x : Int, (x = if c = -1 then S 123 k.toNat else T 127 k.toNat) → k < S 4 0 → qq_p xs 28 (mm_mr mm_m159) (mm_mk mm_m159) (fun r S2 => zz_p (∃ v, r = some v ∧ yy_Rm S S2 v) = 1) 207 [some (.inr (115, none)), some (.inl c), u2, some (.inl (k + 1))] [] (qq_u T 123 k.toNat x) := fun x hx hk => by
        refine ih (k + 1) c u2 _ (by omega) (by omega) ⟨⟨fun a g1 g2 g3 g4 g5 g6 => by rw [qq_ueq g3]; exact h2.1.1 a g1 g2 g3 g4 g5 g6, fun j hj => by rw [qq_ueq (by decide)]; exact h2.1.2 j hj⟩, fun t ht => by rw [qq_ueq (by decide)]; exact h2.2.1 t ht, ?_⟩ (fun t ht => ?_)
        · rw [qq_ueq (by decide)]; exact h2.2.2
        · rw [qq_uat, qq_ueq (by decide)]
          by_cases e : t = k.toNat
          · rw [if_pos e, e]; exact hx
          · rw [if_neg e]; exact h3 t (by omega)
      refine qq_fsound hxs (sp_74_ok hxs 7) [207] 300 ?_
      repeat' first | apply And.intro | intro _ | (simp only [qq_tab]) | (simp only [qq_pl])
      all_goals (
        first
        | omega
        | (have y : T 115 1 ≤ k := by assumption
           first
           | (unfold qq_in; omega)
           | (have y1 : c = -1 := by assumption
              rcases h2.2.2 with ⟨_, b⟩ | ⟨a, _⟩
              · rw [if_pos (show (-6 : Int) < 0 by omega)]
                exact zz_p1 ⟨-6, rfl, Or.inr ⟨sm, T, h2.1, Or.inl ⟨rfl, rfl, b, fun t ht => by rw [h3 t (by omega), if_pos y1]⟩⟩⟩
              · omega)
           | (have y1 : ¬ c = -1 := by assumption
              rcases h2.2.2 with ⟨a, _⟩ | ⟨a, b, B, b1, b2, b3⟩
              · exact absurd a y1
              · rw [if_neg (show ¬ c < 0 by omega)]
                exact zz_p1 ⟨c, rfl, Or.inr ⟨sm, T, h2.1, Or.inr ⟨a, b, rfl, B, b1, b2, fun t ht => by rw [h3 t (by omega), if_neg y1]; exact b3 t ht⟩⟩⟩))
        | (have y : ¬ T 115 1 ≤ k := by assumption
           first
           | (have y1 : c = -1 := by assumption
              exact nxt _ (by rw [if_pos y1]; exact h2.2.1 k.toNat (by omega)) (by omega))
           | (have y1 : ¬ c = -1 := by assumption
              exact nxt _ (by rw [if_neg y1]) (by omega))))
  -- the loop's end
  have Lend : (S 4 0 ≤ 5 ∧ S 115 12 * S 115 13 ≤ 25) → ∀ (s c : Int) (u3 : Option qq_V) (T : qq_S), yy_F S T c → (s = -1 ∨ (s = 0 ∧ S 4 0 = 0)) → qq_p xs 28 (mm_mr mm_m159) (mm_mk mm_m159) (fun r S2 => zz_p (∃ v, r = some v ∧ yy_Rm S S2 v) = 1) 75 [some (.inr (115, none)), some (.inl c), some (.inl s), u3] [] T := by
    intro sm s c u3 T h hs
    have t1 : T 115 1 = S 4 0 := by rw [h.1.2 1 (by omega)]; omega
    refine qq_fsound hxs (sp_74_ok hxs 7) [207, 88] 300 ?_
    repeat' first | apply And.intro | intro _ | (simp only [qq_tab]) | (simp only [qq_pl])
    all_goals (
      first
      | omega
      | (exfalso; omega)
      | exact L3 sm (S 4 0 + 1).toNat 0 c _ T (by omega) (by omega) h (fun t ht => by omega))
  -- the points are kept
  have L1 : (S 4 0 ≤ 5 ∧ S 115 12 * S 115 13 ≤ 25) → ∀ (k9 : Nat) (k : Int) (u2 u3 : Option qq_V) (T : qq_S), S 4 0 - k < (k9 : Int) → (0 ≤ k ∧ k ≤ S 4 0) → (∀ a : Nat, ¬ a = 126 → T a = S a) → (∀ t : Nat, (t : Int) < k → T 126 t = S 123 t) → qq_p xs 28 (mm_mr mm_m159) (mm_mk mm_m159) (fun r S2 => zz_p (∃ v, r = some v ∧ yy_Rm S S2 v) = 1) 31 [some (.inr (115, none)), some (.inl k), u2, u3] [] T := by
    intro sm k9
    induction k9 with
    | zero =>
      intro k u2 u3 T hm h1 h2 h3
      exfalso
      omega
    | succ k9 ih =>
      intro k u2 u3 T hm h1 h2 h3
      have z := hz sm.1 sm.2
      have m5 := z.2.2.1.1
      have t1 : T 115 1 = S 4 0 := by rw [h2 115 (by omega)]; omega
      have t124 : T 124 = S 124 := h2 124 (by omega)
      have t123 : T 123 = S 123 := h2 123 (by omega)
      have T1a : ∀ j : Nat, qq_u (qq_u T 128 0 0) 123 0 (if T 124 0 = 0 then -1 else T 126 0) 123 j = if j = 0 then (if S 124 0 = 0 then -1 else T 126 0) else S 123 j := fun j => by rw [qq_uat, qq_ueq (by decide), t124, t123]
      have T1b : ∀ j : Nat, qq_u (qq_u T 128 0 0) 123 0 (if T 124 0 = 0 then -1 else T 126 0) 128 j = if j = 0 then 0 else T 128 j := fun j => by rw [qq_ueq (by decide), qq_uat]
      have T1c : ∀ a : Nat, ¬ a = 123 → ¬ a = 128 → qq_u (qq_u T 128 0 0) 123 0 (if T 124 0 = 0 then -1 else T 126 0) a = T a := fun a g1 g2 => by rw [qq_ueq g1, qq_ueq g2]
      have fm : yy_fm S (qq_u (qq_u T 128 0 0) 123 0 (if T 124 0 = 0 then -1 else T 126 0)) := ⟨fun a g1 g2 g3 g4 g5 g6 => by rw [T1c a g3 g6]; exact h2 a g4, fun j hj => by rw [T1c 115 (by decide) (by decide), h2 115 (by omega)]⟩
      refine qq_fsound hxs (sp_74_ok hxs 7) [31, 75] 300 ?_
      repeat' first | apply And.intro | intro _ | (simp only [qq_tab]) | (simp only [qq_pl])
      all_goals (
        first
        | omega
        | (show qq_in (T 124 0); rw [t124]; exact h124)
        | (show -2147483648 ≤ T 124 0; rw [t124]; exact h124.1)
        | (show T 124 0 ≤ 2147483647; rw [t124]; exact h124.2)
        | (have y : ¬ T 115 1 ≤ k := by assumption
           refine ih (k + 1) u2 u3 _ (by omega) (by omega) (fun a ha => by rw [qq_ueq ha]; exact h2 a ha) (fun t ht => ?_)
           rw [qq_uat]
           by_cases e : t = k.toNat
           · rw [if_pos e, e, t123]
           · rw [if_neg e]; exact h3 t (by omega))
        | (have y : T 115 1 ≤ k := by assumption
           have h26 : ∀ t : Nat, (t : Int) < S 4 0 → qq_u (qq_u T 128 0 0) 123 0 (if T 124 0 = 0 then -1 else T 126 0) 126 t = S 123 t := fun t ht => by rw [T1c 126 (by decide) (by decide)]; exact h3 t (by omega)
           first
           | (have y0 : T 115 1 = 0 := by assumption
              have n0 : S 4 0 = 0 := by omega
              have q := yy_n0 hN n0
              refine Lend sm 0 0 _ (qq_u (qq_u T 128 0 0) 123 0 (if T 124 0 = 0 then -1 else T 126 0)) ⟨fm, h26, Or.inr ⟨by omega, by omega, S 123, ⟨(q _).1, fun Q _ => Or.inr ⟨by rw [(q _).2, (q Q).2], fun ⟨j, j1, _⟩ => by omega⟩⟩, (q _).2, fun t ht => by omega⟩⟩ (Or.inr ⟨rfl, n0⟩))
           | (have y0 : ¬ T 115 1 = 0 := by assumption
              have np : 0 < S 4 0 := by omega
              have z0 := z.2.2.2 0 (by omega)
              have b0 : T 126 0 = S 123 0 := h3 0 (by omega)
              have V0 : yy_V S (qq_u (qq_u T 128 0 0) 123 0 (if T 124 0 = 0 then -1 else T 126 0)) (-1) 0 := by
                refine ⟨fm, fun t ht => ⟨h26 t ht, ?_⟩, fun j hj => by omega, fun _ => ?_, Or.inl ⟨rfl, fun Q hQ => ?_⟩⟩
                · rw [T1a]
                  have zt := z.2.2.2 t ht
                  by_cases e : t = 0
                  · rw [if_pos e]
                    split <;> omega
                  · rw [if_neg e]; exact zt.2.2
                · rw [show Int.toNat 0 = 0 from rfl, T1a, T1b, if_pos rfl, if_pos rfl]
                  refine ⟨?_, Or.inl rfl⟩
                  by_cases e : S 124 0 = 0
                  · rw [if_pos e]
                    exact Or.inl ⟨e, by omega, by have := Int.mul_pos (show 0 < S 115 12 by omega) (show 0 < S 115 13 by omega); omega⟩
                  · rw [if_neg e]
                    exact Or.inr ⟨z0.1.resolve_left e, b0⟩
                · have q0 := hQ.1 0 (by omega)
                  rintro (w | ⟨j, j1, j2, j3⟩)
                  · omega
                  · have ej : j = 0 := by omega
                    rw [ej] at j3
                    unfold yy_tr at j3
                    rw [T1a, T1b, if_pos rfl, if_pos rfl] at j3
                    by_cases e : S 124 0 = 0
                    · rw [if_pos e] at j3
                      omega
                    · rw [if_neg e] at j3
                      have := q0.2.2.resolve_left e
                      rcases j3 with j3 | j3
                      · omega
                      · rcases j3.2.2 with w | w
                        · exact e w
                        · omega
              exact yy_core hxs _ z (S 4 0 - 1).toNat (yy_rem S (qq_u (qq_u T 128 0 0) 123 0 (if T 124 0 = 0 then -1 else T 126 0)) 0 + 1).toNat 0 (-1) _ _ (by omega) (by omega) (hr _) V0 (fun c2 q3 U V2 _ => Lend sm (0 - 1) c2 q3 U (yy_V_F V2) (Or.inl (by omega))))))
  have h : qq_p xs 28 (mm_mr mm_m159) (mm_mk mm_m159) (fun r S2 => zz_p (∃ v, r = some v ∧ yy_Rm S S2 v) = 1) 0 (qq_ent mm_m159 [.inr (115, none)]) [] S := by
    refine qq_fsound hxs (sp_74_ok hxs 7) [31] 300 ?_
    repeat' first | apply And.intro | intro _ | (simp only [qq_tab]) | (simp only [qq_pl])
    all_goals (
      first
      | omega
      | (unfold qq_in; omega)
      | (rw [if_pos (show (-5 : Int) < 0 by omega)]
         exact zz_p1 ⟨-5, rfl, Or.inl ⟨by omega, rfl, rfl⟩⟩)
      | exact L1 (by omega) (S 4 0 + 1).toNat 0 _ _ S (by omega) (by omega) (fun _ _ => rfl) (fun t ht => by omega))
  obtain ⟨r, S2, hE, e⟩ := qq_call_of (y := 159) rfl (Nat.le_of_ble_eq_true rfl) h
  obtain ⟨v, v1, v2⟩ := zz_pi1.mp e
  rw [v1] at hE
  exact ⟨v, S2, hE, v2⟩
