/-! One turn of the reference's loop. -/
theorem yy_vM_q {S : qq_S} (hN : zz_N S) {P Q : Nat → Int} (h : ∀ t : Nat, (t : Int) < S 4 0 → P t = Q t) : zz_vM (yy_sp S P) = zz_vM (yy_sp S Q) := by
  have gb := hN.1.1
  have gn := zz_N_nb hN
  have c : ∀ a : Nat, (a : Int) < S 4 0 → zz_mx (yy_sp S P) a = zz_mx (yy_sp S Q) a ∧ zz_my (yy_sp S P) a = zz_my (yy_sp S Q) a := fun a ha => by
    unfold zz_mx zz_my
    rw [yy_sp1, yy_sp1, yy_sp0 (by decide), yy_sp0 (by decide), h a ha]
    exact ⟨rfl, rfl⟩
  have m : ∀ e : Nat, e < (S 4 2).toNat → ((S 120 e).toNat : Int) < S 4 0 ∧ ((S 121 e).toNat : Int) < S 4 0 := fun e he => by
    have := zz_N_me hN (e := e) (by omega)
    omega
  have s120 : ∀ R : Nat → Int, yy_sp S R 120 = S 120 := fun R => yy_sp0 (by decide)
  have s121 : ∀ R : Nat → Int, yy_sp S R 121 = S 121 := fun R => yy_sp0 (by decide)
  unfold zz_vM
  rw [yy_sp0 (show ¬ 4 = 123 by decide), yy_sp0 (show ¬ 4 = 123 by decide), s120, s121, s120, s121, yy_sp1, yy_sp1, yy_sp0 (show ¬ 115 = 123 by decide), yy_sp0 (show ¬ 115 = 123 by decide)]
  refine zz_vd_c (fun a ha => ?_) (fun _ a b ha hb => ?_) (fun _ _ e he => ?_) (fun _ _ _ e he => ?_) (fun _ _ _ e s he hs => ?_) (fun _ _ _ _ e f he hf => ?_) (fun _ _ _ _ s hs => ?_)
  · rw [h a (by omega)]
  · unfold zz_msm
    rw [yy_sp1, yy_sp1, h a (by omega), h b (by omega)]
  · unfold zz_mstr
    rw [s120, s121, s120, s121, (c _ (m e he).1).1, (c _ (m e he).1).2, (c _ (m e he).2).1, (c _ (m e he).2).2]
  · unfold zz_sho
    rw [zz_ln_c (c _ (m e he).1) (c _ (m e he).2)]
  · unfold zz_cov
    rw [zz_lies_c (c _ (m e he).1) (c _ (m e he).2) (c s (by omega))]
  · unfold zz_mmt
    rw [s120, s121, s120, s121, zz_meet_c (c _ (m e he).1) (c _ (m e he).2) (c _ (m f hf).1) (c _ (m f hf).2)]
  · unfold zz_mtr
    rw [yy_sp0 (show ¬ 25 = 123 by decide), yy_sp0 (show ¬ 25 = 123 by decide), yy_sp0 (show ¬ 26 + 1 + s = 123 by omega), yy_sp0 (show ¬ 26 + 1 + s = 123 by omega)]
    rw [zz_mrt_c (f := fun i => zz_mdr (zz_mx (yy_sp S P)) (zz_my (yy_sp S P)) s (S (26 + 1 + s) i).toNat) (g := fun i => zz_mdr (zz_mx (yy_sp S Q)) (zz_my (yy_sp S Q)) s (S (26 + 1 + s) i).toNat) (fun i hi => by
      have gd := gn.2.2.1 s (by omega)
      have r := gd.2.2 i (by omega)
      exact zz_mdr_c (c s (by omega)) (c _ (by omega)))]
theorem yy_wS_fr (S : qq_S) : (∀ a : Nat, ¬ a = 122 → ¬ a = 115 → zz_wS S a = S a) ∧ (∀ j : Nat, ¬ j = 11 → ¬ j = 21 → ¬ j = 22 → zz_wS S 115 j = S 115 j) := by
  have f := zz_rgs_fr S (if (zz_vM S).1 = 7 then (zz_vM S).2.1 + 1 else if (zz_vM S).1 = 0 then S 4 0 else 0).toNat
  unfold zz_wS
  refine ⟨fun a h1 h2 => ?_, fun j h1 h2 h3 => ?_⟩
  · rw [qq_ueq h2, qq_ueq h2]; exact f.1 a h1 h2
  · rw [qq_uat, if_neg h3, qq_uat, if_neg h2]; exact f.2 j h1
def yy_V (S T : qq_S) (c s : Int) : Prop := yy_fm S T ∧ (∀ t : Nat, (t : Int) < S 4 0 → T 126 t = S 123 t ∧ -1 ≤ T 123 t ∧ T 123 t ≤ 63) ∧ (∀ j : Nat, (j : Int) < s → 0 ≤ T 123 j ∧ T 123 j < S 115 12 * S 115 13 ∧ (S 124 j = 0 ∨ T 123 j = S 123 j) ∧ yy_tr S T j ∧ (T 128 j = 0 ∨ T 128 j = 1)) ∧ (0 ≤ s → ((S 124 s.toNat = 0 ∧ -1 ≤ T 123 s.toNat ∧ T 123 s.toNat < S 115 12 * S 115 13) ∨ (S 124 s.toNat = 1 ∧ T 123 s.toNat = S 123 s.toNat)) ∧ (T 128 s.toNat = 0 ∨ T 128 s.toNat = 1)) ∧ yy_A S T c s
def yy_rem (S T : qq_S) (s : Int) : Int := if S 124 s.toNat = 0 then S 115 12 * S 115 13 - T 123 s.toNat else 2 - T 128 s.toNat
/-- the ground of the reference's search -/
def yy_Z (S : qq_S) : Prop := zz_N S ∧ S 4 0 ≤ 5 ∧ yy_mt5 S ∧ (∀ t : Nat, (t : Int) < S 4 0 → (S 124 t = 0 ∨ S 124 t = 1) ∧ (S 124 t = 1 → 0 ≤ S 123 t ∧ S 123 t < S 115 12 * S 115 13) ∧ -1 ≤ S 123 t ∧ S 123 t ≤ 63)
/-- a step was made at s -/
def yy_st (S T U : qq_S) (s : Int) : Prop := yy_fm S U ∧ (∀ j : Nat, ¬ j = s.toNat → U 123 j = T 123 j ∧ U 128 j = T 128 j) ∧ U 126 = T 126 ∧ U 127 = T 127 ∧ ((S 124 s.toNat = 0 ∧ U 123 s.toNat = T 123 s.toNat + 1 ∧ U 128 s.toNat = T 128 s.toNat) ∨ (¬ S 124 s.toNat = 0 ∧ U 123 s.toNat = T 123 s.toNat ∧ T 128 s.toNat = 0 ∧ U 128 s.toNat = 1)) ∧ (0 ≤ U 123 s.toNat ∧ U 123 s.toNat < S 115 12 * S 115 13)
theorem yy_st_rem {S T U : qq_S} {s : Int} (h : yy_st S T U s) : yy_rem S U s < yy_rem S T s := by
  unfold yy_rem
  rcases h.2.2.2.2.1 with ⟨a, b, _⟩ | ⟨a, b, c, d⟩
  · rw [if_pos a, if_pos a]; omega
  · rw [if_neg a, if_neg a]; omega
/-- back at the loop's head with what is behind s and its point -/
theorem yy_V_same {S T U W : qq_S} {c c2 s : Int} (z : yy_Z S) (hs : 0 ≤ s ∧ s < S 4 0) (v : yy_V S T c s) (st : yy_st S T U s) (fw : yy_fm S W) (w1 : W 123 = U 123) (w2 : W 126 = U 126) (w3 : W 128 = U 128) (a : yy_A S W c2 s) : yy_V S W c2 s := by
  obtain ⟨v1, v2, v3, v4, v5⟩ := v
  obtain ⟨s1, s2, s3, s4, s5, s6⟩ := st
  have zt := z.2.2.2 s.toNat (by omega)
  have m5 := z.2.2.1.1
  refine ⟨fw, fun t ht => ?_, fun j hj => ?_, fun _ => ?_, a⟩
  · rw [w1, w2, s3]
    refine ⟨(v2 t ht).1, ?_⟩
    by_cases e : t = s.toNat
    · rw [e]; omega
    · rw [(s2 t e).1]; exact (v2 t ht).2
  · have v3 := v3 j hj
    unfold yy_tr at v3 ⊢
    rw [w1, w3, (s2 j (by omega)).1, (s2 j (by omega)).2]
    exact v3
  · rw [w1, w3]
    have v4 := v4 hs.1
    refine ⟨?_, ?_⟩
    · rcases s5 with ⟨a, b, _⟩ | ⟨a, b, _⟩
      · exact Or.inl ⟨a, by omega, s6.2⟩
      · refine Or.inr ⟨zt.1.resolve_left a, ?_⟩
        rw [b]
        rcases v4.1 with x | x
        · exact absurd x.1 a
        · exact x.2
    · rcases s5 with ⟨_, _, b⟩ | ⟨_, _, _, b⟩
      · rw [b]; exact v4.2
      · exact Or.inr b
theorem yy_st_d1 {S T U W : qq_S} {s : Int} (hs : 0 ≤ s ∧ s < S 4 0) (st : yy_st S T U s) (w1 : W 123 = U 123) (w3 : W 128 = U 128) {Q : Nat → Int} : yy_dn9 S W s Q ↔ yy_dn9 S T s Q ∨ ∀ j : Nat, (j : Int) ≤ s → Q j = U 123 j := by
  have k := yy_d1 (S := S) (T := T) (U := W) hs (fun j hj => by rw [w1]; exact (st.2.1 j (by omega)).1) (by
    rw [w1, w3]
    rcases st.2.2.2.2.1 with ⟨a, b, _⟩ | x
    · exact Or.inl ⟨a, b⟩
    · exact Or.inr x) (Q := Q)
  rw [w1] at k
  exact k
set_option maxRecDepth 20000 in
theorem yy_b1 {xs : List Int32} (hxs : xs.length ≤ 2048) (K : qq_K) (s c : Int) (k3 : Option qq_V) (T : qq_S) (h : qq_p xs 28 (mm_mr mm_m159) (mm_mk mm_m159) K 100 [some (.inr (115, none)), some (.inl c), some (.inl s), k3] [] T) : qq_p xs 28 (mm_mr mm_m159) (mm_mk mm_m159) K 91 [some (.inr (115, none)), some (.inl c), some (.inl s), k3] [.inl 1] T := by
  refine qq_fsound hxs (sp_74_ok hxs 7) [100, 75] 300 ?_
  repeat' first | apply And.intro | intro _
  all_goals (first | omega | exact h)
set_option maxRecDepth 20000 in
theorem yy_b0 {xs : List Int32} (hxs : xs.length ≤ 2048) (K : qq_K) (s c : Int) (k3 : Option qq_V) (T : qq_S) (h : qq_p xs 28 (mm_mr mm_m159) (mm_mk mm_m159) K 75 [some (.inr (115, none)), some (.inl c), some (.inl (s - 1)), k3] [] T) : qq_p xs 28 (mm_mr mm_m159) (mm_mk mm_m159) K 91 [some (.inr (115, none)), some (.inl c), some (.inl s), k3] [.inl 0] T := by
  rw [show s - 1 = s + -1 by omega] at h
  refine qq_fsound hxs (sp_74_ok hxs 7) [100, 75] 300 ?_
  repeat' first | apply And.intro | intro _
  all_goals (first | omega | exact h)
set_option maxRecDepth 20000 in
theorem yy_b2 {xs : List Int32} (hxs : xs.length ≤ 2048) (K : qq_K) (s c : Int) (k3 : Option qq_V) (T : qq_S) (hs : 0 ≤ s ∧ s < 10) (hn : 0 < T 115 1 ∧ T 115 1 ≤ 10) (h : qq_p xs 28 (mm_mr mm_m159) (mm_mk mm_m159) K 88 [some (.inr (115, none)), some (.inl c), some (.inl s), k3] [.inl s, .inr (115, none)] T) : qq_p xs 28 (mm_mr mm_m159) (mm_mk mm_m159) K 75 [some (.inr (115, none)), some (.inl c), some (.inl s), k3] [] T := by
  refine qq_fsound hxs (sp_74_ok hxs 7) [88, 205] 300 ?_
  repeat' first | apply And.intro | intro _
  all_goals (first | omega | exact h)
theorem yy_st_fr {S T U W : qq_S} {s : Int} (hs : 0 ≤ s) (st : yy_st S T U s) (w1 : W 123 = U 123) (w3 : W 128 = U 128) : (∀ j : Nat, (j : Int) < s → W 123 j = T 123 j ∧ W 128 j = T 128 j) ∧ yy_rem S W s < yy_rem S T s := by
  refine ⟨fun j hj => by rw [w1, w3]; exact st.2.1 j (by omega), ?_⟩
  have := yy_st_rem st
  unfold yy_rem at this ⊢
  rw [w1, w3]
  exact this
theorem yy_st_N {S T U : qq_S} {s : Int} (hN : zz_N S) (st : yy_st S T U s) : zz_N U := yy_fm_N st.1 hN
/-- the step's drawing, all placed -/
theorem yy_st_Dm {S T U : qq_S} {c s : Int} (z : yy_Z S) (hs : 0 ≤ s ∧ s + 1 = S 4 0) (v : yy_V S T c s) (st : yy_st S T U s) (hv : (zz_vM U).1 = 0) : yy_Dm S (U 123) := by
  refine ⟨fun t ht => ?_, ?_⟩
  · by_cases e : t = s.toNat
    · rw [e]
      refine ⟨st.2.2.2.2.2.1, st.2.2.2.2.2.2, ?_⟩
      rcases st.2.2.2.2.1 with ⟨a, _⟩ | ⟨a, b, _⟩
      · exact Or.inl a
      · refine Or.inr ?_
        rw [b]
        rcases (v.2.2.2.1 hs.1).1 with x | x
        · exact absurd x.1 a
        · exact x.2
    · have k := v.2.2.1 t (by omega)
      rw [(st.2.1 t e).1]
      exact ⟨k.1, k.2.1, k.2.2.1⟩
  · rw [← zz_cM_vM (yy_fm_sp st.1) (yy_sp_N z.1 _)]
    exact hv
theorem yy_st_mall {S T U : qq_S} {c s : Int} (z : yy_Z S) (hs : 0 ≤ s ∧ s + 1 = S 4 0) (v : yy_V S T c s) (st : yy_st S T U s) : zz_mall U := by
  have w := z.2.2.1.1
  have f4 : U 4 = S 4 := st.1.1 4 (by omega) (by omega) (by omega) (by omega) (by omega) (by omega)
  refine ⟨by rw [st.1.2 12 (by omega)]; omega, fun t ht => ?_⟩
  rw [f4] at ht
  by_cases e : t = s.toNat
  · rw [e]; have := st.2.2.2.2.2; omega
  · have k := v.2.2.1 t (by omega)
    rw [(st.2.1 t e).1]; omega
set_option maxRecDepth 20000 in
theorem yy_leaf {xs : List Int32} (hxs : xs.length ≤ 2048) (K : qq_K) {S : qq_S} (z : yy_Z S) (s c : Int) (k3 : Option qq_V) (T U : qq_S) (hs : 0 ≤ s ∧ s + 1 = S 4 0) (v : yy_V S T c s) (st : yy_st S T U s)
    (H2 : ∀ (c2 : Int) (q3 : Option qq_V) (U : qq_S), yy_V S U c2 s → (∀ j : Nat, (j : Int) < s → U 123 j = T 123 j ∧ U 128 j = T 128 j) → yy_rem S U s < yy_rem S T s → qq_p xs 28 (mm_mr mm_m159) (mm_mk mm_m159) K 75 [some (.inr (115, none)), some (.inl c2), some (.inl s), q3] [] U) : qq_p xs 28 (mm_mr mm_m159) (mm_mk mm_m159) K 146 [some (.inr (115, none)), some (.inl c), some (.inl s), k3] [] U := by
  have hN := z.1
  have m5 := z.2.2.1
  have gb := hN.1.1
  have uN := yy_st_N hN st
  have mal := yy_st_mall z hs v st
  have fW := yy_wS_fr U
  have w4 : zz_wS U 4 = U 4 := fW.1 4 (by omega) (by omega)
  have u4 : U 4 = S 4 := st.1.1 4 (by omega) (by omega) (by omega) (by omega) (by omega) (by omega)
  have cW := zz_cI_wS U
  have wN : zz_N (zz_wS U) := zz_N_c (zz_cI_N cW) uN
  have wM : zz_mall (zz_wS U) := by
    unfold zz_mall
    rw [fW.1 123 (by omega) (by omega), fW.2 12 (by omega) (by omega) (by omega), w4]; exact mal
  have fmW : yy_fm S (zz_wS U) := ⟨fun a h1 h2 h3 h4 h5 h6 => by rw [fW.1 a h2 h1]; exact st.1.1 a h1 h2 h3 h4 h5 h6, fun j hj => by rw [fW.2 j (by omega) (by omega) (by omega)]; exact st.1.2 j hj⟩
  have w123 : zz_wS U 123 = U 123 := fW.1 123 (by omega) (by omega)
  have w126 : zz_wS U 126 = U 126 := fW.1 126 (by omega) (by omega)
  have w127 : zz_wS U 127 = T 127 := by rw [fW.1 127 (by omega) (by omega)]; exact st.2.2.2.1
  have w128 : zz_wS U 128 = U 128 := fW.1 128 (by omega) (by omega)
  have mc : zz_mcst (zz_wS U) = yy_cm S (U 123) := by
    rw [(zz_cI_mc cW).2.2.2]
    exact zz_cM_mc (yy_fm_sp st.1)
  have vb := zz_vM_bd uN
  have t5 := m5.2
  have mb := zz_mcst_bd wN wM (by rw [fmW.2 15 (by omega)]; omega) (by rw [fmW.2 16 (by omega)]; omega) (by rw [fmW.2 17 (by omega)]; omega)
  have cb : -1 ≤ c ∧ c ≤ 1000000 := by
    rcases v.2.2.2.2 with ⟨a, _⟩ | ⟨a, b, _⟩
    · omega
    · omega
  have mpt : zz_mpt U := ⟨mal.1, by rw [st.1.2 14 (by omega)]; omega, fun i hi => by have := mal.2 i hi; omega⟩
  have d1 : ∀ (W : qq_S), W 123 = U 123 → W 128 = U 128 → ∀ Q, yy_dn9 S W s Q ↔ yy_dn9 S T s Q ∨ ∀ j : Nat, (j : Int) ≤ s → Q j = U 123 j := fun W h1 h2 Q => yy_st_d1 (by omega) st h1 h2
  have back : ∀ q3 : Option qq_V, (∀ Q, yy_Dm S Q → (∀ j : Nat, (j : Int) ≤ s → Q j = U 123 j) → ¬ c = -1 ∧ c ≤ yy_cm S Q) → qq_p xs 28 (mm_mr mm_m159) (mm_mk mm_m159) K 75 [some (.inr (115, none)), some (.inl c), some (.inl s), q3] [] (zz_wS U) := fun q3 hn => by
    have A := yy_A_more (U := zz_wS U) (s2 := s) v.2.2.2.2 (fun t _ => by rw [w127]) (fun Q _ => d1 _ w123 w128 Q) hn
    have k := yy_st_fr hs.1 st w123 w128
    exact H2 c q3 _ (yy_V_same z (by omega) v st fmW w123 w126 w128 A) k.1 k.2
  -- the copy of a better one
  have L : (zz_vM U).1 = 0 → (c = -1 ∨ yy_cm S (U 123) < c) → ∀ (k9 : Nat) (k : Int) (W : qq_S), S 4 0 - k < (k9 : Int) → (0 ≤ k ∧ k ≤ S 4 0) → (∀ a : Nat, ¬ a = 127 → W a = zz_wS U a) → (∀ t : Nat, (t : Int) < k → W 127 t = U 123 t) → qq_p xs 28 (mm_mr mm_m159) (mm_mk mm_m159) K 176 [some (.inr (115, none)), some (.inl (yy_cm S (U 123))), some (.inl s), some (.inl k)] [] W := by
    intro hv hc k9
    induction k9 with
    | zero =>
      intro k W hm h1 h2 h3
      exfalso
      omega
    | succ k9 ih =>
      intro k W hm h1 h2 h3
      have x1 : W 115 1 = S 4 0 := by rw [h2 115 (by omega), fmW.2 1 (by omega)]; omega
      have x123 : W 123 = U 123 := by rw [h2 123 (by omega)]; exact w123
      refine qq_fsound hxs (sp_74_ok hxs 7) [176, 75] 300 ?_
      repeat' first | apply And.intro | intro _ | (simp only [qq_tab]) | (simp only [qq_pl])
      all_goals (
        first
        | omega
        | (have y : W 115 1 ≤ k := by assumption
           have x128 : W 128 = U 128 := by rw [h2 128 (by omega)]; exact w128
           have fm : yy_fm S W := ⟨fun a h4 h5 h6 h7 h8 h9 => by rw [h2 a h8]; exact fmW.1 a h4 h5 h6 h7 h8 h9, fun j hj => by rw [h2 115 (by omega)]; exact fmW.2 j hj⟩
           have A := yy_A_new (U := W) (s2 := s) hN m5 v.2.2.2.2 (yy_st_Dm z hs v st hv) hc (fun t ht => h3 t (by omega)) (fun Q _ => by
             rw [d1 W x123 x128 Q]
             exact ⟨fun y => y.elim Or.inl (fun y => Or.inr (fun t ht => y t (by omega))), fun y => y.elim Or.inl (fun y => Or.inr (fun t ht => y t (by omega)))⟩) (fun Q hQ y => by
             rintro ⟨q, q1, q2, q3⟩
             exact y (Or.inr ⟨q, by omega, fun i hi => by rw [x123]; exact q2 i hi, Or.inl (by rw [x123]; exact q3)⟩))
           have k := yy_st_fr hs.1 st x123 x128
           exact H2 _ _ W (yy_V_same z (by omega) v st fm x123 (by rw [h2 126 (by omega)]; exact w126) x128 A) k.1 k.2)
        | (have y : ¬ W 115 1 ≤ k := by assumption
           refine ih (k + 1) _ (by omega) (by omega) (fun a ha => by rw [qq_ueq ha]; exact h2 a ha) (fun t ht => ?_)
           rw [qq_uat]
           by_cases e : t = k.toNat
           · rw [if_pos e, x123, e]
           · rw [if_neg e]; exact h3 t (by omega)))
  refine qq_fsound hxs (sp_74_ok hxs 7) [75, 176] 300 ?_
  repeat' first | apply And.intro | intro _ | (simp only [qq_tab]) | (simp only [qq_pl])
  all_goals (
    first
    | omega
    | exact zz_p1 uN
    | exact zz_p1 mpt
    | exact zz_p1 wN
    | exact zz_p1 wM
    | (have y : ¬ (zz_vM U).1 = 0 := by assumption
       refine back _ (fun Q hQ e => ?_)
       exfalso
       apply y
       have e2 := yy_vM_q hN (P := Q) (Q := U 123) (fun t ht => e t (by omega))
       rw [zz_cM_vM (yy_fm_sp st.1) (yy_sp_N hN _), ← e2]
       exact hQ.2)
    | (have y : (zz_vM U).1 = 0 := by assumption
       first
       | (have y1 : ¬ c = -1 := by assumption
          have y2 : ¬ zz_mcst (zz_wS U) < c := by assumption
          refine back _ (fun Q hQ e => ⟨y1, ?_⟩)
          rw [yy_cm_q hN (P := Q) (Q := U 123) (fun t ht => e t (by omega)), ← mc]
          omega)
       | (have y1 : c = -1 := by assumption
          rw [mc]
          exact L y (Or.inl y1) (S 4 0 + 1).toNat 0 _ (by omega) (by omega) (fun _ _ => rfl) (fun t ht => by omega))
       | (have y2 : zz_mcst (zz_wS U) < c := by assumption
          rw [mc] at y2 ⊢
          exact L y (Or.inr y2) (S 4 0 + 1).toNat 0 _ (by omega) (by omega) (fun _ _ => rfl) (fun t ht => by omega))))
set_option maxRecDepth 20000 in
theorem yy_turn {xs : List Int32} (hxs : xs.length ≤ 2048) (K : qq_K) {S : qq_S} (z : yy_Z S) (s c : Int) (k3 : Option qq_V) (T U : qq_S) (hs : 0 ≤ s ∧ s < S 4 0) (v : yy_V S T c s) (st : yy_st S T U s)
    (H2 : ∀ (c2 : Int) (q3 : Option qq_V) (U : qq_S), yy_V S U c2 s → (∀ j : Nat, (j : Int) < s → U 123 j = T 123 j ∧ U 128 j = T 128 j) → yy_rem S U s < yy_rem S T s → qq_p xs 28 (mm_mr mm_m159) (mm_mk mm_m159) K 75 [some (.inr (115, none)), some (.inl c2), some (.inl s), q3] [] U)
    (H3 : s + 1 < S 4 0 → ∀ (q3 : Option qq_V) (U : qq_S), yy_V S U c (s + 1) → (∀ j : Nat, (j : Int) < s → U 123 j = T 123 j ∧ U 128 j = T 128 j) → yy_rem S U s < yy_rem S T s → qq_p xs 28 (mm_mr mm_m159) (mm_mk mm_m159) K 75 [some (.inr (115, none)), some (.inl c), some (.inl (s + 1)), q3] [] U) : qq_p xs 28 (mm_mr mm_m159) (mm_mk mm_m159) K 100 [some (.inr (115, none)), some (.inl c), some (.inl s), k3] [] U := by
  have hN := z.1
  have m5 := z.2.2.1
  have gb := hN.1.1
  have uN := yy_st_N hN st
  have w := m5.1
  have t5 := m5.2
  have u4 : U 4 = S 4 := st.1.1 4 (by omega) (by omega) (by omega) (by omega) (by omega) (by omega)
  have u40 : U 4 0 = S 4 0 := by rw [u4]
  have u1 : U 115 1 = S 4 0 := by rw [st.1.2 1 (by omega)]; omega
  have ml : yy_ml U s := by
    refine ⟨by rw [st.1.2 12 (by omega)]; omega, by rw [st.1.2 14 (by omega)]; omega, fun t ht => ?_⟩
    by_cases e : t = s.toNat
    · rw [e]; have := st.2.2.2.2.2; omega
    · have k := v.2.2.1 t (by omega)
      rw [(st.2.1 t e).1]; omega
  have cb : -1 ≤ c ∧ c ≤ 1000000 := by
    rcases v.2.2.2.2 with ⟨a, _⟩ | ⟨a, b, _⟩
    · omega
    · omega
  have ctb : -1000000 ≤ zz_sum (yy_ct U s) (U 4 2).toNat ∧ zz_sum (yy_ct U s) (U 4 2).toNat ≤ 1000000 := by
    have g2 := hN.2.2.1.1
    have q := zz_sum_bd (f := yy_ct U s) (n := (U 4 2).toNat) (a := 0) (b := 20000) (fun e he => by
      rw [u4] at he
      have m := zz_N_me uN (e := e) (by rw [u4]; omega)
      have tb := zz_ap_bd (zz_mdr_bd (zz_mx U) (zz_my U) (U 120 e).toNat (U 121 e).toNat) (zz_td_bd (U 116 (U 121 e).toNat - U 116 (U 120 e).toNat) (U 117 (U 121 e).toNat - U 117 (U 120 e).toNat))
      unfold yy_ct
      rw [st.1.2 16 (by omega), st.1.2 14 (by omega), st.1.2 17 (by omega)]
      split
      · have := zz_mb2 (show 0 ≤ S 115 16 ∧ S 115 16 ≤ 100 by omega) (show 0 ≤ S 115 14 ∧ S 115 14 ≤ 100 by omega)
        omega
      · have lb := zz_mln (yy_ml_ok ml (by omega) (a := U 120 e) (by omega) (by omega)) (yy_ml_ok ml (by omega) (a := U 121 e) (by omega) (by omega))
        have m1 := zz_mb2 (show 0 ≤ S 115 16 ∧ S 115 16 ≤ 100 by omega) lb
        have m2 := zz_mb2 (show 0 ≤ S 115 17 ∧ S 115 17 ≤ 100 by omega) tb
        have e9 : zz_mtrn U e = zz_ap (zz_mdr (zz_mx U) (zz_my U) (U 120 e).toNat (U 121 e).toNat) (zz_td (U 116 (U 121 e).toNat - U 116 (U 120 e).toNat) (U 117 (U 121 e).toNat - U 117 (U 120 e).toNat)) := rfl
        rw [e9]
        omega)
    rw [u4] at q ⊢
    omega
  have back : ∀ q3 : Option qq_V, (∀ Q, yy_Dm S Q → (∀ j : Nat, (j : Int) ≤ s → Q j = U 123 j) → ¬ c = -1 ∧ c ≤ yy_cm S Q) → qq_p xs 28 (mm_mr mm_m159) (mm_mk mm_m159) K 75 [some (.inr (115, none)), some (.inl c), some (.inl s), q3] [] U := fun q3 hn => by
    have A := yy_A_more (U := U) (s2 := s) v.2.2.2.2 (fun t _ => by rw [st.2.2.2.1]) (fun Q _ => yy_st_d1 hs st rfl rfl (Q := Q)) hn
    have k := yy_st_fr hs.1 st rfl rfl
    exact H2 c q3 _ (yy_V_same z hs v st st.1 rfl rfl rfl A) k.1 k.2
  refine qq_fsound hxs (sp_74_ok hxs 7) [75, 146] 300 ?_
  repeat' first | apply And.intro | intro _ | (simp only [qq_tab]) | (simp only [qq_pl])
  all_goals (
    first
    | omega
    | exact zz_p1 uN
    | exact zz_p1 ml
    | exact (zz_pin _).1
    | exact (zz_pin _).2
    | (have y : ¬ yy_mb U s := zz_pi0.mp (by assumption)
       exact back _ (fun Q hQ e => absurd (yy_M1 hN st.1 hs hQ e) y))
    | (have y1 : ¬ c = -1 := by assumption
       have y2 : ¬ zz_sum (yy_ct U s) (U 4 2).toNat < c := by assumption
       exact back _ (fun Q hQ e => ⟨y1, by have := yy_M2 hN m5 st.1 hs hQ e; omega⟩))
    | (have y : U 115 1 ≤ s + 1 := by assumption
       exact yy_leaf hxs K z s c k3 T U (by omega) v st H2)
    | (have y : ¬ U 115 1 ≤ s + 1 := by assumption
       have zn := z.2.2.2 (s + 1).toNat (by omega)
       have e124 : U 124 = S 124 := st.1.1 124 (by omega) (by omega) (by omega) (by omega) (by omega) (by omega)
       have e126 : U 126 (s + 1).toNat = S 123 (s + 1).toNat := by rw [st.2.2.1]; exact (v.2.1 _ (by omega)).1
       first
       | omega
       | (unfold qq_in; rw [e124]; omega)
       | (rw [e124]; unfold qq_in; omega)
       | (rw [e124]; omega)
       | (have x1 : ∀ j : Nat, qq_u (qq_u U 128 (s + 1).toNat 0) 123 (s + 1).toNat (if U 124 (s + 1).toNat = 0 then -1 else U 126 (s + 1).toNat) 123 j = if j = (s + 1).toNat then (if S 124 (s + 1).toNat = 0 then -1 else S 123 (s + 1).toNat) else U 123 j := fun j => by rw [qq_uat, qq_ueq (by decide), e124, e126]
          have x2 : ∀ j : Nat, qq_u (qq_u U 128 (s + 1).toNat 0) 123 (s + 1).toNat (if U 124 (s + 1).toNat = 0 then -1 else U 126 (s + 1).toNat) 128 j = if j = (s + 1).toNat then 0 else U 128 j := fun j => by rw [qq_ueq (by decide), qq_uat]
          have x3 : ∀ a : Nat, ¬ a = 123 → ¬ a = 128 → qq_u (qq_u U 128 (s + 1).toNat 0) 123 (s + 1).toNat (if U 124 (s + 1).toNat = 0 then -1 else U 126 (s + 1).toNat) a = U a := fun a h1 h2 => by rw [qq_ueq h1, qq_ueq h2]
          have bx : -1 ≤ (if S 124 (s + 1).toNat = 0 then (-1 : Int) else S 123 (s + 1).toNat) ∧ (if S 124 (s + 1).toNat = 0 then (-1 : Int) else S 123 (s + 1).toNat) ≤ 63 := by split <;> omega
          refine H3 (by omega) _ _ ⟨⟨fun a h1 h2 h3 h4 h5 h6 => by rw [x3 a h3 h6]; exact st.1.1 a h1 h2 h3 h4 h5 h6, fun j hj => by rw [x3 115 (by decide) (by decide)]; exact st.1.2 j hj⟩, fun t ht => ?_, fun j hj => ?_, fun _ => ?_, yy_A_same v.2.2.2.2 (fun t _ => by rw [x3 127 (by decide) (by decide), st.2.2.2.1]) (fun Q hQ => yy_d2 (T := T) (by omega) (fun j hj => by rw [x1, if_neg (by omega)]; exact (st.2.1 j (by omega)).1) ?_ ?_ hQ)⟩ (fun j hj => ?_) ?_
          · rw [x1, x3 126 (by decide) (by decide), st.2.2.1]
            refine ⟨(v.2.1 t ht).1, ?_⟩
            by_cases e : t = (s + 1).toNat
            · rw [if_pos e]; exact bx
            · rw [if_neg e]
              by_cases e2 : t = s.toNat
              · rw [e2]; have := st.2.2.2.2.2; omega
              · rw [(st.2.1 t e2).1]; exact (v.2.1 t ht).2
          · unfold yy_tr
            rw [x1, x2, if_neg (by omega), if_neg (by omega)]
            by_cases e2 : j = s.toNat
            · rw [e2]
              have s6 := st.2.2.2.2.2
              have v4 := v.2.2.2.1 hs.1
              refine ⟨s6.1, s6.2, ?_, ?_, ?_⟩
              · rcases st.2.2.2.2.1 with ⟨a, _⟩ | ⟨a, b, _⟩
                · exact Or.inl a
                · refine Or.inr ?_
                  rw [b]
                  rcases v4.1 with x | x
                  · exact absurd x.1 a
                  · exact x.2
              · rcases st.2.2.2.2.1 with ⟨a, _⟩ | ⟨_, _, _, b⟩
                · exact Or.inl a
                · exact Or.inr b
              · rcases st.2.2.2.2.1 with ⟨_, _, b⟩ | ⟨_, _, _, b⟩
                · rw [b]; exact v4.2
                · exact Or.inr b
            · have k := v.2.2.1 j (by omega)
              unfold yy_tr at k
              rw [(st.2.1 j e2).1, (st.2.1 j e2).2]
              exact k
          · rw [x1, x2, if_pos rfl, if_pos rfl]
            refine ⟨?_, Or.inl rfl⟩
            by_cases e : S 124 (s + 1).toNat = 0
            · rw [if_pos e]
              exact Or.inl ⟨e, by omega, by have := Int.mul_pos (show 0 < S 115 12 by omega) (show 0 < S 115 13 by omega); omega⟩
            · rw [if_neg e]
              exact Or.inr ⟨zn.1.resolve_left e, rfl⟩
          · rw [x1, if_neg (by omega)]
            rcases st.2.2.2.2.1 with ⟨a, b, _⟩ | ⟨a, b, b2, _⟩
            · exact Or.inl ⟨a, b⟩
            · exact Or.inr ⟨a, b, b2⟩
          · rw [x1, x2, if_pos rfl, if_pos rfl]
            by_cases e : S 124 (s + 1).toNat = 0
            · rw [if_pos e]; exact Or.inl ⟨e, rfl⟩
            · rw [if_neg e]; exact Or.inr ⟨e, rfl, rfl⟩
          · rw [x1, x2, if_neg (by omega), if_neg (by omega)]
            exact st.2.1 j (by omega)
          · have y1 := (x1 s.toNat).trans (if_neg (show ¬ s.toNat = (s + 1).toNat by omega))
            have y2 := (x2 s.toNat).trans (if_neg (show ¬ s.toNat = (s + 1).toNat by omega))
            have := yy_st_rem st
            unfold yy_rem at this ⊢
            rw [y1, y2]
            exact this)))
set_option maxRecDepth 20000 in
theorem yy_iter {xs : List Int32} (hxs : xs.length ≤ 2048) (K : qq_K) {S : qq_S} (z : yy_Z S) (s c : Int) (k3 : Option qq_V) (T : qq_S) (hs : 0 ≤ s ∧ s < S 4 0) (v : yy_V S T c s)
    (H1 : ∀ (q3 : Option qq_V) (U : qq_S), yy_V S U c (s - 1) → (∀ j : Nat, (j : Int) < s → U 123 j = T 123 j ∧ U 128 j = T 128 j) → qq_p xs 28 (mm_mr mm_m159) (mm_mk mm_m159) K 75 [some (.inr (115, none)), some (.inl c), some (.inl (s - 1)), q3] [] U)
    (H2 : ∀ (c2 : Int) (q3 : Option qq_V) (U : qq_S), yy_V S U c2 s → (∀ j : Nat, (j : Int) < s → U 123 j = T 123 j ∧ U 128 j = T 128 j) → yy_rem S U s < yy_rem S T s → qq_p xs 28 (mm_mr mm_m159) (mm_mk mm_m159) K 75 [some (.inr (115, none)), some (.inl c2), some (.inl s), q3] [] U)
    (H3 : s + 1 < S 4 0 → ∀ (q3 : Option qq_V) (U : qq_S), yy_V S U c (s + 1) → (∀ j : Nat, (j : Int) < s → U 123 j = T 123 j ∧ U 128 j = T 128 j) → yy_rem S U s < yy_rem S T s → qq_p xs 28 (mm_mr mm_m159) (mm_mk mm_m159) K 75 [some (.inr (115, none)), some (.inl c), some (.inl (s + 1)), q3] [] U) :
    qq_p xs 28 (mm_mr mm_m159) (mm_mk mm_m159) K 75 [some (.inr (115, none)), some (.inl c), some (.inl s), k3] [] T := by
  obtain ⟨hN, n5, m5, zt⟩ := z
  have gb := hN.1.1
  have vv := v
  obtain ⟨v1, v2, v3, v4, v5⟩ := v
  have v4 := v4 hs.1
  have ztS := zt s.toNat (by omega)
  have t1 : T 115 1 = S 4 0 := by rw [v1.2 1 (by omega)]; omega
  have t12 : T 115 12 = S 115 12 := v1.2 12 (by omega)
  have t13 : T 115 13 = S 115 13 := v1.2 13 (by omega)
  have t124 : T 124 = S 124 := v1.1 124 (by omega) (by omega) (by omega) (by omega) (by omega) (by omega)
  have wh := m5.1
  have cb : -1 ≤ c ∧ c ≤ 1000000 := by
    rcases v5 with ⟨a, _⟩ | ⟨a, b, _⟩
    · omega
    · omega
  -- the step
  have E := f161 hxs 0 T s ⟨⟨by omega, by omega, by rw [t124]; omega, by rw [t124]; omega, by omega, by omega, (v2 s.toNat (by omega)).2.1, by have := (v2 s.toNat (by omega)).2.2; omega⟩, by omega⟩
  rw [t124, t12, t13] at E
  -- no more points here
  have pop : ∀ U : qq_S, yy_fm S U → (∀ t : Nat, (t : Int) < S 4 0 → U 126 t = T 126 t ∧ -1 ≤ U 123 t ∧ U 123 t ≤ 63) → U 127 = T 127 → (∀ j : Nat, (j : Int) < s → U 123 j = T 123 j ∧ U 128 j = T 128 j) → ((S 124 s.toNat = 0 ∧ T 123 s.toNat = S 115 12 * S 115 13 - 1) ∨ (¬ S 124 s.toNat = 0 ∧ T 123 s.toNat = S 123 s.toNat ∧ T 128 s.toNat = 1)) → yy_V S U c (s - 1) := fun U f1 f2 f3 f4 f5 => by
    refine ⟨f1, fun t ht => by rw [(f2 t ht).1]; exact ⟨(v2 t ht).1, (f2 t ht).2⟩, fun j hj => ?_, fun h0 => ?_, yy_A_same v5 (fun t _ => by rw [f3]) (fun Q hQ => yy_d3 hs f4 f5 (fun h0 => (v3 (s - 1).toNat (by omega)).2.2.2.1) hQ)⟩
    · have k := v3 j (by omega)
      unfold yy_tr at k ⊢
      rw [(f4 j (by omega)).1, (f4 j (by omega)).2]
      exact k
    · have k := v3 (s - 1).toNat (by omega)
      have z1 := zt (s - 1).toNat (by omega)
      rw [(f4 (s - 1).toNat (by omega)).1, (f4 (s - 1).toNat (by omega)).2]
      refine ⟨?_, k.2.2.2.2⟩
      rcases z1.1 with x | x
      · exact Or.inl ⟨x, by omega, k.2.1⟩
      · exact Or.inr ⟨x, k.2.2.1.resolve_left (by omega)⟩
  -- the rest of the turn, a step made
  have go : ∀ U : qq_S, yy_st S T U s → qq_p xs 28 (mm_mr mm_m159) (mm_mk mm_m159) K 100 [some (.inr (115, none)), some (.inl c), some (.inl s), k3] [] U := fun U st => by
    exact yy_turn hxs K ⟨hN, n5, m5, zt⟩ s c k3 T U hs vv st H2 H3
  refine yy_b2 hxs K s c k3 T (by omega) (by omega) ?_
  refine qq_vcall rfl E (by decide) rfl rfl rfl (Nat.le_of_ble_eq_true rfl) ?_
  by_cases e0 : S 124 s.toNat = 0
  · rw [if_pos e0, if_pos e0]
    have tb : -1 ≤ T 123 s.toNat ∧ T 123 s.toNat < S 115 12 * S 115 13 := by
      rcases v4.1 with x | x
      · exact x.2
      · omega
    have u1 : ∀ j : Nat, qq_u T 123 s.toNat (T 123 s.toNat + 1) 123 j = if j = s.toNat then T 123 s.toNat + 1 else T 123 j := fun j => qq_uat
    have u2 : ∀ a : Nat, ¬ a = 123 → qq_u T 123 s.toNat (T 123 s.toNat + 1) a = T a := fun a ha => qq_ueq ha
    have fm : yy_fm S (qq_u T 123 s.toNat (T 123 s.toNat + 1)) := ⟨fun a h1 h2 h3 h4 h5 h6 => by rw [u2 a h3]; exact v1.1 a h1 h2 h3 h4 h5 h6, fun j hj => by rw [u2 115 (by decide)]; exact v1.2 j hj⟩
    by_cases e1 : T 123 s.toNat + 1 < S 115 12 * S 115 13
    · rw [if_pos e1]
      have st : yy_st S T (qq_u T 123 s.toNat (T 123 s.toNat + 1)) s := ⟨fm, fun j hj => by rw [u1, if_neg hj, u2 128 (by decide)]; exact ⟨rfl, rfl⟩, u2 126 (by decide), u2 127 (by decide), Or.inl ⟨e0, by rw [u1, if_pos rfl], by rw [u2 128 (by decide)]⟩, by rw [u1, if_pos rfl]; omega⟩
      have G := go _ st
      exact yy_b1 hxs K s c k3 _ G
    · rw [if_neg e1]
      have V2 := pop _ fm (fun t ht => by
        rw [u1, u2 126 (by decide)]
        refine ⟨rfl, ?_⟩
        by_cases e : t = s.toNat
        · rw [if_pos e]; omega
        · rw [if_neg e]; exact (v2 t ht).2) (u2 127 (by decide)) (fun j hj => by rw [u1, if_neg (by omega), u2 128 (by decide)]; exact ⟨rfl, rfl⟩) (Or.inl ⟨e0, by omega⟩)
      have G := H1 k3 _ V2 (fun j hj => by rw [u1, if_neg (by omega), u2 128 (by decide)]; exact ⟨rfl, rfl⟩)
      exact yy_b0 hxs K s c k3 _ G
  · rw [if_neg e0, if_neg e0]
    have tb : T 123 s.toNat = S 123 s.toNat := by
      rcases v4.1 with x | x
      · exact absurd x.1 e0
      · exact x.2
    have sb := ztS.2.1 (ztS.1.resolve_left e0)
    have u1 : ∀ j : Nat, qq_u T 128 s.toNat 1 128 j = if j = s.toNat then 1 else T 128 j := fun j => qq_uat
    have u2 : ∀ a : Nat, ¬ a = 128 → qq_u T 128 s.toNat 1 a = T a := fun a ha => qq_ueq ha
    have fm : yy_fm S (qq_u T 128 s.toNat 1) := ⟨fun a h1 h2 h3 h4 h5 h6 => by rw [u2 a h6]; exact v1.1 a h1 h2 h3 h4 h5 h6, fun j hj => by rw [u2 115 (by decide)]; exact v1.2 j hj⟩
    by_cases e1 : T 128 s.toNat = 0
    · rw [if_pos e1]
      have st : yy_st S T (qq_u T 128 s.toNat 1) s := ⟨fm, fun j hj => by rw [u1, if_neg hj, u2 123 (by decide)]; exact ⟨rfl, rfl⟩, u2 126 (by decide), u2 127 (by decide), Or.inr ⟨e0, by rw [u2 123 (by decide)], e1, by rw [u1, if_pos rfl]⟩, by rw [u2 123 (by decide)]; omega⟩
      have G := go _ st
      exact yy_b1 hxs K s c k3 _ G
    · rw [if_neg e1]
      have V2 := pop _ fm (fun t ht => by
        rw [u2 123 (by decide), u2 126 (by decide)]
        exact ⟨rfl, (v2 t ht).2⟩) (u2 127 (by decide)) (fun j hj => by rw [u1, if_neg (by omega), u2 123 (by decide)]; exact ⟨rfl, rfl⟩) (Or.inr ⟨e0, tb, by omega⟩)
      have G := H1 k3 _ V2 (fun j hj => by rw [u1, if_neg (by omega), u2 123 (by decide)]; exact ⟨rfl, rfl⟩)
      exact yy_b0 hxs K s c k3 _ G
