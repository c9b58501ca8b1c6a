def zz_pr (S : qq_S) (a b : Int) (l k : Nat) : Prop := (S 119 (10 * l + k) = a ∧ S 119 (10 * l + (k + 1)) = b) ∨ (S 119 (10 * l + k) = b ∧ S 119 (10 * l + (k + 1)) = a)
set_option maxRecDepth 20000 in
theorem f121 {xs : List Int32} (hxs : xs.length ≤ 2048) (d : Nat) (S : qq_S) (a : Int) (b : Int) (hp : (0 ≤ a ∧ a < 10 ∧ 0 ≤ b ∧ b < 10) ∧ zz_p (zz_ml S) = 1) : qq_E xs (d + 11) 121 [.inr (115, none), .inl a, .inl b] S (some (zz_p (zz_mled S a.toNat b.toNat))) (S) := by
  have g1 := zz_pi1.mp hp.2
  have ea : ((a.toNat : Nat) : Int) = a := by omega
  have eb : ((b.toNat : Nat) : Int) = b := by omega
  have Li : ∀ (k9 : Nat) (l i : Int) (u v : Option qq_V), 11 - i < (k9 : Int) → (0 ≤ l ∧ l < S 115 2 ∧ 1 ≤ i ∧ i ≤ 10) → (∀ j : Nat, (j : Int) < l → ¬ ((fun l : Nat => ∃ k : Nat, (k : Int) + 1 < S 118 l ∧ zz_pr S a b l k)) j) → (∀ j : Nat, (j : Int) < i → ¬ ((fun k : Nat => 0 < k ∧ zz_pr S a b l.toNat (k - 1))) j) → (¬ ((fun l : Nat => ∃ k : Nat, (k : Int) + 1 < S 118 l ∧ zz_pr S a b l k)) l.toNat → ∀ u1 u2 u3, qq_p xs (d + 10) (mm_mr mm_m121) (mm_mk mm_m121) (fun r S' => r = some (zz_p (zz_mled S a.toNat b.toNat)) ∧ S' = S) 2 [some (.inr (115, none)), some (.inl a), some (.inl b), some (.inl (l + 1)), u1, u2, u3] [] S) → qq_p xs (d + 10) (mm_mr mm_m121) (mm_mk mm_m121) (fun r S' => r = some (zz_p (zz_mled S a.toNat b.toNat)) ∧ S' = S) 13 [some (.inr (115, none)), some (.inl a), some (.inl b), some (.inl l), some (.inl i), u, v] [] (S) := by
    intro k9
    induction k9 with
    | zero =>
      intro l i u v hm h1 h2 h3 h4
      exfalso
      omega
    | succ k9 ih =>
      intro l i u v hm h1 h2 h3 h4
      refine qq_fsound hxs (sp_17_ok hxs (d + 0)) [13, 2] 300 ?_
      repeat' first | apply And.intro | intro _ | (simp only [qq_tab]) | (simp only [qq_pl])
      all_goals (first
        | omega
        | exact Or.inl trivial
        | exact Or.inr trivial
        | (have n0 := g1.1; first | omega | (unfold qq_in; omega))
        | (have n0 := g1.1; have n1 := g1.2 l.toNat (by omega)
           first
           | omega
           | (unfold qq_in; omega)
           | (have hz : S 118 l.toNat ≤ i := by assumption
              exact h4 (fun ⟨k, hk, z⟩ => h3 (k + 1) (by omega) ⟨by omega, z⟩) _ _ _)
           | (have e1 : (10 * l + i - 1).toNat = 10 * l.toNat + (i.toNat - 1) := by omega
              have e2 : (10 * l + i).toNat = 10 * l.toNat + (i.toNat - 1 + 1) := by omega
              have n2 := n1.2.2 (i.toNat - 1) (by omega)
              have n3 := n1.2.2 (i.toNat - 1 + 1) (by omega)
              simp only [e1, e2] at *
              first
              | omega
              | (unfold qq_in; omega)
              | (refine congrArg some (zz_p1 ⟨l.toNat, i.toNat - 1, by omega, by omega, ?_⟩).symm
                 rw [ea, eb]
                 grind)
              | (refine ih _ _ _ _ ?_ ?_ h2 (zz_ext h3 (show ¬ ((fun k : Nat => 0 < k ∧ zz_pr S a b l.toNat (k - 1))) i.toNat from fun z => ?_) (by omega)) h4 <;> first | omega | (have z2 := z.2; unfold zz_pr at z2; grind)))))
  have L : ∀ (k9 : Nat) (l : Int) (u v w : Option qq_V), S 115 2 - l < (k9 : Int) → (0 ≤ l ∧ l ≤ S 115 2) → (∀ j : Nat, (j : Int) < l → ¬ ((fun l : Nat => ∃ k : Nat, (k : Int) + 1 < S 118 l ∧ zz_pr S a b l k)) j) → qq_p xs (d + 10) (mm_mr mm_m121) (mm_mk mm_m121) (fun r S' => r = some (zz_p (zz_mled S a.toNat b.toNat)) ∧ S' = S) 2 [some (.inr (115, none)), some (.inl a), some (.inl b), some (.inl l), u, v, w] [] (S) := by
    intro k9
    induction k9 with
    | zero =>
      intro l u v w hm h1 h2
      exfalso
      omega
    | succ k9 ih =>
      intro l u v w hm h1 h2
      refine qq_fsound hxs (sp_17_ok hxs (d + 0)) [13, 2] 300 ?_
      repeat' first | apply And.intro | intro _ | (simp only [qq_tab]) | (simp only [qq_pl])
      all_goals (first
        | omega
        | exact Or.inl trivial
        | exact Or.inr trivial
        | (have n0 := g1.1; first | omega | (unfold qq_in; omega))
        | (have n0 := g1.1; have el : l = S 115 2 := by omega
           refine congrArg some (zz_p0 (fun ⟨j, k, hj, hk, z⟩ => h2 j (by omega) ⟨k, hk, ?_⟩)).symm
           rw [ea, eb] at z
           exact z)
        | (have n0 := g1.1; have n1 := g1.2 l.toNat (by omega)
           refine Li 11 l 1 _ _ ?_ ?_ h2 (fun j hj z => by have := z.1; omega) (fun no u1 u2 u3 => ih _ _ _ _ ?_ ?_ (zz_ext h2 no (by omega))) <;> omega))
  have h : qq_p xs (d + 10) (mm_mr mm_m121) (mm_mk mm_m121) (fun r S' => r = some (zz_p (zz_mled S a.toNat b.toNat)) ∧ S' = S) 0 (qq_ent mm_m121 [.inr (115, none), .inl a, .inl b]) [] S := by
    refine qq_fsound hxs (sp_17_ok hxs (d + 0)) [13, 2] 300 ?_
    repeat' first | apply And.intro | intro _ | (simp only [qq_tab]) | (simp only [qq_pl])
    all_goals (first | omega | (refine L (S 115 2 + 1).toNat 0 _ _ _ ?_ ?_ ?_ <;> first | omega | (have := g1.1; omega) | (intro j hj; omega)))
  obtain ⟨r, S', hE, e1, e2⟩ := qq_call_of (y := 121) rfl (Nat.le_of_ble_eq_true rfl) h
  rw [e1, e2] at hE
  exact hE
noncomputable def sp_22 : qq_P := fun y as S => match y, as with
  | 121, [.inr (115, none), .inl a, .inl b] => some ((0 ≤ a ∧ a < 10 ∧ 0 ≤ b ∧ b < 10) ∧ zz_p (zz_ml S) = 1, some (zz_p (zz_mled S a.toNat b.toNat)), S)
  | _, _ => sp_21 y as S
theorem sp_22_ok {xs : List Int32} (hxs : xs.length ≤ 2048) (d : Nat) : qq_ok xs (d + 13) sp_22 := by
  intro y as S pre r S2 h hp
  unfold sp_22 at h
  split at h
  · cases h; exact f121 hxs (d + 2) S _ _ hp
  · exact sp_21_ok hxs (d + 0) y as S pre r S2 h hp
set_option maxRecDepth 20000 in
theorem f129 {xs : List Int32} (hxs : xs.length ≤ 2048) (d : Nat) (S : qq_S) (s : Int) (hp : (0 ≤ s ∧ s < S 4 0) ∧ zz_p (zz_N S) = 1) : qq_E xs (d + 14) 129 [.inr (115, none), .inl s] S (none) (zz_rg S s.toNat) := by
  have gN := zz_pi1.mp hp.2
  have gb := gN.1.1
  have gd := gN.2.2.2 s.toNat (by omega)
  have gm := zz_N_ml gN
  have gi := zz_rinj gN (show s.toNat < 10 by omega)
  have es : ((s.toNat : Nat) : Int) = s := by omega
  have e27 : 26 + 1 + s.toNat = 27 + s.toNat := by omega
  have gR : ∀ i : Nat, (i : Int) < S 25 s.toNat → 0 ≤ S (26 + 1 + s.toNat) i ∧ S (26 + 1 + s.toNat) i < S 4 0 ∧ ¬ S (26 + 1 + s.toNat) i = s := fun i hi => by
    have q := gd.2.1 i hi
    rw [qq_R_at (show s.toNat < 10 by omega)] at q
    rw [e27]
    omega
  have gled : ∀ m : Nat, (m : Int) < S 4 0 → (zz_mled S s.toNat m ↔ ∃ i : Nat, i < (S 25 s.toNat).toNat ∧ S (26 + 1 + s.toNat) i = m) := fun m hm => by
    rw [zz_mled_eo gN (by omega) (by omega)]
    have q := gd.2.2.1 m (by omega)
    rw [qq_R_at (show s.toNat < 10 by omega), qq_R_at (show s.toNat < 10 by omega)] at q
    constructor
    · intro z
      obtain ⟨i, hi, e⟩ := q z
      exact ⟨i, by omega, e⟩
    · rintro ⟨i, hi, e⟩
      have q2 := gd.2.1 i (by omega)
      rw [qq_R_at (show s.toNat < 10 by omega), qq_R_at (show s.toNat < 10 by omega)] at q2
      have e9 : S (27 + s.toNat) i = m := e
      have := q2.2.2.2
      rw [e9, Int.toNat_natCast] at this
      exact this
  have Li : ∀ (k9 : Nat) (n t : Int) (T0 T : qq_S) (c p : Nat), t < (k9 : Int) → (0 ≤ n ∧ n < S 4 0 ∧ 0 ≤ t ∧ t ≤ c) → (zz_fr S T0) → (T0 115 11 = ((c : Nat) : Int) ∧ (∀ k : Nat, c ≤ k → T0 122 k = S 122 k)) → (zz_I (S (26 + 1 + s.toNat)) (S 25 s.toNat).toNat (T0 122) c n.toNat) → (∀ a, a ≠ 122 → T a = T0 a) → ((∀ k : Nat, (k : Int) < t → T 122 k = T0 122 k) ∧ (∀ k : Nat, t < k → k ≤ c → T 122 k = T0 122 (k - 1)) ∧ (∀ k : Nat, c < k → T 122 k = S 122 k)) → (p < (S 25 s.toNat).toNat ∧ (S (26 + 1 + s.toNat)) p = n) → (∀ k i : Nat, t ≤ k → k < c → i < (S 25 s.toNat).toNat → T0 122 k = (S (26 + 1 + s.toNat)) i → p < i) → (∀ (u : Option qq_V) (T2 : qq_S) (c2 : Nat), zz_fr S T2 → (T2 115 11 = ((c2 : Nat) : Int) ∧ (∀ k : Nat, c2 ≤ k → T2 122 k = S 122 k)) → zz_I (S (26 + 1 + s.toNat)) (S 25 s.toNat).toNat (T2 122) c2 (n + 1).toNat → qq_p xs (d + 13) (mm_mr mm_m129) (mm_mk mm_m129) (fun r S' => r = none ∧ S' = zz_rg S s.toNat) 7 [some (.inr (115, none)), some (.inl s), some (.inl (n + 1)), u] [] T2) → qq_p xs (d + 13) (mm_mr mm_m129) (mm_mk mm_m129) (fun r S' => r = none ∧ S' = zz_rg S s.toNat) 37 [some (.inr (115, none)), some (.inl s), some (.inl n), some (.inl t)] [] (T) := by
    intro k9
    induction k9 with
    | zero =>
      intro n t T0 T c p hm h1 h2 h3 h4 h5 h6 h7 h8 h9
      exfalso
      omega
    | succ k9 ih =>
      intro n t T0 T c p hm h1 h2 h3 h4 h5 h6 h7 h8 h9
      refine qq_fsound hxs (sp_22_ok hxs (d + 0)) [37, 7] 300 ?_
      repeat' first | apply And.intro | intro _ | (simp only [qq_tab]) | (simp only [qq_pl])
      all_goals (
        (have cl := zz_I_le h4
         have hF : zz_fr S T := ⟨fun a a1 a2 => by rw [h5 a a1]; exact h2.1 a a1 a2, fun j hj => by rw [h5 115 (by decide)]; exact h2.2 j hj⟩
         first
         | omega
         | (have tp : 0 < t := by omega
            obtain ⟨i, hi, ei, hl⟩ := h4.1 (t - 1).toNat (by omega)
            have ev : T 122 (t - 1).toNat = S (26 + 1 + s.toNat) i := by rw [h6.1 (t - 1).toNat (by omega)]; exact ei
            have gi2 := gR i (by omega)
            have x1 := gN.1.2.1 n.toNat (by omega)
            have x2 := gN.1.2.1 s.toNat (by omega)
            have x3 := gN.1.2.1 (S (26 + 1 + s.toNat) i).toNat (by omega)
            have rp := zz_rpos gN (s := s.toNat) (i := p) (j := i) (by omega) h7.1 hi
            rw [h7.2] at rp
            have a01 := zz_ah01 (S 116 n.toNat - S 116 s.toNat) (S 117 n.toNat - S 117 s.toNat) (S 116 (S (26 + 1 + s.toNat) i).toNat - S 116 s.toNat) (S 117 (S (26 + 1 + s.toNat) i).toNat - S 117 s.toNat) n (S (26 + 1 + s.toNat) i)
            simp only [hF.1 116 (by decide) (by decide), hF.1 117 (by decide) (by decide), ev] at *
            first
            | omega
            | (unfold qq_in; omega)
            | (have nz : ¬ zz_ah (S 116 n.toNat - S 116 s.toNat) (S 117 n.toNat - S 117 s.toNat) (S 116 (S (26 + 1 + s.toNat) i).toNat - S 116 s.toNat) (S 117 (S (26 + 1 + s.toNat) i).toNat - S 117 s.toNat) n (S (26 + 1 + s.toNat) i) = 0 := by assumption
               have pi : p < i := rp.mp (by omega)
               have et : ((t - 1).toNat : Int) = t - 1 := by omega
               refine ih n _ T0 _ c p ?_ ?_ h2 h3 h4 ?_ ?_ h7 ?_ h9
               · omega
               · omega
               · intro a ha
                 rw [qq_ueq ha]
                 exact h5 a ha
               · refine ⟨fun k hk => ?_, fun k hk hc => ?_, fun k hk => ?_⟩
                 · rw [qq_un (Or.inr (by omega))]
                   exact h6.1 k (by omega)
                 · by_cases ek : k = t.toNat
                   · subst ek
                     rw [qq_us, ← ei]
                     congr 1
                     omega
                   · rw [qq_un (Or.inr ek)]
                     exact h6.2.1 k (by omega) hc
                 · rw [qq_un (Or.inr (by omega))]
                   exact h6.2.2 k hk
               · intro k j hk hc hj ej
                 by_cases ek : k = (t - 1).toNat
                 · subst ek
                   rw [ei] at ej
                   have := gi i j hi hj ej
                   omega
                 · exact h8 k j (by omega) hc hj ej)
            | (have z0 : zz_ah (S 116 n.toNat - S 116 s.toNat) (S 117 n.toNat - S 117 s.toNat) (S 116 (S (26 + 1 + s.toNat) i).toNat - S 116 s.toNat) (S 117 (S (26 + 1 + s.toNat) i).toNat - S 117 s.toNat) n (S (26 + 1 + s.toNat) i) = 0 := by assumption
               have npi : ¬ p < i := fun z => by have := rp.mpr z; omega
               have e11 : qq_u T 122 t.toNat n 115 11 = (c : Int) := by rw [qq_ueq (by decide), h5 115 (by decide)]; exact h3.1
               refine h9 _ _ (c + 1) (zz_fr_v (zz_fr_u hF _ _) _) ⟨?_, fun k hk => ?_⟩ ?_
               · rw [qq_us, e11]
                 rfl
               · rw [qq_ueq (by decide), qq_un (Or.inr (by omega))]
                 exact h6.2.2 k (by omega)
               · have e1 : (n + 1).toNat = n.toNat + 1 := by omega
                 rw [e1]
                 have hn : S (26 + 1 + s.toNat) p = ((n.toNat : Nat) : Int) := by rw [h7.2]; omega
                 refine zz_I_ins (t := t.toNat) h4 gi h7.1 hn (by omega) (fun k j a1 a2 a3 a4 => h8 k j (by omega) a2 a3 a4) (fun j a1 a2 a3 => ?_) (fun k hk => ?_) ?_ (fun k hk hc => ?_)
                 · rw [show t.toNat - 1 = (t - 1).toNat by omega, ei] at a3
                   have := gi i j hi a2 a3
                   have ne : ¬ p = i := fun z => by
                     rw [z] at hn
                     omega
                   omega
                 · rw [qq_ueq (by decide), qq_un (Or.inr (by omega))]
                   exact h6.1 k (by omega)
                 · rw [qq_ueq (by decide), qq_us]
                   omega
                 · rw [qq_ueq (by decide), qq_un (Or.inr (by omega))]
                   exact h6.2.1 k (by omega) hc))
         | (have t0 : t = 0 := by omega
            have e11 : qq_u T 122 t.toNat n 115 11 = (c : Int) := by rw [qq_ueq (by decide), h5 115 (by decide)]; exact h3.1
            refine h9 _ _ (c + 1) (zz_fr_v (zz_fr_u hF _ _) _) ⟨?_, fun k hk => ?_⟩ ?_
            · rw [qq_us, e11]
              rfl
            · rw [qq_ueq (by decide), qq_un (Or.inr (by omega))]
              exact h6.2.2 k (by omega)
            · have e1 : (n + 1).toNat = n.toNat + 1 := by omega
              rw [e1]
              have hn : S (26 + 1 + s.toNat) p = ((n.toNat : Nat) : Int) := by rw [h7.2]; omega
              refine zz_I_ins (t := t.toNat) h4 gi h7.1 hn (by omega) (fun k j a1 a2 a3 a4 => h8 k j (by omega) a2 a3 a4) (fun j a1 a2 a3 => by omega) (fun k hk => by omega) ?_ (fun k hk hc => ?_)
              · rw [qq_ueq (by decide), qq_us]
                omega
              · rw [qq_ueq (by decide), qq_un (Or.inr (by omega))]
                exact h6.2.1 k (by omega) hc)))
  have L : ∀ (k9 : Nat) (n : Int) (u : Option qq_V) (T : qq_S) (c : Nat), S 4 0 - n < (k9 : Int) → (0 ≤ n ∧ n ≤ S 4 0) → (zz_fr S T) → (T 115 11 = ((c : Nat) : Int) ∧ (∀ k : Nat, c ≤ k → T 122 k = S 122 k)) → (zz_I (S (26 + 1 + s.toNat)) (S 25 s.toNat).toNat (T 122) c n.toNat) → qq_p xs (d + 13) (mm_mr mm_m129) (mm_mk mm_m129) (fun r S' => r = none ∧ S' = zz_rg S s.toNat) 7 [some (.inr (115, none)), some (.inl s), some (.inl n), u] [] (T) := by
    intro k9
    induction k9 with
    | zero =>
      intro n u T c hm h1 h2 h3 h4
      exfalso
      omega
    | succ k9 ih =>
      intro n u T c hm h1 h2 h3 h4
      refine qq_fsound hxs (sp_22_ok hxs (d + 0)) [37, 7] 300 ?_
      repeat' first | apply And.intro | intro _ | (simp only [qq_tab]) | (simp only [qq_pl])
      all_goals (
        (have e1 : T 115 1 = S 4 0 := by rw [h2.2 1 (by decide)]; omega
         have cl := zz_I_le h4
         simp only [e1] at *
         first
         | omega
         | (unfold qq_in; omega)
         | exact (zz_pin _).1 | exact (zz_pin _).2
         | exact zz_p1 (zz_fr_ml h2 gm)
         | (have en : n = S 4 0 := by omega
            have q := zz_I_end h4 gi (fun i hi => by have := gR i (by omega); omega)
            exact zz_rg_eq h2 (by rw [h3.1]; omega) (fun k hk => q.2 k (by omega)) (fun k hk => h3.2 k (by omega)))
         | (have ens : n = s := by assumption
            refine ih _ _ _ c ?_ ?_ h2 h3 ?_ <;> first | omega | (rw [show (n + 1).toNat = n.toNat + 1 by omega]; exact zz_I_skip h4 (fun i hi e => by have := gR i (by omega); omega)))
         | (rw [zz_fr_led h2] at *
            have gl := gled n.toNat (by omega)
            (try simp only [zz_pi0, Classical.not_not] at *)
            first
            | (have nl : ¬ zz_mled S s.toNat n.toNat := by assumption
               refine ih _ _ _ c ?_ ?_ h2 h3 ?_ <;> first | omega | (rw [show (n + 1).toNat = n.toNat + 1 by omega]; exact zz_I_skip h4 (fun i hi e => nl (gl.mpr ⟨i, hi, e⟩))))
            | (have yl : zz_mled S s.toNat n.toNat := by assumption
               obtain ⟨p, hp1, hp2⟩ := gl.mp yl
               have q := Li (c + 1) n c T T c p (by omega) (by omega) h2 h3 h4 (fun _ _ => rfl) ⟨fun _ _ => rfl, fun k a1 a2 => by omega, fun k hk => h3.2 k (by omega)⟩ ⟨hp1, by rw [hp2]; omega⟩ (fun k i a1 a2 => by omega) (fun u2 T2 c2 b1 b2 b3 => ih _ u2 T2 c2 (by omega) (by omega) b1 b2 b3)
               rw [← h3.1] at q
               exact q))))
  have h : qq_p xs (d + 13) (mm_mr mm_m129) (mm_mk mm_m129) (fun r S' => r = none ∧ S' = zz_rg S s.toNat) 0 (qq_ent mm_m129 [.inr (115, none), .inl s]) [] S := by
    refine qq_fsound hxs (sp_22_ok hxs (d + 0)) [37, 7] 300 ?_
    repeat' first | apply And.intro | intro _ | (simp only [qq_tab]) | (simp only [qq_pl])
    all_goals (first
      | omega
      | (refine L (S 4 0 + 1).toNat 0 _ _ 0 ?_ ?_ ?_ ?_ ?_ <;> first | omega | exact zz_fr_v (zz_fr0 S) 0 | (refine ⟨qq_us, fun k _ => ?_⟩; rw [qq_ueq (by decide)]) | (refine ⟨fun k hk => by omega, fun i hi hm => ?_, fun k1 k2 i j hk h2 => by omega⟩; have := gR i (by omega); omega)))
  obtain ⟨r, S', hE, e1, e2⟩ := qq_call_of (y := 129) rfl (Nat.le_of_ble_eq_true rfl) h
  rw [e1, e2] at hE
  exact hE
noncomputable def sp_23 : qq_P := fun y as S => match y, as with
  | 129, [.inr (115, none), .inl s] => some ((0 ≤ s ∧ s < S 4 0) ∧ zz_p (zz_N S) = 1, none, zz_rg S s.toNat)
  | _, _ => sp_22 y as S
theorem sp_23_ok {xs : List Int32} (hxs : xs.length ≤ 2048) (d : Nat) : qq_ok xs (d + 14) sp_23 := by
  intro y as S pre r S2 h hp
  unfold sp_23 at h
  split at h
  · cases h; exact f129 hxs (d + 0) S _ hp
  · exact sp_22_ok hxs (d + 1) y as S pre r S2 h hp
