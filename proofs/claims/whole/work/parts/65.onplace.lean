/-- cell i of the name of s at side p holds what has number k -/
def zz_H (S : qq_S) (s : Nat) (p : Int) (i k : Nat) : Prop := (k < (S 4 0).toNat ∧ zz_hA S (zz_nx (zz_mx S s) (S 125 s) p + i) (zz_ny (zz_my S s) p) k) ∨ (200 ≤ k ∧ k < 200 + s ∧ zz_hC S (zz_nx (zz_mx S s) (S 125 s) p + i) (zz_ny (zz_my S s) p) (k - 200)) ∨ (100 ≤ k ∧ k < 100 + (S 4 2).toNat ∧ zz_hB S (zz_nx (zz_mx S s) (S 125 s) p + i) (zz_ny (zz_my S s) p) (k - 100))
def zz_Hs (S : qq_S) (s : Nat) (p : Int) (i : Nat) (k : Nat) : Prop := ∃ j, j < i ∧ zz_H S s p j k
def zz_H1 (S : qq_S) (s : Nat) (p : Int) (i t : Nat) (k : Nat) : Prop := zz_Hs S s p i k ∨ (k < t ∧ k < (S 4 0).toNat ∧ zz_hA S (zz_nx (zz_mx S s) (S 125 s) p + i) (zz_ny (zz_my S s) p) k) ∨ (200 ≤ k ∧ k < 200 + t ∧ k < 200 + s ∧ zz_hC S (zz_nx (zz_mx S s) (S 125 s) p + i) (zz_ny (zz_my S s) p) (k - 200))
def zz_H2 (S : qq_S) (s : Nat) (p : Int) (i e : Nat) (k : Nat) : Prop := zz_Hs S s p i k ∨ (k < (S 4 0).toNat ∧ zz_hA S (zz_nx (zz_mx S s) (S 125 s) p + i) (zz_ny (zz_my S s) p) k) ∨ (200 ≤ k ∧ k < 200 + s ∧ zz_hC S (zz_nx (zz_mx S s) (S 125 s) p + i) (zz_ny (zz_my S s) p) (k - 200)) ∨ (100 ≤ k ∧ k < 100 + e ∧ k < 100 + (S 4 2).toNat ∧ zz_hB S (zz_nx (zz_mx S s) (S 125 s) p + i) (zz_ny (zz_my S s) p) (k - 100))
noncomputable def zz_mO (S : qq_S) (s : Nat) (p : Int) : Int := zz_fst (zz_Hs S s p (S 125 s).toNat) 300
def zz_mnp (S : qq_S) (s : Int) : Prop := (∀ t : Nat, (t : Int) < S 4 0 → 0 ≤ S 125 t ∧ S 125 t ≤ 12) ∧ (∀ t : Nat, (t : Int) < s → -1 ≤ S 129 t ∧ S 129 t ≤ 7)
set_option maxRecDepth 20000 in
theorem f170 {xs : List Int32} (hxs : xs.length ≤ 2048) (d : Nat) (S : qq_S) (s : Int) (p : Int) (hp : (0 ≤ s ∧ s < S 4 0 ∧ 0 ≤ p ∧ p ≤ 7) ∧ zz_p (zz_N S) = 1 ∧ zz_p (zz_mall S) = 1 ∧ zz_p (zz_mnp S s) = 1) : qq_E xs (d + 13) 170 [.inr (115, none), .inl s, .inl p] S (some (zz_mO S s.toNat p)) (S) := by
  have gN := zz_pi1.mp hp.2.1
  have gA := zz_pi1.mp hp.2.2.1
  have gn := zz_pi1.mp hp.2.2.2
  have gb := gN.1.1
  have gE := gN.2.2.1.1
  have e1 : S 115 1 = S 4 0 := by omega
  have e3 : S 115 3 = S 4 2 := by omega
  have ok : ∀ a : Int, 0 ≤ a → a < S 4 0 → zz_p (zz_mok S a) = 1 := fun a a0 a1 => zz_mall_ok gA (by omega) a0 a1
  have gl := gn.1 s.toNat (by omega)
  have bs := zz_mbd (ok s (by omega) (by omega))
  have x1 : -100 ≤ zz_nx (zz_mx S s.toNat) (S 125 s.toNat) p ∧ zz_nx (zz_mx S s.toNat) (S 125 s.toNat) p ≤ 100 := zz_nx_bd (by omega) gl
  have y1 : -150 ≤ zz_ny (zz_my S s.toNat) p ∧ zz_ny (zz_my S s.toNat) p ≤ 150 := by
    unfold zz_ny
    repeat' split
    all_goals omega
  have L2 : ∀ (k9 : Nat) (i e c : Int), S 4 2 - e < (k9 : Int) → (0 ≤ i ∧ i < S 125 s.toNat ∧ 0 ≤ e ∧ e ≤ S 4 2) → (c = zz_fst (zz_H2 S s.toNat p i.toNat e.toNat) 300) → (∀ (c2 : Int) (u1 u2 u3 : Option qq_V), c2 = zz_fst (zz_Hs S s.toNat p (i + 1).toNat) 300 → qq_p xs (d + 12) (mm_mr mm_m170) (mm_mk mm_m170) (fun r S' => r = some (zz_mO S s.toNat p) ∧ S' = S) 5 [some (.inr (115, none)), some (.inl s), some (.inl p), some (.inl c2), some (.inl (i + 1)), u1, u2, u3] [] S) → qq_p xs (d + 12) (mm_mr mm_m170) (mm_mk mm_m170) (fun r S' => r = some (zz_mO S s.toNat p) ∧ S' = S) 106 [some (.inr (115, none)), some (.inl s), some (.inl p), some (.inl c), some (.inl i), some (.inl (zz_nx (zz_mx S s.toNat) (S 125 s.toNat) p + i)), some (.inl (zz_ny (zz_my S s.toNat) p)), some (.inl e)] [] (S) := by
    intro k9
    induction k9 with
    | zero =>
      intro i e c hm h1 h2 h4
      exfalso
      omega
    | succ k9 ih =>
      intro i e c hm h1 h2 h4
      refine qq_fsound hxs (sp_41_ok hxs (d + 0)) [106, 38, 5] 300 ?_
      repeat' first | apply And.intro | intro _ | (simp only [qq_tab]) | (simp only [qq_pl])
      all_goals (
        (have bd := zz_fst_bd (zz_H2 S s.toNat p i.toNat e.toNat) 300
         have ei : ((i.toNat : Nat) : Int) = i := by omega
         first
         | omega
         | exact (zz_pin _).1
         | exact (zz_pin _).2
         | exact ok _ (by omega) (by omega)
         | (have ee : e = S 4 2 := by omega
            refine h4 _ _ _ _ ?_
            rw [h2]
            refine zz_fst_c (fun k hk => ?_)
            rw [show (i + 1).toNat = i.toNat + 1 by omega]
            constructor
            · rintro (⟨j, hj, z⟩ | z)
              · exact ⟨j, by omega, z⟩
              · refine ⟨i.toNat, by omega, ?_⟩
                unfold zz_H
                rcases z with z | z | z
                · exact Or.inl z
                · exact Or.inr (Or.inl z)
                · exact Or.inr (Or.inr ⟨z.1, z.2.2.1, z.2.2.2⟩)
            · rintro ⟨j, hj, z⟩
              by_cases q : j < i.toNat
              · exact Or.inl ⟨j, q, z⟩
              · have : j = i.toNat := by omega
                subst this
                right
                rcases z with z | z | z
                · exact Or.inl z
                · exact Or.inr (Or.inl z)
                · exact Or.inr (Or.inr ⟨z.1, by omega, z.2.1, z.2.2⟩))
         | (have el : e < S 4 2 := by omega
            have m := zz_N_me gN (e := e.toNat) (by omega)
            first
            | omega
            | exact ok _ (by omega) (by omega)
            | (have z0 : zz_p (zz_hB S (zz_nx (zz_mx S s.toNat) (S 125 s.toNat) p + i) (zz_ny (zz_my S s.toNat) p) e.toNat) = 0 := by assumption
               have nh := zz_pi0.mp z0
               refine ih i (e + 1) c (by omega) (by omega) ?_ h4
               rw [h2]
               refine zz_fst_c (fun k hk => ?_)
               unfold zz_H2
               rw [show (e + 1).toNat = e.toNat + 1 by omega, ei]
               constructor
               · rintro (z | z | z | z)
                 · exact Or.inl z
                 · exact Or.inr (Or.inl z)
                 · exact Or.inr (Or.inr (Or.inl z))
                 · exact Or.inr (Or.inr (Or.inr ⟨z.1, by omega, z.2.2⟩))
               · rintro (z | z | z | z)
                 · exact Or.inl z
                 · exact Or.inr (Or.inl z)
                 · exact Or.inr (Or.inr (Or.inl z))
                 · by_cases q : k = 100 + e.toNat
                   · exfalso
                     have := z.2.2.2
                     rw [q, Nat.add_sub_cancel_left] at this
                     exact nh this
                   · exact Or.inr (Or.inr (Or.inr ⟨z.1, by omega, z.2.2⟩)))
            | (have z0 : ¬ zz_p (zz_hB S (zz_nx (zz_mx S s.toNat) (S 125 s.toNat) p + i) (zz_ny (zz_my S s.toNat) p) e.toNat) = 0 := by assumption
               have yh : zz_hB S (zz_nx (zz_mx S s.toNat) (S 125 s.toNat) p + i) (zz_ny (zz_my S s.toNat) p) e.toNat := Classical.not_not.mp (fun w => z0 (zz_pi0.mpr w))
               refine ih i (e + 1) _ (by omega) (by omega) ?_ h4
               have ad := zz_fst_add (P := zz_H2 S s.toNat p i.toNat e.toNat) (c := 100 + e.toNat) (m := 300) (by omega)
               rw [h2, show (100 + e : Int) = ((100 + e.toNat : Nat) : Int) by omega, ← ad]
               refine zz_fst_c (fun k hk => ?_)
               unfold zz_H2
               rw [show (e + 1).toNat = e.toNat + 1 by omega, ei]
               constructor
               · rintro ((z | z | z | z) | z)
                 · exact Or.inl z
                 · exact Or.inr (Or.inl z)
                 · exact Or.inr (Or.inr (Or.inl z))
                 · exact Or.inr (Or.inr (Or.inr ⟨z.1, by omega, z.2.2⟩))
                 · refine Or.inr (Or.inr (Or.inr ⟨by omega, by omega, by omega, ?_⟩))
                   rw [z, Nat.add_sub_cancel_left]
                   exact yh
               · rintro (z | z | z | z)
                 · exact Or.inl (Or.inl z)
                 · exact Or.inl (Or.inr (Or.inl z))
                 · exact Or.inl (Or.inr (Or.inr (Or.inl z)))
                 · by_cases q : k = 100 + e.toNat
                   · exact Or.inr q
                   · exact Or.inl (Or.inr (Or.inr (Or.inr ⟨z.1, by omega, z.2.2⟩)))))))
  have L1 : ∀ (k9 : Nat) (i t c : Int), S 4 0 - t < (k9 : Int) → (0 ≤ i ∧ i < S 125 s.toNat ∧ 0 ≤ t ∧ t ≤ S 4 0) → (c = zz_fst (zz_H1 S s.toNat p i.toNat t.toNat) 300) → (∀ (c2 : Int) (u1 u2 u3 : Option qq_V), c2 = zz_fst (zz_Hs S s.toNat p (i + 1).toNat) 300 → qq_p xs (d + 12) (mm_mr mm_m170) (mm_mk mm_m170) (fun r S' => r = some (zz_mO S s.toNat p) ∧ S' = S) 5 [some (.inr (115, none)), some (.inl s), some (.inl p), some (.inl c2), some (.inl (i + 1)), u1, u2, u3] [] S) → qq_p xs (d + 12) (mm_mr mm_m170) (mm_mk mm_m170) (fun r S' => r = some (zz_mO S s.toNat p) ∧ S' = S) 38 [some (.inr (115, none)), some (.inl s), some (.inl p), some (.inl c), some (.inl i), some (.inl (zz_nx (zz_mx S s.toNat) (S 125 s.toNat) p + i)), some (.inl (zz_ny (zz_my S s.toNat) p)), some (.inl t)] [] (S) := by
    intro k9
    induction k9 with
    | zero =>
      intro i t c hm h1 h2 h4
      exfalso
      omega
    | succ k9 ih =>
      intro i t c hm h1 h2 h4
      refine qq_fsound hxs (sp_41_ok hxs (d + 0)) [106, 38, 5] 300 ?_
      repeat' first | apply And.intro | intro _ | (simp only [qq_tab]) | (simp only [qq_pl])
      all_goals (
        (have bd := zz_fst_bd (zz_H1 S s.toNat p i.toNat t.toNat) 300
         have ei : ((i.toNat : Nat) : Int) = i := by omega
         first
         | omega
         | exact (zz_pin _).1
         | exact (zz_pin _).2
         | exact ok _ (by omega) (by omega)
         | (have et : t = S 4 0 := by omega
            refine L2 (S 4 2 + 1).toNat i 0 c (by omega) (by omega) ?_ h4
            rw [h2]
            refine zz_fst_c (fun k hk => ?_)
            unfold zz_H1 zz_H2
            constructor
            · rintro (z | z | z)
              · exact Or.inl z
              · exact Or.inr (Or.inl z.2)
              · exact Or.inr (Or.inr (Or.inl ⟨z.1, z.2.2⟩))
            · rintro (z | z | z | z)
              · exact Or.inl z
              · exact Or.inr (Or.inl ⟨by omega, z⟩)
              · exact Or.inr (Or.inr ⟨z.1, by omega, z.2⟩)
              · have := z.2.1
                omega)
         | (have tl : t < S 4 0 := by omega
            have nt := gn.1 t.toNat (by omega)
            have e9 : (t + 1).toNat = t.toNat + 1 := by omega
            have ad : ∀ (P : Nat → Prop) (k : Nat), k < 300 → zz_fst (fun j => P j ∨ j = k) 300 = zz_fi (zz_fst P 300) k := fun P k hk => zz_fst_add hk
            have fb : -1 ≤ zz_fi c t ∧ zz_fi c t ≤ 300 := by unfold zz_fi; split <;> omega
            first
            | omega
            | exact ok _ (by omega) (by omega)
            | (have gt := gn.2 t.toNat (by omega); omega)
            | (refine ih i (t + 1) _ (by omega) (by omega) ?_ h4
               by_cases a0 : zz_hA S (zz_nx (zz_mx S s.toNat) (S 125 s.toNat) p + i) (zz_ny (zz_my S s.toNat) p) t.toNat
               · have a1 : zz_p (zz_hA S (zz_nx (zz_mx S s.toNat) (S 125 s.toNat) p + i) (zz_ny (zz_my S s.toNat) p) t.toNat) = 1 := zz_p1 a0
                 first
                 | omega
                 | (by_cases ts : t < s
                    · by_cases b0 : zz_hC S (zz_nx (zz_mx S s.toNat) (S 125 s.toNat) p + i) (zz_ny (zz_my S s.toNat) p) t.toNat
                      · have b1 : zz_p (zz_hC S (zz_nx (zz_mx S s.toNat) (S 125 s.toNat) p + i) (zz_ny (zz_my S s.toNat) p) t.toNat) = 1 := zz_p1 b0
                        first
                        | omega
                        | (rw [show (200 + t : Int) = ((200 + t.toNat : Nat) : Int) by omega, show zz_fi c t = zz_fi c ((t.toNat : Nat) : Int) by rw [show ((t.toNat : Nat) : Int) = t by omega], h2, ← ad _ t.toNat (by omega), ← ad _ (200 + t.toNat) (by omega)]
                           refine zz_fst_c (fun k hk => ?_)
                           unfold zz_H1
                           rw [e9, ei]
                           constructor
                           · rintro (((z | z | z) | z) | z)
                             · exact Or.inl z
                             · exact Or.inr (Or.inl ⟨by omega, z.2⟩)
                             · exact Or.inr (Or.inr ⟨z.1, by omega, z.2.2⟩)
                             · exact Or.inr (Or.inl ⟨by omega, by omega, by rw [z]; exact a0⟩)
                             · exact Or.inr (Or.inr ⟨by omega, by omega, by omega, by rw [z, Nat.add_sub_cancel_left]; exact b0⟩)
                           · rintro (z | z | z)
                             · exact Or.inl (Or.inl (Or.inl z))
                             · by_cases q : k = t.toNat
                               · exact Or.inl (Or.inr q)
                               · exact Or.inl (Or.inl (Or.inr (Or.inl ⟨by omega, z.2⟩)))
                             · by_cases q : k = 200 + t.toNat
                               · exact Or.inr q
                               · exact Or.inl (Or.inl (Or.inr (Or.inr ⟨z.1, by omega, z.2.2⟩))))
                      · have b1 : zz_p (zz_hC S (zz_nx (zz_mx S s.toNat) (S 125 s.toNat) p + i) (zz_ny (zz_my S s.toNat) p) t.toNat) = 0 := zz_p0 b0
                        first
                        | omega
                        | (rw [show zz_fi c t = zz_fi c ((t.toNat : Nat) : Int) by rw [show ((t.toNat : Nat) : Int) = t by omega], h2, ← ad _ t.toNat (by omega)]
                           refine zz_fst_c (fun k hk => ?_)
                           unfold zz_H1
                           rw [e9, ei]
                           constructor
                           · rintro ((z | z | z) | z)
                             · exact Or.inl z
                             · exact Or.inr (Or.inl ⟨by omega, z.2⟩)
                             · exact Or.inr (Or.inr ⟨z.1, by omega, z.2.2⟩)
                             · exact Or.inr (Or.inl ⟨by omega, by omega, by rw [z]; exact a0⟩)
                           · rintro (z | z | z)
                             · exact Or.inl (Or.inl z)
                             · by_cases q : k = t.toNat
                               · exact Or.inr q
                               · exact Or.inl (Or.inr (Or.inl ⟨by omega, z.2⟩))
                             · by_cases q : k = 200 + t.toNat
                               · exact absurd (by have := z.2.2.2; rw [q, Nat.add_sub_cancel_left] at this; exact this) b0
                               · exact Or.inl (Or.inr (Or.inr ⟨z.1, by omega, z.2.2⟩)))
                    · first
                      | omega
                      | (rw [show zz_fi c t = zz_fi c ((t.toNat : Nat) : Int) by rw [show ((t.toNat : Nat) : Int) = t by omega], h2, ← ad _ t.toNat (by omega)]
                         refine zz_fst_c (fun k hk => ?_)
                         unfold zz_H1
                         rw [e9, ei]
                         constructor
                         · rintro ((z | z | z) | z)
                           · exact Or.inl z
                           · exact Or.inr (Or.inl ⟨by omega, z.2⟩)
                           · exact Or.inr (Or.inr ⟨z.1, by omega, z.2.2⟩)
                           · exact Or.inr (Or.inl ⟨by omega, by omega, by rw [z]; exact a0⟩)
                         · rintro (z | z | z)
                           · exact Or.inl (Or.inl z)
                           · by_cases q : k = t.toNat
                             · exact Or.inr q
                             · exact Or.inl (Or.inr (Or.inl ⟨by omega, z.2⟩))
                           · exact Or.inl (Or.inr (Or.inr ⟨z.1, by omega, z.2.2⟩))))
               · have a1 : zz_p (zz_hA S (zz_nx (zz_mx S s.toNat) (S 125 s.toNat) p + i) (zz_ny (zz_my S s.toNat) p) t.toNat) = 0 := zz_p0 a0
                 first
                 | omega
                 | (by_cases ts : t < s
                    · by_cases b0 : zz_hC S (zz_nx (zz_mx S s.toNat) (S 125 s.toNat) p + i) (zz_ny (zz_my S s.toNat) p) t.toNat
                      · have b1 : zz_p (zz_hC S (zz_nx (zz_mx S s.toNat) (S 125 s.toNat) p + i) (zz_ny (zz_my S s.toNat) p) t.toNat) = 1 := zz_p1 b0
                        first
                        | omega
                        | (rw [show (200 + t : Int) = ((200 + t.toNat : Nat) : Int) by omega, h2, ← ad _ (200 + t.toNat) (by omega)]
                           refine zz_fst_c (fun k hk => ?_)
                           unfold zz_H1
                           rw [e9, ei]
                           constructor
                           · rintro ((z | z | z) | z)
                             · exact Or.inl z
                             · exact Or.inr (Or.inl ⟨by omega, z.2⟩)
                             · exact Or.inr (Or.inr ⟨z.1, by omega, z.2.2⟩)
                             · exact Or.inr (Or.inr ⟨by omega, by omega, by omega, by rw [z, Nat.add_sub_cancel_left]; exact b0⟩)
                           · rintro (z | z | z)
                             · exact Or.inl (Or.inl z)
                             · by_cases q : k = t.toNat
                               · exact absurd (by rw [← q]; exact z.2.2) a0
                               · exact Or.inl (Or.inr (Or.inl ⟨by omega, z.2⟩))
                             · by_cases q : k = 200 + t.toNat
                               · exact Or.inr q
                               · exact Or.inl (Or.inr (Or.inr ⟨z.1, by omega, z.2.2⟩)))
                      · have b1 : zz_p (zz_hC S (zz_nx (zz_mx S s.toNat) (S 125 s.toNat) p + i) (zz_ny (zz_my S s.toNat) p) t.toNat) = 0 := zz_p0 b0
                        first
                        | omega
                        | (rw [h2]
                           refine zz_fst_c (fun k hk => ?_)
                           unfold zz_H1
                           rw [e9, ei]
                           constructor
                           · rintro (z | z | z)
                             · exact Or.inl z
                             · exact Or.inr (Or.inl ⟨by omega, z.2⟩)
                             · exact Or.inr (Or.inr ⟨z.1, by omega, z.2.2⟩)
                           · rintro (z | z | z)
                             · exact Or.inl z
                             · by_cases q : k = t.toNat
                               · exact absurd (by rw [← q]; exact z.2.2) a0
                               · exact Or.inr (Or.inl ⟨by omega, z.2⟩)
                             · by_cases q : k = 200 + t.toNat
                               · exact absurd (by have := z.2.2.2; rw [q, Nat.add_sub_cancel_left] at this; exact this) b0
                               · exact Or.inr (Or.inr ⟨z.1, by omega, z.2.2⟩))
                    · first
                      | omega
                      | (rw [h2]
                         refine zz_fst_c (fun k hk => ?_)
                         unfold zz_H1
                         rw [e9, ei]
                         constructor
                         · rintro (z | z | z)
                           · exact Or.inl z
                           · exact Or.inr (Or.inl ⟨by omega, z.2⟩)
                           · exact Or.inr (Or.inr ⟨z.1, by omega, z.2.2⟩)
                         · rintro (z | z | z)
                           · exact Or.inl z
                           · by_cases q : k = t.toNat
                             · exact absurd (by rw [← q]; exact z.2.2) a0
                             · exact Or.inr (Or.inl ⟨by omega, z.2⟩)
                           · exact Or.inr (Or.inr ⟨z.1, by omega, z.2.2⟩)))))))
  have L : ∀ (k9 : Nat) (i c : Int) (u1 u2 u3 : Option qq_V), 12 - i < (k9 : Int) → (0 ≤ i ∧ i ≤ S 125 s.toNat) → (c = zz_fst (zz_Hs S s.toNat p i.toNat) 300) → qq_p xs (d + 12) (mm_mr mm_m170) (mm_mk mm_m170) (fun r S' => r = some (zz_mO S s.toNat p) ∧ S' = S) 5 [some (.inr (115, none)), some (.inl s), some (.inl p), some (.inl c), some (.inl i), u1, u2, u3] [] (S) := by
    intro k9
    induction k9 with
    | zero =>
      intro i c u1 u2 u3 hm h1 h2
      exfalso
      omega
    | succ k9 ih =>
      intro i c u1 u2 u3 hm h1 h2
      refine qq_fsound hxs (sp_41_ok hxs (d + 0)) [106, 38, 5] 300 ?_
      repeat' first | apply And.intro | intro _ | (simp only [qq_tab]) | (simp only [qq_pl])
      all_goals (
        (have bd := zz_fst_bd (zz_Hs S s.toNat p i.toNat) 300
         first
         | omega
         | exact (zz_pin _).1
         | exact (zz_pin _).2
         | exact ok _ (by omega) (by omega)
         | (have ei : i = S 125 s.toNat := by omega
            rw [h2, ei]
            first | done | rfl)
         | (refine L1 (S 4 0 + 1).toNat i 0 c (by omega) (by omega) ?_ (fun c2 v1 v2 v3 hc => ih _ _ _ _ _ (by omega) (by omega) hc)
            rw [h2]
            refine zz_fst_c (fun k hk => ?_)
            unfold zz_H1
            constructor
            · exact Or.inl
            · rintro (z | z | z)
              · exact z
              · have := z.1
                omega
              · have := z.2.1
                omega)))
  have h : qq_p xs (d + 12) (mm_mr mm_m170) (mm_mk mm_m170) (fun r S' => r = some (zz_mO S s.toNat p) ∧ S' = S) 0 (qq_ent mm_m170 [.inr (115, none), .inl s, .inl p]) [] S := by
    refine qq_fsound hxs (sp_41_ok hxs (d + 0)) [106, 38, 5] 300 ?_
    repeat' first | apply And.intro | intro _ | (simp only [qq_tab]) | (simp only [qq_pl])
    all_goals (first | omega | exact L 13 0 _ _ _ _ (by omega) (by omega) (zz_fst_no.mpr (fun k hk z => by obtain ⟨j, hj, -⟩ := z; omega)).symm)
  obtain ⟨r, S', hE, e1, e2⟩ := qq_call_of (y := 170) rfl (Nat.le_of_ble_eq_true rfl) h
  rw [e1, e2] at hE
  exact hE
noncomputable def sp_42 : qq_P := fun y as S => match y, as with
  | 170, [.inr (115, none), .inl s, .inl p] => some ((0 ≤ s ∧ s < S 4 0 ∧ 0 ≤ p ∧ p ≤ 7) ∧ zz_p (zz_N S) = 1 ∧ zz_p (zz_mall S) = 1 ∧ zz_p (zz_mnp S s) = 1, some (zz_mO S s.toNat p), S)
  | _, _ => sp_25 y as S
theorem sp_42_ok {xs : List Int32} (hxs : xs.length ≤ 2048) (d : Nat) : qq_ok xs (d + 16) sp_42 := by
  intro y as S pre r S2 h hp
  unfold sp_42 at h
  split at h
  · cases h; exact f170 hxs (d + 3) S _ _ hp
  · exact sp_25_ok hxs (d + 0) y as S pre r S2 h hp
