/-! changes and better of the reference. -/
/-- a scan: the least c among the allowed, the first of those alike -/
noncomputable def zz_si (A : Nat → Int → Prop) (c : Nat → Int → Int) (s : Nat) (t : Int × Int × Int) : Nat → Int × Int × Int
  | 0 => t
  | p + 1 => if c s p < (zz_si A c s t p).1 ∧ zz_p (A s p) = 1 then (c s p, s, p) else zz_si A c s t p
noncomputable def zz_sc (A : Nat → Int → Prop) (c : Nat → Int → Int) (H : Nat → Int) (w : Nat) (c0 : Int) : Nat → Int × Int × Int
  | 0 => (c0, -1, -1)
  | s + 1 => if ¬ H s = 0 then zz_sc A c H w c0 s else zz_si A c s (zz_sc A c H w c0 s) w
theorem zz_si_no {A : Nat → Int → Prop} {c : Nat → Int → Int} {s p : Nat} {t : Int × Int × Int} (h : ¬ (c s p < (zz_si A c s t p).1 ∧ zz_p (A s p) = 1)) : zz_si A c s t (p + 1) = zz_si A c s t p := if_neg h
theorem zz_si_yes {A : Nat → Int → Prop} {c : Nat → Int → Int} {s p : Nat} {t : Int × Int × Int} (h : c s p < (zz_si A c s t p).1 ∧ zz_p (A s p) = 1) : zz_si A c s t (p + 1) = (c s p, (s : Int), (p : Int)) := if_pos h
theorem zz_si_bd {A : Nat → Int → Prop} {c : Nat → Int → Int} {c0 : Int} {s n w : Nat} {t : Int × Int × Int} (hs : s < n) : ∀ p : Nat, p ≤ w → (t.1 ≤ c0 ∧ -1 ≤ t.2.1 ∧ t.2.1 < n ∧ (t.2.1 = -1 ∨ (0 ≤ t.2.2 ∧ t.2.2 < w))) → ((zz_si A c s t p).1 ≤ c0 ∧ -1 ≤ (zz_si A c s t p).2.1 ∧ (zz_si A c s t p).2.1 < n ∧ ((zz_si A c s t p).2.1 = -1 ∨ (0 ≤ (zz_si A c s t p).2.2 ∧ (zz_si A c s t p).2.2 < w)))
  | 0, _, h => h
  | p + 1, hp, h => by
    have ih := zz_si_bd (A := A) (c := c) hs p (by omega) h
    unfold zz_si
    split
    · rename_i z
      refine ⟨by show c s p ≤ c0; omega, by show -1 ≤ (s : Int); omega, by show (s : Int) < n; omega, Or.inr ⟨by show 0 ≤ (p : Int); omega, by show (p : Int) < w; omega⟩⟩
    · exact ih
theorem zz_sc_bd {A : Nat → Int → Prop} {c : Nat → Int → Int} {H : Nat → Int} {w : Nat} {c0 : Int} {n : Nat} : ∀ s : Nat, s ≤ n → ((zz_sc A c H w c0 s).1 ≤ c0 ∧ -1 ≤ (zz_sc A c H w c0 s).2.1 ∧ (zz_sc A c H w c0 s).2.1 < n ∧ ((zz_sc A c H w c0 s).2.1 = -1 ∨ (0 ≤ (zz_sc A c H w c0 s).2.2 ∧ (zz_sc A c H w c0 s).2.2 < w)))
  | 0, _ => ⟨by show c0 ≤ c0; omega, by show (-1 : Int) ≤ -1; omega, by show (-1 : Int) < n; omega, Or.inl rfl⟩
  | s + 1, hs => by
    have ih := zz_sc_bd (A := A) (c := c) (H := H) (w := w) (c0 := c0) (n := n) s (by omega)
    unfold zz_sc
    split
    · exact ih
    · exact zz_si_bd (by omega) _ (Nat.le_refl _) ih
theorem zz_si_c {A B : Nat → Int → Prop} {c e : Nat → Int → Int} {s w : Nat} {t : Int × Int × Int} (h : ∀ p : Nat, p < w → (A s p ↔ B s p) ∧ (A s p → c s p = e s p)) : ∀ p : Nat, p ≤ w → zz_si A c s t p = zz_si B e s t p
  | 0, _ => rfl
  | p + 1, hp => by
    have ih := zz_si_c (t := t) h p (by omega)
    have q := h p (by omega)
    unfold zz_si
    rw [ih]
    by_cases a : A s p
    · rw [q.2 a, zz_p1 a, zz_p1 (q.1.mp a)]
    · rw [if_neg (fun z => a (zz_pi1.mp z.2)), if_neg (fun z => a (q.1.mpr (zz_pi1.mp z.2)))]
theorem zz_sc_c {A B : Nat → Int → Prop} {c e : Nat → Int → Int} {H G : Nat → Int} {w : Nat} {c0 : Int} {n : Nat} (hH : ∀ s, s < n → H s = G s) (h : ∀ s p : Nat, s < n → H s = 0 → p < w → (A s p ↔ B s p) ∧ (A s p → c s p = e s p)) : ∀ s : Nat, s ≤ n → zz_sc A c H w c0 s = zz_sc B e G w c0 s
  | 0, _ => rfl
  | s + 1, hs => by
    have ih := zz_sc_c (c0 := c0) hH h s (by omega)
    unfold zz_sc
    rw [ih, hH s (by omega)]
    split
    · rfl
    · rename_i z
      exact zz_si_c (fun p hp => h s p (by omega) (by rw [hH s (by omega)]; omega) hp) _ (Nat.le_refl _)
theorem zz_si_A {A : Nat → Int → Prop} {c : Nat → Int → Int} {s : Nat} {t : Int × Int × Int} (h : ¬ t.2.1 = -1 → A t.2.1.toNat t.2.2) : ∀ p : Nat, ¬ (zz_si A c s t p).2.1 = -1 → A (zz_si A c s t p).2.1.toNat (zz_si A c s t p).2.2
  | 0 => h
  | p + 1 => by
    have ih := zz_si_A (c := c) (s := s) h p
    unfold zz_si
    split
    · rename_i z
      intro _
      exact zz_pi1.mp z.2
    · exact ih
theorem zz_sc_A {A : Nat → Int → Prop} {c : Nat → Int → Int} {H : Nat → Int} {w : Nat} {c0 : Int} : ∀ s : Nat, ¬ (zz_sc A c H w c0 s).2.1 = -1 → A (zz_sc A c H w c0 s).2.1.toNat (zz_sc A c H w c0 s).2.2
  | 0 => fun h => absurd rfl h
  | s + 1 => by
    have ih := zz_sc_A (A := A) (c := c) (H := H) (w := w) (c0 := c0) s
    unfold zz_sc
    split
    · exact ih
    · exact zz_si_A ih _
/-- the reference's scan -/
noncomputable def zz_mA (S : qq_S) (s : Nat) (p : Int) : Prop := (zz_vM (qq_u S 123 s p)).1 = 0
noncomputable def zz_mC (S : qq_S) (s : Nat) (p : Int) : Int := zz_mcst (qq_u S 123 s p)
noncomputable def zz_msc (S : qq_S) : Nat → Int × Int × Int := zz_sc (zz_mA S) (zz_mC S) (S 124) (S 115 12 * S 115 13).toNat (zz_mcst S)
noncomputable def zz_mm (S : qq_S) : qq_S := if (zz_msc S (S 4 0).toNat).2.1 = -1 then S else qq_u S 123 (zz_msc S (S 4 0).toNat).2.1.toNat (zz_msc S (S 4 0).toNat).2.2
def zz_mgr (S : qq_S) : Prop := (2 ≤ S 115 12 ∧ S 115 12 ≤ 8 ∧ 2 ≤ S 115 13 ∧ S 115 13 ≤ 8) ∧ (0 ≤ S 115 14 ∧ S 115 14 ≤ 100 ∧ 0 ≤ S 115 15 ∧ S 115 15 ≤ 100 ∧ 0 ≤ S 115 16 ∧ S 115 16 ≤ 100 ∧ 0 ≤ S 115 17 ∧ S 115 17 ≤ 100) ∧ (∀ t : Nat, (t : Int) < S 4 0 → (S 124 t = 0 ∨ S 124 t = 1)) ∧ (∀ t : Nat, (t : Int) < S 4 0 → 0 ≤ S 123 t ∧ S 123 t < S 115 12 * S 115 13)
theorem zz_mgr_mall {S : qq_S} (h : zz_mgr S) : zz_mall S := by
  have w := h.1
  have whb := zz_mb2 (show 0 ≤ S 115 12 ∧ S 115 12 ≤ 8 by omega) (show 0 ≤ S 115 13 ∧ S 115 13 ≤ 8 by omega)
  exact ⟨by omega, fun i hi => by have := h.2.2.2 i hi; omega⟩
theorem zz_mgr_mpt {S : qq_S} (h : zz_mgr S) : zz_mpt S := by
  have w := h.1
  have v := h.2.1
  have m := zz_mgr_mall h
  exact ⟨by omega, by omega, fun i hi => by have := m.2 i hi; omega⟩
theorem zz_mgr_u {S : qq_S} (h : zz_mgr S) {s : Nat} {p : Int} (hp : 0 ≤ p ∧ p < S 115 12 * S 115 13) : zz_mgr (qq_u S 123 s p) := by
  unfold zz_mgr
  rw [qq_ueq (show 115 ≠ 123 by decide), qq_ueq (show 124 ≠ 123 by decide), qq_ueq (show 4 ≠ 123 by decide)]
  refine ⟨h.1, h.2.1, h.2.2.1, fun t ht => ?_⟩
  rw [qq_uat]
  split
  · exact hp
  · exact h.2.2.2 t ht
theorem zz_mgr_c {S T : qq_S} (c : zz_cI S T) (h : zz_mgr S) : zz_mgr T := by
  unfold zz_mgr
  rw [c.1 4 (by omega), c.1 123 (by omega), c.1 124 (by omega), c.2 12 (by omega), c.2 13 (by omega), c.2 14 (by omega), c.2 15 (by omega), c.2 16 (by omega), c.2 17 (by omega)]
  exact h
theorem zz_cI_123 {S T : qq_S} {k : Nat} {x y : Int} (h : zz_cI (qq_u S 123 k x) T) : zz_cI (qq_u S 123 k y) (qq_u T 123 k y) := by
  refine ⟨fun a ha => ?_, fun j hj => ?_⟩
  · by_cases e : a = 123
    · subst e
      funext t
      have q := congrFun (h.1 123 ha) t
      rw [qq_uat] at q
      rw [qq_uat, qq_uat]
      split
      · rfl
      · rename_i z; rw [if_neg z] at q; exact q
    · have q := h.1 a ha
      rw [qq_ueq e] at q
      rw [qq_ueq e, qq_ueq e, q]
  · have q := h.2 j hj
    rw [qq_ueq (by decide)] at q
    rw [qq_ueq (by decide), qq_ueq (by decide), q]
theorem zz_u123 (S : qq_S) (k : Nat) : qq_u S 123 k (S 123 k) = S := by
  funext a t
  by_cases e : a = 123
  · subst e; rw [qq_uat]; split
    · rename_i z; rw [z]
    · rfl
  · rw [qq_ueq e]
theorem zz_vM_bd {S : qq_S} (hN : zz_N S) : 0 ≤ (zz_vM S).1 ∧ (zz_vM S).1 ≤ 7 := by
  have gb := hN.1.1
  have gE := hN.2.2.1.1
  have kb := zz_vd_bd (n := (S 4 0).toNat) (E := (S 4 2).toNat) (p1 := (fun j : Nat => S 123 j = -1)) (p2 := (zz_msm S)) (p3 := (zz_mstr S)) (p4 := (zz_sho (zz_mx S) (zz_my S) (S 120) (S 121) (S 115 14))) (p5 := (zz_cov (zz_mx S) (zz_my S) (S 120) (S 121))) (p6 := (zz_mmt S)) (p7 := (fun s => ¬ zz_mtr S s)) (by omega) (by omega)
  exact kb.1
theorem zz_cN_123 (S : qq_S) (k : Nat) (x : Int) : zz_cN S (qq_u S 123 k x) := zz_cN_u (zz_cN0 S) (by omega)
set_option maxRecDepth 20000 in
theorem f163 {xs : List Int32} (hxs : xs.length ≤ 2048) (d : Nat) (S : qq_S) (hp : zz_p (zz_N S) = 1 ∧ zz_p (zz_mgr S) = 1) : ∃ S2, qq_E xs (d + 22) 163 [.inr (115, none)] S (some (if (zz_msc S (S 4 0).toNat).2.1 = -1 then 0 else 1)) S2 ∧ zz_cI (zz_mm S) S2 := by
  have gN := zz_pi1.mp hp.1
  have gM := zz_pi1.mp hp.2
  have gb := gN.1.1
  have gw := gM.1
  have gt := gM.2.1
  have whb := zz_mb2 (show 0 ≤ S 115 12 ∧ S 115 12 ≤ 8 by omega) (show 0 ≤ S 115 13 ∧ S 115 13 ≤ 8 by omega)
  have nn : ∀ T : qq_S, zz_cI S T → T 115 1 = S 4 0 := fun T c => by rw [c.2 1 (by omega)]; omega
  have uN : ∀ (k : Nat) (x : Int), zz_N (qq_u S 123 k x) := fun k x => zz_N_c (zz_cN_123 S k x) gN
  have c0b := zz_mcst_bd gN (zz_mgr_mall gM) (by omega) (by omega) (by omega)
  have Li : ∀ (k9 : Nat) (m st tg s was p : Int) (T : qq_S), S 115 12 * S 115 13 - p < (k9 : Int) → (0 ≤ s ∧ s < S 4 0 ∧ 0 ≤ p ∧ p ≤ S 115 12 * S 115 13) → (zz_cI (qq_u S 123 s.toNat (T 123 s.toNat)) T) → (was = S 123 s.toNat) → (if S 124 s.toNat = 0 then (m, st, tg) = zz_si (zz_mA S) (zz_mC S) s.toNat (zz_msc S s.toNat) p.toNat else (p = 0 ∧ (m, st, tg) = zz_msc S s.toNat)) → (0 ≤ m ∧ m ≤ 1000000 ∧ -1 ≤ st ∧ st < S 4 0 ∧ (st = -1 ∨ (0 ≤ tg ∧ tg < S 115 12 * S 115 13))) → (∀ (m2 st2 tg2 : Int) (u5 u6 : Option qq_V) (T2 : qq_S), zz_cI S T2 → (m2, st2, tg2) = zz_msc S (s + 1).toNat → (0 ≤ m2 ∧ m2 ≤ 1000000 ∧ -1 ≤ st2 ∧ st2 < S 4 0 ∧ (st2 = -1 ∨ (0 ≤ tg2 ∧ tg2 < S 115 12 * S 115 13))) → qq_p xs (d + 21) (mm_mr mm_m163) (mm_mk mm_m163) (fun r S2 => r = some (if (zz_msc S (S 4 0).toNat).2.1 = -1 then 0 else 1) ∧ zz_p (zz_cI (zz_mm S) S2) = 1) 12 [some (.inr (115, none)), some (.inl m2), some (.inl st2), some (.inl tg2), some (.inl (s + 1)), u5, u6] [] T2) → qq_p xs (d + 21) (mm_mr mm_m163) (mm_mk mm_m163) (fun r S2 => r = some (if (zz_msc S (S 4 0).toNat).2.1 = -1 then 0 else 1) ∧ zz_p (zz_cI (zz_mm S) S2) = 1) 33 [some (.inr (115, none)), some (.inl m), some (.inl st), some (.inl tg), some (.inl s), some (.inl was), some (.inl p)] [] (T) := by
    intro k9
    induction k9 with
    | zero =>
      intro m st tg s was p T hm h1 h3 h5 h2 h6 h4
      exfalso
      omega
    | succ k9 ih =>
      intro m st tg s was p T hm h1 h3 h5 h2 h6 h4
      refine qq_fsound hxs (sp_31_ok hxs (d + 0)) [33, 12] 300 ?_
      repeat' first | apply And.intro | intro _ | (simp only [qq_tab]) | (simp only [qq_pl])
      all_goals (
        (have t12 : T 115 12 = S 115 12 := h3.2 12 (by omega)
         have t13 : T 115 13 = S 115 13 := h3.2 13 (by omega)
         have t124 : T 124 = S 124 := h3.1 124 (by omega)
         have twh : T 115 12 * T 115 13 = S 115 12 * S 115 13 := by rw [t12, t13]
         have th : T 124 s.toNat = S 124 s.toNat := by rw [t124]
         have hd := gM.2.2.1 s.toNat (by omega)
         have pb := gM.2.2.2 s.toNat (by omega)
         have cT : zz_cI (qq_u S 123 s.toNat p) (qq_u T 123 s.toNat p) := zz_cI_123 h3
         have cW := zz_cI_t cT (zz_cI_wS _)
         have vT : zz_vM (qq_u T 123 s.toNat p) = zz_vM (qq_u S 123 s.toNat p) := zz_cI_vM cT (uN _ _)
         have mT : zz_mcst (zz_wS (qq_u T 123 s.toNat p)) = zz_mC S s.toNat p := (zz_cI_mc cW).2.2.2
         have cH : zz_cI S (qq_u T 123 s.toNat was) := by
           have q := zz_cI_123 (y := was) h3
           rw [h5, zz_u123, ← h5] at q
           exact q
         have es : ((s.toNat : Nat) : Int) = s := by omega
         have ep : ((p.toNat : Nat) : Int) = p := by omega
         have ep1 : (p + 1).toNat = p.toNat + 1 := by omega
         have es1 : (s + 1).toNat = s.toNat + 1 := by omega
         first
         | omega
         | exact Or.inl trivial
         | exact Or.inr trivial
         | exact zz_p1 (zz_N_c (zz_cI_N cT) (uN _ _))
         | exact zz_p1 (zz_N_c (zz_cI_N cW) (uN _ _))
         | exact zz_p1 (zz_mgr_mpt (zz_mgr_c cT (zz_mgr_u gM (by omega))))
         | exact zz_p1 (zz_mgr_mall (zz_mgr_c cW (zz_mgr_u gM (by omega))))
         | (have vb := zz_vM_bd (zz_N_c (zz_cI_N cT) (uN _ _))
            omega)
         | (have mb := zz_mcst_bd (zz_N_c (zz_cI_N cW) (uN _ _)) (zz_mgr_mall (zz_mgr_c cW (zz_mgr_u gM (by omega)))) (by rw [cW.2 15 (by omega), qq_ueq (by decide)]; omega) (by rw [cW.2 16 (by omega), qq_ueq (by decide)]; omega) (by rw [cW.2 17 (by omega), qq_ueq (by decide)]; omega)
            omega)
         | (refine h4 m st tg _ _ _ cH ?_ h6
            unfold zz_msc zz_sc
            rw [es1]
            show _ = if ¬ S 124 s.toNat = 0 then zz_msc S s.toNat else zz_si (zz_mA S) (zz_mC S) s.toNat (zz_msc S s.toNat) (S 115 12 * S 115 13).toNat
            by_cases z : S 124 s.toNat = 0
            · rw [if_pos z] at h2
              rw [if_neg (not_not_intro z), h2, show p = S 115 12 * S 115 13 by omega]
            · rw [if_neg z] at h2
              rw [if_pos z]; exact h2.2)
         | (have hz : S 124 s.toNat = 0 := by omega
            rw [if_pos hz] at h2
            have h2a : (zz_si (zz_mA S) (zz_mC S) s.toNat (zz_msc S s.toNat) p.toNat).1 = m := by rw [← h2]
            have cW2 : zz_cI (qq_u S 123 s.toNat (zz_wS (qq_u T 123 s.toNat p) 123 s.toNat)) (zz_wS (qq_u T 123 s.toNat p)) := by
              have q := congrFun (cW.1 123 (by omega)) s.toNat
              rw [qq_uat, if_pos rfl] at q
              rw [q]; exact cW
            have h2b : ∀ z : (m, st, tg) = zz_si (zz_mA S) (zz_mC S) s.toNat (zz_msc S s.toNat) (p + 1).toNat, (if S 124 s.toNat = 0 then (m, st, tg) = zz_si (zz_mA S) (zz_mC S) s.toNat (zz_msc S s.toNat) (p + 1).toNat else (p + 1 = 0 ∧ (m, st, tg) = zz_msc S s.toNat)) := fun z => by rw [if_pos hz]; exact z
            first
            | (have c1 : ¬ (zz_vM (qq_u T 123 s.toNat p)).1 = 0 := by assumption
               exact ih m st tg s was (p + 1) _ (by omega) (by omega) cW2 h5 (h2b (by
                 rw [ep1, zz_si_no (by rw [ep]; intro z; refine c1 ?_; rw [vT]; exact zz_pi1.mp z.2)]; exact h2)) h6 h4)
            | (have c2 : ¬ zz_mcst (zz_wS (qq_u T 123 s.toNat p)) < m := by assumption
               exact ih m st tg s was (p + 1) _ (by omega) (by omega) cW2 h5 (h2b (by
                 rw [ep1, zz_si_no (by rw [ep, h2a, ← mT]; intro z; exact c2 z.1)]; exact h2)) h6 h4)
            | (have c3 : p = was := by assumption
               exact ih m st tg s was (p + 1) _ (by omega) (by omega) h3 h5 (h2b (by
                 have e0 : zz_mC S s.toNat p = zz_mcst S := by unfold zz_mC; rw [c3, h5, zz_u123]
                 have bb := (zz_si_bd (A := zz_mA S) (c := zz_mC S) (c0 := zz_mcst S) (s := s.toNat) (n := (S 4 0).toNat) (w := (S 115 12 * S 115 13).toNat) (t := zz_msc S s.toNat) (by omega) p.toNat (by omega) (zz_sc_bd s.toNat (by omega))).1
                 rw [ep1, zz_si_no (by rw [ep, e0]; intro z; have := z.1; omega)]; exact h2)) h6 h4)
            | (have c1 : (zz_vM (qq_u T 123 s.toNat p)).1 = 0 := by assumption
               have c2 : zz_mcst (zz_wS (qq_u T 123 s.toNat p)) < m := by assumption
               have mb := zz_mcst_bd (zz_N_c (zz_cI_N cW) (uN _ _)) (zz_mgr_mall (zz_mgr_c cW (zz_mgr_u gM (by omega)))) (by rw [cW.2 15 (by omega), qq_ueq (by decide)]; omega) (by rw [cW.2 16 (by omega), qq_ueq (by decide)]; omega) (by rw [cW.2 17 (by omega), qq_ueq (by decide)]; omega)
               exact ih (zz_mcst (zz_wS (qq_u T 123 s.toNat p))) s p s was (p + 1) _ (by omega) (by omega) cW2 h5 (by
                 rw [if_pos hz, ep1, zz_si_yes (by rw [ep, h2a, ← mT]; exact ⟨c2, zz_p1 (by unfold zz_mA; rw [← vT]; exact c1)⟩), ep, es, mT]) (by omega) h4))
         | skip))
  have L : ∀ (k9 : Nat) (s m st tg : Int) (u5 u6 : Option qq_V) (T : qq_S), S 4 0 - s < (k9 : Int) → (0 ≤ s ∧ s ≤ S 4 0) → (zz_cI S T) → ((m, st, tg) = zz_msc S s.toNat) → (0 ≤ m ∧ m ≤ 1000000 ∧ -1 ≤ st ∧ st < S 4 0 ∧ (st = -1 ∨ (0 ≤ tg ∧ tg < S 115 12 * S 115 13))) → qq_p xs (d + 21) (mm_mr mm_m163) (mm_mk mm_m163) (fun r S2 => r = some (if (zz_msc S (S 4 0).toNat).2.1 = -1 then 0 else 1) ∧ zz_p (zz_cI (zz_mm S) S2) = 1) 12 [some (.inr (115, none)), some (.inl m), some (.inl st), some (.inl tg), some (.inl s), u5, u6] [] (T) := by
    intro k9
    induction k9 with
    | zero =>
      intro s m st tg u5 u6 T hm h1 h3 h2 h6
      exfalso
      omega
    | succ k9 ih =>
      intro s m st tg u5 u6 T hm h1 h3 h2 h6
      refine qq_fsound hxs (sp_31_ok hxs (d + 0)) [33, 12] 300 ?_
      repeat' first | apply And.intro | intro _ | (simp only [qq_tab]) | (simp only [qq_pl])
      all_goals (
        (have t1 := nn T h3
         have t123 : T 123 = S 123 := h3.1 123 (by omega)
         have h2b : (zz_msc S s.toNat).2.1 = st ∧ (zz_msc S s.toNat).2.2 = tg := by rw [← h2]; exact ⟨rfl, rfl⟩
         first
         | omega
         | exact Or.inl trivial
         | exact Or.inr trivial
         | (have es : s = S 4 0 := by omega
            subst es
            first
            | (have c0 : st = -1 := by assumption
               first
               | (rw [if_pos (by rw [h2b.1]; exact c0)]; done)
               | (refine zz_p1 ?_; unfold zz_mm; rw [if_pos (by rw [h2b.1]; exact c0)]; exact h3))
            | (have c0 : ¬ st = -1 := by assumption
               first
               | (rw [if_neg (by rw [h2b.1]; exact c0)]; done)
               | (refine zz_p1 ?_
                  unfold zz_mm
                  rw [if_neg (by rw [h2b.1]; exact c0), h2b.1, h2b.2]
                  exact zz_cI_123 (x := S 123 st.toNat) (by rw [zz_u123]; exact h3))))
         | (have sl : s < S 4 0 := by omega
            have pb := gM.2.2.2 s.toNat (by omega)
            have tp : T 123 s.toNat = S 123 s.toNat := by rw [t123]
            refine Li (S 115 12 * S 115 13 + 1).toNat m st tg s _ 0 T (by omega) (by omega) (by rw [tp, zz_u123]; exact h3) tp (by
              by_cases z : S 124 s.toNat = 0
              · rw [if_pos z, h2]; rfl
              · rw [if_neg z]; exact ⟨rfl, h2⟩) h6 (fun m2 st2 tg2 v5 v6 T2 k0 k1 k2 => ih _ _ _ _ _ _ _ (by omega) (by omega) k0 k1 k2))
         | skip))
  have h : qq_p xs (d + 21) (mm_mr mm_m163) (mm_mk mm_m163) (fun r S2 => r = some (if (zz_msc S (S 4 0).toNat).2.1 = -1 then 0 else 1) ∧ zz_p (zz_cI (zz_mm S) S2) = 1) 0 (qq_ent mm_m163 [.inr (115, none)]) [] S := by
    refine qq_fsound hxs (sp_31_ok hxs (d + 0)) [33, 12] 300 ?_
    repeat' first | apply And.intro | intro _ | (simp only [qq_tab]) | (simp only [qq_pl])
    all_goals (
      first
      | omega
      | exact hp.1
      | exact zz_p1 (zz_mgr_mall gM)
      | exact L (S 4 0 + 1).toNat 0 _ (-1) (-1) _ _ S (by omega) (by omega) (zz_cI0 S) rfl (by omega)
      | skip)
  obtain ⟨r, S2, hE, e1, e2⟩ := qq_call_of (y := 163) rfl (Nat.le_of_ble_eq_true rfl) h
  rw [e1] at hE
  exact ⟨S2, hE, zz_pi1.mp e2⟩
