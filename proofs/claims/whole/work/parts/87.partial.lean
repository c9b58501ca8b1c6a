/-! A drawing of some of the stations that may still become an allowed one. -/
noncomputable def yy_pal (S : qq_S) (X Y : Nat → Int) : Prop :=
  (∀ a b : Nat, (a : Int) < S 4 0 → (b : Int) < S 4 0 → ¬ a = b → ¬ X a = -1 → ¬ X b = -1 → ¬ (X a = X b ∧ Y a = Y b)) ∧
  (∀ e : Nat, (e : Int) < S 4 2 → zz_dn X (S 22) (S 23) e → ¬ zz_cr X Y (S 22) (S 23) e ∧ ¬ zz_sho X Y (S 22) (S 23) (S 52 3) e) ∧
  (∀ e t : Nat, (e : Int) < S 4 2 → zz_dn X (S 22) (S 23) e → (t : Int) < S 4 0 → ¬ X t = -1 → ¬ zz_cov X Y (S 22) (S 23) e t) ∧
  (∀ e f : Nat, (e : Int) < S 4 2 → (f : Int) < S 4 2 → zz_dn X (S 22) (S 23) e → zz_dn X (S 22) (S 23) f → ¬ zz_crs X Y (S 22 e).toNat (S 23 e).toNat (S 22 f).toNat (S 23 f).toNat) ∧
  (∀ t : Nat, (t : Int) < S 4 0 → ¬ X t = -1 → ¬ zz_tw X Y (S 25) (fun s => S (26 + 1 + s)) t)
theorem yy_crs_self {X Y : Nat → Int} {a b : Nat} : ¬ zz_crs X Y a b a b := fun w3 => by
  have z1 : zz_side X Y a b a = 0 := by unfold zz_side; grind
  have w4 := w3.1
  rw [z1] at w4
  simp at w4
theorem yy_pal_al {S : qq_S} (hN : zz_N S) {X Y : Nat → Int} (hp : ∀ a : Nat, (a : Int) < S 4 0 → ¬ X a = -1) : yy_pal S X Y ↔ zz_al S X Y := by
  have gn := zz_N_nb hN
  have gb := hN.1.1
  have dn : ∀ e : Nat, (e : Int) < S 4 2 → zz_dn X (S 22) (S 23) e := fun e he => by
    have := gn.2.1 e he
    exact ⟨hp _ (by omega), hp _ (by omega)⟩
  constructor
  · rintro ⟨b1, b2, b3, b4, b5⟩
    refine ⟨fun a ha => hp a (by omega), fun a b ha hb z => ?_, fun e he => (b2 e (by omega) (dn e (by omega))).1, fun e he => (b2 e (by omega) (dn e (by omega))).2, fun e s he hs => b3 e s (by omega) (dn e (by omega)) (by omega) (hp s (by omega)), fun e f he hf z => ?_, fun s hs => b5 s (by omega) (hp s (by omega))⟩
    · exact b1 a b (by omega) (by omega) (by have := z.1; omega) (hp a (by omega)) (hp b (by omega)) z.2
    · exact b4 e f (by omega) (by omega) (dn e (by omega)) (dn f (by omega)) z.2
  · rintro ⟨a1, a2, a3, a4, a5, a6, a7⟩
    refine ⟨fun a b ha hb hab _ _ z => ?_, fun e he _ => ⟨a3 e (by omega), a4 e (by omega)⟩, fun e t he _ ht _ => a5 e t (by omega) (by omega), fun e f he hf _ _ z => ?_, fun t ht _ => a7 t (by omega)⟩
    · rcases Nat.lt_trichotomy a b with c | c | c
      · exact a2 a b (by omega) (by omega) ⟨c, z.1, z.2⟩
      · exact hab c
      · exact a2 b a (by omega) (by omega) ⟨c, z.1.symm, z.2.symm⟩
    · rcases Nat.lt_trichotomy e f with c | c | c
      · exact a6 e f (by omega) (by omega) ⟨c, z⟩
      · subst c; exact yy_crs_self z
      · exact a6 f e (by omega) (by omega) ⟨c, zz_crs_cm.mp z⟩
/-- one station more -/
theorem yy_pal_mv {S : qq_S} (hN : zz_N S) {X Y X' Y' : Nat → Int} {s : Nat} (hs : (s : Int) < S 4 0) (h : yy_pal S X Y) (ho : ∀ t : Nat, ¬ t = s → X t = X' t ∧ Y t = Y' t) (hu : X s = -1) (hp : ¬ X' s = -1) : yy_pal S X' Y' ↔ zz_gE X' Y' (S 25) (fun s => S (26 + 1 + s)) (S 52 3) s ∧ zz_fits (S 4 0) (S 4 2) X' Y' (S 22) (S 23) (S 25) (fun s => S (26 + 1 + s)) s := by
  have gb := hN.1.1
  have gn := zz_N_nb hN
  have ed : ∀ e : Nat, (e : Int) < S 4 2 → 0 ≤ S 22 e ∧ S 22 e < S 23 e ∧ S 23 e < S 4 0 := fun e he => by
    have := gn.2.1 e he
    omega
  have re : ∀ i : Nat, (i : Int) < S 25 s → ∃ e : Nat, (e : Int) < S 4 2 ∧ 0 ≤ S (26 + 1 + s) i ∧ S (26 + 1 + s) i < S 4 0 ∧ ¬ S (26 + 1 + s) i = s ∧ (((S 22 e).toNat = s ∧ (S 23 e).toNat = (S (26 + 1 + s) i).toNat) ∨ ((S 23 e).toNat = s ∧ (S 22 e).toNat = (S (26 + 1 + s) i).toNat)) := fun i hi => by
    obtain ⟨e, he, hl, r0, r1, r2, r3⟩ := zz_ring_edge hN (s := s) (i := i) (by omega) hi
    exact ⟨e, by omega, r0, r1, r2, by omega⟩
  have er : ∀ e : Nat, (e : Int) < S 4 2 → (∃ i : Nat, (i : Int) < S 25 s ∧ (((S 22 e).toNat = s ∧ (S 23 e).toNat = (S (26 + 1 + s) i).toNat) ∨ ((S 23 e).toNat = s ∧ (S 22 e).toNat = (S (26 + 1 + s) i).toNat))) ∨ (¬ (S 22 e).toNat = s ∧ ¬ (S 23 e).toNat = s) := fun e he => by
    have q := ed e he
    have w := zz_edge_ring hN (e := e) (by omega)
    by_cases c1 : (S 22 e).toNat = s
    · obtain ⟨i, hi, z⟩ := w.1
      rw [c1] at hi z
      exact Or.inl ⟨i, hi, Or.inl ⟨c1, by rw [z]⟩⟩
    · by_cases c2 : (S 23 e).toNat = s
      · obtain ⟨i, hi, z⟩ := w.2
        rw [c2] at hi z
        exact Or.inl ⟨i, hi, Or.inr ⟨c2, by rw [z]⟩⟩
      · exact Or.inr ⟨c1, c2⟩
  -- a drawn edge at s has its other end placed
  have dne : ∀ e i : Nat, zz_dn X' (S 22) (S 23) e → (((S 22 e).toNat = s ∧ (S 23 e).toNat = (S (26 + 1 + s) i).toNat) ∨ ((S 23 e).toNat = s ∧ (S 22 e).toNat = (S (26 + 1 + s) i).toNat)) → ¬ X' (S (26 + 1 + s) i).toNat = -1 := fun e i hd hl => by
    rcases hl with ⟨u, v⟩ | ⟨u, v⟩
    · rw [← v]; exact hd.2
    · rw [← v]; exact hd.1
  have dni : ∀ e i : Nat, ¬ X' (S (26 + 1 + s) i).toNat = -1 → (((S 22 e).toNat = s ∧ (S 23 e).toNat = (S (26 + 1 + s) i).toNat) ∨ ((S 23 e).toNat = s ∧ (S 22 e).toNat = (S (26 + 1 + s) i).toNat)) → zz_dn X' (S 22) (S 23) e := fun e i hd hl => by
    unfold zz_dn
    rcases hl with ⟨u, v⟩ | ⟨u, v⟩
    · rw [u, v]; exact ⟨hp, hd⟩
    · rw [u, v]; exact ⟨hd, hp⟩
  constructor
  · rintro ⟨b1, b2, b3, b4, b5⟩
    refine ⟨fun i hi z => ?_, fun t ht z => ?_, fun e he z => ?_, fun i hi z => ?_, fun i hi z => ?_, b5 s (by omega) hp⟩
    · obtain ⟨e, he, r0, r1, r2, hl⟩ := re i hi
      obtain ⟨c3, c4⟩ := b2 e he (dni e i z.1 hl)
      unfold zz_cr at c3
      unfold zz_sho at c4
      rcases hl with ⟨u, v⟩ | ⟨u, v⟩
      · rw [u, v] at c3 c4
        exact z.2.elim c4 c3
      · rw [u, v] at c3 c4
        exact z.2.elim (fun w => c4 (by rw [zz_len_sw]; exact w)) (fun w => c3 (zz_dr_sw.mp w))
    · exact b1 t s ht hs z.1 (by rw [z.2.1]; exact hp) hp z.2
    · exact b3 e s he z.1 hs hp z.2
    · obtain ⟨e, he, r0, r1, r2, hl⟩ := re i hi
      have hd := dni e i z.1 hl
      have q := ed e he
      refine z.2 ⟨fun t ht w => ?_, fun ⟨f, hf, w⟩ => ?_⟩
      · refine b3 e t he hd ht w.2.1 ⟨?_, ?_⟩
        · have := w.1
          have m1 : ¬ t = s := this.1
          have m2 : ¬ t = (S (26 + 1 + s) i).toNat := this.2
          omega
        · have w2 : zz_lies X' Y' t s (S (26 + 1 + s) i).toNat := w.2.2
          rcases hl with ⟨u, v⟩ | ⟨u, v⟩
          · rw [u, v]; exact w2
          · rw [u, v]; exact zz_lies_sw.mp w2
      · have w2 : zz_crs X' Y' s (S (26 + 1 + s) i).toNat (S 22 f).toNat (S 23 f).toNat := w.2
        refine b4 e f he hf hd w.1 ?_
        rcases hl with ⟨u, v⟩ | ⟨u, v⟩
        · rw [u, v]; exact w2
        · rw [u, v]; exact zz_crs_sw.mp w2
    · obtain ⟨e, he, r0, r1, r2, hl⟩ := re i hi
      exact b5 (S (26 + 1 + s) i).toNat (by omega) z.1 z.2
  · rintro ⟨gE, gA, gO, gL, gR1, gR2⟩
    obtain ⟨a1, a2, a3, a4, a5⟩ := h
    have pe : ∀ t : Nat, ¬ t = s → (¬ X t = -1 ↔ ¬ X' t = -1) := fun t ht => by rw [(ho t ht).1]
    have cl : ∀ i : Nat, (i : Int) < S 25 s → ¬ X' (S (26 + 1 + s) i).toNat = -1 → zz_clr (S 4 0) (S 4 2) X' Y' (S 22) (S 23) s (S (26 + 1 + s) i).toNat := fun i hi hq => Classical.not_not.mp (fun w => gL i hi ⟨hq, w⟩)
    have gd : ∀ i : Nat, (i : Int) < S 25 s → ¬ X' (S (26 + 1 + s) i).toNat = -1 → ¬ zz_ln X' Y' s (S (26 + 1 + s) i).toNat < S 52 3 ∧ ¬ zz_dr X' Y' s (S (26 + 1 + s) i).toNat = -1 := fun i hi hq => ⟨fun w => gE i hi ⟨hq, Or.inl w⟩, fun w => gE i hi ⟨hq, Or.inr w⟩⟩
    have dnX : ∀ e : Nat, ¬ (S 22 e).toNat = s → ¬ (S 23 e).toNat = s → zz_dn X' (S 22) (S 23) e → zz_dn X (S 22) (S 23) e := fun e n1 n2 hd => ⟨(pe _ n1).mpr hd.1, (pe _ n2).mpr hd.2⟩
    refine ⟨fun a b ha hb hab pa pb z => ?_, fun e he hd => ⟨fun z => ?_, fun z => ?_⟩, fun e t he hd ht pt z => ?_, fun e f he hf hd hdf z => ?_, fun t ht pt z => ?_⟩
    · by_cases c1 : a = s
      · subst c1
        exact gA b hb ⟨fun w => hab w.symm, z.1.symm, z.2.symm⟩
      · by_cases c2 : b = s
        · subst c2
          exact gA a ha ⟨c1, z.1, z.2⟩
        · refine a1 a b ha hb hab ((pe a c1).mpr pa) ((pe b c2).mpr pb) ⟨?_, ?_⟩
          · rw [(ho a c1).1, (ho b c2).1]; exact z.1
          · rw [(ho a c1).2, (ho b c2).2]; exact z.2
    · unfold zz_cr at z
      rcases er e he with ⟨i, hi, hl⟩ | ⟨n1, n2⟩
      · have hq := dne e i hd hl
        rcases hl with ⟨u, v⟩ | ⟨u, v⟩
        · rw [u, v] at z; exact (gd i hi hq).2 z
        · rw [u, v] at z; exact (gd i hi hq).2 (zz_dr_sw.mp z)
      · refine (a2 e he (dnX e n1 n2 hd)).1 ?_
        unfold zz_cr
        rw [zz_dr_c (ho _ n1) (ho _ n2)]
        exact z
    · unfold zz_sho at z
      rcases er e he with ⟨i, hi, hl⟩ | ⟨n1, n2⟩
      · have hq := dne e i hd hl
        rcases hl with ⟨u, v⟩ | ⟨u, v⟩
        · rw [u, v] at z; exact (gd i hi hq).1 z
        · rw [u, v, zz_len_sw] at z; exact (gd i hi hq).1 z
      · refine (a2 e he (dnX e n1 n2 hd)).2 ?_
        unfold zz_sho
        rw [zz_ln_c (ho _ n1) (ho _ n2)]
        exact z
    · have q := ed e he
      by_cases c : t = s
      · subst c
        exact gO e he ⟨hd, z⟩
      · rcases er e he with ⟨i, hi, hl⟩ | ⟨n1, n2⟩
        · have zl := z.2
          have zn := z.1
          refine (cl i hi (dne e i hd hl)).1 t ht ⟨⟨c, by omega⟩, pt, ?_⟩
          rcases hl with ⟨u, v⟩ | ⟨u, v⟩
          · rw [u, v] at zl; exact zl
          · rw [u, v] at zl; exact zz_lies_sw.mp zl
        · refine a3 e t he (dnX e n1 n2 hd) ht ((pe t c).mpr pt) ⟨z.1, ?_⟩
          rw [zz_lies_c (ho _ n1) (ho _ n2) (ho _ c)]
          exact z.2
    · rcases er e he with ⟨i, hi, hl⟩ | ⟨n1, n2⟩
      · refine (cl i hi (dne e i hd hl)).2 ⟨f, hf, hdf, ?_⟩
        have zl := z
        rcases hl with ⟨u, v⟩ | ⟨u, v⟩
        · rw [u, v] at zl; exact zl
        · rw [u, v] at zl; exact zz_crs_sw.mp zl
      · rcases er f hf with ⟨i, hi, hl⟩ | ⟨m1, m2⟩
        · refine (cl i hi (dne f i hdf hl)).2 ⟨e, he, hd, ?_⟩
          have zl := zz_crs_cm.mp z
          rcases hl with ⟨u, v⟩ | ⟨u, v⟩
          · rw [u, v] at zl; exact zl
          · rw [u, v] at zl; exact zz_crs_sw.mp zl
        · refine a4 e f he hf (dnX e n1 n2 hd) (dnX f m1 m2 hdf) ?_
          rw [zz_crs_c (ho _ n1) (ho _ n2) (ho _ m1) (ho _ m2)]
          exact z
    · by_cases c : t = s
      · subst c
        exact gR2 z
      · by_cases nb : ∃ i : Nat, (i : Int) < S 25 s ∧ (S (26 + 1 + s) i).toNat = t
        · obtain ⟨i, hi, e⟩ := nb
          refine gR1 i hi ⟨?_, ?_⟩
          · show ¬ X' (S (26 + 1 + s) i).toNat = -1
            rw [e]; exact pt
          · show zz_tw X' Y' (S 25) (fun s => S (26 + 1 + s)) (S (26 + 1 + s) i).toNat
            rw [e]
            exact z
        · refine a5 t ht ((pe t c).mpr pt) ?_
          have far : ∀ j : Nat, j < (S 25 t).toNat → ¬ (S (26 + 1 + t) j).toNat = s := fun j hj w => by
            obtain ⟨e, he, hl, r0, r1, r2, r3⟩ := zz_ring_edge hN (s := t) (i := j) (by omega) (by omega)
            have w2 := zz_edge_ring hN he
            rcases hl with ⟨u, v⟩ | ⟨u, v⟩
            · obtain ⟨i, hi, y⟩ := w2.2
              have e5 : (S 23 e).toNat = s := by rw [v]; exact w
              rw [e5] at hi y
              exact nb ⟨i, hi, by omega⟩
            · obtain ⟨i, hi, y⟩ := w2.1
              have e5 : (S 22 e).toNat = s := by rw [v]; exact w
              rw [e5] at hi y
              exact nb ⟨i, hi, by omega⟩
          unfold zz_tw at *
          intro y
          apply z
          unfold zz_rt at *
          rw [← zz_rf_c (pl := fun i => ¬ X ((fun s => S (26 + 1 + s)) t i).toNat = -1) (dr := fun i => zz_dr X Y t ((fun s => S (26 + 1 + s)) t i).toNat) (fun i hi => by
            show (¬ X (S (26 + 1 + t) i).toNat = -1) ↔ (¬ X' (S (26 + 1 + t) i).toNat = -1)
            rw [(ho _ (far i hi)).1]) (fun i hi _ => by
            show zz_dr X Y t (S (26 + 1 + t) i).toNat = zz_dr X' Y' t (S (26 + 1 + t) i).toNat
            exact zz_dr_c (ho _ c) (ho _ (far i hi)))]
          exact y
