/-! One station moved: what must hold again. -/
theorem zz_crs_cm {X Y : Nat → Int} {a b c d : Nat} : zz_crs X Y a b c d ↔ zz_crs X Y c d a b := by
  unfold zz_crs
  exact ⟨fun z => ⟨z.2, z.1⟩, fun z => ⟨z.2, z.1⟩⟩
theorem zz_crs_sw {X Y : Nat → Int} {a b c d : Nat} : zz_crs X Y a b c d ↔ zz_crs X Y b a c d := by
  unfold zz_crs
  rw [zz_side_sw X Y a b c, zz_side_sw X Y a b d, Int.neg_mul_neg, Int.mul_comm (zz_side X Y c d a)]
theorem zz_len_sw {X Y : Nat → Int} {a b : Nat} : zz_ln X Y a b = zz_ln X Y b a := by
  unfold zz_ln zz_len
  have h1 : zz_abs (X b - X a) = zz_abs (X a - X b) := by unfold zz_abs; split <;> split <;> omega
  have h2 : zz_abs (Y b - Y a) = zz_abs (Y a - Y b) := by unfold zz_abs; split <;> split <;> omega
  rw [h1, h2]
theorem zz_crs_c {X Y X' Y' : Nat → Int} {a b c d : Nat} (ha : X a = X' a ∧ Y a = Y' a) (hb : X b = X' b ∧ Y b = Y' b) (hc : X c = X' c ∧ Y c = Y' c) (hd : X d = X' d ∧ Y d = Y' d) : zz_crs X Y a b c d ↔ zz_crs X' Y' a b c d := by
  unfold zz_crs
  rw [zz_side_c ha hb hc, zz_side_c ha hb hd, zz_side_c hc hd ha, zz_side_c hc hd hb]
/-- an edge at s stands in the round of s -/
theorem zz_edge_ring {S : qq_S} (h : zz_N S) {e : Nat} (he : (e : Int) < S 4 2) : (∃ i : Nat, (i : Int) < S 25 (S 22 e).toNat ∧ S (26 + 1 + (S 22 e).toNat) i = S 23 e) ∧ (∃ i : Nat, (i : Int) < S 25 (S 23 e).toNat ∧ S (26 + 1 + (S 23 e).toNat) i = S 22 e) := by
  have C := zz_N_CE h
  have b := C.1
  have q := C.2.2.2.2.1 e he
  have r := C.2.2.2.2.2.2.2
  constructor
  · obtain ⟨i, hi, z⟩ := (r (S 22 e).toNat (by omega)).2.2.1 (S 23 e).toNat (by omega) (show ¬ S (37 + 1 + (S 22 e).toNat) (S 23 e).toNat = -1 by omega)
    exact ⟨i, hi, by omega⟩
  · obtain ⟨i, hi, z⟩ := (r (S 23 e).toNat (by omega)).2.2.1 (S 22 e).toNat (by omega) (show ¬ S (37 + 1 + (S 23 e).toNat) (S 22 e).toNat = -1 by omega)
    exact ⟨i, hi, by omega⟩
/-- a drawing that is allowed -/
noncomputable def zz_al (S : qq_S) (X Y : Nat → Int) : Prop := (∀ a, a < (S 4 0).toNat → ¬ X a = -1) ∧ (∀ a b, a < (S 4 0).toNat → b < (S 4 0).toNat → ¬ zz_sm X Y a b) ∧ (∀ e, e < (S 4 2).toNat → ¬ zz_cr X Y (S 22) (S 23) e) ∧ (∀ e, e < (S 4 2).toNat → ¬ zz_sho X Y (S 22) (S 23) (S 52 3) e) ∧ (∀ e s, e < (S 4 2).toNat → s < (S 4 0).toNat → ¬ zz_cov X Y (S 22) (S 23) e s) ∧ (∀ e f, e < (S 4 2).toNat → f < (S 4 2).toNat → ¬ zz_cx X Y (S 22) (S 23) e f) ∧ (∀ s, s < (S 4 0).toNat → ¬ zz_tw X Y (S 25) (fun s => S (26 + 1 + s)) s)
theorem zz_al_vC {S : qq_S} : (zz_vC S).1 = 0 ↔ zz_al S (S 49) (S 50) := zz_vd_ok
theorem zz_al_mv {S : qq_S} (hN : zz_N S) {X Y X' Y' : Nat → Int} {s : Nat} (hs : (s : Int) < S 4 0) (h : zz_al S X Y) (ho : ∀ t : Nat, ¬ t = s → X t = X' t ∧ Y t = Y' t) (hp : ¬ X' s = -1) : zz_al S X' Y' ↔ zz_gE X' Y' (S 25) (fun s => S (26 + 1 + s)) (S 52 3) s ∧ zz_fits (S 4 0) (S 4 2) X' Y' (S 22) (S 23) (S 25) (fun s => S (26 + 1 + s)) s := by
  have gb := hN.1.1
  have gn := zz_N_nb hN
  have ed : ∀ e : Nat, e < (S 4 2).toNat → 0 ≤ S 22 e ∧ S 22 e < S 23 e ∧ S 23 e < S 4 0 := fun e he => by
    have := gn.2.1 e (by omega)
    omega
  -- the edge of a neighbour
  have re : ∀ i : Nat, (i : Int) < S 25 s → ∃ e : Nat, e < (S 4 2).toNat ∧ 0 ≤ S (26 + 1 + s) i ∧ S (26 + 1 + s) i < S 4 0 ∧ ¬ S (26 + 1 + s) i = s ∧ (((S 22 e).toNat = s ∧ (S 23 e).toNat = (S (26 + 1 + s) i).toNat) ∨ ((S 23 e).toNat = s ∧ (S 22 e).toNat = (S (26 + 1 + s) i).toNat)) := fun i hi => by
    obtain ⟨e, he, hl, r0, r1, r2, r3⟩ := zz_ring_edge hN (s := s) (i := i) (by omega) hi
    exact ⟨e, by omega, r0, r1, r2, by omega⟩
  -- an edge at s, or away from it
  have er : ∀ e : Nat, e < (S 4 2).toNat → (∃ i : Nat, (i : Int) < S 25 s ∧ (((S 22 e).toNat = s ∧ (S 23 e).toNat = (S (26 + 1 + s) i).toNat) ∨ ((S 23 e).toNat = s ∧ (S 22 e).toNat = (S (26 + 1 + s) i).toNat))) ∨ (¬ (S 22 e).toNat = s ∧ ¬ (S 23 e).toNat = s) := fun e he => by
    have q := ed e he
    have w := zz_edge_ring hN (e := e) (by omega)
    by_cases c1 : (S 22 e).toNat = s
    · obtain ⟨i, hi, z⟩ := w.1
      rw [c1] at hi z
      exact Or.inl ⟨i, hi, Or.inl ⟨c1, by rw [z]⟩⟩
    · by_cases c2 : (S 23 e).toNat = s
      · obtain ⟨i, hi, z⟩ := w.2
        rw [c2] at hi z
        exact Or.inl ⟨i, hi, Or.inr ⟨c2, by rw [z]⟩⟩
      · exact Or.inr ⟨c1, c2⟩
  constructor
  · rintro ⟨a1, a2, a3, a4, a5, a6, a7⟩
    have dn : ∀ e, e < (S 4 2).toNat → zz_dn X' (S 22) (S 23) e := fun e he => by
      have q := ed e he
      exact ⟨a1 _ (by omega), a1 _ (by omega)⟩
    refine ⟨fun i hi z => ?_, fun t ht z => ?_, fun e he z => ?_, fun i hi z => ?_, fun i hi z => ?_, a7 s (by omega)⟩
    · obtain ⟨e, he, r0, r1, r2, hl⟩ := re i hi
      have c3 := a3 e he
      have c4 := a4 e he
      unfold zz_cr at c3
      unfold zz_sho at c4
      rcases hl with ⟨u, v⟩ | ⟨u, v⟩
      · rw [u, v] at c3 c4
        exact z.2.elim c4 c3
      · rw [u, v] at c3 c4
        exact z.2.elim (fun w => c4 (by rw [zz_len_sw]; exact w)) (fun w => c3 (zz_dr_sw.mp w))
    · rcases Nat.lt_trichotomy t s with c | c | c
      · exact a2 t s (by omega) (by omega) ⟨c, z.2.1, z.2.2⟩
      · exact z.1 c
      · exact a2 s t (by omega) (by omega) ⟨c, z.2.1.symm, z.2.2.symm⟩
    · exact a5 e s (by omega) (by omega) z.2
    · obtain ⟨e, he, r0, r1, r2, hl⟩ := re i hi
      have q := ed e he
      refine z.2 ⟨fun t ht w => ?_, fun ⟨f, hf, w⟩ => ?_⟩
      · refine a5 e t he (by omega) ⟨?_, ?_⟩
        · have := w.1
          have m1 : ¬ t = s := this.1
          have m2 : ¬ t = (S (26 + 1 + s) i).toNat := this.2
          omega
        · have w2 : zz_lies X' Y' t s (S (26 + 1 + s) i).toNat := w.2.2
          rcases hl with ⟨u, v⟩ | ⟨u, v⟩
          · rw [u, v]; exact w2
          · rw [u, v]; exact zz_lies_sw.mp w2
      · have w2 : zz_crs X' Y' s (S (26 + 1 + s) i).toNat (S 22 f).toNat (S 23 f).toNat := w.2
        have w3 : zz_crs X' Y' (S 22 e).toNat (S 23 e).toNat (S 22 f).toNat (S 23 f).toNat := by
          rcases hl with ⟨u, v⟩ | ⟨u, v⟩
          · rw [u, v]; exact w2
          · rw [u, v]; exact zz_crs_sw.mp w2
        rcases Nat.lt_trichotomy e f with c | c | c
        · exact a6 e f he (by omega) ⟨c, w3⟩
        · subst c
          have z1 : zz_side X' Y' (S 22 e).toNat (S 23 e).toNat (S 22 e).toNat = 0 := by unfold zz_side; grind
          have w4 := w3.1
          rw [z1] at w4
          simp at w4
        · exact a6 f e (by omega) he ⟨c, zz_crs_cm.mp w3⟩
    · obtain ⟨e, he, r0, r1, r2, hl⟩ := re i hi
      exact a7 _ (by show (S (26 + 1 + s) i).toNat < _; omega) z.2
  · rintro ⟨gE, gA, gO, gL, gR1, gR2⟩
    obtain ⟨a1, a2, a3, a4, a5, a6, a7⟩ := h
    have p1 : ∀ a, a < (S 4 0).toNat → ¬ X' a = -1 := fun a ha => by
      by_cases c : a = s
      · rw [c]; exact hp
      · rw [← (ho a c).1]; exact a1 a ha
    have dn : ∀ e, e < (S 4 2).toNat → zz_dn X' (S 22) (S 23) e := fun e he => by
      have q := ed e he
      exact ⟨p1 _ (by omega), p1 _ (by omega)⟩
    have cl : ∀ i : Nat, (i : Int) < S 25 s → zz_clr (S 4 0) (S 4 2) X' Y' (S 22) (S 23) s (S (26 + 1 + s) i).toNat := fun i hi => by
      obtain ⟨e, he, r0, r1, r2, hl⟩ := re i hi
      exact Classical.not_not.mp (fun w => gL i hi ⟨p1 _ (by show (S (26 + 1 + s) i).toNat < _; omega), w⟩)
    have gd : ∀ i : Nat, (i : Int) < S 25 s → ¬ zz_ln X' Y' s (S (26 + 1 + s) i).toNat < S 52 3 ∧ ¬ zz_dr X' Y' s (S (26 + 1 + s) i).toNat = -1 := fun i hi => by
      obtain ⟨e, he, r0, r1, r2, hl⟩ := re i hi
      have pl := p1 (S (26 + 1 + s) i).toNat (by omega)
      exact ⟨fun w => gE i hi ⟨pl, Or.inl w⟩, fun w => gE i hi ⟨pl, Or.inr w⟩⟩
    refine ⟨p1, fun a b ha hb z => ?_, fun e he z => ?_, fun e he z => ?_, fun e t he ht z => ?_, fun e f he hf z => ?_, fun t ht z => ?_⟩
    · by_cases c1 : a = s
      · subst c1
        exact gA b (by omega) ⟨by have := z.1; omega, z.2.1.symm, z.2.2.symm⟩
      · by_cases c2 : b = s
        · subst c2
          exact gA a (by omega) ⟨c1, z.2.1, z.2.2⟩
        · refine a2 a b ha hb ⟨z.1, ?_, ?_⟩
          · rw [(ho a c1).1, (ho b c2).1]; exact z.2.1
          · rw [(ho a c1).2, (ho b c2).2]; exact z.2.2
    · unfold zz_cr at z
      rcases er e he with ⟨i, hi, hl⟩ | ⟨n1, n2⟩
      · rcases hl with ⟨u, v⟩ | ⟨u, v⟩
        · rw [u, v] at z; exact (gd i hi).2 z
        · rw [u, v] at z; exact (gd i hi).2 (zz_dr_sw.mp z)
      · refine a3 e he ?_
        unfold zz_cr
        rw [zz_dr_c (ho _ n1) (ho _ n2)]
        exact z
    · unfold zz_sho at z
      rcases er e he with ⟨i, hi, hl⟩ | ⟨n1, n2⟩
      · rcases hl with ⟨u, v⟩ | ⟨u, v⟩
        · rw [u, v] at z; exact (gd i hi).1 z
        · rw [u, v, zz_len_sw] at z; exact (gd i hi).1 z
      · refine a4 e he ?_
        unfold zz_sho
        rw [zz_ln_c (ho _ n1) (ho _ n2)]
        exact z
    · have q := ed e he
      by_cases c : t = s
      · subst c
        exact gO e (by omega) ⟨dn e he, z⟩
      · rcases er e he with ⟨i, hi, hl⟩ | ⟨n1, n2⟩
        · have zl := z.2
          have zn := z.1
          refine (cl i hi).1 t (by omega) ⟨⟨c, by omega⟩, p1 t ht, ?_⟩
          rcases hl with ⟨u, v⟩ | ⟨u, v⟩
          · rw [u, v] at zl; exact zl
          · rw [u, v] at zl; exact zz_lies_sw.mp zl
        · refine a5 e t he ht ⟨z.1, ?_⟩
          rw [zz_lies_c (ho _ n1) (ho _ n2) (ho _ c)]
          exact z.2
    · rcases er e he with ⟨i, hi, hl⟩ | ⟨n1, n2⟩
      · refine (cl i hi).2 ⟨f, by omega, dn f hf, ?_⟩
        have zl := z.2
        rcases hl with ⟨u, v⟩ | ⟨u, v⟩
        · rw [u, v] at zl; exact zl
        · rw [u, v] at zl; exact zz_crs_sw.mp zl
      · rcases er f hf with ⟨i, hi, hl⟩ | ⟨m1, m2⟩
        · refine (cl i hi).2 ⟨e, by omega, dn e he, ?_⟩
          have zl := zz_crs_cm.mp z.2
          rcases hl with ⟨u, v⟩ | ⟨u, v⟩
          · rw [u, v] at zl; exact zl
          · rw [u, v] at zl; exact zz_crs_sw.mp zl
        · refine a6 e f he hf ⟨z.1, ?_⟩
          rw [zz_crs_c (ho _ n1) (ho _ n2) (ho _ m1) (ho _ m2)]
          exact z.2
    · by_cases c : t = s
      · subst c
        exact gR2 z
      · by_cases nb : ∃ i : Nat, (i : Int) < S 25 s ∧ (S (26 + 1 + s) i).toNat = t
        · obtain ⟨i, hi, e⟩ := nb
          refine gR1 i hi ⟨p1 _ (by show (S (26 + 1 + s) i).toNat < _; omega), ?_⟩
          show zz_tw X' Y' (S 25) (fun s => S (26 + 1 + s)) (S (26 + 1 + s) i).toNat
          rw [e]
          exact z
        · refine a7 t ht ?_
          have far : ∀ j : Nat, j < (S 25 t).toNat → ¬ (S (26 + 1 + t) j).toNat = s := fun j hj w => by
            obtain ⟨e, he, hl, r0, r1, r2, r3⟩ := zz_ring_edge hN (s := t) (i := j) (by omega) (by omega)
            have w2 := zz_edge_ring hN he
            rcases hl with ⟨u, v⟩ | ⟨u, v⟩
            · obtain ⟨i, hi, y⟩ := w2.2
              have e5 : (S 23 e).toNat = s := by rw [v]; exact w
              rw [e5] at hi y
              exact nb ⟨i, hi, by omega⟩
            · obtain ⟨i, hi, y⟩ := w2.1
              have e5 : (S 22 e).toNat = s := by rw [v]; exact w
              rw [e5] at hi y
              exact nb ⟨i, hi, by omega⟩
          unfold zz_tw at *
          intro y
          apply z
          unfold zz_rt at *
          rw [← zz_rf_c (pl := fun i => ¬ X ((fun s => S (26 + 1 + s)) t i).toNat = -1) (dr := fun i => zz_dr X Y t ((fun s => S (26 + 1 + s)) t i).toNat) (fun i hi => by
            show (¬ X (S (26 + 1 + t) i).toNat = -1) ↔ (¬ X' (S (26 + 1 + t) i).toNat = -1)
            rw [(ho _ (far i hi)).1]) (fun i hi _ => by
            show zz_dr X Y t (S (26 + 1 + t) i).toNat = zz_dr X' Y' t (S (26 + 1 + t) i).toNat
            exact zz_dr_c (ho _ c) (ho _ (far i hi)))]
          exact y
