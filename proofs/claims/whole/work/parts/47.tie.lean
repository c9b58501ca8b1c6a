/-! Class and reference find the same in one drawing. -/
theorem zz_side_c {X Y X' Y' : Nat → Int} {a b c : Nat} (ha : X a = X' a ∧ Y a = Y' a) (hb : X b = X' b ∧ Y b = Y' b) (hc : X c = X' c ∧ Y c = Y' c) : zz_side X Y a b c = zz_side X' Y' a b c := by
  unfold zz_side
  rw [ha.1, ha.2, hb.1, hb.2, hc.1, hc.2]
theorem zz_lies_c {X Y X' Y' : Nat → Int} {a b c : Nat} (ha : X a = X' a ∧ Y a = Y' a) (hb : X b = X' b ∧ Y b = Y' b) (hc : X c = X' c ∧ Y c = Y' c) : zz_lies X Y c a b ↔ zz_lies X' Y' c a b := by
  unfold zz_lies
  rw [zz_side_c ha hb hc, ha.1, ha.2, hb.1, hb.2, hc.1, hc.2]
theorem zz_mdr_c {X Y X' Y' : Nat → Int} {a b : Nat} (ha : X a = X' a ∧ Y a = Y' a) (hb : X b = X' b ∧ Y b = Y' b) : zz_mdr X Y a b = zz_mdr X' Y' a b := by
  unfold zz_mdr
  rw [ha.1, ha.2, hb.1, hb.2]
theorem zz_dr_c {X Y X' Y' : Nat → Int} {a b : Nat} (ha : X a = X' a ∧ Y a = Y' a) (hb : X b = X' b ∧ Y b = Y' b) : zz_dr X Y a b = zz_dr X' Y' a b := by
  unfold zz_dr
  rw [ha.1, ha.2, hb.1, hb.2]
theorem zz_ln_c {X Y X' Y' : Nat → Int} {a b : Nat} (ha : X a = X' a ∧ Y a = Y' a) (hb : X b = X' b ∧ Y b = Y' b) : zz_ln X Y a b = zz_ln X' Y' a b := by
  unfold zz_ln
  rw [ha.1, ha.2, hb.1, hb.2]
theorem zz_meet_c {X Y X' Y' : Nat → Int} {a b c d : Nat} (ha : X a = X' a ∧ Y a = Y' a) (hb : X b = X' b ∧ Y b = Y' b) (hc : X c = X' c ∧ Y c = Y' c) (hd : X d = X' d ∧ Y d = Y' d) : zz_meet X Y a b c d ↔ zz_meet X' Y' a b c d := by
  unfold zz_meet
  by_cases hs : a = c ∨ a = d ∨ b = c ∨ b = d
  · rw [if_pos hs, if_pos hs]
    have k1 : X (if a = c ∨ a = d then a else b) = X' (if a = c ∨ a = d then a else b) ∧ Y (if a = c ∨ a = d then a else b) = Y' (if a = c ∨ a = d then a else b) := by split <;> assumption
    have k2 : X (if (if a = c ∨ a = d then a else b) = a then b else a) = X' (if (if a = c ∨ a = d then a else b) = a then b else a) ∧ Y (if (if a = c ∨ a = d then a else b) = a then b else a) = Y' (if (if a = c ∨ a = d then a else b) = a then b else a) := by
      generalize (if a = c ∨ a = d then a else b) = s
      split <;> assumption
    have k3 : X (if (if a = c ∨ a = d then a else b) = c then d else c) = X' (if (if a = c ∨ a = d then a else b) = c then d else c) ∧ Y (if (if a = c ∨ a = d then a else b) = c then d else c) = Y' (if (if a = c ∨ a = d then a else b) = c then d else c) := by
      generalize (if a = c ∨ a = d then a else b) = s
      split <;> assumption
    rw [zz_mdr_c k1 k2, zz_mdr_c k1 k3]
  · rw [if_neg hs, if_neg hs, zz_side_c ha hb hc, zz_side_c ha hb hd, zz_side_c hc hd ha, zz_side_c hc hd hb, zz_lies_c ha hb hc, zz_lies_c ha hb hd, zz_lies_c hc hd ha, zz_lies_c hc hd hb]
theorem zz_mrt_c {f g : Nat → Int} {n : Nat} (h : ∀ i, i < n → f i = g i) : zz_mrt f n ↔ zz_mrt g n := by
  unfold zz_mrt
  by_cases h0 : n = 0
  · subst h0
    simp [zz_sum]
  · rw [zz_sum_c (g := fun i => zz_mg (g ((i + 1) % n) - g i)) (fun j hj => by rw [h j hj, h ((j + 1) % n) (Nat.mod_lt _ (by omega))])]
/-- the plan and the reference's points -/
def zz_PL (S : qq_S) : Prop := i_plan (S 4 0) (S 48 0) (S 48 1) (S 49) (S 50) (S 51) (S 115 12) (S 115 13) (S 123) (S 124)
theorem zz_PL_pl {S : qq_S} (h : zz_PL S) : zz_pl (S 49) (S 50) := by
  intro i hi
  have q := h.2.1 i hi
  have w := h.1
  have := q.1
  unfold i_at at this
  omega
theorem zz_PL_at {S : qq_S} (h : zz_PL S) {a : Nat} (ha : (a : Int) < S 4 0) (h10 : S 4 0 ≤ 10) (hp : ¬ S 49 a = -1) : zz_mx S a = S 49 a ∧ zz_my S a = S 50 a := by
  have q := h.2.1 a (by omega)
  have w := h.1
  have q1 := q.1
  unfold i_at at q1
  have p := (h.2.2 a ha).2
  unfold zz_pt at p
  rw [if_neg hp] at p
  unfold zz_mx zz_my
  rw [p, w.2.2.2.2.1]
  exact zz_mod (by omega)
theorem zz_PL_un {S : qq_S} (h : zz_PL S) {a : Nat} (ha : (a : Int) < S 4 0) (h10 : S 4 0 ≤ 10) : S 49 a = -1 ↔ S 123 a = -1 := by
  have q := h.2.1 a (by omega)
  have w := h.1
  have q1 := q.1
  unfold i_at at q1
  have p := (h.2.2 a ha).2
  rw [p]
  unfold zz_pt
  by_cases c : S 49 a = -1
  · simp [c]
  · rw [if_neg c]
    have : 0 ≤ S 50 a * S 48 0 := Int.mul_nonneg (by omega) (by omega)
    omega
theorem zz_PL_mpt {S : qq_S} (h : zz_PL S) (h10 : S 4 0 ≤ 10) (hs : 0 ≤ S 115 14 ∧ S 115 14 ≤ 100) : zz_mpt S := by
  have w := h.1
  refine ⟨by omega, hs, fun i hi => ?_⟩
  have q := h.2.1 i (by omega)
  have q1 := q.1
  unfold i_at at q1
  have p := (h.2.2 i hi).2
  rw [p]
  unfold zz_pt
  split
  · omega
  · have a1 : 0 ≤ S 50 i * S 48 0 := Int.mul_nonneg (by omega) (by omega)
    have a2 : S 50 i * S 48 0 ≤ 7 * S 48 0 := Int.mul_le_mul_of_nonneg_right (by omega) (by omega)
    omega
theorem zz_ring_edge {S : qq_S} (h : zz_N S) {s i : Nat} (hs : s < 10) (hi : (i : Int) < S 25 s) : ∃ e : Nat, (e : Int) < S 4 2 ∧ ((S 22 e = s ∧ S 23 e = S (26 + 1 + s) i) ∨ (S 23 e = s ∧ S 22 e = S (26 + 1 + s) i)) ∧ 0 ≤ S (26 + 1 + s) i ∧ S (26 + 1 + s) i < S 4 0 ∧ ¬ S (26 + 1 + s) i = s ∧ (s : Int) < S 4 0 := by
  obtain ⟨h1, h2, h3, h4⟩ := h
  have q := (h4 s hs).2.1 i hi
  rw [qq_R_at hs, qq_R_at hs] at q
  have b := h1.1
  have q3 := h3.2.2.1 s (S (27 + s) i).toNat hs (by omega)
  rw [qq_R_at hs] at q3
  have e27 : 26 + 1 + s = 27 + s := by omega
  rw [e27]
  rcases q3 with q3 | ⟨q4, q5, q6⟩
  · exact absurd q3 q.2.2.2
  · have q7 := h3.2.1 (S (38 + s) (S (27 + s) i).toNat).toNat (by omega)
    refine ⟨(S (38 + s) (S (27 + s) i).toNat).toNat, by omega, by omega, by omega, by omega, by omega, by omega⟩
theorem zz_v_eq {S : qq_S} (hN : zz_N S) (hP : zz_PL S) (hs : S 115 14 = S 52 3) : zz_vC S = zz_vM S := by
  have gb := hN.1.1
  have gE := hN.2.2.1.1
  have pz : ∀ a : Nat, a < (S 4 0).toNat → ¬ S 49 a = -1 → (zz_mx S a = S 49 a ∧ zz_my S a = S 50 a) := fun a ha hp => zz_PL_at hP (by omega) (by omega) hp
  have ed : ∀ e : Nat, e < (S 4 2).toNat → 0 ≤ S 22 e ∧ S 22 e < S 23 e ∧ S 23 e < S 4 0 ∧ S 120 e = S 22 e ∧ S 121 e = S 23 e := fun e he => by
    have := zz_N_me hN (e := e) (by omega)
    omega
  have cr : (∀ a, a < (S 4 0).toNat → ¬ S 49 a = -1) → (∀ e, e < (S 4 2).toNat → ¬ zz_cr (S 49) (S 50) (S 22) (S 23) e) → ∀ e, e < (S 4 2).toNat → ¬ zz_dr (S 49) (S 50) (S 22 e).toNat (S 23 e).toNat = -1 ∧ ¬ zz_dr (S 49) (S 50) (S 23 e).toNat (S 22 e).toNat = -1 := fun _ k e he => ⟨k e he, fun z => k e he (zz_dr_sw.mp z)⟩
  unfold zz_vC zz_vM
  refine zz_vd_c (fun a ha => zz_PL_un hP (by omega) (by omega)) (fun k1 a b ha hb => ?_) (fun k1 k2 e he => ?_) (fun k1 k2 k3 e he => ?_) (fun k1 k2 k3 e s he hsn => ?_) (fun k1 k2 k3 k5 e f he hf => ?_) (fun k1 k2 k3 k5 s hsn => ?_)
  · have p1 := pz a ha (k1 a ha)
    have p2 := pz b hb (k1 b hb)
    unfold zz_sm zz_msm
    constructor
    · rintro ⟨z0, z1, z2⟩
      refine ⟨z0, ?_⟩
      have r1 := (hP.2.2 a (by omega)).2
      have r2 := (hP.2.2 b (by omega)).2
      rw [r1, r2, z1, z2]
    · rintro ⟨z0, z1⟩
      refine ⟨z0, ?_, ?_⟩
      · rw [← p1.1, ← p2.1]
        unfold zz_mx
        rw [z1]
      · rw [← p1.2, ← p2.2]
        unfold zz_my
        rw [z1]
  · have d := ed e he
    have p1 := pz (S 22 e).toNat (by omega) (k1 _ (by omega))
    have p2 := pz (S 23 e).toNat (by omega) (k1 _ (by omega))
    unfold zz_cr zz_mstr zz_dr
    rw [d.2.2.2.1, d.2.2.2.2, p1.1, p1.2, p2.1, p2.2]
    refine zz_dir_str (fun z => k2 (S 22 e).toNat (S 23 e).toNat (by omega) (by omega) ⟨by omega, by omega, by omega⟩)
  · have d := ed e he
    have p1 := pz (S 22 e).toNat (by omega) (k1 _ (by omega))
    have p2 := pz (S 23 e).toNat (by omega) (k1 _ (by omega))
    unfold zz_sho
    rw [d.2.2.2.1, d.2.2.2.2, hs, zz_ln_c p1 p2]
  · have d := ed e he
    have p1 := pz (S 22 e).toNat (by omega) (k1 _ (by omega))
    have p2 := pz (S 23 e).toNat (by omega) (k1 _ (by omega))
    have p3 := pz s hsn (k1 _ hsn)
    unfold zz_cov
    rw [d.2.2.2.1, d.2.2.2.2, zz_lies_c p1 p2 p3]
  · have d := ed e he
    have d2 := ed f hf
    have p1 := pz (S 22 e).toNat (by omega) (k1 _ (by omega))
    have p2 := pz (S 23 e).toNat (by omega) (k1 _ (by omega))
    have p3 := pz (S 22 f).toNat (by omega) (k1 _ (by omega))
    have p4 := pz (S 23 f).toNat (by omega) (k1 _ (by omega))
    have c1 := cr k1 k3 e he
    have c2 := cr k1 k3 f hf
    unfold zz_cx zz_mmt
    rw [d.2.2.2.1, d.2.2.2.2, d2.2.2.2.1, d2.2.2.2.2, zz_meet_c p1 p2 p3 p4]
    have nc : ∀ e : Nat, e < (S 4 2).toNat → ∀ s : Nat, s < (S 4 0).toNat → s ≠ (S 22 e).toNat → s ≠ (S 23 e).toNat → ¬ zz_lies (S 49) (S 50) s (S 22 e).toNat (S 23 e).toNat := fun e he s hs n1 n2 z => by
      have := ed e he
      exact k5 e s he hs ⟨⟨by omega, by omega⟩, z⟩
    have lex : e < f → S 22 e < S 22 f ∨ (S 22 e = S 22 f ∧ S 23 e < S 23 f) := fun z => hN.2.2.1.2.2.2.1 e f z (by omega)
    constructor
    · rintro ⟨z0, z⟩
      have l := lex z0
      exact ⟨z0, (zz_meet_crs (by omega) (by omega) (by omega) c1.1 c2.1 c1.2 c2.2 (nc e he _ (by omega)) (nc e he _ (by omega)) (nc f hf _ (by omega)) (nc f hf _ (by omega))).mp z⟩
    · rintro ⟨z0, z⟩
      have l := lex z0
      exact ⟨z0, (zz_meet_crs (by omega) (by omega) (by omega) c1.1 c2.1 c1.2 c2.2 (nc e he _ (by omega)) (nc e he _ (by omega)) (nc f hf _ (by omega)) (nc f hf _ (by omega))).mpr z⟩
  · have pl : ∀ i : Nat, i < (S 25 s).toNat → 0 ≤ S (26 + 1 + s) i ∧ S (26 + 1 + s) i < S 4 0 ∧ ¬ S (26 + 1 + s) i = s ∧ ¬ zz_dr (S 49) (S 50) s (S (26 + 1 + s) i).toNat = -1 := fun i hi => by
      obtain ⟨e, he, hl, r0, r1, r2, r3⟩ := zz_ring_edge hN (s := s) (i := i) (by omega) (by omega)
      refine ⟨r0, r1, r2, ?_⟩
      have c1 := cr k1 k3 e (by omega)
      rcases hl with ⟨u, v⟩ | ⟨u, v⟩
      · rw [u, v, Int.toNat_natCast] at c1
        exact c1.1
      · rw [u, v, Int.toNat_natCast] at c1
        exact c1.2
    have dist : ∀ i j : Nat, i < (S 25 s).toNat → j < (S 25 s).toNat → ¬ i = j → zz_lies (S 49) (S 50) (S (26 + 1 + s) i).toNat s (S (26 + 1 + s) j).toNat → False := fun i j hi hj hne z => by
      obtain ⟨e, he, hl, r0, r1, r2, r3⟩ := zz_ring_edge hN (s := s) (i := j) (by omega) (by omega)
      have ri := pl i hi
      have inj : ¬ S (26 + 1 + s) i = S (26 + 1 + s) j := fun y => hne (zz_rinj hN (show s < 10 by omega) i j hi hj y)
      refine k5 e (S (26 + 1 + s) i).toNat (by omega) (by omega) ⟨?_, ?_⟩
      · rcases hl with ⟨u, v⟩ | ⟨u, v⟩ <;> rw [u, v] <;> omega
      · rcases hl with ⟨u, v⟩ | ⟨u, v⟩
        · rw [u, v, Int.toNat_natCast]
          exact z
        · rw [u, v, Int.toNat_natCast]
          exact zz_lies_sw.mp z
    unfold zz_tw zz_mtr
    have e1 : zz_rt (fun i => ¬ S 49 (S (26 + 1 + s) i).toNat = -1) (fun i => zz_dr (S 49) (S 50) s (S (26 + 1 + s) i).toNat) (S 25 s).toNat ↔ zz_rt (fun _ => True) (fun i => zz_dr (S 49) (S 50) s (S (26 + 1 + s) i).toNat) (S 25 s).toNat := by
      unfold zz_rt
      rw [zz_rf_c (pl' := fun _ => True) (dr' := fun i => zz_dr (S 49) (S 50) s (S (26 + 1 + s) i).toNat) (fun i hi => by
        have := pl i hi
        exact ⟨fun _ => trivial, fun _ => k1 _ (by omega)⟩) (fun _ _ _ => rfl)]
    have e2 := zz_rt_mrt (dr := fun i => zz_dr (S 49) (S 50) s (S (26 + 1 + s) i).toNat) (n := (S 25 s).toNat) (fun i hi => by
      have := pl i hi
      have b := zz_dir_bd (S 49 (S (26 + 1 + s) i).toNat - S 49 s) (S 50 (S (26 + 1 + s) i).toNat - S 50 s)
      unfold zz_dr at *
      omega) (fun i j hij hj z => by
      have q := pl i (by omega)
      rcases zz_dir_lies z q.2.2.2 with y | y
      · exact dist i j (by omega) hj (by omega) y
      · exact dist j i hj (by omega) (by omega) y)
    have e3 : zz_mrt (fun i => zz_dr (S 49) (S 50) s (S (26 + 1 + s) i).toNat) (S 25 s).toNat ↔ zz_mrt (fun i => zz_mdr (zz_mx S) (zz_my S) s (S (26 + 1 + s) i).toNat) (S 25 s).toNat := zz_mrt_c (fun i hi => by
      have q := pl i hi
      have p1 := pz s hsn (k1 s hsn)
      have p2 := pz (S (26 + 1 + s) i).toNat (by omega) (k1 _ (by omega))
      rw [zz_mdr_c p1 p2]
      exact (zz_md_dir q.2.2.2).symm)
    show ¬ zz_rt (fun i => ¬ S 49 (S (26 + 1 + s) i).toNat = -1) (fun i => zz_dr (S 49) (S 50) s (S (26 + 1 + s) i).toNat) (S 25 s).toNat ↔ _
    rw [e1, e2, e3]
