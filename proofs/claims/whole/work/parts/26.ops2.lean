theorem zz_rs_ne {S : qq_S} {x y h a : Nat} {i : Int} (h1 : a ≠ x) (h2 : a ≠ y) (h3 : a ≠ h) : zz_rs S x y h i a = S a := by
  funext j
  unfold zz_rs
  rw [if_neg (fun z => z.1.elim h1 h2), if_neg (fun z => h3 z.1)]
theorem zz_rs_R {S : qq_S} {x y h b n : Nat} {i : Int} (h1 : x < b ∨ b + n ≤ x) (h2 : y < b ∨ b + n ≤ y) (h3 : h < b ∨ b + n ≤ h) : qq_R (zz_rs S x y h i) b n = qq_R S b n := by
  funext l
  unfold qq_R
  split
  · rw [zz_rs_ne (by omega) (by omega) (by omega)]
  · rfl
theorem zz_rs_x {S : qq_S} {x y h : Nat} {i : Int} : zz_rs S x y h i x = fun j : Nat => if (j : Int) < i then -1 else S x j := by
  funext j
  unfold zz_rs
  by_cases e : (j : Int) < i
  · simp [e]
  · simp [e]
theorem zz_rs_y {S : qq_S} {x y h : Nat} {i : Int} : zz_rs S x y h i y = fun j : Nat => if (j : Int) < i then -1 else S y j := by
  funext j
  unfold zz_rs
  by_cases e : (j : Int) < i
  · simp [e]
  · simp [e]
theorem zz_rs_h {S : qq_S} {x y h : Nat} {i : Int} (h1 : h ≠ x) (h2 : h ≠ y) : zz_rs S x y h i h = fun j : Nat => if (j : Int) < i then 0 else S h j := by
  funext j
  unfold zz_rs
  rw [if_neg (fun z => z.1.elim h1 h2)]
  simp
theorem ip_grid {n w h a b : Int} {X Y H : Nat → Int} {w' h' : Int} {P' H' : Nat → Int} (hp : i_plan n w h X Y H w' h' P' H') (hn : n ≤ 10) (hc : 2 ≤ a ∧ a ≤ 8 ∧ 2 ≤ b ∧ b ≤ 8) : i_plan n a b (fun j => if (j : Int) < 10 then -1 else X j) (fun j => if (j : Int) < 10 then -1 else Y j) (fun j => if (j : Int) < 10 then 0 else H j) a b (fun j => if (j : Int) < 10 then -1 else P' j) (fun j => if (j : Int) < 10 then 0 else H' j) := by
  refine ⟨by omega, fun s hs => ?_, fun s hs => ?_⟩
  · have e : (s : Int) < 10 := by omega
    simp [e, i_at]
  · have e : (s : Int) < 10 := by omega
    simp [e, zz_pt]
theorem in_st {n L L' a b : Int} {X Y X' Y' : Nat → Int} {n' : Int} (h : i_net n n' L L' X Y X' Y') (hc : 0 ≤ a ∧ a ≤ 1000 ∧ 0 ≤ b ∧ b ≤ 1000) (hh : ¬ zz_has X Y a b n.toNat = true) (h10 : n < 10) : i_net (n + 1) (n + 1) L L' (fun j => if j = n.toNat then a else X j) (fun j => if j = n.toNat then b else Y j) (fun j => if j = n.toNat then a else X' j) (fun j => if j = n.toNat then b else Y' j) := by
  obtain ⟨a1, a2, a3⟩ := h
  have hn : ∀ i : Nat, (i : Int) < n → ¬ (X i = a ∧ Y i = b) := fun i hi z => hh ((zz_has_iff X Y a b n.toNat).mpr ⟨i, by omega, z⟩)
  refine ⟨by omega, fun i hi => ?_, fun i j hi hj => ?_⟩
  · by_cases e : i = n.toNat
    · simp only [if_pos e]
      refine ⟨hc.1, hc.2.1, hc.2.2.1, hc.2.2.2, ?_, ?_⟩ <;> first | trivial | rfl
    · simp only [if_neg e]
      exact a2 i (by omega)
  · by_cases e : i = n.toNat <;> by_cases f : j = n.toNat
    · intros; omega
    · simp only [if_pos e, if_neg f]
      intro p q
      exact absurd ⟨p.symm, q.symm⟩ (hn j (by omega))
    · simp only [if_neg e, if_pos f]
      intro p q
      exact absurd ⟨p, q⟩ (hn i (by omega))
    · simp only [if_neg e, if_neg f]
      exact a3 i j (by omega) (by omega)
theorem il_st {n L : Int} {Z Z' : Nat → Int} {row rank : Nat → Nat → Int} {lof : Nat → Int} (h : i_line n L Z Z' row rank lof) : i_line (n + 1) L Z Z' row rank lof := by
  obtain ⟨a1, a2, a3⟩ := h
  refine ⟨fun l hl => ?_, a2, a3⟩
  obtain ⟨b1, b2, b3, b4⟩ := a1 l hl
  exact ⟨b1, b2, b3, fun i hi => by have := b4 i hi; exact ⟨this.1, by omega, this.2.2⟩⟩
theorem ie_st {n L E E' a b : Int} {X Y Z : Nat → Int} {row : Nat → Nat → Int} {lo hi hd lo' hi' : Nat → Int} {eo : Nat → Nat → Int} (h : i_edge n L E E' X Y Z row lo hi hd lo' hi' eo) (h0 : 0 ≤ n) : i_edge (n + 1) L E E' (fun j => if j = n.toNat then a else X j) (fun j => if j = n.toNat then b else Y j) Z row lo hi hd lo' hi' eo := by
  obtain ⟨a1, a2, a3, a4, a5⟩ := h
  refine ⟨a1, fun e he => ?_, a3, a4, a5⟩
  obtain ⟨b1, b2, b3, b4, b5, b6, b7, b8⟩ := a2 e he
  have q1 : ¬ (hi e).toNat = n.toNat := by omega
  have q2 : ¬ (lo e).toNat = n.toNat := by omega
  refine ⟨b1, b2, by omega, b4, b5, ?_, b7, b8⟩
  simp only [if_neg q1, if_neg q2]
  exact b6
theorem ir_st {n L E E' a b : Int} {X Y Z dg : Nat → Int} {row : Nat → Nat → Int} {lo hi hd lo' hi' : Nat → Int} {ring eo : Nat → Nat → Int} (h3 : i_edge n L E E' X Y Z row lo hi hd lo' hi' eo) (h : i_ring n X Y dg ring eo) (h0 : 0 ≤ n) (h10 : n < 10) : i_ring (n + 1) (fun j => if j = n.toNat then a else X j) (fun j => if j = n.toNat then b else Y j) dg ring eo := by
  intro s hs
  obtain ⟨b1, b2, b3, b4⟩ := h s hs
  refine ⟨b1, fun i hi => by have := b2 i hi; exact ⟨this.1, by omega, this.2.2⟩, b3, fun i j hij hj => ?_⟩
  have r1 := b2 i (by omega)
  have r2 := b2 j hj
  have hsn : ¬ s = n.toNat := by
    have := h3.2.2.1 s (ring s j).toNat hs (by omega)
    rcases this with z | ⟨z1, z2, z3⟩
    · exact absurd z r2.2.2.2
    · have := h3.2.1 (eo s (ring s j).toNat).toNat (by omega)
      omega
  have q1 : ¬ (ring s i).toNat = n.toNat := by omega
  have q2 : ¬ (ring s j).toNat = n.toNat := by omega
  have := b4 i j hij hj
  unfold zz_ahead at this ⊢
  simp only [if_neg q1, if_neg q2, if_neg hsn]
  exact this
theorem ip_st {n w h : Int} {X Y H : Nat → Int} {w' h' : Int} {P' H' : Nat → Int} (hp : i_plan n w h X Y H w' h' P' H') (h0 : 0 ≤ n) (h10 : n < 10) : i_plan (n + 1) w h X Y H w' h' (fun j => if j = n.toNat then -1 else P' j) (fun j => if j = n.toNat then 0 else H' j) := by
  obtain ⟨a1, a2, a3⟩ := hp
  refine ⟨a1, fun s hs => ?_, fun s hs => ?_⟩
  · obtain ⟨b1, b2, b3, b4⟩ := a2 s hs
    exact ⟨b1, b2, b3, fun z => b4 (by omega)⟩
  · by_cases e : s = n.toNat
    · obtain ⟨b1, b2, b3, b4⟩ := a2 s (by omega)
      simp only [if_pos e]
      have hx := b4 (by omega)
      exact ⟨(b3 hx).symm, by unfold zz_pt; rw [if_pos hx]⟩
    · simp only [if_neg e]
      exact a3 s (by omega)
theorem in2_st {n : Int} {N sd hn : Nat → Int} {put : Int} {N' hn' sd' : Nat → Int} (h : i_names n N sd hn put N' hn' sd') (h0 : 0 ≤ n) (h10 : n < 10) : i_names (n + 1) N sd hn put (fun j => if j = n.toNat then 0 else N' j) hn' sd' := by
  obtain ⟨a1, a2⟩ := h
  refine ⟨by omega, fun s hs => ?_⟩
  obtain ⟨b1, b2, b3, b4, b5⟩ := a2 s hs
  refine ⟨b1, b2, fun z => ?_, fun z => b4 (by omega), b5⟩
  by_cases e : s = n.toNat
  · simp only [if_pos e]
    exact (b4 (by omega)).symm
  · simp only [if_neg e]
    exact b3 (by omega)
theorem ii_st {k : Nat} {n f f' w h : Int} {X Y H kp : Nat → Int} (hi : i_img k n f f' w h X Y H kp) : i_img k (n + 1) f f' w h X Y H kp := by
  obtain ⟨a1, a2, a3⟩ := hi
  refine ⟨a1, a2, fun z => ?_⟩
  obtain ⟨b1, b2⟩ := a3 z
  refine ⟨b1, fun s hs => ?_⟩
  obtain ⟨c1, c2, c3, c4, c5⟩ := b2 s hs
  exact ⟨c1, c2, c3, fun q => c4 (by omega), c5⟩
theorem o_grid {xs : List Int32} (hxs : xs.length ≤ 2048) (S : qq_S) (a : Int) (b : Int) (ha : qq_in a) (hb : qq_in b) (hI : inv S) : qq_op xs 29 91 131 [.inl a, .inl b] S := by
  have hI0 := hI
  obtain ⟨h1, h2, h3, h4, h5, h6, h7, h8, h9, h10, h11⟩ := hI
  have g1 := h1
  have g5 := h5
  have g6 := h6
  have g7 := h7
  unfold i_net at g1
  unfold i_plan at g5
  unfold i_terms at g6
  unfold i_names at g7
  have e1 := f91 hxs 0 S a b ⟨ha, hb⟩
  by_cases c0 : (2 ≤ a ∧ a ≤ 8 ∧ 2 ≤ b ∧ b ≤ 8)
  · simp only [c0, not_true_eq_false, not_false_eq_true, if_true, if_false, ite_true, ite_false, and_self, true_and, and_true] at e1
    have e2 := f131 hxs 0 (qq_u (zz_rs (qq_u (qq_u S 48 0 a) 48 1 b) 49 50 51 10) 3 9 0) a b (by (try simp (decide := true) only [qq_un', qq_us]); exact ⟨ha, hb⟩)
    try simp (decide := true) only [qq_un', qq_ueq] at e2
    simp only [c0, not_true_eq_false, not_false_eq_true, if_true, if_false, ite_true, ite_false, and_self, true_and, and_true] at e2
    refine qq_op_of e1 e2 (by decide) (by decide) (rfl) (by unfold qq_in; omega) ?_
    unfold inv
    simp (decide := true) only [qq_un', qq_un2, qq_us, qq_ueq, qq_R_u, qq_usf, zz_rs_ne, zz_rs_R, zz_rs_x, zz_rs_y, zz_rs_h]
    refine ⟨h1, h2, h3, h4, ?_, h6, h7, h8, h9, h10, ?_⟩
    · exact ip_grid h5 (by omega) c0
    · exact ⟨by first | trivial | omega, by unfold qq_in; omega⟩
  · simp only [c0, not_true_eq_false, not_false_eq_true, if_true, if_false, ite_true, ite_false, and_self, true_and, and_true] at e1
    have e2 := f131 hxs 0 (qq_u S 3 9 (-1)) a b (by (try simp (decide := true) only [qq_un', qq_us]); exact ⟨ha, hb⟩)
    try simp (decide := true) only [qq_un', qq_ueq] at e2
    simp only [c0, not_true_eq_false, not_false_eq_true, if_true, if_false, ite_true, ite_false, and_self, true_and, and_true] at e2
    refine qq_op_of e1 e2 (by decide) (by decide) (rfl) (by unfold qq_in; omega) ?_
    unfold inv
    simp (decide := true) only [qq_un', qq_un2, qq_us, qq_ueq, qq_R_u, qq_usf, zz_rs_ne, zz_rs_R, zz_rs_x, zz_rs_y, zz_rs_h]
    refine ⟨h1, h2, h3, h4, h5, h6, h7, h8, h9, h10, ?_⟩
    · exact ⟨by first | trivial | omega, by unfold qq_in; omega⟩
theorem o_station {xs : List Int32} (hxs : xs.length ≤ 2048) (S : qq_S) (a : Int) (b : Int) (ha : qq_in a) (hb : qq_in b) (hI : inv S) : qq_op xs 29 85 117 [.inl a, .inl b] S := by
  have hI0 := hI
  obtain ⟨h1, h2, h3, h4, h5, h6, h7, h8, h9, h10, h11⟩ := hI
  have g1 := h1
  have g5 := h5
  have g6 := h6
  have g7 := h7
  unfold i_net at g1
  unfold i_plan at g5
  unfold i_terms at g6
  unfold i_names at g7
  have e1 := f85 hxs 0 S a b ⟨ha, hb, by omega, fun i hi => by have := g1.2.1 i hi; unfold qq_in; omega⟩
  by_cases c0 : (0 ≤ a ∧ a ≤ 1000 ∧ 0 ≤ b ∧ b ≤ 1000)
  · by_cases c1 : zz_has (S 5) (S 6) a b (S 4 0).toNat = true
    · simp only [if_pos c0, if_pos c1] at e1
      have e2 := f117 hxs 0 (qq_u S 3 9 (-4)) a b (by (try simp (decide := true) only [qq_un', qq_us]); exact ⟨ha, hb, by omega, fun i hi => by have := g1.2.1 i (by omega); unfold qq_in; omega⟩)
      try simp (decide := true) only [qq_un', qq_ueq] at e2
      have q0 : S 115 1 = S 4 0 := by omega
      simp only [q0] at e2
      have x0 : zz_has (S 116) (S 117) a b (S 4 0).toNat = zz_has (S 5) (S 6) a b (S 4 0).toNat := zz_has_eq _ _ _ _ _ _ _ (fun i hi => by have := g1.2.1 i (by omega); omega)
      simp only [x0] at e2
      simp only [if_pos c0, if_pos c1] at e2
      refine qq_op_of e1 e2 (by decide) (by decide) (rfl) (by unfold qq_in; omega) ?_
      unfold inv
      simp (decide := true) only [qq_un', qq_un2, qq_us, qq_ueq, qq_R_u, qq_usf, zz_rs_ne, zz_rs_R, zz_rs_x, zz_rs_y, zz_rs_h]
      refine ⟨h1, h2, h3, h4, h5, h6, h7, h8, h9, h10, ?_⟩
      · exact ⟨by first | trivial | omega, by unfold qq_in; omega⟩
    · by_cases c2 : S 4 0 < 10
      · simp only [if_pos c0, if_neg c1, if_pos c2] at e1
        have e2 := f117 hxs 0 (qq_u (qq_u (qq_u (qq_u S 5 (S 4 0).toNat a) 6 (S 4 0).toNat b) 4 0 (S 4 0 + 1)) 3 9 0) a b (by (try simp (decide := true) only [qq_un', qq_us]); exact ⟨ha, hb, by omega, fun i hi => by have := g1.2.1 i (by omega); unfold qq_in; omega⟩)
        try simp (decide := true) only [qq_un', qq_ueq] at e2
        have q0 : S 115 1 = S 4 0 := by omega
        simp only [q0] at e2
        have x0 : zz_has (S 116) (S 117) a b (S 4 0).toNat = zz_has (S 5) (S 6) a b (S 4 0).toNat := zz_has_eq _ _ _ _ _ _ _ (fun i hi => by have := g1.2.1 i (by omega); omega)
        simp only [x0] at e2
        simp only [if_pos c0, if_neg c1, if_pos c2] at e2
        refine qq_op_of e1 e2 (by decide) (by decide) (rfl) (by unfold qq_in; omega) ?_
        unfold inv
        simp (decide := true) only [qq_un', qq_un2, qq_us, qq_ueq, qq_R_u, qq_usf, zz_rs_ne, zz_rs_R, zz_rs_x, zz_rs_y, zz_rs_h]
        refine ⟨?_, ?_, ?_, ?_, ?_, h6, ?_, ?_, ?_, ?_, ?_⟩
        · exact in_st h1 c0 c1 c2
        · exact il_st h2
        · exact ie_st h3 g1.1.1
        · exact ir_st h3 h4 g1.1.1 c2
        · exact ip_st h5 g1.1.1 c2
        · exact in2_st h7 g1.1.1 c2
        · exact ii_st h8
        · exact ii_st h9
        · exact ii_st h10
        · exact ⟨by first | trivial | omega, by unfold qq_in; omega⟩
      · simp only [if_pos c0, if_neg c1, if_neg c2] at e1
        have e2 := f117 hxs 0 (qq_u S 3 9 (-5)) a b (by (try simp (decide := true) only [qq_un', qq_us]); exact ⟨ha, hb, by omega, fun i hi => by have := g1.2.1 i (by omega); unfold qq_in; omega⟩)
        try simp (decide := true) only [qq_un', qq_ueq] at e2
        have q0 : S 115 1 = S 4 0 := by omega
        simp only [q0] at e2
        have x0 : zz_has (S 116) (S 117) a b (S 4 0).toNat = zz_has (S 5) (S 6) a b (S 4 0).toNat := zz_has_eq _ _ _ _ _ _ _ (fun i hi => by have := g1.2.1 i (by omega); omega)
        simp only [x0] at e2
        simp only [if_pos c0, if_neg c1, if_neg c2] at e2
        refine qq_op_of e1 e2 (by decide) (by decide) (rfl) (by unfold qq_in; omega) ?_
        unfold inv
        simp (decide := true) only [qq_un', qq_un2, qq_us, qq_ueq, qq_R_u, qq_usf, zz_rs_ne, zz_rs_R, zz_rs_x, zz_rs_y, zz_rs_h]
        refine ⟨h1, h2, h3, h4, h5, h6, h7, h8, h9, h10, ?_⟩
        · exact ⟨by first | trivial | omega, by unfold qq_in; omega⟩
  · simp only [if_neg c0] at e1
    have e2 := f117 hxs 0 (qq_u S 3 9 (-1)) a b (by (try simp (decide := true) only [qq_un', qq_us]); exact ⟨ha, hb, by omega, fun i hi => by have := g1.2.1 i (by omega); unfold qq_in; omega⟩)
    try simp (decide := true) only [qq_un', qq_ueq] at e2
    have q0 : S 115 1 = S 4 0 := by omega
    simp only [q0] at e2
    have x0 : zz_has (S 116) (S 117) a b (S 4 0).toNat = zz_has (S 5) (S 6) a b (S 4 0).toNat := zz_has_eq _ _ _ _ _ _ _ (fun i hi => by have := g1.2.1 i (by omega); omega)
    simp only [x0] at e2
    simp only [if_neg c0] at e2
    refine qq_op_of e1 e2 (by decide) (by decide) (rfl) (by unfold qq_in; omega) ?_
    unfold inv
    simp (decide := true) only [qq_un', qq_un2, qq_us, qq_ueq, qq_R_u, qq_usf, zz_rs_ne, zz_rs_R, zz_rs_x, zz_rs_y, zz_rs_h]
    refine ⟨h1, h2, h3, h4, h5, h6, h7, h8, h9, h10, ?_⟩
    · exact ⟨by first | trivial | omega, by unfold qq_in; omega⟩
