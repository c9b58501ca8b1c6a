theorem qq_op_of {xs : List Int32} {k1 k2 d y y' : Nat} {as : List qq_V} {S S1 S2 : qq_S} {r r' : Int} (e1 : qq_E xs k1 y (.inr (3, none) :: as) S (some r) S1) (e2 : qq_E xs k2 y' (.inr (115, none) :: as) S1 (some r') S2) (h1 : k1 ≤ d) (h2 : k2 ≤ d) (hr : r' = r) (hi : qq_in r) (hI : inv S2) : qq_op xs d y y' as S := by
  subst hr
  exact ⟨_, _, _, qq_up h1 e1, qq_up h2 e2, hi, hI⟩
theorem qq_un' {S : qq_S} {q k q' k' : Nat} {x : Int} (h : q' ≠ q) : qq_u S q k x q' k' = S q' k' := qq_un (Or.inl h)
theorem qq_un2 {S : qq_S} {q k k' : Nat} {x : Int} (h : k' ≠ k) : qq_u S q k x q k' = S q k' := qq_un (Or.inr h)
theorem o_status {xs : List Int32} (hxs : xs.length ≤ 2048) (S : qq_S) (hI : inv S) : qq_op xs 29 107 177 [] S :=
  qq_op_of (f107 hxs 0 S trivial) (f177 hxs 0 S trivial) (by decide) (by decide) hI.2.2.2.2.2.2.2.2.2.2.1 hI.2.2.2.2.2.2.2.2.2.2.2 hI
theorem zz_pt_bd {w h x y : Int} (hw : 2 ≤ w ∧ w ≤ 8 ∧ 2 ≤ h ∧ h ≤ 8) (hi : i_at w h x y) : -1 ≤ zz_pt w x y ∧ zz_pt w x y ≤ 63 ∧ (zz_pt w x y = -1 ↔ x = -1) := by
  unfold zz_pt
  rcases hi with ⟨h1, h2⟩ | ⟨h1, h2, h3, h4⟩
  · rw [if_pos h1]; omega
  · rw [if_neg (by omega)]
    have b1 := Int.mul_nonneg h3 (show 0 ≤ w by omega)
    have b2 := Int.mul_le_mul (show y ≤ 7 by omega) (show w ≤ 8 by omega) (show 0 ≤ w by omega) (by decide)
    omega
theorem pl_bd {n w h : Int} {X Y H : Nat → Int} {w' h' : Int} {P' H' : Nat → Int} (hp : i_plan n w h X Y H w' h' P' H') {s : Nat} (hs : s < 10) : -1 ≤ X s ∧ X s ≤ 7 ∧ -1 ≤ Y s ∧ Y s ≤ 7 ∧ (H s = 0 ∨ H s = 1) ∧ -1 ≤ zz_pt w (X s) (Y s) ∧ zz_pt w (X s) (Y s) ≤ 63 ∧ (zz_pt w (X s) (Y s) = -1 ↔ X s = -1) := by
  obtain ⟨a1, a2, a3⟩ := hp
  obtain ⟨b1, b2, b3, b4⟩ := a2 s hs
  have b5 := zz_pt_bd ⟨a1.1, a1.2.1, a1.2.2.1, a1.2.2.2.1⟩ b1
  unfold i_at at b1
  omega
theorem il_line {n L : Int} {Z Z' : Nat → Int} {row rank : Nat → Nat → Int} {lof : Nat → Int} (h : i_line n L Z Z' row rank lof) (h0 : 0 ≤ L) (h6 : L < 6) : i_line n (L + 1) Z (fun j => if j = L.toNat then 0 else Z' j) row rank lof := by
  obtain ⟨a1, a2, a3⟩ := h
  refine ⟨fun l hl => ?_, fun l h6 hl => a2 l h6 (by omega), a3⟩
  by_cases e : l = L.toNat
  · have z := a2 l (by omega) (by omega)
    simp only [if_pos e]
    rw [z]
    exact ⟨by omega, by omega, rfl, fun i hi => by omega⟩
  · simp only [if_neg e]
    exact a1 l (by omega)
theorem ie_line {n L E E' : Int} {X Y Z Z' : Nat → Int} {row rank : Nat → Nat → Int} {lof lo hi hd lo' hi' : Nat → Int} {eo : Nat → Nat → Int} (h2 : i_line n L Z Z' row rank lof) (h : i_edge n L E E' X Y Z row lo hi hd lo' hi' eo) (h0 : 0 ≤ L) (h6 : L < 6) : i_edge n (L + 1) E E' X Y Z row lo hi hd lo' hi' eo := by
  obtain ⟨a1, a2, a3, a4, a5⟩ := h
  refine ⟨a1, a2, a3, a4, fun a b ha hb => ⟨fun z => ?_, fun z => ?_⟩⟩
  · obtain ⟨l, i, hl, hi, hh⟩ := (a5 a b ha hb).mp z
    exact ⟨l, i, by omega, hi, hh⟩
  · obtain ⟨l, i, hl, hi, hh⟩ := z
    refine (a5 a b ha hb).mpr ⟨l, i, ?_, hi, hh⟩
    by_cases e : (l : Int) < L
    · exact e
    · have := h2.2.1 l (by omega) (by omega)
      omega
theorem qq_usf {S : qq_S} {q k : Nat} {x : Int} : qq_u S q k x q = fun j => if j = k then x else S q j := by
  funext j
  exact qq_uself j
theorem ip_place {n w h a x y : Int} {X Y H : Nat → Int} {w' h' : Int} {P' H' : Nat → Int} (hp : i_plan n w h X Y H w' h' P' H') (hx : 0 ≤ x ∧ x < w ∧ 0 ≤ y ∧ y < h) (ha : 0 ≤ a ∧ a < n) : i_plan n w h (fun j => if j = a.toNat then x else X j) (fun j => if j = a.toNat then y else Y j) H w' h' (fun j => if j = a.toNat then y * w + x else P' j) H' := by
  obtain ⟨a1, a2, a3⟩ := hp
  refine ⟨a1, fun s hs => ?_, fun s hs => ?_⟩
  · obtain ⟨b1, b2, b3, b4⟩ := a2 s hs
    by_cases e : s = a.toNat
    · simp only [if_pos e]
      exact ⟨Or.inr hx, b2, fun z => by omega, fun z => by omega⟩
    · simp only [if_neg e]
      exact ⟨b1, b2, b3, b4⟩
  · obtain ⟨b1, b2⟩ := a3 s hs
    refine ⟨b1, ?_⟩
    by_cases e : s = a.toNat
    · simp only [if_pos e]
      unfold zz_pt
      rw [if_neg (by omega)]
    · simp only [if_neg e]
      exact b2
theorem ip_hold {n w h a b : Int} {X Y H : Nat → Int} {w' h' : Int} {P' H' : Nat → Int} (hp : i_plan n w h X Y H w' h' P' H') (hb : b = 0 ∨ b = 1) (ha : 0 ≤ a ∧ a < n) (hx : ¬ X a.toNat = -1) : i_plan n w h X Y (fun j => if j = a.toNat then b else H j) w' h' P' (fun j => if j = a.toNat then b else H' j) := by
  obtain ⟨a1, a2, a3⟩ := hp
  refine ⟨a1, fun s hs => ?_, fun s hs => ?_⟩
  · obtain ⟨b1, b2, b3, b4⟩ := a2 s hs
    by_cases e : s = a.toNat
    · simp only [if_pos e]
      exact ⟨b1, hb, fun z => absurd (e ▸ z) hx, b4⟩
    · simp only [if_neg e]
      exact ⟨b1, b2, b3, b4⟩
  · obtain ⟨b1, b2⟩ := a3 s hs
    refine ⟨?_, b2⟩
    by_cases e : s = a.toNat
    · simp only [if_pos e]
    · simp only [if_neg e]
      exact b1
theorem in_name {n a b : Int} {N sd hn : Nat → Int} {put : Int} {N' hn' sd' : Nat → Int} (h : i_names n N sd hn put N' hn' sd') (hb : 0 ≤ b ∧ b ≤ 12) (ha : 0 ≤ a ∧ a < n) : i_names n (fun j => if j = a.toNat then b else N j) sd hn put (fun j => if j = a.toNat then b else N' j) hn' sd' := by
  obtain ⟨a1, a2⟩ := h
  refine ⟨a1, fun s hs => ?_⟩
  obtain ⟨b1, b2, b3, b4, b5⟩ := a2 s hs
  by_cases e : s = a.toNat
  · simp only [if_pos e]
    exact ⟨hb.1, hb.2, fun _ => trivial, fun z => by omega, b5⟩
  · simp only [if_neg e]
    exact ⟨b1, b2, b3, b4, b5⟩
theorem o_span {xs : List Int32} (hxs : xs.length ≤ 2048) (S : qq_S) (a : Int) (ha : qq_in a) (hI : inv S) : qq_op xs 29 92 132 [.inl a] S := by
  have hI0 := hI
  obtain ⟨h1, h2, h3, h4, h5, h6, h7, h8, h9, h10, h11⟩ := hI
  have g1 := h1
  have g5 := h5
  have g6 := h6
  have g7 := h7
  unfold i_net at g1
  unfold i_plan at g5
  unfold i_terms at g6
  unfold i_names at g7
  have e1 := f92 hxs 0 S a ha
  by_cases c0 : 1 ≤ a ∧ a ≤ 4
  · simp only [c0, not_true_eq_false, not_false_eq_true, if_true, if_false, ite_true, ite_false, and_self, true_and, and_true] at e1
    have e2 := f132 hxs 0 (qq_u (qq_u S 52 3 a) 3 9 0) a (by (try simp (decide := true) only [qq_un', qq_us]); exact ⟨ha, by omega, by omega⟩)
    try simp (decide := true) only [qq_un'] at e2
    have q0 : S 115 14 = S 52 3 := by omega
    simp only [q0] at e2
    simp only [c0, not_true_eq_false, not_false_eq_true, if_true, if_false, ite_true, ite_false, and_self, true_and, and_true] at e2
    refine qq_op_of e1 e2 (by decide) (by decide) (rfl) (by unfold qq_in; omega) ?_
    unfold inv
    simp (decide := true) only [qq_un', qq_un2, qq_us, qq_ueq, qq_R_u, qq_usf]
    refine ⟨h1, h2, h3, h4, h5, ?_, h7, h8, h9, h10, ?_⟩
    · unfold i_terms; omega
    · exact ⟨by first | trivial | omega, by unfold qq_in; omega⟩
  · simp only [c0, not_true_eq_false, not_false_eq_true, if_true, if_false, ite_true, ite_false, and_self, true_and, and_true] at e1
    have e2 := f132 hxs 0 (qq_u S 3 9 (-1)) a (by (try simp (decide := true) only [qq_un', qq_us]); exact ⟨ha, by omega, by omega⟩)
    try simp (decide := true) only [qq_un'] at e2
    have q0 : S 115 14 = S 52 3 := by omega
    simp only [q0] at e2
    simp only [c0, not_true_eq_false, not_false_eq_true, if_true, if_false, ite_true, ite_false, and_self, true_and, and_true] at e2
    refine qq_op_of e1 e2 (by decide) (by decide) (rfl) (by unfold qq_in; omega) ?_
    unfold inv
    simp (decide := true) only [qq_un', qq_un2, qq_us, qq_ueq, qq_R_u, qq_usf]
    refine ⟨h1, h2, h3, h4, h5, h6, h7, h8, h9, h10, ?_⟩
    · exact ⟨by first | trivial | omega, by unfold qq_in; omega⟩
theorem o_terms {xs : List Int32} (hxs : xs.length ≤ 2048) (S : qq_S) (a : Int) (b : Int) (c : Int) (ha : qq_in a) (hb : qq_in b) (hc : qq_in c) (hI : inv S) : qq_op xs 29 93 133 [.inl a, .inl b, .inl c] S := by
  have hI0 := hI
  obtain ⟨h1, h2, h3, h4, h5, h6, h7, h8, h9, h10, h11⟩ := hI
  have g1 := h1
  have g5 := h5
  have g6 := h6
  have g7 := h7
  unfold i_net at g1
  unfold i_plan at g5
  unfold i_terms at g6
  unfold i_names at g7
  have e1 := f93 hxs 0 S a b c ⟨ha, hb, hc⟩
  by_cases c0 : 0 ≤ a ∧ a ≤ 100 ∧ 0 ≤ b ∧ b ≤ 100 ∧ 0 ≤ c ∧ c ≤ 100
  · simp only [c0, not_true_eq_false, not_false_eq_true, if_true, if_false, ite_true, ite_false, and_self, true_and, and_true] at e1
    have e2 := f133 hxs 0 (qq_u (qq_u (qq_u (qq_u S 52 0 a) 52 1 b) 52 2 c) 3 9 0) a b c (by (try simp (decide := true) only [qq_un', qq_us]); exact ⟨ha, hb, hc⟩)
    try simp (decide := true) only [qq_un'] at e2
    simp only [c0, not_true_eq_false, not_false_eq_true, if_true, if_false, ite_true, ite_false, and_self, true_and, and_true] at e2
    refine qq_op_of e1 e2 (by decide) (by decide) (rfl) (by unfold qq_in; omega) ?_
    unfold inv
    simp (decide := true) only [qq_un', qq_un2, qq_us, qq_ueq, qq_R_u, qq_usf]
    refine ⟨h1, h2, h3, h4, h5, ?_, h7, h8, h9, h10, ?_⟩
    · unfold i_terms; omega
    · exact ⟨by first | trivial | omega, by unfold qq_in; omega⟩
  · simp only [c0, not_true_eq_false, not_false_eq_true, if_true, if_false, ite_true, ite_false, and_self, true_and, and_true] at e1
    have e2 := f133 hxs 0 (qq_u S 3 9 (-1)) a b c (by (try simp (decide := true) only [qq_un', qq_us]); exact ⟨ha, hb, hc⟩)
    try simp (decide := true) only [qq_un'] at e2
    simp only [c0, not_true_eq_false, not_false_eq_true, if_true, if_false, ite_true, ite_false, and_self, true_and, and_true] at e2
    refine qq_op_of e1 e2 (by decide) (by decide) (rfl) (by unfold qq_in; omega) ?_
    unfold inv
    simp (decide := true) only [qq_un', qq_un2, qq_us, qq_ueq, qq_R_u, qq_usf]
    refine ⟨h1, h2, h3, h4, h5, h6, h7, h8, h9, h10, ?_⟩
    · exact ⟨by first | trivial | omega, by unfold qq_in; omega⟩
theorem o_point {xs : List Int32} (hxs : xs.length ≤ 2048) (S : qq_S) (a : Int) (ha : qq_in a) (hI : inv S) : qq_op xs 29 95 135 [.inl a] S := by
  have hI0 := hI
  obtain ⟨h1, h2, h3, h4, h5, h6, h7, h8, h9, h10, h11⟩ := hI
  have g1 := h1
  have g5 := h5
  have g6 := h6
  have g7 := h7
  unfold i_net at g1
  unfold i_plan at g5
  unfold i_terms at g6
  unfold i_names at g7
  have e1 := f95 hxs 0 S a ⟨ha, by omega, fun hst => by have := pl_bd h5 (show a.toNat < 10 by omega); unfold qq_in; omega⟩
  by_cases c0 : 0 ≤ a ∧ a < S 4 0
  · simp only [c0, not_true_eq_false, not_false_eq_true, if_true, if_false, ite_true, ite_false, and_self, true_and, and_true] at e1
    have e2 := f135 hxs 0 (S) a (by skip; exact ⟨ha, by omega⟩)
    have q0 : S 115 1 = S 4 0 := by omega
    simp only [q0] at e2
    simp only [c0, not_true_eq_false, not_false_eq_true, if_true, if_false, ite_true, ite_false, and_self, true_and, and_true] at e2
    refine qq_op_of e1 e2 (by decide) (by decide) ((g5.2.2 a.toNat (by omega)).2) (by have := pl_bd h5 (show a.toNat < 10 by omega); unfold qq_in; omega) ?_
    exact hI0
  · simp only [c0, not_true_eq_false, not_false_eq_true, if_true, if_false, ite_true, ite_false, and_self, true_and, and_true] at e1
    have e2 := f135 hxs 0 (S) a (by skip; exact ⟨ha, by omega⟩)
    have q0 : S 115 1 = S 4 0 := by omega
    simp only [q0] at e2
    simp only [c0, not_true_eq_false, not_false_eq_true, if_true, if_false, ite_true, ite_false, and_self, true_and, and_true] at e2
    refine qq_op_of e1 e2 (by decide) (by decide) (rfl) (by unfold qq_in; omega) ?_
    exact hI0
theorem o_place {xs : List Int32} (hxs : xs.length ≤ 2048) (S : qq_S) (a : Int) (x : Int) (y : Int) (ha : qq_in a) (hx : qq_in x) (hy : qq_in y) (hI : inv S) : qq_op xs 29 94 134 [.inl a, .inl x, .inl y] S := by
  have hI0 := hI
  obtain ⟨h1, h2, h3, h4, h5, h6, h7, h8, h9, h10, h11⟩ := hI
  have g1 := h1
  have g5 := h5
  have g6 := h6
  have g7 := h7
  unfold i_net at g1
  unfold i_plan at g5
  unfold i_terms at g6
  unfold i_names at g7
  have e1 := f94 hxs 0 S a x y ⟨ha, hx, hy, by omega, by omega, fun hst => by have := pl_bd h5 (show a.toNat < 10 by omega); unfold qq_in; omega⟩
  by_cases c0 : (0 ≤ x ∧ x < S 48 0 ∧ 0 ≤ y ∧ y < S 48 1)
  · by_cases c1 : 0 ≤ a ∧ a < S 4 0
    · by_cases c2 : S 51 a.toNat = 0
      · simp only [c0, c1, c2, not_true_eq_false, not_false_eq_true, if_true, if_false, ite_true, ite_false, and_self, true_and, and_true] at e1
        have e2 := f134 hxs 0 (qq_u (qq_u (qq_u S 49 a.toNat x) 50 a.toNat y) 3 9 0) a x y (by (try simp (decide := true) only [qq_un', qq_us]); exact ⟨ha, hx, hy, by omega, by omega, fun hst => by have := pl_bd h5 (show a.toNat < 10 by omega); have := (g5.2.2 a.toNat (by omega)).1; unfold qq_in; omega⟩)
        try simp (decide := true) only [qq_un'] at e2
        have q0 : S 115 1 = S 4 0 := by omega
        have q1 : S 115 12 = S 48 0 := by omega
        have q2 : S 115 13 = S 48 1 := by omega
        simp only [q0, q1, q2] at e2
        have x0 : S 124 a.toNat = S 51 a.toNat := (g5.2.2 a.toNat (by omega)).1
        simp only [x0] at e2
        simp only [c0, c1, c2, not_true_eq_false, not_false_eq_true, if_true, if_false, ite_true, ite_false, and_self, true_and, and_true] at e2
        refine qq_op_of e1 e2 (by decide) (by decide) (rfl) (by unfold qq_in; omega) ?_
        unfold inv
        simp (decide := true) only [qq_un', qq_un2, qq_us, qq_ueq, qq_R_u, qq_usf]
        refine ⟨h1, h2, h3, h4, ?_, h6, h7, h8, h9, h10, ?_⟩
        · exact ip_place h5 c0 c1
        · exact ⟨by first | trivial | omega, by unfold qq_in; omega⟩
      · simp only [c0, c1, c2, not_true_eq_false, not_false_eq_true, if_true, if_false, ite_true, ite_false, and_self, true_and, and_true] at e1
        have e2 := f134 hxs 0 (qq_u S 3 9 (-6)) a x y (by (try simp (decide := true) only [qq_un', qq_us]); exact ⟨ha, hx, hy, by omega, by omega, fun hst => by have := pl_bd h5 (show a.toNat < 10 by omega); have := (g5.2.2 a.toNat (by omega)).1; unfold qq_in; omega⟩)
        try simp (decide := true) only [qq_un'] at e2
        have q0 : S 115 1 = S 4 0 := by omega
        have q1 : S 115 12 = S 48 0 := by omega
        have q2 : S 115 13 = S 48 1 := by omega
        simp only [q0, q1, q2] at e2
        have x0 : S 124 a.toNat = S 51 a.toNat := (g5.2.2 a.toNat (by omega)).1
        simp only [x0] at e2
        simp only [c0, c1, c2, not_true_eq_false, not_false_eq_true, if_true, if_false, ite_true, ite_false, and_self, true_and, and_true] at e2
        refine qq_op_of e1 e2 (by decide) (by decide) (rfl) (by unfold qq_in; omega) ?_
        unfold inv
        simp (decide := true) only [qq_un', qq_un2, qq_us, qq_ueq, qq_R_u, qq_usf]
        refine ⟨h1, h2, h3, h4, h5, h6, h7, h8, h9, h10, ?_⟩
        · exact ⟨by first | trivial | omega, by unfold qq_in; omega⟩
    · simp only [c0, c1, not_true_eq_false, not_false_eq_true, if_true, if_false, ite_true, ite_false, and_self, true_and, and_true] at e1
      have e2 := f134 hxs 0 (qq_u S 3 9 (-2)) a x y (by (try simp (decide := true) only [qq_un', qq_us]); exact ⟨ha, hx, hy, by omega, by omega, fun hst => by have := pl_bd h5 (show a.toNat < 10 by omega); have := (g5.2.2 a.toNat (by omega)).1; unfold qq_in; omega⟩)
      try simp (decide := true) only [qq_un'] at e2
      have q0 : S 115 1 = S 4 0 := by omega
      have q1 : S 115 12 = S 48 0 := by omega
      have q2 : S 115 13 = S 48 1 := by omega
      simp only [q0, q1, q2] at e2
      simp only [c0, c1, not_true_eq_false, not_false_eq_true, if_true, if_false, ite_true, ite_false, and_self, true_and, and_true] at e2
      refine qq_op_of e1 e2 (by decide) (by decide) (rfl) (by unfold qq_in; omega) ?_
      unfold inv
      simp (decide := true) only [qq_un', qq_un2, qq_us, qq_ueq, qq_R_u, qq_usf]
      refine ⟨h1, h2, h3, h4, h5, h6, h7, h8, h9, h10, ?_⟩
      · exact ⟨by first | trivial | omega, by unfold qq_in; omega⟩
  · simp only [c0, not_true_eq_false, not_false_eq_true, if_true, if_false, ite_true, ite_false, and_self, true_and, and_true] at e1
    have e2 := f134 hxs 0 (qq_u S 3 9 (-1)) a x y (by (try simp (decide := true) only [qq_un', qq_us]); exact ⟨ha, hx, hy, by omega, by omega, fun hst => by have := pl_bd h5 (show a.toNat < 10 by omega); have := (g5.2.2 a.toNat (by omega)).1; unfold qq_in; omega⟩)
    try simp (decide := true) only [qq_un'] at e2
    have q0 : S 115 1 = S 4 0 := by omega
    have q1 : S 115 12 = S 48 0 := by omega
    have q2 : S 115 13 = S 48 1 := by omega
    simp only [q0, q1, q2] at e2
    simp only [c0, not_true_eq_false, not_false_eq_true, if_true, if_false, ite_true, ite_false, and_self, true_and, and_true] at e2
    refine qq_op_of e1 e2 (by decide) (by decide) (rfl) (by unfold qq_in; omega) ?_
    unfold inv
    simp (decide := true) only [qq_un', qq_un2, qq_us, qq_ueq, qq_R_u, qq_usf]
    refine ⟨h1, h2, h3, h4, h5, h6, h7, h8, h9, h10, ?_⟩
    · exact ⟨by first | trivial | omega, by unfold qq_in; omega⟩
theorem o_hold {xs : List Int32} (hxs : xs.length ≤ 2048) (S : qq_S) (a : Int) (b : Int) (ha : qq_in a) (hb : b = 0 ∨ b = 1) (hI : inv S) : qq_op xs 29 96 136 [.inl a, .inl b] S := by
  have hI0 := hI
  obtain ⟨h1, h2, h3, h4, h5, h6, h7, h8, h9, h10, h11⟩ := hI
  have g1 := h1
  have g5 := h5
  have g6 := h6
  have g7 := h7
  unfold i_net at g1
  unfold i_plan at g5
  unfold i_terms at g6
  unfold i_names at g7
  have e1 := f96 hxs 0 S a b ⟨ha, hb, by omega, fun hst => by have := pl_bd h5 (show a.toNat < 10 by omega); unfold qq_in; omega⟩
  by_cases c0 : 0 ≤ a ∧ a < S 4 0
  · by_cases c1 : S 49 a.toNat = -1
    · simp only [c0, c1, not_true_eq_false, not_false_eq_true, if_true, if_false, ite_true, ite_false, and_self, true_and, and_true] at e1
      have e2 := f136 hxs 0 (qq_u S 3 9 (-2)) a b (by (try simp (decide := true) only [qq_un', qq_us]); exact ⟨ha, hb, by omega, fun hst => by have := pl_bd h5 (show a.toNat < 10 by omega); have := (g5.2.2 a.toNat (by omega)).2; unfold qq_in; omega⟩)
      try simp (decide := true) only [qq_un'] at e2
      have q0 : S 115 1 = S 4 0 := by omega
      simp only [q0] at e2
      have x0 : (S 123 a.toNat = -1) = (S 49 a.toNat = -1) := propext (by have e9 := (g5.2.2 a.toNat (by omega)).2; have := pl_bd h5 (show a.toNat < 10 by omega); omega)
      simp only [x0] at e2
      simp only [c0, c1, not_true_eq_false, not_false_eq_true, if_true, if_false, ite_true, ite_false, and_self, true_and, and_true] at e2
      refine qq_op_of e1 e2 (by decide) (by decide) (rfl) (by unfold qq_in; omega) ?_
      unfold inv
      simp (decide := true) only [qq_un', qq_un2, qq_us, qq_ueq, qq_R_u, qq_usf]
      refine ⟨h1, h2, h3, h4, h5, h6, h7, h8, h9, h10, ?_⟩
      · exact ⟨by first | trivial | omega, by unfold qq_in; omega⟩
    · simp only [c0, c1, not_true_eq_false, not_false_eq_true, if_true, if_false, ite_true, ite_false, and_self, true_and, and_true] at e1
      have e2 := f136 hxs 0 (qq_u (qq_u S 51 a.toNat b) 3 9 0) a b (by (try simp (decide := true) only [qq_un', qq_us]); exact ⟨ha, hb, by omega, fun hst => by have := pl_bd h5 (show a.toNat < 10 by omega); have := (g5.2.2 a.toNat (by omega)).2; unfold qq_in; omega⟩)
      try simp (decide := true) only [qq_un'] at e2
      have q0 : S 115 1 = S 4 0 := by omega
      simp only [q0] at e2
      have x0 : (S 123 a.toNat = -1) = (S 49 a.toNat = -1) := propext (by have e9 := (g5.2.2 a.toNat (by omega)).2; have := pl_bd h5 (show a.toNat < 10 by omega); omega)
      simp only [x0] at e2
      simp only [c0, c1, not_true_eq_false, not_false_eq_true, if_true, if_false, ite_true, ite_false, and_self, true_and, and_true] at e2
      refine qq_op_of e1 e2 (by decide) (by decide) (rfl) (by unfold qq_in; omega) ?_
      unfold inv
      simp (decide := true) only [qq_un', qq_un2, qq_us, qq_ueq, qq_R_u, qq_usf]
      refine ⟨h1, h2, h3, h4, ?_, h6, h7, h8, h9, h10, ?_⟩
      · exact ip_hold h5 hb c0 c1
      · exact ⟨by first | trivial | omega, by unfold qq_in; omega⟩
  · simp only [c0, not_true_eq_false, not_false_eq_true, if_true, if_false, ite_true, ite_false, and_self, true_and, and_true] at e1
    have e2 := f136 hxs 0 (qq_u S 3 9 (-2)) a b (by (try simp (decide := true) only [qq_un', qq_us]); exact ⟨ha, hb, by omega, fun hst => by have := pl_bd h5 (show a.toNat < 10 by omega); have := (g5.2.2 a.toNat (by omega)).2; unfold qq_in; omega⟩)
    try simp (decide := true) only [qq_un'] at e2
    have q0 : S 115 1 = S 4 0 := by omega
    simp only [q0] at e2
    simp only [c0, not_true_eq_false, not_false_eq_true, if_true, if_false, ite_true, ite_false, and_self, true_and, and_true] at e2
    refine qq_op_of e1 e2 (by decide) (by decide) (rfl) (by unfold qq_in; omega) ?_
    unfold inv
    simp (decide := true) only [qq_un', qq_un2, qq_us, qq_ueq, qq_R_u, qq_usf]
    refine ⟨h1, h2, h3, h4, h5, h6, h7, h8, h9, h10, ?_⟩
    · exact ⟨by first | trivial | omega, by unfold qq_in; omega⟩
theorem o_name {xs : List Int32} (hxs : xs.length ≤ 2048) (S : qq_S) (a : Int) (b : Int) (ha : qq_in a) (hb : qq_in b) (hI : inv S) : qq_op xs 29 101 164 [.inl a, .inl b] S := by
  have hI0 := hI
  obtain ⟨h1, h2, h3, h4, h5, h6, h7, h8, h9, h10, h11⟩ := hI
  have g1 := h1
  have g5 := h5
  have g6 := h6
  have g7 := h7
  unfold i_net at g1
  unfold i_plan at g5
  unfold i_terms at g6
  unfold i_names at g7
  have e1 := f101 hxs 0 S a b ⟨ha, hb, by omega⟩
  by_cases c0 : (0 ≤ b ∧ b ≤ 12)
  · by_cases c1 : 0 ≤ a ∧ a < S 4 0
    · simp only [c0, c1, not_true_eq_false, not_false_eq_true, if_true, if_false, ite_true, ite_false, and_self, true_and, and_true] at e1
      have e2 := f164 hxs 0 (qq_u (qq_u S 95 a.toNat b) 3 9 0) a b (by (try simp (decide := true) only [qq_un', qq_us]); exact ⟨ha, hb, by omega, fun hst => by have := g7.2 a.toNat (by omega); omega⟩)
      try simp (decide := true) only [qq_un'] at e2
      have q0 : S 115 1 = S 4 0 := by omega
      simp only [q0] at e2
      simp only [c0, c1, not_true_eq_false, not_false_eq_true, if_true, if_false, ite_true, ite_false, and_self, true_and, and_true] at e2
      refine qq_op_of e1 e2 (by decide) (by decide) (by have := g7.2 a.toNat (by omega); omega) (by have := g7.2 a.toNat (by omega); unfold qq_in; omega) ?_
      unfold inv
      simp (decide := true) only [qq_un', qq_un2, qq_us, qq_ueq, qq_R_u, qq_usf]
      refine ⟨h1, h2, h3, h4, h5, h6, ?_, h8, h9, h10, ?_⟩
      · exact in_name h7 c0 c1
      · exact ⟨by first | trivial | omega, by unfold qq_in; omega⟩
    · simp only [c0, c1, not_true_eq_false, not_false_eq_true, if_true, if_false, ite_true, ite_false, and_self, true_and, and_true] at e1
      have e2 := f164 hxs 0 (qq_u S 3 9 (-2)) a b (by (try simp (decide := true) only [qq_un', qq_us]); exact ⟨ha, hb, by omega, fun hst => by have := g7.2 a.toNat (by omega); omega⟩)
      try simp (decide := true) only [qq_un'] at e2
      have q0 : S 115 1 = S 4 0 := by omega
      simp only [q0] at e2
      simp only [c0, c1, not_true_eq_false, not_false_eq_true, if_true, if_false, ite_true, ite_false, and_self, true_and, and_true] at e2
      refine qq_op_of e1 e2 (by decide) (by decide) (rfl) (by unfold qq_in; omega) ?_
      unfold inv
      simp (decide := true) only [qq_un', qq_un2, qq_us, qq_ueq, qq_R_u, qq_usf]
      refine ⟨h1, h2, h3, h4, h5, h6, h7, h8, h9, h10, ?_⟩
      · exact ⟨by first | trivial | omega, by unfold qq_in; omega⟩
  · simp only [c0, not_true_eq_false, not_false_eq_true, if_true, if_false, ite_true, ite_false, and_self, true_and, and_true] at e1
    have e2 := f164 hxs 0 (qq_u S 3 9 (-1)) a b (by (try simp (decide := true) only [qq_un', qq_us]); exact ⟨ha, hb, by omega, fun hst => by have := g7.2 a.toNat (by omega); omega⟩)
    try simp (decide := true) only [qq_un'] at e2
    have q0 : S 115 1 = S 4 0 := by omega
    simp only [q0] at e2
    simp only [c0, not_true_eq_false, not_false_eq_true, if_true, if_false, ite_true, ite_false, and_self, true_and, and_true] at e2
    refine qq_op_of e1 e2 (by decide) (by decide) (rfl) (by unfold qq_in; omega) ?_
    unfold inv
    simp (decide := true) only [qq_un', qq_un2, qq_us, qq_ueq, qq_R_u, qq_usf]
    refine ⟨h1, h2, h3, h4, h5, h6, h7, h8, h9, h10, ?_⟩
    · exact ⟨by first | trivial | omega, by unfold qq_in; omega⟩
theorem o_line {xs : List Int32} (hxs : xs.length ≤ 2048) (S : qq_S) (hI : inv S) : qq_op xs 29 86 118 [] S := by
  have hI0 := hI
  obtain ⟨h1, h2, h3, h4, h5, h6, h7, h8, h9, h10, h11⟩ := hI
  have g1 := h1
  have g5 := h5
  have g6 := h6
  have g7 := h7
  unfold i_net at g1
  unfold i_plan at g5
  unfold i_terms at g6
  unfold i_names at g7
  have e1 := f86 hxs 0 S ⟨by omega, by omega⟩
  by_cases c0 : S 4 1 < 6
  · simp only [c0, not_true_eq_false, not_false_eq_true, if_true, if_false, ite_true, ite_false, and_self, true_and, and_true] at e1
    have e2 := f118 hxs 0 (qq_u (qq_u S 4 1 (S 4 1 + 1)) 3 9 0) (by (try simp (decide := true) only [qq_un', qq_us]); exact ⟨by omega, by omega⟩)
    try simp (decide := true) only [qq_un'] at e2
    have q0 : S 115 2 = S 4 1 := by omega
    simp only [q0] at e2
    simp only [c0, not_true_eq_false, not_false_eq_true, if_true, if_false, ite_true, ite_false, and_self, true_and, and_true] at e2
    refine qq_op_of e1 e2 (by decide) (by decide) (rfl) (by unfold qq_in; omega) ?_
    unfold inv
    simp (decide := true) only [qq_un', qq_un2, qq_us, qq_ueq, qq_R_u, qq_usf]
    refine ⟨?_, ?_, ?_, h4, h5, h6, h7, h8, h9, h10, ?_⟩
    · grind [i_net]
    · exact il_line h2 (by omega) c0
    · exact ie_line h2 h3 (by omega) c0
    · exact ⟨by first | trivial | omega, by unfold qq_in; omega⟩
  · simp only [c0, not_true_eq_false, not_false_eq_true, if_true, if_false, ite_true, ite_false, and_self, true_and, and_true] at e1
    have e2 := f118 hxs 0 (qq_u S 3 9 (-5)) (by (try simp (decide := true) only [qq_un', qq_us]); exact ⟨by omega, by omega⟩)
    try simp (decide := true) only [qq_un'] at e2
    have q0 : S 115 2 = S 4 1 := by omega
    simp only [q0] at e2
    simp only [c0, not_true_eq_false, not_false_eq_true, if_true, if_false, ite_true, ite_false, and_self, true_and, and_true] at e2
    refine qq_op_of e1 e2 (by decide) (by decide) (rfl) (by unfold qq_in; omega) ?_
    unfold inv
    simp (decide := true) only [qq_un', qq_un2, qq_us, qq_ueq, qq_R_u, qq_usf]
    refine ⟨h1, h2, h3, h4, h5, h6, h7, h8, h9, h10, ?_⟩
    · exact ⟨by first | trivial | omega, by unfold qq_in; omega⟩
