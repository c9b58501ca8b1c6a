theorem zz_bk_R {S : qq_S} {a i : Int} {b n : Nat} (h : 124 < b ∨ b + n ≤ 123) : qq_R (zz_bk S a i) b n = qq_R S b n := by
  funext l
  unfold qq_R
  split
  · rw [zz_bk_ne (by omega) (by omega)]
  · rfl
theorem zz_bk_p {S : qq_S} {a i : Int} : zz_bk S a i 123 = fun j : Nat => if (j : Int) < i then S 133 (23 * a + j).toNat else S 123 j := by
  funext j
  unfold zz_bk
  simp
theorem zz_bk_h {S : qq_S} {a i : Int} : zz_bk S a i 124 = fun j : Nat => if (j : Int) < i then (if S 133 (23 * a + 10 + j).toNat = 1 then 1 else 0) else S 124 j := by
  funext j
  unfold zz_bk
  simp
theorem ip_back {k : Nat} {n f f' w h a : Int} {X Y H kp X0 Y0 H0 P0 Q0 : Nat → Int} (hi : i_img k n f f' w h X Y H kp) (hf : ¬ f = 0) (ha : a = k) (hn : n ≤ 10) : i_plan n w h (fun j : Nat => if (j : Int) < 10 then X j else X0 j) (fun j : Nat => if (j : Int) < 10 then Y j else Y0 j) (fun j : Nat => if (j : Int) < 10 then H j else H0 j) (kp (23 * a + 20).toNat) (kp (23 * a + 21).toNat) (fun j : Nat => if (j : Int) < 10 then kp (23 * a + j).toNat else P0 j) (fun j : Nat => if (j : Int) < 10 then (if kp (23 * a + 10 + j).toNat = 1 then 1 else 0) else Q0 j) := by
  obtain ⟨a1, a2, a3⟩ := hi
  obtain ⟨b1, b2⟩ := a3 (by omega)
  refine ⟨?_, fun s hs => ?_, fun s hs => ?_⟩
  · rw [show (23 * a + 20).toNat = 23 * k + 20 by omega, show (23 * a + 21).toNat = 23 * k + 21 by omega]
    omega
  · have e9 : (s : Int) < 10 := by omega
    simp only [if_pos e9]
    obtain ⟨c1, c2, c3, c4, c5⟩ := b2 s hs
    exact ⟨c1, c2, c3, c4⟩
  · have e9 : (s : Int) < 10 := by omega
    simp only [if_pos e9]
    obtain ⟨c1, c2, c3, c4, c5, c6⟩ := b2 s (by omega)
    rw [show (23 * a + s).toNat = 23 * k + s by omega, show (23 * a + 10 + s).toNat = 23 * k + 10 + s by omega, c5, c6]
    refine ⟨?_, rfl⟩
    split <;> omega
theorem ii_h01 {k : Nat} {n f f' w h : Int} {X Y H kp : Nat → Int} (hi : i_img k n f f' w h X Y H kp) (hf : ¬ f = 0) : (∀ i : Nat, i < 10 → H i = 0 ∨ H i = 1) ∧ ∀ a i : Int, a = k → 0 ≤ i → i < 10 → qq_in (kp (23 * a + 10 + i).toNat) := by
  obtain ⟨a1, a2, a3⟩ := hi
  obtain ⟨b1, b2⟩ := a3 (by omega)
  refine ⟨fun i hi => (b2 i hi).2.1, fun a i ha h0 h1 => ?_⟩
  have c := b2 i.toNat (by omega)
  rw [show (23 * a + 10 + i).toNat = 23 * k + 10 + i.toNat by omega, c.2.2.2.2.2]
  unfold qq_in
  omega
theorem o_back {xs : List Int32} (hxs : xs.length ≤ 2048) (S : qq_S) (a : Int) (ha : qq_in a) (hI : inv S) : qq_op xs 29 105 175 [.inl a] S := by
  have hI0 := hI
  obtain ⟨h1, h2, h3, h4, h5, h6, h7, h8, h9, h10, h11⟩ := hI
  have g1 := h1
  unfold i_net at g1
  have f0 := h8.1
  have f1 := h9.1
  have f2 := h10.1
  have k0 := h8.2.1
  have k1 := h9.2.1
  have k2 := h10.2.1
  have e1 := f105 hxs 0 S a ⟨ha, fun z => by (have c1 : a = 0 ∨ a = 1 ∨ a = 2 := by omega); rcases c1 with rfl | rfl | rfl <;> assumption, fun z y => by subst z; exact (ii_h01 h8 y).1, fun z y => by subst z; exact (ii_h01 h9 y).1, fun z y => by subst z; exact (ii_h01 h10 y).1⟩
  have pre2 : qq_in a ∧ (0 ≤ a ∧ a ≤ 2 → S 132 a.toNat = 0 ∨ S 132 a.toNat = 1) ∧ (0 ≤ a ∧ a ≤ 2 → ¬ S 132 a.toNat = 0 → ∀ i : Int, 0 ≤ i → i < 10 → qq_in (S 133 (23 * a + 10 + i).toNat)) := by
    refine ⟨ha, fun z => ?_, fun z y => ?_⟩
    · have c1 : a = 0 ∨ a = 1 ∨ a = 2 := by omega
      rcases c1 with rfl | rfl | rfl
      · show S 132 0 = 0 ∨ S 132 0 = 1; omega
      · show S 132 1 = 0 ∨ S 132 1 = 1; omega
      · show S 132 2 = 0 ∨ S 132 2 = 1; omega
    · have c1 : a = 0 ∨ a = 1 ∨ a = 2 := by omega
      rcases c1 with rfl | rfl | rfl
      · exact fun i => (ii_h01 h8 (fun w => y (k0.trans w))).2 0 i rfl
      · exact fun i => (ii_h01 h9 (fun w => y (k1.trans w))).2 1 i rfl
      · exact fun i => (ii_h01 h10 (fun w => y (k2.trans w))).2 2 i rfl
  by_cases c0 : 0 ≤ a ∧ a ≤ 2
  · simp only [if_pos c0] at e1
    have c1 : a = 0 ∨ a = 1 ∨ a = 2 := by omega
    rcases c1 with rfl | rfl | rfl
    · replace e1 : qq_E xs (0 + 4) 105 [.inr (3, none), .inl 0] S (some (if S 114 0 = 0 then -6 else 0)) (if S 114 0 = 0 then qq_u S 3 9 (-6) else qq_u (zz_cp (qq_u (qq_u S 48 0 (S 102 0)) 48 1 (S 102 1)) 49 50 51 103 104 105 10) 3 9 0) := by simpa (decide := true) using e1
      have pre3 : qq_in (0 : Int) ∧ (0 ≤ (0 : Int) ∧ (0 : Int) ≤ 2 → S 132 0 = 0 ∨ S 132 0 = 1) ∧ (0 ≤ (0 : Int) ∧ (0 : Int) ≤ 2 → ¬ S 132 0 = 0 → ∀ i : Int, 0 ≤ i → i < 10 → qq_in (S 133 (23 * (0 : Int) + 10 + i).toNat)) := pre2
      by_cases c1 : S 114 0 = 0
      · simp only [if_pos c1] at e1
        have c2 : S 132 0 = 0 := k0.trans c1
        have e2 := f175 hxs 0 (qq_u S 3 9 (-6)) 0 (by simp (decide := true) only [qq_un', qq_ueq]; exact ⟨pre3.1, fun _ => pre3.2.1 (by decide), fun _ => pre3.2.2 (by decide)⟩)
        replace e2 : qq_E xs (0 + 4) 175 [.inr (115, none), .inl 0] (qq_u S 3 9 (-6)) (some (-6)) (qq_u (qq_u S 3 9 (-6)) 115 0 (-6)) := by
          simp (decide := true) only [qq_un', qq_ueq, if_true, ite_true, and_self] at e2
          rw [if_pos (show S 132 (0 : Int).toNat = 0 from c2), if_pos (show S 132 (0 : Int).toNat = 0 from c2)] at e2
          exact e2
        refine qq_op_of e1 e2 (by decide) (by decide) rfl (by unfold qq_in; omega) ?_
        unfold inv
        simp (decide := true) only [qq_un', qq_un2, qq_us, qq_ueq, qq_R_u]
        exact ⟨h1, h2, h3, h4, h5, h6, h7, h8, h9, h10, by first | trivial | omega, by unfold qq_in; omega⟩
      · simp only [if_neg c1] at e1
        have c2 : ¬ S 132 0 = 0 := fun w => c1 (k0.symm.trans w)
        have e2 := f175 hxs 0 (qq_u (zz_cp (qq_u (qq_u S 48 0 (S 102 0)) 48 1 (S 102 1)) 49 50 51 103 104 105 10) 3 9 0) 0 (by simp (decide := true) only [qq_un', qq_ueq, zz_cp_ne]; exact ⟨pre3.1, fun _ => pre3.2.1 (by decide), fun _ => pre3.2.2 (by decide)⟩)
        simp (decide := true) only [qq_un', qq_ueq, zz_cp_ne, if_true, ite_true, and_self] at e2
        rw [if_neg (show ¬ S 132 (0 : Int).toNat = 0 from c2), if_neg (show ¬ S 132 (0 : Int).toNat = 0 from c2)] at e2
        refine qq_op_of e1 e2 (by decide) (by decide) rfl (by unfold qq_in; omega) ?_
        unfold inv
        simp (decide := true) only [qq_un', qq_un2, qq_us, qq_ueq, qq_R_u, zz_cp_ne, zz_cp_R, zz_cp_x, zz_cp_y, zz_cp_h, zz_bk_ne, zz_bk_R, zz_bk_p, zz_bk_h]
        exact ⟨h1, h2, h3, h4, ip_back h8 c1 rfl (by omega), h6, h7, h8, h9, h10, by first | trivial | omega, by unfold qq_in; omega⟩
    · replace e1 : qq_E xs (0 + 4) 105 [.inr (3, none), .inl 1] S (some (if S 114 1 = 0 then -6 else 0)) (if S 114 1 = 0 then qq_u S 3 9 (-6) else qq_u (zz_cp (qq_u (qq_u S 48 0 (S 106 0)) 48 1 (S 106 1)) 49 50 51 107 108 109 10) 3 9 0) := by simpa (decide := true) using e1
      have pre3 : qq_in (1 : Int) ∧ (0 ≤ (1 : Int) ∧ (1 : Int) ≤ 2 → S 132 1 = 0 ∨ S 132 1 = 1) ∧ (0 ≤ (1 : Int) ∧ (1 : Int) ≤ 2 → ¬ S 132 1 = 0 → ∀ i : Int, 0 ≤ i → i < 10 → qq_in (S 133 (23 * (1 : Int) + 10 + i).toNat)) := pre2
      by_cases c1 : S 114 1 = 0
      · simp only [if_pos c1] at e1
        have c2 : S 132 1 = 0 := k1.trans c1
        have e2 := f175 hxs 0 (qq_u S 3 9 (-6)) 1 (by simp (decide := true) only [qq_un', qq_ueq]; exact ⟨pre3.1, fun _ => pre3.2.1 (by decide), fun _ => pre3.2.2 (by decide)⟩)
        replace e2 : qq_E xs (0 + 4) 175 [.inr (115, none), .inl 1] (qq_u S 3 9 (-6)) (some (-6)) (qq_u (qq_u S 3 9 (-6)) 115 0 (-6)) := by
          simp (decide := true) only [qq_un', qq_ueq, if_true, ite_true, and_self] at e2
          rw [if_pos (show S 132 (1 : Int).toNat = 0 from c2), if_pos (show S 132 (1 : Int).toNat = 0 from c2)] at e2
          exact e2
        refine qq_op_of e1 e2 (by decide) (by decide) rfl (by unfold qq_in; omega) ?_
        unfold inv
        simp (decide := true) only [qq_un', qq_un2, qq_us, qq_ueq, qq_R_u]
        exact ⟨h1, h2, h3, h4, h5, h6, h7, h8, h9, h10, by first | trivial | omega, by unfold qq_in; omega⟩
      · simp only [if_neg c1] at e1
        have c2 : ¬ S 132 1 = 0 := fun w => c1 (k1.symm.trans w)
        have e2 := f175 hxs 0 (qq_u (zz_cp (qq_u (qq_u S 48 0 (S 106 0)) 48 1 (S 106 1)) 49 50 51 107 108 109 10) 3 9 0) 1 (by simp (decide := true) only [qq_un', qq_ueq, zz_cp_ne]; exact ⟨pre3.1, fun _ => pre3.2.1 (by decide), fun _ => pre3.2.2 (by decide)⟩)
        simp (decide := true) only [qq_un', qq_ueq, zz_cp_ne, if_true, ite_true, and_self] at e2
        rw [if_neg (show ¬ S 132 (1 : Int).toNat = 0 from c2), if_neg (show ¬ S 132 (1 : Int).toNat = 0 from c2)] at e2
        refine qq_op_of e1 e2 (by decide) (by decide) rfl (by unfold qq_in; omega) ?_
        unfold inv
        simp (decide := true) only [qq_un', qq_un2, qq_us, qq_ueq, qq_R_u, zz_cp_ne, zz_cp_R, zz_cp_x, zz_cp_y, zz_cp_h, zz_bk_ne, zz_bk_R, zz_bk_p, zz_bk_h]
        exact ⟨h1, h2, h3, h4, ip_back h9 c1 rfl (by omega), h6, h7, h8, h9, h10, by first | trivial | omega, by unfold qq_in; omega⟩
    · replace e1 : qq_E xs (0 + 4) 105 [.inr (3, none), .inl 2] S (some (if S 114 2 = 0 then -6 else 0)) (if S 114 2 = 0 then qq_u S 3 9 (-6) else qq_u (zz_cp (qq_u (qq_u S 48 0 (S 110 0)) 48 1 (S 110 1)) 49 50 51 111 112 113 10) 3 9 0) := by simpa (decide := true) using e1
      have pre3 : qq_in (2 : Int) ∧ (0 ≤ (2 : Int) ∧ (2 : Int) ≤ 2 → S 132 2 = 0 ∨ S 132 2 = 1) ∧ (0 ≤ (2 : Int) ∧ (2 : Int) ≤ 2 → ¬ S 132 2 = 0 → ∀ i : Int, 0 ≤ i → i < 10 → qq_in (S 133 (23 * (2 : Int) + 10 + i).toNat)) := pre2
      by_cases c1 : S 114 2 = 0
      · simp only [if_pos c1] at e1
        have c2 : S 132 2 = 0 := k2.trans c1
        have e2 := f175 hxs 0 (qq_u S 3 9 (-6)) 2 (by simp (decide := true) only [qq_un', qq_ueq]; exact ⟨pre3.1, fun _ => pre3.2.1 (by decide), fun _ => pre3.2.2 (by decide)⟩)
        replace e2 : qq_E xs (0 + 4) 175 [.inr (115, none), .inl 2] (qq_u S 3 9 (-6)) (some (-6)) (qq_u (qq_u S 3 9 (-6)) 115 0 (-6)) := by
          simp (decide := true) only [qq_un', qq_ueq, if_true, ite_true, and_self] at e2
          rw [if_pos (show S 132 (2 : Int).toNat = 0 from c2), if_pos (show S 132 (2 : Int).toNat = 0 from c2)] at e2
          exact e2
        refine qq_op_of e1 e2 (by decide) (by decide) rfl (by unfold qq_in; omega) ?_
        unfold inv
        simp (decide := true) only [qq_un', qq_un2, qq_us, qq_ueq, qq_R_u]
        exact ⟨h1, h2, h3, h4, h5, h6, h7, h8, h9, h10, by first | trivial | omega, by unfold qq_in; omega⟩
      · simp only [if_neg c1] at e1
        have c2 : ¬ S 132 2 = 0 := fun w => c1 (k2.symm.trans w)
        have e2 := f175 hxs 0 (qq_u (zz_cp (qq_u (qq_u S 48 0 (S 110 0)) 48 1 (S 110 1)) 49 50 51 111 112 113 10) 3 9 0) 2 (by simp (decide := true) only [qq_un', qq_ueq, zz_cp_ne]; exact ⟨pre3.1, fun _ => pre3.2.1 (by decide), fun _ => pre3.2.2 (by decide)⟩)
        simp (decide := true) only [qq_un', qq_ueq, zz_cp_ne, if_true, ite_true, and_self] at e2
        rw [if_neg (show ¬ S 132 (2 : Int).toNat = 0 from c2), if_neg (show ¬ S 132 (2 : Int).toNat = 0 from c2)] at e2
        refine qq_op_of e1 e2 (by decide) (by decide) rfl (by unfold qq_in; omega) ?_
        unfold inv
        simp (decide := true) only [qq_un', qq_un2, qq_us, qq_ueq, qq_R_u, zz_cp_ne, zz_cp_R, zz_cp_x, zz_cp_y, zz_cp_h, zz_bk_ne, zz_bk_R, zz_bk_p, zz_bk_h]
        exact ⟨h1, h2, h3, h4, ip_back h10 c1 rfl (by omega), h6, h7, h8, h9, h10, by first | trivial | omega, by unfold qq_in; omega⟩
  · simp only [if_neg c0] at e1
    have e2 := f175 hxs 0 (qq_u S 3 9 (-1)) a (by simp (decide := true) only [qq_un', qq_ueq]; exact pre2)
    simp only [if_neg c0] at e2
    refine qq_op_of e1 e2 (by decide) (by decide) rfl (by unfold qq_in; omega) ?_
    unfold inv
    simp (decide := true) only [qq_un', qq_un2, qq_us, qq_ueq, qq_R_u]
    exact ⟨h1, h2, h3, h4, h5, h6, h7, h8, h9, h10, by first | trivial | omega, by unfold qq_in; omega⟩
