theorem zz_cp_ne {S : qq_S} {dx dy dh sx sy sh c : Nat} {i : Int} (h1 : c ≠ dx) (h2 : c ≠ dy) (h3 : c ≠ dh) : zz_cp S dx dy dh sx sy sh i c = S c := by
  funext j
  unfold zz_cp
  rw [if_neg h1, if_neg h2, if_neg h3, ite_self]
theorem zz_cp_R {S : qq_S} {dx dy dh sx sy sh b n : Nat} {i : Int} (h1 : dx < b ∨ b + n ≤ dx) (h2 : dy < b ∨ b + n ≤ dy) (h3 : dh < b ∨ b + n ≤ dh) : qq_R (zz_cp S dx dy dh sx sy sh i) b n = qq_R S b n := by
  funext l
  unfold qq_R
  split
  · rw [zz_cp_ne (by omega) (by omega) (by omega)]
  · rfl
theorem zz_cp_x {S : qq_S} {dx dy dh sx sy sh : Nat} {i : Int} : zz_cp S dx dy dh sx sy sh i dx = fun j : Nat => if (j : Int) < i then S sx j else S dx j := by
  funext j
  unfold zz_cp
  simp
theorem zz_cp_y {S : qq_S} {dx dy dh sx sy sh : Nat} {i : Int} (h : dy ≠ dx) : zz_cp S dx dy dh sx sy sh i dy = fun j : Nat => if (j : Int) < i then S sy j else S dy j := by
  funext j
  unfold zz_cp
  simp [h]
theorem zz_cp_h {S : qq_S} {dx dy dh sx sy sh : Nat} {i : Int} (h : dh ≠ dx) (h' : dh ≠ dy) : zz_cp S dx dy dh sx sy sh i dh = fun j : Nat => if (j : Int) < i then S sh j else S dh j := by
  funext j
  unfold zz_cp
  simp [h, h']
theorem zz_im_R {S : qq_S} {a i : Int} {b n : Nat} (h : 133 < b ∨ b + n ≤ 133) : qq_R (zz_im S a i) b n = qq_R S b n := by
  funext l
  unfold qq_R
  split
  · rw [zz_im_ne (by omega)]
  · rfl
theorem zz_im_1 {T : qq_S} {a : Int} {k s : Nat} (ha : a = k) (hs : s < 10) : zz_im T a 10 133 (23 * k + s) = zz_v1 T s := by
  unfold zz_im
  rw [if_pos ⟨rfl, by omega, by omega⟩]
  congr 1
  omega
theorem zz_im_2 {T : qq_S} {a : Int} {k s : Nat} (ha : a = k) (hs : s < 10) : zz_im T a 10 133 (23 * k + 10 + s) = zz_v2 T s := by
  unfold zz_im
  rw [if_neg (by omega), if_pos ⟨rfl, by omega, by omega⟩]
  congr 1
  omega
theorem zz_im_3 {T : qq_S} {a : Int} {k j : Nat} (ha : a = k) (hj : j < 23 * k ∨ 23 * k + 20 ≤ j) : zz_im T a 10 133 j = T 133 j := by
  unfold zz_im
  rw [if_neg (by omega), if_neg (by omega)]
theorem ii_kp {k : Nat} {n f f' w h : Int} {X Y H kp kp' : Nat → Int} (hi : i_img k n f f' w h X Y H kp) (hk : ∀ j : Nat, 23 * k ≤ j → j < 23 * k + 23 → kp' j = kp j) : i_img k n f f' w h X Y H kp' := by
  obtain ⟨a1, a2, a3⟩ := hi
  refine ⟨a1, a2, fun z => ?_⟩
  obtain ⟨b1, b2⟩ := a3 z
  refine ⟨?_, fun s hs => ?_⟩
  · rw [hk _ (by omega) (by omega), hk _ (by omega) (by omega)]
    exact b1
  · rw [hk _ (by omega) (by omega), hk _ (by omega) (by omega)]
    exact b2 s hs
theorem ii_new {k : Nat} {n w h : Int} {X Y H : Nat → Int} {w' h' : Int} {P' H' X9 Y9 H9 kp : Nat → Int} (hp : i_plan n w h X Y H w' h' P' H') (hX : ∀ s : Nat, s < 10 → X9 s = X s ∧ Y9 s = Y s ∧ H9 s = H s) (hk : ∀ s : Nat, s < 10 → kp (23 * k + s) = (if (s : Int) < n then P' s else -1) ∧ kp (23 * k + 10 + s) = (if (s : Int) < n ∧ ¬ H' s = 0 then 1 else 0)) (hw : kp (23 * k + 20) = w ∧ kp (23 * k + 21) = h) : i_img k n 1 1 w h X9 Y9 H9 kp := by
  obtain ⟨a1, a2, a3⟩ := hp
  refine ⟨Or.inr rfl, rfl, fun _ => ⟨⟨a1.1, a1.2.1, a1.2.2.1, a1.2.2.2.1, hw.1, hw.2⟩, fun s hs => ?_⟩⟩
  obtain ⟨x1, x2, x3⟩ := hX s hs
  obtain ⟨k1, k2⟩ := hk s hs
  obtain ⟨b1, b2, b3, b4⟩ := a2 s hs
  rw [x1, x2, x3, k1, k2]
  refine ⟨b1, b2, b3, b4, ?_, ?_⟩
  · by_cases c : (s : Int) < n
    · rw [if_pos c]
      exact (a3 s c).2
    · rw [if_neg c]
      unfold zz_pt
      rw [if_pos (b4 (by omega))]
  · by_cases c : (s : Int) < n
    · have e := (a3 s c).1
      by_cases c0 : H' s = 0
      · rw [if_neg (fun z => z.2 c0)]
        omega
      · rw [if_pos ⟨c, c0⟩]
        omega
    · rw [if_neg (fun z => c z.1)]
      exact (b3 (b4 (by omega))).symm
theorem o_image {xs : List Int32} (hxs : xs.length ≤ 2048) (S : qq_S) (a : Int) (ha : qq_in a) (hI : inv S) : qq_op xs 29 104 174 [.inl a] S := by
  have hI0 := hI
  obtain ⟨h1, h2, h3, h4, h5, h6, h7, h8, h9, h10, h11⟩ := hI
  have g1 := h1
  have g5 := h5
  unfold i_net at g1
  unfold i_plan at g5
  have e1 := f104 hxs 0 S a ⟨ha, fun i hi => (pl_bd h5 hi).2.2.2.2.1⟩
  have hh : ∀ i : Nat, (i : Int) < S 115 1 → S 124 i = 0 ∨ S 124 i = 1 := fun i hi => by
    have := g5.2.2 i (by omega)
    have := pl_bd h5 (show i < 10 by omega)
    omega
  by_cases c0 : 0 ≤ a ∧ a ≤ 2
  · simp only [if_pos c0] at e1
    have c1 : a = 0 ∨ a = 1 ∨ a = 2 := by omega
    rcases c1 with rfl | rfl | rfl
    · simp (decide := true) only [if_true, if_false, Int.toNat] at e1
      have e2 := f174 hxs 0 (qq_u (qq_u (zz_cp (qq_u (qq_u S 102 0 (S 48 0)) 102 1 (S 48 1)) 103 104 105 49 50 51 10) 114 0 1) 3 9 0) 0 (by simp (decide := true) only [qq_un', qq_ueq, zz_cp_ne]; exact ⟨ha, by omega, hh⟩)
      simp (decide := true) only [qq_un', qq_ueq, zz_cp_ne, if_true, ite_true, and_self] at e2
      refine qq_op_of e1 e2 (by decide) (by decide) rfl (by unfold qq_in; omega) ?_
      have hw : S 115 12 = S 48 0 ∧ S 115 13 = S 48 1 ∧ S 115 1 = S 4 0 := by omega
      unfold inv
      simp (decide := true) only [qq_un', qq_un2, qq_us, qq_ueq, qq_R_u, zz_cp_ne, zz_cp_R, zz_im_ne, zz_im_R]
      refine ⟨h1, h2, h3, h4, h5, h6, h7, ?_, ?_, ?_, by first | trivial | omega, by unfold qq_in; omega⟩
      · simp (decide := true) only [zz_cp_x, zz_cp_y, zz_cp_h, qq_un', qq_ueq]
        refine ii_new h5 (fun s hs => ?_) (fun s hs => ?_) ?_
        · have e9 : (s : Int) < 10 := by omega
          simp only [if_pos e9]
          exact ⟨trivial, trivial, trivial⟩
        · rw [qq_un2 (by omega), qq_un2 (by omega), qq_un2 (by omega), qq_un2 (by omega), zz_im_1 (by decide) hs, zz_im_2 (by decide) hs]
          unfold zz_v1 zz_v2
          simp (decide := true) only [qq_un', qq_ueq, zz_cp_ne, Int.toNat_natCast, hw.2.2]
        · rw [qq_un2 (by decide), show (23 * 0 + 20 : Nat) = ((23 * 0 + 20 : Int)).toNat by decide, qq_us, show (23 * 0 + 21 : Nat) = ((23 * 0 + 21 : Int)).toNat by decide, qq_us]
          exact ⟨hw.1, hw.2.1⟩
      · refine ii_kp h9 (fun j hj1 hj2 => ?_)
        rw [qq_un2 (by omega), qq_un2 (by omega), zz_im_3 (k := 0) (by decide) (by omega)]
        simp (decide := true) only [qq_un', qq_ueq, zz_cp_ne]
      · refine ii_kp h10 (fun j hj1 hj2 => ?_)
        rw [qq_un2 (by omega), qq_un2 (by omega), zz_im_3 (k := 0) (by decide) (by omega)]
        simp (decide := true) only [qq_un', qq_ueq, zz_cp_ne]
    · simp (decide := true) only [if_true, if_false, Int.toNat] at e1
      have e2 := f174 hxs 0 (qq_u (qq_u (zz_cp (qq_u (qq_u S 106 0 (S 48 0)) 106 1 (S 48 1)) 107 108 109 49 50 51 10) 114 1 1) 3 9 0) 1 (by simp (decide := true) only [qq_un', qq_ueq, zz_cp_ne]; exact ⟨ha, by omega, hh⟩)
      simp (decide := true) only [qq_un', qq_ueq, zz_cp_ne, if_true, ite_true, and_self] at e2
      refine qq_op_of e1 e2 (by decide) (by decide) rfl (by unfold qq_in; omega) ?_
      have hw : S 115 12 = S 48 0 ∧ S 115 13 = S 48 1 ∧ S 115 1 = S 4 0 := by omega
      unfold inv
      simp (decide := true) only [qq_un', qq_un2, qq_us, qq_ueq, qq_R_u, zz_cp_ne, zz_cp_R, zz_im_ne, zz_im_R]
      refine ⟨h1, h2, h3, h4, h5, h6, h7, ?_, ?_, ?_, by first | trivial | omega, by unfold qq_in; omega⟩
      · refine ii_kp h8 (fun j hj1 hj2 => ?_)
        rw [qq_un2 (by omega), qq_un2 (by omega), zz_im_3 (k := 1) (by decide) (by omega)]
        simp (decide := true) only [qq_un', qq_ueq, zz_cp_ne]
      · simp (decide := true) only [zz_cp_x, zz_cp_y, zz_cp_h, qq_un', qq_ueq]
        refine ii_new h5 (fun s hs => ?_) (fun s hs => ?_) ?_
        · have e9 : (s : Int) < 10 := by omega
          simp only [if_pos e9]
          exact ⟨trivial, trivial, trivial⟩
        · rw [qq_un2 (by omega), qq_un2 (by omega), qq_un2 (by omega), qq_un2 (by omega), zz_im_1 (by decide) hs, zz_im_2 (by decide) hs]
          unfold zz_v1 zz_v2
          simp (decide := true) only [qq_un', qq_ueq, zz_cp_ne, Int.toNat_natCast, hw.2.2]
        · rw [qq_un2 (by decide), show (23 * 1 + 20 : Nat) = ((23 * 1 + 20 : Int)).toNat by decide, qq_us, show (23 * 1 + 21 : Nat) = ((23 * 1 + 21 : Int)).toNat by decide, qq_us]
          exact ⟨hw.1, hw.2.1⟩
      · refine ii_kp h10 (fun j hj1 hj2 => ?_)
        rw [qq_un2 (by omega), qq_un2 (by omega), zz_im_3 (k := 1) (by decide) (by omega)]
        simp (decide := true) only [qq_un', qq_ueq, zz_cp_ne]
    · simp (decide := true) only [if_true, if_false, Int.toNat] at e1
      have e2 := f174 hxs 0 (qq_u (qq_u (zz_cp (qq_u (qq_u S 110 0 (S 48 0)) 110 1 (S 48 1)) 111 112 113 49 50 51 10) 114 2 1) 3 9 0) 2 (by simp (decide := true) only [qq_un', qq_ueq, zz_cp_ne]; exact ⟨ha, by omega, hh⟩)
      simp (decide := true) only [qq_un', qq_ueq, zz_cp_ne, if_true, ite_true, and_self] at e2
      refine qq_op_of e1 e2 (by decide) (by decide) rfl (by unfold qq_in; omega) ?_
      have hw : S 115 12 = S 48 0 ∧ S 115 13 = S 48 1 ∧ S 115 1 = S 4 0 := by omega
      unfold inv
      simp (decide := true) only [qq_un', qq_un2, qq_us, qq_ueq, qq_R_u, zz_cp_ne, zz_cp_R, zz_im_ne, zz_im_R]
      refine ⟨h1, h2, h3, h4, h5, h6, h7, ?_, ?_, ?_, by first | trivial | omega, by unfold qq_in; omega⟩
      · refine ii_kp h8 (fun j hj1 hj2 => ?_)
        rw [qq_un2 (by omega), qq_un2 (by omega), zz_im_3 (k := 2) (by decide) (by omega)]
        simp (decide := true) only [qq_un', qq_ueq, zz_cp_ne]
      · refine ii_kp h9 (fun j hj1 hj2 => ?_)
        rw [qq_un2 (by omega), qq_un2 (by omega), zz_im_3 (k := 2) (by decide) (by omega)]
        simp (decide := true) only [qq_un', qq_ueq, zz_cp_ne]
      · simp (decide := true) only [zz_cp_x, zz_cp_y, zz_cp_h, qq_un', qq_ueq]
        refine ii_new h5 (fun s hs => ?_) (fun s hs => ?_) ?_
        · have e9 : (s : Int) < 10 := by omega
          simp only [if_pos e9]
          exact ⟨trivial, trivial, trivial⟩
        · rw [qq_un2 (by omega), qq_un2 (by omega), qq_un2 (by omega), qq_un2 (by omega), zz_im_1 (by decide) hs, zz_im_2 (by decide) hs]
          unfold zz_v1 zz_v2
          simp (decide := true) only [qq_un', qq_ueq, zz_cp_ne, Int.toNat_natCast, hw.2.2]
        · rw [qq_un2 (by decide), show (23 * 2 + 20 : Nat) = ((23 * 2 + 20 : Int)).toNat by decide, qq_us, show (23 * 2 + 21 : Nat) = ((23 * 2 + 21 : Int)).toNat by decide, qq_us]
          exact ⟨hw.1, hw.2.1⟩
  · simp only [if_neg c0] at e1
    have e2 := f174 hxs 0 (qq_u S 3 9 (-1)) a (by simp (decide := true) only [qq_un', qq_ueq]; exact ⟨ha, by omega, hh⟩)
    simp (decide := true) only [qq_un', if_neg c0] at e2
    refine qq_op_of e1 e2 (by decide) (by decide) rfl (by unfold qq_in; omega) ?_
    unfold inv
    simp (decide := true) only [qq_un', qq_un2, qq_us, qq_ueq, qq_R_u]
    exact ⟨h1, h2, h3, h4, h5, h6, h7, h8, h9, h10, by first | trivial | omega, by unfold qq_in; omega⟩
