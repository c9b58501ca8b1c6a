/-! Coming ahead round a station is an order: what is ahead of one that is ahead is ahead. -/
theorem zz_up {xa ya xb yb xc yc : Int} (ha : 0 < ya ∨ (ya = 0 ∧ 0 < xa)) (hb : 0 < yb ∨ (yb = 0 ∧ 0 < xb)) (hc : 0 < yc ∨ (yc = 0 ∧ 0 < xc)) (h1 : 0 ≤ xa * yb - ya * xb) (h2 : 0 ≤ xb * yc - yb * xc) : 0 ≤ xa * yc - ya * xc ∧ (xa * yc - ya * xc = 0 → xa * yb - ya * xb = 0 ∧ xb * yc - yb * xc = 0) := by
  have id : (xa * yc - ya * xc) * yb = (xa * yb - ya * xb) * yc + (xb * yc - yb * xc) * ya := by grind
  rcases hb with hb | ⟨hb, hb2⟩
  · have y1 : 0 ≤ ya := by omega
    have y2 : 0 ≤ yc := by omega
    have p1 := Int.mul_nonneg h1 y2
    have p2 := Int.mul_nonneg h2 y1
    have ge : 0 ≤ xa * yc - ya * xc := by
      by_cases z : 0 ≤ xa * yc - ya * xc
      · exact z
      · have := Int.mul_neg_of_neg_of_pos (show xa * yc - ya * xc < 0 by omega) hb
        omega
    refine ⟨ge, fun z => ?_⟩
    rw [z, Int.zero_mul] at id
    have q1 : (xa * yb - ya * xb) * yc = 0 := by omega
    have q2 : (xb * yc - yb * xc) * ya = 0 := by omega
    have yc0 : ¬ yc = 0 := fun e => by
      have : 0 < xc := by omega
      have := Int.mul_pos hb this
      rw [e] at h2
      simp at h2
      omega
    have r1 : xa * yb - ya * xb = 0 := by
      rcases Int.mul_eq_zero.mp q1 with w | w
      · exact w
      · exact absurd w yc0
    have ya0 : ¬ ya = 0 := fun e => by
      have x0 : 0 < xa := by omega
      have := Int.mul_pos x0 hb
      rw [e] at r1
      simp at r1
      omega
    refine ⟨r1, ?_⟩
    rcases Int.mul_eq_zero.mp q2 with w | w
    · exact w
    · exact absurd w ya0
  · subst hb
    simp only [Int.mul_zero, Int.zero_mul, Int.zero_sub, Int.sub_zero] at *
    have ya0 : ya = 0 := by
      by_cases z : ya = 0
      · exact z
      · have := Int.mul_pos (show 0 < ya by omega) hb2
        omega
    subst ya0
    have x0 : 0 < xa := by omega
    have y2 : 0 ≤ yc := by omega
    simp only [Int.zero_mul, Int.sub_zero] at *
    refine ⟨Int.mul_nonneg (by omega) y2, fun z => ⟨by omega, ?_⟩⟩
    rcases Int.mul_eq_zero.mp z with w | w
    · omega
    · rw [w, Int.mul_zero]
theorem zz_half0 {x y : Int} : zz_half x y = 0 ↔ (0 < y ∨ (y = 0 ∧ 0 < x)) := by
  unfold zz_half
  split
  · simp_all
  · simp_all
theorem zz_half1 {x y : Int} (hn : ¬ (x = 0 ∧ y = 0)) (h : ¬ zz_half x y = 0) : 0 < -y ∨ (-y = 0 ∧ 0 < -x) := by
  rw [zz_half0] at h
  omega
theorem zz_ahead_tr {X Y : Nat → Int} {s a b c : Nat} (na : ¬ (X a - X s = 0 ∧ Y a - Y s = 0)) (nb : ¬ (X b - X s = 0 ∧ Y b - Y s = 0)) (nc : ¬ (X c - X s = 0 ∧ Y c - Y s = 0)) (h1 : zz_ahead X Y s a b) (h2 : zz_ahead X Y s b c) : zz_ahead X Y s a c := by
  unfold zz_ahead at *
  generalize X a - X s = xa at *
  generalize Y a - Y s = ya at *
  generalize X b - X s = xb at *
  generalize Y b - Y s = yb at *
  generalize X c - X s = xc at *
  generalize Y c - Y s = yc at *
  have b1 := zz_hb xa ya
  have b2 := zz_hb xb yb
  have b3 := zz_hb xc yc
  by_cases e1 : zz_half xa ya = zz_half xb yb
  · by_cases e2 : zz_half xb yb = zz_half xc yc
    · rw [if_pos e1] at h1
      rw [if_pos e2] at h2
      rw [if_pos (e1.trans e2)]
      have g1 : 0 ≤ xa * yb - ya * xb := by
        by_cases z : xa * yb - ya * xb = 0
        · omega
        · rw [if_neg z] at h1; omega
      have g2 : 0 ≤ xb * yc - yb * xc := by
        by_cases z : xb * yc - yb * xc = 0
        · omega
        · rw [if_neg z] at h2; omega
      have key : 0 ≤ xa * yc - ya * xc ∧ (xa * yc - ya * xc = 0 → xa * yb - ya * xb = 0 ∧ xb * yc - yb * xc = 0) := by
        by_cases z : zz_half xa ya = 0
        · exact zz_up (zz_half0.mp z) (zz_half0.mp (by omega)) (zz_half0.mp (by omega)) g1 g2
        · have k := zz_up (xa := -xa) (ya := -ya) (xb := -xb) (yb := -yb) (xc := -xc) (yc := -yc) (zz_half1 na z) (zz_half1 nb (by omega)) (zz_half1 nc (by omega))
          simp only [Int.neg_mul_neg] at k
          exact k g1 g2
      by_cases z : xa * yc - ya * xc = 0
      · rw [if_pos z]
        have w := key.2 z
        rw [if_pos w.1] at h1
        rw [if_pos w.2] at h2
        omega
      · rw [if_neg z]
        omega
    · rw [if_neg e2] at h2
      rw [if_neg (by omega)]
      omega
  · rw [if_neg e1] at h1
    by_cases e2 : zz_half xb yb = zz_half xc yc
    · rw [if_neg (by omega)]
      omega
    · rw [if_neg e2] at h2
      omega
theorem zz_ahead_tot {X Y : Nat → Int} {s a b : Nat} (hn : ¬ a = b) (h : ¬ zz_ahead X Y s a b) : zz_ahead X Y s b a := by
  unfold zz_ahead at *
  generalize hu : (X a - X s) * (Y b - Y s) - (Y a - Y s) * (X b - X s) = u at *
  have hv : (X b - X s) * (Y a - Y s) - (Y b - Y s) * (X a - X s) = -u := by grind
  rw [hv]
  generalize zz_half (X a - X s) (Y a - Y s) = p at *
  generalize zz_half (X b - X s) (Y b - Y s) = q at *
  by_cases e : p = q
  · rw [if_pos e] at h
    rw [if_pos e.symm]
    by_cases e2 : u = 0
    · rw [if_pos e2] at h
      rw [if_pos (by omega)]
      omega
    · rw [if_neg e2] at h
      rw [if_neg (by omega)]
      omega
  · rw [if_neg e] at h
    rw [if_neg (by omega)]
    omega
