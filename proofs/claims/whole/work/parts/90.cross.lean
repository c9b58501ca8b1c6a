/-! Where edges cross: at points of the grid, or aslant between them. -/
def yy_opp (x y : Int) : Prop := (x < 0 ∧ 0 < y) ∨ (0 < x ∧ y < 0)
theorem yy_sg_pos {l x : Int} (hl : 0 < l) : zz_sg (l * x) = zz_sg x := by
  unfold zz_sg
  rcases Int.lt_trichotomy x 0 with c | c | c
  · have := Int.mul_neg_of_pos_of_neg hl c
    rw [if_pos this, if_pos c]
  · rw [c, Int.mul_zero]
  · have := Int.mul_pos hl c
    rw [if_neg (by omega), if_pos this, if_neg (by omega), if_pos c]
theorem yy_opp_mul {l x y : Int} (hl : 0 < l) : (l * x) * (l * y) < 0 ↔ yy_opp x y := by
  rw [← zz_sg_mul, yy_sg_pos hl, yy_sg_pos hl]
  unfold zz_sg yy_opp
  rcases Int.lt_trichotomy x 0 with c | c | c <;> rcases Int.lt_trichotomy y 0 with e | e | e <;> (repeat' split) <;> omega
/-- on which side of a line of direction d -/
def yy_el (d x y : Int) : Int := yy_sx d * y - yy_sy d * x
theorem yy_side {X Y : Nat → Int} {a b t : Nat} {d : Int} (h : 0 ≤ d ∧ d < 8) (hd : zz_dr X Y a b = d) : zz_side X Y a b t = zz_ln X Y a b * yy_el d (X t - X a) (Y t - Y a) := by
  have k := yy_dl_on h hd
  unfold zz_side yy_el zz_ln
  generalize zz_len (X b - X a) (Y b - Y a) = L at k ⊢
  rw [k.1, k.2.1, Int.mul_sub L, Int.mul_assoc, Int.mul_assoc]
theorem yy_ln_pos {X Y : Nat → Int} {a b : Nat} {d : Int} (h : 0 ≤ d ∧ d < 8) (hd : zz_dr X Y a b = d) : 0 < zz_ln X Y a b := by
  have k := yy_dl_on h hd
  unfold zz_ln
  omega
theorem yy_crs {X Y : Nat → Int} {a b c e : Nat} {d f : Int} (h : 0 ≤ d ∧ d < 8) (hd : zz_dr X Y a b = d) (h2 : 0 ≤ f ∧ f < 8) (hf : zz_dr X Y c e = f) : zz_crs X Y a b c e ↔ yy_opp (yy_el d (X c - X a) (Y c - Y a)) (yy_el d (X e - X a) (Y e - Y a)) ∧ yy_opp (yy_el f (X a - X c) (Y a - Y c)) (yy_el f (X b - X c) (Y b - Y c)) := by
  unfold zz_crs
  rw [yy_side h hd, yy_side h hd, yy_side h2 hf, yy_side h2 hf, yy_opp_mul (yy_ln_pos h hd), yy_opp_mul (yy_ln_pos h2 hf)]
theorem yy_lies {X Y : Nat → Int} {a b t : Nat} {d : Int} (h : 0 ≤ d ∧ d < 8) (hd : zz_dr X Y a b = d) : zz_lies X Y t a b ↔ yy_el d (X t - X a) (Y t - Y a) = 0 ∧ zz_in (X t) (X a) (X b) ∧ zz_in (Y t) (Y a) (Y b) := by
  unfold zz_lies
  rw [yy_side h hd]
  have p := yy_ln_pos h hd
  have e : zz_ln X Y a b * yy_el d (X t - X a) (Y t - Y a) = 0 ↔ yy_el d (X t - X a) (Y t - Y a) = 0 := by
    rw [Int.mul_eq_zero]
    exact ⟨fun z => z.resolve_left (by omega), Or.inr⟩
  rw [e]
/-- the point x, y lies inside the edge a, b -/
def yy_ins (ax ay bx bz x y : Int) : Prop := ¬ zz_dir (bx - ax) (bz - ay) = -1 ∧ zz_dir (x - ax) (y - ay) = zz_dir (bx - ax) (bz - ay) ∧ zz_len (x - ax) (y - ay) < zz_len (bx - ax) (bz - ay)
theorem yy_ins_k {ax ay bx bz x y d : Int} (h : 0 ≤ d ∧ d < 8) (hd : zz_dir (bx - ax) (bz - ay) = d) : yy_ins ax ay bx bz x y ↔ ∃ k : Int, 1 ≤ k ∧ k < zz_len (bx - ax) (bz - ay) ∧ x = ax + k * yy_sx d ∧ y = ay + k * yy_sy d := by
  unfold yy_ins
  rw [hd]
  constructor
  · rintro ⟨-, h1, h2⟩
    have k := yy_dl_on h h1
    exact ⟨zz_len (x - ax) (y - ay), k.2.2, h2, by omega, by omega⟩
  · rintro ⟨k, k1, k2, k3, k4⟩
    have q := yy_dl_at h k1
    rw [show x - ax = k * yy_sx d by omega, show y - ay = k * yy_sy d by omega, q.1, q.2]
    exact ⟨by omega, rfl, k2⟩
theorem yy_d8 {x y : Int} (h : ¬ zz_dir x y = -1) : 0 ≤ zz_dir x y ∧ zz_dir x y < 8 := by
  have := zz_dir_bd x y
  omega
/-- a crossing of an upright or level edge is a point of the grid inside both -/
theorem yy_G1 {xs ys xa ya m1 m2 d f : Int} (h : 0 ≤ d ∧ d < 8) (h2 : 0 ≤ f ∧ f < 8) (ev : d % 2 = 0) (q1 : 1 ≤ m1) (q2 : 1 ≤ m2) (o1 : yy_opp (yy_el d (xa - xs) (ya - ys)) (yy_el d (xa + m2 * yy_sx f - xs) (ya + m2 * yy_sy f - ys))) (o2 : yy_opp (yy_el f (xs - xa) (ys - ya)) (yy_el f (xs + m1 * yy_sx d - xa) (ys + m1 * yy_sy d - ya))) : ∃ k1 k2 : Int, 1 ≤ k1 ∧ k1 < m1 ∧ 1 ≤ k2 ∧ k2 < m2 ∧ xs + k1 * yy_sx d = xa + k2 * yy_sx f ∧ ys + k1 * yy_sy d = ya + k2 * yy_sy f := by
  unfold yy_el yy_opp at o1 o2
  have c : d = 0 ∨ d = 2 ∨ d = 4 ∨ d = 6 := by omega
  rcases c with c | c | c | c <;> subst c
  · have e1 : yy_sx 0 = 1 := by decide
    have e2 : yy_sy 0 = 0 := by decide
    refine ⟨xa + (ys - ya) * yy_sy f * yy_sx f - xs, (ys - ya) * yy_sy f, ?_⟩
    rcases yy_sxy h2 with ⟨e, a, b⟩ | ⟨e, a, b⟩ | ⟨e, a, b⟩ | ⟨e, a, b⟩ | ⟨e, a, b⟩ | ⟨e, a, b⟩ | ⟨e, a, b⟩ | ⟨e, a, b⟩ <;> simp only [e1, e2, a, b] at o1 o2 ⊢ <;> omega
  · have e1 : yy_sx 2 = 0 := by decide
    have e2 : yy_sy 2 = 1 := by decide
    refine ⟨ya + (xs - xa) * yy_sx f * yy_sy f - ys, (xs - xa) * yy_sx f, ?_⟩
    rcases yy_sxy h2 with ⟨e, a, b⟩ | ⟨e, a, b⟩ | ⟨e, a, b⟩ | ⟨e, a, b⟩ | ⟨e, a, b⟩ | ⟨e, a, b⟩ | ⟨e, a, b⟩ | ⟨e, a, b⟩ <;> simp only [e1, e2, a, b] at o1 o2 ⊢ <;> omega
  · have e1 : yy_sx 4 = -1 := by decide
    have e2 : yy_sy 4 = 0 := by decide
    refine ⟨xs - (xa + (ys - ya) * yy_sy f * yy_sx f), (ys - ya) * yy_sy f, ?_⟩
    rcases yy_sxy h2 with ⟨e, a, b⟩ | ⟨e, a, b⟩ | ⟨e, a, b⟩ | ⟨e, a, b⟩ | ⟨e, a, b⟩ | ⟨e, a, b⟩ | ⟨e, a, b⟩ | ⟨e, a, b⟩ <;> simp only [e1, e2, a, b] at o1 o2 ⊢ <;> omega
  · have e1 : yy_sx 6 = 0 := by decide
    have e2 : yy_sy 6 = -1 := by decide
    refine ⟨ys - (ya + (xs - xa) * yy_sx f * yy_sy f), (xs - xa) * yy_sx f, ?_⟩
    rcases yy_sxy h2 with ⟨e, a, b⟩ | ⟨e, a, b⟩ | ⟨e, a, b⟩ | ⟨e, a, b⟩ | ⟨e, a, b⟩ | ⟨e, a, b⟩ | ⟨e, a, b⟩ | ⟨e, a, b⟩ <;> simp only [e1, e2, a, b] at o1 o2 ⊢ <;> omega
/-- a point inside both: they cross, or an end lies on the other -/
theorem yy_G2 {xs ys xa ya m1 m2 k1 k2 d f : Int} (h : 0 ≤ d ∧ d < 8) (h2 : 0 ≤ f ∧ f < 8) (q1 : 1 ≤ k1 ∧ k1 < m1) (q2 : 1 ≤ k2 ∧ k2 < m2) (e1 : xs + k1 * yy_sx d = xa + k2 * yy_sx f) (e2 : ys + k1 * yy_sy d = ya + k2 * yy_sy f) :
    (yy_opp (yy_el d (xa - xs) (ya - ys)) (yy_el d (xa + m2 * yy_sx f - xs) (ya + m2 * yy_sy f - ys)) ∧ yy_opp (yy_el f (xs - xa) (ys - ya)) (yy_el f (xs + m1 * yy_sx d - xa) (ys + m1 * yy_sy d - ya))) ∨
    (yy_el d (xa - xs) (ya - ys) = 0 ∧ zz_in xa xs (xs + m1 * yy_sx d) ∧ zz_in ya ys (ys + m1 * yy_sy d) ∧ ¬ (xa = xs + m1 * yy_sx d ∧ ya = ys + m1 * yy_sy d)) ∨
    (yy_el d (xa + m2 * yy_sx f - xs) (ya + m2 * yy_sy f - ys) = 0 ∧ zz_in (xa + m2 * yy_sx f) xs (xs + m1 * yy_sx d) ∧ zz_in (ya + m2 * yy_sy f) ys (ys + m1 * yy_sy d) ∧ ¬ (xa + m2 * yy_sx f = xs + m1 * yy_sx d ∧ ya + m2 * yy_sy f = ys + m1 * yy_sy d)) ∨
    (yy_el f (xs - xa) (ys - ya) = 0 ∧ zz_in xs xa (xa + m2 * yy_sx f) ∧ zz_in ys ya (ya + m2 * yy_sy f)) := by
  have ex : xa = xs + k1 * yy_sx d - k2 * yy_sx f := by omega
  have ey : ya = ys + k1 * yy_sy d - k2 * yy_sy f := by omega
  subst ex ey
  clear e1 e2
  unfold yy_el yy_opp zz_in
  rcases yy_sxy h with ⟨-, a, b⟩ | ⟨-, a, b⟩ | ⟨-, a, b⟩ | ⟨-, a, b⟩ | ⟨-, a, b⟩ | ⟨-, a, b⟩ | ⟨-, a, b⟩ | ⟨-, a, b⟩ <;> rcases yy_sxy h2 with ⟨-, a2, b2⟩ | ⟨-, a2, b2⟩ | ⟨-, a2, b2⟩ | ⟨-, a2, b2⟩ | ⟨-, a2, b2⟩ | ⟨-, a2, b2⟩ | ⟨-, a2, b2⟩ | ⟨-, a2, b2⟩ <;> simp only [a, b, a2, b2] <;> clear a b a2 b2 <;> first
    | exact Or.inl ⟨by omega, by omega⟩
    | (by_cases c : k2 < k1
       · exact Or.inr (Or.inl ⟨by omega, by omega, by omega, by omega⟩)
       · exact Or.inr (Or.inr (Or.inr ⟨by omega, by omega, by omega⟩)))
    | (by_cases c : m2 - k2 < k1
       · exact Or.inr (Or.inr (Or.inl ⟨by omega, by omega, by omega, by omega⟩))
       · exact Or.inr (Or.inr (Or.inr ⟨by omega, by omega, by omega⟩)))
/-- what lies on an edge, step by step -/
theorem yy_lies_k {X Y : Nat → Int} {a b t : Nat} {d : Int} (h : 0 ≤ d ∧ d < 8) (hd : zz_dr X Y a b = d) : zz_lies X Y t a b ↔ ∃ k : Int, 0 ≤ k ∧ k ≤ zz_ln X Y a b ∧ X t = X a + k * yy_sx d ∧ Y t = Y a + k * yy_sy d := by
  rw [yy_lies h hd]
  have q := yy_dl_on h hd
  have e : zz_ln X Y a b = zz_len (X b - X a) (Y b - Y a) := rfl
  rw [e]
  generalize zz_len (X b - X a) (Y b - Y a) = L at q ⊢
  have xb : X b = X a + L * yy_sx d := by omega
  have yb : Y b = Y a + L * yy_sy d := by omega
  rw [xb, yb]
  generalize X a = xa
  generalize Y a = ya
  generalize X t = xt
  generalize Y t = yt
  have q3 := q.2.2
  clear q xb yb e hd
  unfold yy_el zz_in
  constructor
  · intro z
    rcases yy_sxy h with ⟨-, a, b⟩ | ⟨-, a, b⟩ | ⟨-, a, b⟩ | ⟨-, a, b⟩ | ⟨-, a, b⟩ | ⟨-, a, b⟩ | ⟨-, a, b⟩ | ⟨-, a, b⟩ <;> simp only [a, b] at z ⊢ <;> first
      | exact ⟨xt - xa, by omega, by omega, by omega, by omega⟩
      | exact ⟨yt - ya, by omega, by omega, by omega, by omega⟩
      | exact ⟨xa - xt, by omega, by omega, by omega, by omega⟩
      | exact ⟨ya - yt, by omega, by omega, by omega, by omega⟩
  · rintro ⟨k, k1, k2, k3, k4⟩
    subst k3 k4
    rcases yy_sxy h with ⟨-, a, b⟩ | ⟨-, a, b⟩ | ⟨-, a, b⟩ | ⟨-, a, b⟩ | ⟨-, a, b⟩ | ⟨-, a, b⟩ | ⟨-, a, b⟩ | ⟨-, a, b⟩ <;> simp only [a, b] <;> exact ⟨by omega, by omega, by omega⟩
theorem yy_lies_ins {X Y : Nat → Int} {a b t : Nat} (h : ¬ zz_dr X Y a b = -1) : zz_lies X Y t a b ↔ (X t = X a ∧ Y t = Y a) ∨ (X t = X b ∧ Y t = Y b) ∨ yy_ins (X a) (Y a) (X b) (Y b) (X t) (Y t) := by
  have hd := yy_d8 h
  have q := yy_dl_on hd rfl
  rw [yy_lies_k hd rfl, yy_ins_k hd rfl]
  have e : zz_ln X Y a b = zz_len (X b - X a) (Y b - Y a) := rfl
  rw [e]
  constructor
  · rintro ⟨k, k1, k2, k3, k4⟩
    by_cases c0 : k = 0
    · subst c0
      exact Or.inl ⟨by omega, by omega⟩
    · by_cases c1 : k = zz_len (X b - X a) (Y b - Y a)
      · rw [c1] at k3 k4
        exact Or.inr (Or.inl ⟨by have := q.1; omega, by have := q.2.1; omega⟩)
      · exact Or.inr (Or.inr ⟨k, by omega, by omega, k3, k4⟩)
  · rintro (⟨z1, z2⟩ | ⟨z1, z2⟩ | ⟨k, k1, k2, k3, k4⟩)
    · exact ⟨0, by omega, by omega, by omega, by omega⟩
    · exact ⟨zz_len (X b - X a) (Y b - Y a), by omega, by omega, by have := q.1; omega, by have := q.2.1; omega⟩
    · exact ⟨k, by omega, by omega, k3, k4⟩
theorem yy_rev {x y d : Int} (h : 0 ≤ d ∧ d < 8) (hd : zz_dir x y = d) : ∃ f, 0 ≤ f ∧ f < 8 ∧ zz_dir (-x) (-y) = f ∧ yy_sx f = -yy_sx d ∧ yy_sy f = -yy_sy d := by
  have q := yy_dl_on h hd
  have e : zz_len (-x) (-y) = zz_len x y := by
    unfold zz_len zz_abs
    repeat' split
    all_goals omega
  have k : ∃ f, 0 ≤ f ∧ f < 8 ∧ yy_sx f = -yy_sx d ∧ yy_sy f = -yy_sy d := by
    rcases yy_sxy h with ⟨e, a, b⟩ | ⟨e, a, b⟩ | ⟨e, a, b⟩ | ⟨e, a, b⟩ | ⟨e, a, b⟩ | ⟨e, a, b⟩ | ⟨e, a, b⟩ | ⟨e, a, b⟩ <;> rw [a, b]
    · exact ⟨4, by decide, by decide, by decide, by decide⟩
    · exact ⟨5, by decide, by decide, by decide, by decide⟩
    · exact ⟨6, by decide, by decide, by decide, by decide⟩
    · exact ⟨7, by decide, by decide, by decide, by decide⟩
    · exact ⟨0, by decide, by decide, by decide, by decide⟩
    · exact ⟨1, by decide, by decide, by decide, by decide⟩
    · exact ⟨2, by decide, by decide, by decide, by decide⟩
    · exact ⟨3, by decide, by decide, by decide, by decide⟩
  obtain ⟨f, f1, f2, f3, f4⟩ := k
  have w := yy_dl_at (d := f) ⟨f1, f2⟩ q.2.2
  rw [f3, f4, Int.mul_neg, Int.mul_neg, ← q.1, ← q.2.1] at w
  exact ⟨f, f1, f2, w.1, f3, f4⟩
theorem yy_ins_sw {ax ay bx bz x y : Int} : yy_ins ax ay bx bz x y → yy_ins bx bz ax ay x y := by
  intro z
  have hd := yy_d8 z.1
  have q := yy_dl_on hd rfl
  obtain ⟨f, f1, f2, f3, f4, f5⟩ := yy_rev hd rfl
  rw [show -(bx - ax) = ax - bx by omega, show -(bz - ay) = ay - bz by omega] at f3
  have el : zz_len (ax - bx) (ay - bz) = zz_len (bx - ax) (bz - ay) := by
    unfold zz_len zz_abs
    repeat' split
    all_goals omega
  obtain ⟨k, k1, k2, k3, k4⟩ := (yy_ins_k hd rfl).mp z
  refine (yy_ins_k ⟨f1, f2⟩ f3).mpr ⟨zz_len (bx - ax) (bz - ay) - k, by omega, by omega, ?_, ?_⟩
  · rw [f4, Int.mul_neg, Int.sub_mul]
    have := q.1
    omega
  · rw [f5, Int.mul_neg, Int.sub_mul]
    have := q.2.1
    omega
theorem yy_S1 {X Y : Nat → Int} {a b c e : Nat} (h1 : ¬ zz_dr X Y a b = -1) (h2 : ¬ zz_dr X Y c e = -1) (ev : zz_dr X Y a b % 2 = 0) (hc : zz_crs X Y a b c e) : ∃ x y : Int, yy_ins (X a) (Y a) (X b) (Y b) x y ∧ yy_ins (X c) (Y c) (X e) (Y e) x y := by
  have d8 := yy_d8 h1
  have e8 := yy_d8 h2
  have k := (yy_crs d8 rfl e8 rfl).mp hc
  have l1 := yy_dl_on d8 rfl
  have l2 := yy_dl_on e8 rfl
  have ev : zz_dir (X b - X a) (Y b - Y a) % 2 = 0 := ev
  suffices H : ∃ x y : Int, (∃ k : Int, 1 ≤ k ∧ k < zz_len (X b - X a) (Y b - Y a) ∧ x = X a + k * yy_sx (zz_dir (X b - X a) (Y b - Y a)) ∧ y = Y a + k * yy_sy (zz_dir (X b - X a) (Y b - Y a))) ∧ (∃ k : Int, 1 ≤ k ∧ k < zz_len (X e - X c) (Y e - Y c) ∧ x = X c + k * yy_sx (zz_dir (X e - X c) (Y e - Y c)) ∧ y = Y c + k * yy_sy (zz_dir (X e - X c) (Y e - Y c))) by
    obtain ⟨x, y, q1, q2⟩ := H
    exact ⟨x, y, (yy_ins_k d8 rfl).mpr q1, (yy_ins_k e8 rfl).mpr q2⟩
  generalize zz_dir (X b - X a) (Y b - Y a) = d at *
  generalize zz_dir (X e - X c) (Y e - Y c) = f at *
  generalize zz_len (X b - X a) (Y b - Y a) = m1 at *
  generalize zz_len (X e - X c) (Y e - Y c) = m2 at *
  have b1 : X b = X a + m1 * yy_sx d := by omega
  have b2 : Y b = Y a + m1 * yy_sy d := by omega
  have b3 : X e = X c + m2 * yy_sx f := by omega
  have b4 : Y e = Y c + m2 * yy_sy f := by omega
  rw [b1, b2, b3, b4] at k
  obtain ⟨k1, k2, a1, a2, a3, a4, a5, a6⟩ := yy_G1 d8 e8 ev l1.2.2 l2.2.2 k.1 k.2
  exact ⟨_, _, ⟨k1, a1, a2, rfl, rfl⟩, ⟨k2, a3, a4, a5, a6⟩⟩
theorem yy_S2 {X Y : Nat → Int} {a b c e : Nat} {x y : Int} (i1 : yy_ins (X a) (Y a) (X b) (Y b) x y) (i2 : yy_ins (X c) (Y c) (X e) (Y e) x y) : zz_crs X Y a b c e ∨ (zz_lies X Y c a b ∧ ¬ (X c = X b ∧ Y c = Y b)) ∨ (zz_lies X Y e a b ∧ ¬ (X e = X b ∧ Y e = Y b)) ∨ zz_lies X Y a c e := by
  have d8 := yy_d8 i1.1
  have e8 := yy_d8 i2.1
  have j1 := (yy_ins_k d8 rfl).mp i1
  have j2 := (yy_ins_k e8 rfl).mp i2
  have l1 := yy_dl_on d8 rfl
  have l2 := yy_dl_on e8 rfl
  have hc := yy_crs (X := X) (Y := Y) (a := a) (b := b) (c := c) (e := e) d8 rfl e8 rfl
  have h1 := yy_lies (X := X) (Y := Y) (a := a) (b := b) (t := c) d8 rfl
  have h2 := yy_lies (X := X) (Y := Y) (a := a) (b := b) (t := e) d8 rfl
  have h3 := yy_lies (X := X) (Y := Y) (a := c) (b := e) (t := a) e8 rfl
  rw [hc, h1, h2, h3]
  clear hc h1 h2 h3 i1 i2
  generalize zz_dir (X b - X a) (Y b - Y a) = d at *
  generalize zz_dir (X e - X c) (Y e - Y c) = f at *
  generalize zz_len (X b - X a) (Y b - Y a) = m1 at *
  generalize zz_len (X e - X c) (Y e - Y c) = m2 at *
  have b1 : X b = X a + m1 * yy_sx d := by omega
  have b2 : Y b = Y a + m1 * yy_sy d := by omega
  have b3 : X e = X c + m2 * yy_sx f := by omega
  have b4 : Y e = Y c + m2 * yy_sy f := by omega
  rw [b1, b2, b3, b4]
  obtain ⟨k1, a1, a2, a3, a4⟩ := j1
  obtain ⟨k2, c1, c2, c3, c4⟩ := j2
  rcases yy_G2 (xs := X a) (ys := Y a) (xa := X c) (ya := Y c) d8 e8 ⟨a1, a2⟩ ⟨c1, c2⟩ (by rw [← a3, ← c3]) (by rw [← a4, ← c4]) with g | g | g | g
  · exact Or.inl g
  · exact Or.inr (Or.inl ⟨⟨g.1, g.2.1, g.2.2.1⟩, g.2.2.2⟩)
  · exact Or.inr (Or.inr (Or.inl ⟨⟨g.1, g.2.1, g.2.2.1⟩, g.2.2.2⟩))
  · exact Or.inr (Or.inr (Or.inr g))
theorem yy_ins_gr {ax ay bx bz x y w h : Int} (i1 : yy_ins ax ay bx bz x y) (ha : 0 ≤ ax ∧ ax < w ∧ 0 ≤ ay ∧ ay < h) (hb : 0 ≤ bx ∧ bx < w ∧ 0 ≤ bz ∧ bz < h) : (0 ≤ x ∧ x < w) ∧ (0 ≤ y ∧ y < h) := by
  have d8 := yy_d8 i1.1
  obtain ⟨k, k1, k2, k3, k4⟩ := (yy_ins_k d8 rfl).mp i1
  have l1 := yy_dl_on d8 rfl
  have s1 := yy_s1 d8
  generalize zz_dir (bx - ax) (bz - ay) = d at *
  generalize zz_len (bx - ax) (bz - ay) = m at *
  rw [k3, k4]
  exact ⟨yy_step_in (l := m) (by omega) s1.1 (by omega) (by omega), yy_step_in (l := m) (by omega) s1.2 (by omega) (by omega)⟩
