/-! What both look for in a drawing, and that it is the same. -/
def zz_str (dx dy : Int) : Prop := dx = 0 ∨ dy = 0 ∨ zz_abs dx = zz_abs dy
/-- the reference's direction -/
def zz_md (dx dy : Int) : Int := if dy = 0 then (if 0 < dx then 0 else 4) else if dx = 0 then (if 0 < dy then 2 else 6) else if 0 < dx then (if 0 < dy then 1 else 7) else (if 0 < dy then 3 else 5)
theorem zz_md_bd (x y : Int) : 0 ≤ zz_md x y ∧ zz_md x y ≤ 7 := by
  unfold zz_md
  repeat' split
  all_goals omega
theorem zz_md_dir {dx dy : Int} (h : ¬ zz_dir dx dy = -1) : zz_md dx dy = zz_dir dx dy := by
  unfold zz_dir at *
  unfold zz_md
  grind
theorem zz_dir_str {dx dy : Int} (h : ¬ (dx = 0 ∧ dy = 0)) : zz_dir dx dy = -1 ↔ ¬ zz_str dx dy := by
  unfold zz_dir zz_str zz_abs
  grind
def zz_sg (x : Int) : Int := if x < 0 then -1 else if 0 < x then 1 else 0
theorem zz_sg_mul (x y : Int) : zz_sg x * zz_sg y < 0 ↔ x * y < 0 := by
  have key : x * y < 0 ↔ (x < 0 ∧ 0 < y) ∨ (0 < x ∧ y < 0) := by
    constructor
    · intro h
      by_cases h1 : x < 0
      · by_cases h2 : 0 < y
        · exact Or.inl ⟨h1, h2⟩
        · have := Int.mul_nonneg_of_nonpos_of_nonpos (show x ≤ 0 by omega) (show y ≤ 0 by omega)
          omega
      · by_cases h2 : y < 0
        · by_cases h3 : x = 0
          · subst h3; simp at h
          · exact Or.inr ⟨by omega, h2⟩
        · have := Int.mul_nonneg (show 0 ≤ x by omega) (show 0 ≤ y by omega)
          omega
    · rintro (⟨h1, h2⟩ | ⟨h1, h2⟩)
      · exact Int.mul_neg_of_neg_of_pos h1 h2
      · exact Int.mul_neg_of_pos_of_neg h1 h2
  rw [key]
  unfold zz_sg
  repeat' split
  all_goals omega
theorem zz_side_sw (X Y : Nat → Int) (a b s : Nat) : zz_side X Y b a s = -zz_side X Y a b s := by
  unfold zz_side
  grind
theorem zz_in_sw {n a b : Int} : zz_in n a b ↔ zz_in n b a := by
  unfold zz_in
  omega
theorem zz_lies_sw {X Y : Nat → Int} {s a b : Nat} : zz_lies X Y s a b ↔ zz_lies X Y s b a := by
  unfold zz_lies
  rw [zz_side_sw X Y a b s, zz_in_sw (a := X a), zz_in_sw (a := Y a)]
  have : zz_side X Y a b s = 0 ↔ -zz_side X Y a b s = 0 := by omega
  rw [this]
theorem zz_dir_0 {x y : Int} (h : zz_dir x y = 0) : 0 < x ∧ y = 0 := by
  unfold zz_dir at h
  repeat' split at h
  all_goals omega
theorem zz_dir_1 {x y : Int} (h : zz_dir x y = 1) : 0 < x ∧ y = x := by
  unfold zz_dir at h
  repeat' split at h
  all_goals omega
theorem zz_dir_2 {x y : Int} (h : zz_dir x y = 2) : x = 0 ∧ 0 < y := by
  unfold zz_dir at h
  repeat' split at h
  all_goals omega
theorem zz_dir_3 {x y : Int} (h : zz_dir x y = 3) : x < 0 ∧ y = -x := by
  unfold zz_dir at h
  repeat' split at h
  all_goals omega
theorem zz_dir_4 {x y : Int} (h : zz_dir x y = 4) : x < 0 ∧ y = 0 := by
  unfold zz_dir at h
  repeat' split at h
  all_goals omega
theorem zz_dir_5 {x y : Int} (h : zz_dir x y = 5) : x < 0 ∧ y = x := by
  unfold zz_dir at h
  repeat' split at h
  all_goals omega
theorem zz_dir_6 {x y : Int} (h : zz_dir x y = 6) : x = 0 ∧ y < 0 := by
  unfold zz_dir at h
  repeat' split at h
  all_goals omega
theorem zz_dir_7 {x y : Int} (h : zz_dir x y = 7) : 0 < x ∧ y = -x := by
  unfold zz_dir at h
  repeat' split at h
  all_goals omega
theorem zz_dir_sh (x y : Int) : zz_dir x y = -1 ∨ (zz_dir x y = 0 ∧ 0 < x ∧ y = 0) ∨ (zz_dir x y = 1 ∧ 0 < x ∧ y = x) ∨ (zz_dir x y = 2 ∧ x = 0 ∧ 0 < y) ∨ (zz_dir x y = 3 ∧ x < 0 ∧ y = -x) ∨ (zz_dir x y = 4 ∧ x < 0 ∧ y = 0) ∨ (zz_dir x y = 5 ∧ x < 0 ∧ y = x) ∨ (zz_dir x y = 6 ∧ x = 0 ∧ y < 0) ∨ (zz_dir x y = 7 ∧ 0 < x ∧ y = -x) := by
  have b := zz_dir_bd x y
  have c : zz_dir x y = -1 ∨ zz_dir x y = 0 ∨ zz_dir x y = 1 ∨ zz_dir x y = 2 ∨ zz_dir x y = 3 ∨ zz_dir x y = 4 ∨ zz_dir x y = 5 ∨ zz_dir x y = 6 ∨ zz_dir x y = 7 := by omega
  rcases c with c | c | c | c | c | c | c | c | c
  · exact Or.inl c
  · exact Or.inr (Or.inl ⟨c, zz_dir_0 c⟩)
  · exact Or.inr (Or.inr (Or.inl ⟨c, zz_dir_1 c⟩))
  · exact Or.inr (Or.inr (Or.inr (Or.inl ⟨c, zz_dir_2 c⟩)))
  · exact Or.inr (Or.inr (Or.inr (Or.inr (Or.inl ⟨c, zz_dir_3 c⟩))))
  · exact Or.inr (Or.inr (Or.inr (Or.inr (Or.inr (Or.inl ⟨c, zz_dir_4 c⟩)))))
  · exact Or.inr (Or.inr (Or.inr (Or.inr (Or.inr (Or.inr (Or.inl ⟨c, zz_dir_5 c⟩))))))
  · exact Or.inr (Or.inr (Or.inr (Or.inr (Or.inr (Or.inr (Or.inr (Or.inl ⟨c, zz_dir_6 c⟩)))))))
  · exact Or.inr (Or.inr (Or.inr (Or.inr (Or.inr (Or.inr (Or.inr (Or.inr (⟨c, zz_dir_7 c⟩))))))))
/-- two of one direction: the one lies on the other -/
theorem zz_dir_lies {X Y : Nat → Int} {s p q : Nat} (h : zz_dr X Y s p = zz_dr X Y s q) (h1 : ¬ zz_dr X Y s p = -1) : zz_lies X Y p s q ∨ zz_lies X Y q s p := by
  unfold zz_dr at *
  unfold zz_lies zz_side zz_in
  generalize hx1 : X p - X s = x1 at *
  generalize hy1 : Y p - Y s = y1 at *
  generalize hx2 : X q - X s = x2 at *
  generalize hy2 : Y q - Y s = y2 at *
  have e1 : X p = X s + x1 := by omega
  have e2 : Y p = Y s + y1 := by omega
  have e3 : X q = X s + x2 := by omega
  have e4 : Y q = Y s + y2 := by omega
  rw [e1, e2, e3, e4]
  have key : x2 * y1 - y2 * x1 = 0 ∧ (((0 ≤ x1 ∧ x1 ≤ x2) ∨ (x2 ≤ x1 ∧ x1 ≤ 0)) ∧ ((0 ≤ y1 ∧ y1 ≤ y2) ∨ (y2 ≤ y1 ∧ y1 ≤ 0)) ∨ ((0 ≤ x2 ∧ x2 ≤ x1) ∨ (x1 ≤ x2 ∧ x2 ≤ 0)) ∧ ((0 ≤ y2 ∧ y2 ≤ y1) ∨ (y1 ≤ y2 ∧ y2 ≤ 0))) := by
    have s1 := zz_dir_sh x1 y1
    have s2 := zz_dir_sh x2 y2
    rcases s1 with s1 | s1 | s1 | s1 | s1 | s1 | s1 | s1 | s1 <;> rcases s2 with s2 | s2 | s2 | s2 | s2 | s2 | s2 | s2 | s2 <;> first | omega | (refine ⟨?_, by omega⟩; obtain ⟨-, -, u⟩ := s1; obtain ⟨-, -, v⟩ := s2; grind) | (refine ⟨?_, by omega⟩; obtain ⟨-, u, -⟩ := s1; obtain ⟨-, v, -⟩ := s2; grind)
  obtain ⟨k1, k2⟩ := key
  have k3 : x1 * y2 - y1 * x2 = 0 := by grind
  rcases k2 with k2 | k2
  · left
    refine ⟨k1, ?_, ?_⟩ <;> omega
  · right
    refine ⟨k3, ?_, ?_⟩ <;> omega
def zz_mdr (X Y : Nat → Int) (a b : Nat) : Int := zz_md (X b - X a) (Y b - Y a)
/-- two edges meet, as the reference has it -/
def zz_meet (X Y : Nat → Int) (a b c d : Nat) : Prop :=
  if a = c ∨ a = d ∨ b = c ∨ b = d then
    zz_mdr X Y (if a = c ∨ a = d then a else b) (if (if a = c ∨ a = d then a else b) = a then b else a) = zz_mdr X Y (if a = c ∨ a = d then a else b) (if (if a = c ∨ a = d then a else b) = c then d else c)
  else (zz_sg (zz_side X Y a b c) * zz_sg (zz_side X Y a b d) < 0 ∧ zz_sg (zz_side X Y c d a) * zz_sg (zz_side X Y c d b) < 0) ∨ zz_lies X Y c a b ∨ zz_lies X Y d a b ∨ zz_lies X Y a c d ∨ zz_lies X Y b c d
theorem zz_meet_crs {X Y : Nat → Int} {a b c d : Nat} (hab : a < b) (hcd : c < d) (hne : a < c ∨ (a = c ∧ b < d)) (h1 : ¬ zz_dr X Y a b = -1) (h2 : ¬ zz_dr X Y c d = -1) (hr1 : ¬ zz_dr X Y b a = -1) (hr2 : ¬ zz_dr X Y d c = -1)
    (l1 : c ≠ a → c ≠ b → ¬ zz_lies X Y c a b) (l2 : d ≠ a → d ≠ b → ¬ zz_lies X Y d a b) (l3 : a ≠ c → a ≠ d → ¬ zz_lies X Y a c d) (l4 : b ≠ c → b ≠ d → ¬ zz_lies X Y b c d) : zz_crs X Y a b c d ↔ zz_meet X Y a b c d := by
  unfold zz_meet
  by_cases hs : a = c ∨ a = d ∨ b = c ∨ b = d
  · rw [if_pos hs]
    have no : ¬ zz_crs X Y a b c d := by
      intro z
      have z1 : zz_side X Y a b a = 0 := by unfold zz_side; grind
      have z2 : zz_side X Y a b b = 0 := by unfold zz_side; grind
      obtain ⟨w1, w2⟩ := z
      rcases hs with e | e | e | e <;> subst e
      · rw [z1] at w1; simp at w1
      · rw [z1] at w1; simp at w1
      · rw [z2] at w1; simp at w1
      · rw [z2] at w1; simp at w1
    refine ⟨fun z => absurd z no, fun z => ?_⟩
    exfalso
    have dd : ∀ s p q : Nat, ¬ zz_dr X Y s p = -1 → ¬ zz_dr X Y s q = -1 → zz_mdr X Y s p = zz_mdr X Y s q → zz_lies X Y p s q ∨ zz_lies X Y q s p := fun s p q u v w => by
      refine zz_dir_lies ?_ u
      unfold zz_mdr at w
      unfold zz_dr at *
      rw [zz_md_dir u, zz_md_dir v] at w
      exact w
    by_cases e1 : a = c
    · subst e1
      simp at z
      have := dd a b d h1 h2 z
      rcases this with t | t
      · exact l4 (by omega) (by omega) t
      · exact l2 (by omega) (by omega) t
    · by_cases e2 : a = d
      · omega
      · by_cases e3 : b = c
        · subst e3
          simp [e1, e2, show ¬ b = a by omega] at z
          have := dd b a d hr1 h2 z
          rcases this with t | t
          · exact l3 (by omega) (by omega) t
          · exact l2 (by omega) (by omega) (zz_lies_sw.mp t)
        · have e4 : b = d := by omega
          subst e4
          simp [e1, e2, e3, show ¬ b = a by omega] at z
          have := dd b a c hr1 hr2 z
          rcases this with t | t
          · exact l3 (by omega) (by omega) (zz_lies_sw.mp t)
          · exact l1 (by omega) (by omega) (zz_lies_sw.mp t)
  · rw [if_neg hs, zz_sg_mul, zz_sg_mul]
    have := l1 (by omega) (by omega)
    have := l2 (by omega) (by omega)
    have := l3 (by omega) (by omega)
    have := l4 (by omega) (by omega)
    unfold zz_crs
    grind
theorem zz_dir_neg {x y : Int} : zz_dir (-x) (-y) = -1 ↔ zz_dir x y = -1 := by
  unfold zz_dir
  grind
theorem zz_dr_sw {X Y : Nat → Int} {a b : Nat} : zz_dr X Y a b = -1 ↔ zz_dr X Y b a = -1 := by
  unfold zz_dr
  rw [← zz_dir_neg (x := X b - X a), show -(X b - X a) = X a - X b by omega, show -(Y b - Y a) = Y a - Y b by omega]
/-- the round of directions, as the class walks it: how many, the first, the last, the eighths -/
noncomputable def zz_rf (pl : Nat → Prop) (dr : Nat → Int) : Nat → Int × Int × Int × Int
  | 0 => (0, 0, 0, 0)
  | i + 1 => @ite _ (pl i) (Classical.propDecidable _) ((zz_rf pl dr i).1 + 1, (if (zz_rf pl dr i).1 = 0 then dr i else (zz_rf pl dr i).2.1), dr i, (if (zz_rf pl dr i).1 = 0 then (zz_rf pl dr i).2.2.2 else (zz_rf pl dr i).2.2.2 + qq_and (dr i - (zz_rf pl dr i).2.2.1) 7)) (zz_rf pl dr i)
noncomputable def zz_rt (pl : Nat → Prop) (dr : Nat → Int) (n : Nat) : Prop := (zz_rf pl dr n).1 < 3 ∨ (zz_rf pl dr n).2.2.2 + qq_and ((zz_rf pl dr n).2.1 - (zz_rf pl dr n).2.2.1) 7 = 8
theorem zz_rf_c {pl pl' : Nat → Prop} {dr dr' : Nat → Int} {n : Nat} (h : ∀ i, i < n → (pl i ↔ pl' i)) (h2 : ∀ i, i < n → pl i → dr i = dr' i) : zz_rf pl dr n = zz_rf pl' dr' n := by
  induction n with
  | zero => rfl
  | succ n ih =>
    have ih := ih (fun i hi => h i (by omega)) (fun i hi => h2 i (by omega))
    unfold zz_rf
    rw [ih]
    by_cases c : pl n
    · rw [if_pos c, if_pos ((h n (by omega)).mp c), h2 n (by omega) c]
    · rw [if_neg c, if_neg (fun z => c ((h n (by omega)).mpr z))]
def zz_mg (d : Int) : Int := if 0 < d then d else d + 8
/-- the reference's round -/
def zz_mrt (dr : Nat → Int) (n : Nat) : Prop := n < 3 ∨ zz_sum (fun i => zz_mg (dr ((i + 1) % n) - dr i)) n = 8
theorem zz_mg_mod {a b : Int} (ha : 0 ≤ a ∧ a ≤ 7) (hb : 0 ≤ b ∧ b ≤ 7) (h : ¬ a = b) : zz_mg (a - b) = (a - b) % 8 := by
  unfold zz_mg
  split <;> omega
theorem zz_rt_mrt {dr : Nat → Int} {n : Nat} (hb : ∀ i, i < n → 0 ≤ dr i ∧ dr i ≤ 7) (hd : ∀ i j, i < j → j < n → ¬ dr i = dr j) : zz_rt (fun _ => True) dr n ↔ zz_mrt dr n := by
  have A : ∀ k : Nat, k + 1 ≤ n → zz_rf (fun _ => True) dr (k + 1) = (((k + 1 : Nat) : Int), dr 0, dr k, zz_sum (fun i => zz_mg (dr (i + 1) - dr i)) k) := by
    intro k
    induction k with
    | zero => intro _; simp [zz_rf, zz_sum]
    | succ k ih =>
      intro hk
      have ih := ih (by omega)
      show @ite _ True (Classical.propDecidable _) _ _ = _
      rw [if_pos trivial, ih]
      have b1 := hb k (by omega)
      have b2 := hb (k + 1) (by omega)
      have ne := hd k (k + 1) (by omega) (by omega)
      have e : zz_mg (dr (k + 1) - dr k) = qq_and (dr (k + 1) - dr k) 7 := by
        rw [zz_and7 _ (by omega), zz_mg_mod b2 b1 (fun z => ne z.symm)]
      simp only [zz_sum, e]
      rw [if_neg (show ¬ (((k + 1 : Nat) : Int) = 0) by omega), if_neg (show ¬ (((k + 1 : Nat) : Int) = 0) by omega)]
      rfl
  unfold zz_rt zz_mrt
  by_cases h3 : n < 3
  · rcases Nat.lt_or_ge n 1 with h0 | h0
    · have : n = 0 := by omega
      subst this
      simp [zz_rf]
    · have := A (n - 1) (by omega)
      rw [show n - 1 + 1 = n by omega] at this
      rw [this]
      exact ⟨fun _ => Or.inl h3, fun _ => Or.inl (by show (n : Int) < 3; omega)⟩
  · have := A (n - 1) (by omega)
    rw [show n - 1 + 1 = n by omega] at this
    rw [this]
    have e2 : zz_sum (fun i => zz_mg (dr ((i + 1) % n) - dr i)) n = zz_sum (fun i => zz_mg (dr (i + 1) - dr i)) (n - 1) + zz_mg (dr 0 - dr (n - 1)) := by
      obtain ⟨m, rfl⟩ : ∃ m, n = m + 1 := ⟨n - 1, by omega⟩
      show zz_sum _ m + zz_mg (dr ((m + 1) % (m + 1)) - dr m) = zz_sum _ m + _
      rw [Nat.mod_self]
      congr 1
      exact zz_sum_c (fun j hj => by rw [Nat.mod_eq_of_lt (by omega)])
    have b1 := hb 0 (by omega)
    have b2 := hb (n - 1) (by omega)
    have ne := hd 0 (n - 1) (by omega) (by omega)
    dsimp only
    rw [e2, zz_mg_mod b1 b2 ne, zz_and7 _ (by omega)]
    constructor
    · rintro (z | z)
      · exfalso
        have z : ((n : Nat) : Int) < 3 := z
        omega
      · exact Or.inr z
    · rintro (z | z)
      · omega
      · exact Or.inr z
