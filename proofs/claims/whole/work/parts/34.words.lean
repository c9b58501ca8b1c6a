/-! Words for what is looked for: truth as a number, the first of some, sums, places on the plan. -/
noncomputable def zz_p (p : Prop) : Int := @ite Int p (Classical.propDecidable p) 1 0
theorem zz_p1 {p : Prop} (h : p) : zz_p p = 1 := if_pos h
theorem zz_p0 {p : Prop} (h : ¬ p) : zz_p p = 0 := if_neg h
theorem zz_pc {p q : Prop} (h : p ↔ q) : zz_p p = zz_p q := by rw [propext h]
theorem zz_p01 (p : Prop) : zz_p p = 0 ∨ zz_p p = 1 := by
  by_cases h : p
  · exact Or.inr (zz_p1 h)
  · exact Or.inl (zz_p0 h)
theorem zz_pi1 {p : Prop} : zz_p p = 1 ↔ p := by
  by_cases h : p
  · rw [zz_p1 h]; exact ⟨fun _ => h, fun _ => rfl⟩
  · rw [zz_p0 h]; exact ⟨fun z => by omega, fun z => absurd z h⟩
theorem zz_pi0 {p : Prop} : zz_p p = 0 ↔ ¬ p := by
  by_cases h : p
  · rw [zz_p1 h]; exact ⟨fun z => by omega, fun z => absurd h z⟩
  · rw [zz_p0 h]; exact ⟨fun _ => h, fun _ => rfl⟩
theorem zz_bp (p : Prop) [Decidable p] : zz_b p = zz_p p := by
  unfold zz_b
  by_cases h : p
  · rw [if_pos h, zz_p1 h]
  · rw [if_neg h, zz_p0 h]
/-- the first below n of which p holds; -1: none -/
noncomputable def zz_fst (p : Nat → Prop) : Nat → Int
  | 0 => -1
  | n + 1 => if zz_fst p n = -1 then (@ite Int (p n) (Classical.propDecidable (p n)) (n : Int) (-1)) else zz_fst p n
theorem zz_fst_bd (p : Nat → Prop) : ∀ n : Nat, -1 ≤ zz_fst p n ∧ zz_fst p n < n
  | 0 => by simp [zz_fst]
  | n + 1 => by
    have := zz_fst_bd p n
    unfold zz_fst
    split
    · split <;> omega
    · omega
theorem zz_fst_no {p : Nat → Prop} : ∀ {n : Nat}, zz_fst p n = -1 ↔ ∀ j, j < n → ¬ p j
  | 0 => by simp [zz_fst]
  | n + 1 => by
    have ih := zz_fst_no (p := p) (n := n)
    unfold zz_fst
    by_cases h : zz_fst p n = -1
    · rw [if_pos h]
      have ih := ih.mp h
      by_cases hn : p n
      · rw [if_pos hn]
        exact ⟨fun z => by omega, fun z => absurd hn (z n (by omega))⟩
      · rw [if_neg hn]
        refine ⟨fun _ j hj => ?_, fun _ => rfl⟩
        by_cases e : j = n
        · rw [e]; exact hn
        · exact ih j (by omega)
    · rw [if_neg h]
      exact ⟨fun z => absurd z h, fun z => absurd (ih.mpr (fun j hj => z j (by omega))) h⟩
theorem zz_fst_at {p : Nat → Prop} {i : Nat} (h : p i) (hb : ∀ j, j < i → ¬ p j) : ∀ {n : Nat}, i < n → zz_fst p n = i
  | 0, hn => by omega
  | n + 1, hn => by
    unfold zz_fst
    by_cases e : i = n
    · subst e
      rw [if_pos (zz_fst_no.mpr hb), if_pos h]
    · have ih := zz_fst_at h hb (n := n) (by omega)
      rw [ih, if_neg (by omega)]
theorem zz_fst_c {p q : Nat → Prop} {n : Nat} (h : ∀ j, j < n → (p j ↔ q j)) : zz_fst p n = zz_fst q n := by
  induction n with
  | zero => rfl
  | succ n ih =>
    unfold zz_fst
    rw [ih (fun j hj => h j (by omega)), propext (h n (by omega))]
theorem zz_fst_is {p : Nat → Prop} {n : Nat} (h : ¬ zz_fst p n = -1) : p (zz_fst p n).toNat ∧ (zz_fst p n).toNat < n := by
  induction n with
  | zero => exact absurd rfl h
  | succ n ih =>
    unfold zz_fst at h ⊢
    by_cases e : zz_fst p n = -1
    · rw [if_pos e] at h ⊢
      by_cases hn : p n
      · rw [if_pos hn]
        exact ⟨hn, by omega⟩
      · rw [if_neg hn] at h
        exact absurd rfl h
    · rw [if_neg e]
      exact ⟨(ih e).1, by have := (ih e).2; omega⟩
def zz_sum (f : Nat → Int) : Nat → Int
  | 0 => 0
  | k + 1 => zz_sum f k + f k
theorem zz_sum_s (f : Nat → Int) (i : Int) (h : 0 ≤ i) : zz_sum f (i + 1).toNat = zz_sum f i.toNat + f i.toNat := by
  rw [show (i + 1).toNat = i.toNat + 1 by omega]
  rfl
theorem zz_sum_c {f g : Nat → Int} {n : Nat} (h : ∀ j, j < n → f j = g j) : zz_sum f n = zz_sum g n := by
  induction n with
  | zero => rfl
  | succ n ih =>
    unfold zz_sum
    rw [ih (fun j hj => h j (by omega)), h n (by omega)]
theorem zz_sum_bd {f : Nat → Int} {n : Nat} {a b : Int} (h : ∀ j, j < n → a ≤ f j ∧ f j ≤ b) : n * a ≤ zz_sum f n ∧ zz_sum f n ≤ n * b := by
  induction n with
  | zero => simp [zz_sum]
  | succ n ih =>
    unfold zz_sum
    have h1 := ih (fun j hj => h j (by omega))
    have h2 := h n (by omega)
    have e1 : ((n + 1 : Nat) : Int) * a = n * a + a := by rw [Int.natCast_succ, Int.add_mul, Int.one_mul]
    have e2 : ((n + 1 : Nat) : Int) * b = n * b + b := by rw [Int.natCast_succ, Int.add_mul, Int.one_mul]
    omega
/-- places -/
def zz_pl (X Y : Nat → Int) : Prop := ∀ i : Nat, i < 10 → -1 ≤ X i ∧ X i ≤ 8 ∧ -1 ≤ Y i ∧ Y i ≤ 8
def zz_side (X Y : Nat → Int) (a b s : Nat) : Int := (X b - X a) * (Y s - Y a) - (Y b - Y a) * (X s - X a)
def zz_in (n a b : Int) : Prop := (a ≤ n ∧ n ≤ b) ∨ (b ≤ n ∧ n ≤ a)
def zz_lies (X Y : Nat → Int) (s a b : Nat) : Prop := zz_side X Y a b s = 0 ∧ zz_in (X s) (X a) (X b) ∧ zz_in (Y s) (Y a) (Y b)
def zz_len (dx dy : Int) : Int := if zz_abs dx < zz_abs dy then zz_abs dy else zz_abs dx
def zz_crs (X Y : Nat → Int) (a b c d : Nat) : Prop := zz_side X Y a b c * zz_side X Y a b d < 0 ∧ zz_side X Y c d a * zz_side X Y c d b < 0
def zz_dr (X Y : Nat → Int) (a b : Nat) : Int := zz_dir (X b - X a) (Y b - Y a)
def zz_ln (X Y : Nat → Int) (a b : Nat) : Int := zz_len (X b - X a) (Y b - Y a)
theorem zz_dir_bd (x y : Int) : -1 ≤ zz_dir x y ∧ zz_dir x y ≤ 7 := by
  unfold zz_dir
  repeat' split
  all_goals omega
theorem zz_side_bd {X Y : Nat → Int} (h : zz_pl X Y) {a b s : Nat} (ha : a < 10) (hb : b < 10) (hs : s < 10) : -1000 ≤ zz_side X Y a b s ∧ zz_side X Y a b s ≤ 1000 := by
  have h1 := h a ha
  have h2 := h b hb
  have h3 := h s hs
  have m : ∀ x y : Int, -9 ≤ x ∧ x ≤ 9 → -9 ≤ y ∧ y ≤ 9 → -81 ≤ x * y ∧ x * y ≤ 81 := fun x y hx hy => by
    have : (x * y).natAbs ≤ 81 := by
      rw [Int.natAbs_mul]
      exact Nat.mul_le_mul (show x.natAbs ≤ 9 by omega) (show y.natAbs ≤ 9 by omega)
    omega
  have k1 := m (X b - X a) (Y s - Y a) (by omega) (by omega)
  have k2 := m (Y b - Y a) (X s - X a) (by omega) (by omega)
  unfold zz_side
  omega
theorem zz_and7 (x : Int) (h : -100 ≤ x ∧ x ≤ 100) : qq_and x 7 = x % 8 := by
  have : ∀ k : Fin 201, qq_and ((k.val : Int) - 100) 7 = ((k.val : Int) - 100) % 8 := by decide +kernel
  have e := this ⟨(x + 100).toNat, by omega⟩
  have e2 : (((x + 100).toNat : Nat) : Int) - 100 = x := by omega
  simp only [e2] at e
  exact e
/-- numbers of the net in their bounds -/
def zz_nb (S : qq_S) : Prop :=
  (0 ≤ S 4 0 ∧ S 4 0 ≤ 10 ∧ 0 ≤ S 4 1 ∧ S 4 1 ≤ 6 ∧ 0 ≤ S 4 2 ∧ S 4 2 ≤ 45) ∧
  (∀ e : Nat, (e : Int) < S 4 2 → 0 ≤ S 22 e ∧ S 22 e < S 23 e ∧ S 23 e < S 4 0 ∧ 0 ≤ S 24 e ∧ S 24 e ≤ 7) ∧
  (∀ s : Nat, s < 10 → 0 ≤ S 25 s ∧ S 25 s ≤ 9 ∧ ∀ i : Nat, (i : Int) < S 25 s → 0 ≤ S (26 + 1 + s) i ∧ S (26 + 1 + s) i < S 4 0 ∧ 0 ≤ S (37 + 1 + s) (S (26 + 1 + s) i).toNat ∧ S (37 + 1 + s) (S (26 + 1 + s) i).toNat < S 4 2) ∧
  (∀ l : Nat, (l : Int) < S 4 1 → 0 ≤ S 7 l ∧ S 7 l ≤ 10 ∧ (∀ i : Nat, (i : Int) < S 7 l → 0 ≤ S (8 + 1 + l) i ∧ S (8 + 1 + l) i < S 4 0) ∧ (∀ s : Nat, s < 10 → -1 ≤ S (15 + 1 + l) s ∧ S (15 + 1 + l) s < S 7 l))
