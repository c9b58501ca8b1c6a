/-! put: both lay the names alike. -/
theorem zz_fst_ob {n E s : Nat} {A B C : Nat → Prop} (hn : n ≤ 100) (hE : E ≤ 100) (hs : s ≤ 100) : zz_fst (fun k => (k < n ∧ A k) ∨ (200 ≤ k ∧ k < 200 + s ∧ C (k - 200)) ∨ (100 ≤ k ∧ k < 100 + E ∧ B (k - 100))) 300 = zz_ob n E s A B C := by
  have bA := zz_fst_bd A n
  have bB := zz_fst_bd B E
  have bC := zz_fst_bd C s
  have lt : ∀ {p : Nat → Prop} {m : Nat}, ¬ zz_fst p m = -1 → ∀ j : Nat, (j : Int) < zz_fst p m → ¬ p j := fun {p m} hne j hj hp => by
    have is := zz_fst_is hne
    have ad := zz_fst_add (P := p) (c := j) (m := m) (by omega)
    have e : zz_fst (fun k => p k ∨ k = j) m = zz_fst p m := zz_fst_c (fun k _ => ⟨fun z => z.elim id (fun q => by rw [q]; exact hp), Or.inl⟩)
    rw [e] at ad
    unfold zz_fi at ad
    rw [if_pos (Or.inr hj)] at ad
    omega
  by_cases cA : zz_fst A n = -1
  · have nA := zz_fst_no.mp cA
    by_cases cB : zz_fst B E = -1
    · have nB := zz_fst_no.mp cB
      by_cases cC : zz_fst C s = -1
      · have nC := zz_fst_no.mp cC
        rw [zz_ob0 cA cB cC]
        refine zz_fst_no.mpr (fun k hk z => ?_)
        rcases z with z | z | z
        · exact nA k z.1 z.2
        · exact nC (k - 200) (by omega) z.2.2
        · exact nB (k - 100) (by omega) z.2.2
      · have is := zz_fst_is cC
        rw [zz_ob3 cA cB cC]
        rw [zz_fst_at (i := 200 + (zz_fst C s).toNat) (Or.inr (Or.inl ⟨by omega, by omega, by rw [Nat.add_sub_cancel_left]; exact is.1⟩)) (fun k hk z => ?_) (by omega)]
        · omega
        · rcases z with z | z | z
          · exact nA k z.1 z.2
          · exact lt cC (k - 200) (by omega) z.2.2
          · exact nB (k - 100) (by omega) z.2.2
    · have is := zz_fst_is cB
      rw [zz_ob2 cA cB]
      rw [zz_fst_at (i := 100 + (zz_fst B E).toNat) (Or.inr (Or.inr ⟨by omega, by omega, by rw [Nat.add_sub_cancel_left]; exact is.1⟩)) (fun k hk z => ?_) (by omega)]
      · omega
      · rcases z with z | z | z
        · exact nA k z.1 z.2
        · omega
        · exact lt cB (k - 100) (by omega) z.2.2
  · have is := zz_fst_is cA
    rw [zz_ob1 cA]
    rw [zz_fst_at (i := (zz_fst A n).toNat) (Or.inl ⟨is.2, is.1⟩) (fun k hk z => ?_) (by omega)]
    · omega
    · rcases z with z | z | z
      · exact lt cA k (by omega) z.2
      · omega
      · omega
theorem zz_cancel {d u v : Int} (hd : ¬ d = 0) : 4 * d * u = 4 * d * v ↔ u = v := by
  constructor
  · intro h
    exact Int.eq_of_mul_eq_mul_left (show (4 * d : Int) ≠ 0 by omega) h
  · intro h
    rw [h]
/-- an edge on the cells of a name, told by the ends of the name or cell by cell -/
theorem zz_oe_me {xa ya dx dy nx ny : Int} {N : Int} (hN : 0 < N) (hd : ¬ zz_dir dx dy = -1) : zz_oe nx (nx + N - 1) ny (4 * xa) (4 * ya) (4 * (xa + dx)) (4 * (ya + dy)) ↔ ∃ i : Nat, (i : Int) < N ∧ zz_me (nx + i) ny (4 * xa) (4 * ya) (4 * (xa + dx)) (4 * (ya + dy)) := by
  have e1 : ∀ i : Int, ((4 * (xa + dx) - 4 * xa) * (ny - 4 * ya) = (4 * (ya + dy) - 4 * ya) * (nx + i - 4 * xa)) ↔ (4 * dx * (ny - 4 * ya) = 4 * dy * (nx + i - 4 * xa)) := fun i => by
    rw [show 4 * (xa + dx) - 4 * xa = 4 * dx by omega, show 4 * (ya + dy) - 4 * ya = 4 * dy by omega]
  unfold zz_oe zz_me
  simp only [e1]
  have ab : zz_abs (ny - 4 * ya) = ny - 4 * ya ∧ 0 ≤ ny - 4 * ya ∨ zz_abs (ny - 4 * ya) = -(ny - 4 * ya) ∧ ny - 4 * ya < 0 := by
    unfold zz_abs
    split <;> omega
  rcases zz_dir_sh dx dy with h | ⟨-, h1, h2⟩ | ⟨-, h1, h2⟩ | ⟨-, h1, h2⟩ | ⟨-, h1, h2⟩ | ⟨-, h1, h2⟩ | ⟨-, h1, h2⟩ | ⟨-, h1, h2⟩ | ⟨-, h1, h2⟩
  · exact absurd h hd
  · subst h2
    have e2 : ∀ i : Int, (4 * dx * (ny - 4 * ya) = 4 * 0 * (nx + i - 4 * xa)) ↔ ny = 4 * ya := fun i => by
      rw [show (4 * 0 * (nx + i - 4 * xa) : Int) = 4 * dx * 0 by simp, zz_cancel (by omega)]
      omega
    simp only [e2]
    rw [if_pos (by omega)]
    unfold zz_in
    constructor
    · rintro ⟨z1, z2⟩
      refine ⟨(if nx < 4 * xa then 4 * xa - nx else 0).toNat, ?_, by omega, ?_, by omega⟩ <;> split at z2 <;> split <;> omega
    · rintro ⟨i, hi, z1, z2, z3⟩
      refine ⟨by omega, ?_⟩
      split <;> split <;> omega
  · subst h2
    have e2 : ∀ i : Int, (4 * dy * (ny - 4 * ya) = 4 * dy * (nx + i - 4 * xa)) ↔ ny - 4 * ya = nx + i - 4 * xa := fun i => zz_cancel (by omega)
    simp only [e2]
    rw [if_neg (by omega)]
    unfold zz_in zz_ox
    rw [if_neg (by omega), if_pos (by omega)]
    constructor
    · rintro ⟨z1, z2⟩
      exact ⟨(4 * xa + (ny - 4 * ya) - nx).toNat, by omega, by omega, by omega, by omega⟩
    · rintro ⟨i, hi, z1, z2, z3⟩
      refine ⟨by omega, by omega⟩
  · subst h1
    have e2 : ∀ i : Int, (4 * 0 * (ny - 4 * ya) = 4 * dy * (nx + i - 4 * xa)) ↔ nx + i = 4 * xa := fun i => by
      rw [show (4 * 0 * (ny - 4 * ya) : Int) = 4 * dy * 0 by simp, zz_cancel (by omega)]
      omega
    simp only [e2]
    rw [if_neg (by omega)]
    unfold zz_in zz_ox
    rw [if_pos (by omega)]
    constructor
    · rintro ⟨z1, z2⟩
      exact ⟨(4 * xa - nx).toNat, by omega, by omega, by omega, by omega⟩
    · rintro ⟨i, hi, z1, z2, z3⟩
      refine ⟨by omega, by omega⟩
  · subst h2
    have e2 : ∀ i : Int, (4 * dx * (ny - 4 * ya) = 4 * -dx * (nx + i - 4 * xa)) ↔ ny - 4 * ya = -(nx + i - 4 * xa) := fun i => by
      rw [show (4 * -dx * (nx + i - 4 * xa) : Int) = 4 * dx * -(nx + i - 4 * xa) by grind]
      exact zz_cancel (by omega)
    simp only [e2]
    rw [if_neg (by omega)]
    unfold zz_in zz_ox
    rw [if_neg (by omega), if_neg (by omega)]
    constructor
    · rintro ⟨z1, z2⟩
      exact ⟨(4 * xa - (ny - 4 * ya) - nx).toNat, by omega, by omega, by omega, by omega⟩
    · rintro ⟨i, hi, z1, z2, z3⟩
      refine ⟨by omega, by omega⟩
  · subst h2
    have e2 : ∀ i : Int, (4 * dx * (ny - 4 * ya) = 4 * 0 * (nx + i - 4 * xa)) ↔ ny = 4 * ya := fun i => by
      rw [show (4 * 0 * (nx + i - 4 * xa) : Int) = 4 * dx * 0 by simp, zz_cancel (by omega)]
      omega
    simp only [e2]
    rw [if_pos (by omega)]
    unfold zz_in
    constructor
    · rintro ⟨z1, z2⟩
      refine ⟨(if nx < 4 * (xa + dx) then 4 * (xa + dx) - nx else 0).toNat, ?_, by omega, ?_, by omega⟩ <;> split at z2 <;> split <;> omega
    · rintro ⟨i, hi, z1, z2, z3⟩
      refine ⟨by omega, ?_⟩
      split <;> split <;> omega
  · subst h2
    have e2 : ∀ i : Int, (4 * dy * (ny - 4 * ya) = 4 * dy * (nx + i - 4 * xa)) ↔ ny - 4 * ya = nx + i - 4 * xa := fun i => zz_cancel (by omega)
    simp only [e2]
    rw [if_neg (by omega)]
    unfold zz_in zz_ox
    rw [if_neg (by omega), if_neg (by omega)]
    constructor
    · rintro ⟨z1, z2⟩
      exact ⟨(4 * xa + (ny - 4 * ya) - nx).toNat, by omega, by omega, by omega, by omega⟩
    · rintro ⟨i, hi, z1, z2, z3⟩
      refine ⟨by omega, by omega⟩
  · subst h1
    have e2 : ∀ i : Int, (4 * 0 * (ny - 4 * ya) = 4 * dy * (nx + i - 4 * xa)) ↔ nx + i = 4 * xa := fun i => by
      rw [show (4 * 0 * (ny - 4 * ya) : Int) = 4 * dy * 0 by simp, zz_cancel (by omega)]
      omega
    simp only [e2]
    rw [if_neg (by omega)]
    unfold zz_in zz_ox
    rw [if_pos (by omega)]
    constructor
    · rintro ⟨z1, z2⟩
      exact ⟨(4 * xa - nx).toNat, by omega, by omega, by omega, by omega⟩
    · rintro ⟨i, hi, z1, z2, z3⟩
      refine ⟨by omega, by omega⟩
  · subst h2
    have e2 : ∀ i : Int, (4 * dx * (ny - 4 * ya) = 4 * -dx * (nx + i - 4 * xa)) ↔ ny - 4 * ya = -(nx + i - 4 * xa) := fun i => by
      rw [show (4 * -dx * (nx + i - 4 * xa) : Int) = 4 * dx * -(nx + i - 4 * xa) by grind]
      exact zz_cancel (by omega)
    simp only [e2]
    rw [if_neg (by omega)]
    unfold zz_in zz_ox
    rw [if_neg (by omega), if_pos (by omega)]
    constructor
    · rintro ⟨z1, z2⟩
      exact ⟨(4 * xa - (ny - 4 * ya) - nx).toNat, by omega, by omega, by omega, by omega⟩
    · rintro ⟨i, hi, z1, z2, z3⟩
      refine ⟨by omega, by omega⟩
