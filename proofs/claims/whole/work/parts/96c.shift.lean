/-! The best drawing: the cheapest, of those alike the first. -/
def yy_lt (n : Int) (P Q : Nat → Int) : Prop := ∃ k : Nat, (k : Int) < n ∧ (∀ j : Nat, j < k → P j = Q j) ∧ P k < Q k
theorem yy_lt_le {n : Int} {A Q P : Nat → Int} (h : ∀ t : Nat, (t : Int) < n → A t ≤ Q t) : ∀ k : Nat, (k : Int) < n → (∀ j : Nat, j < k → Q j = P j) → Q k < P k → yy_lt n A P := by
  intro k
  induction k using Nat.strongRecOn with
  | ind k ih =>
    intro hk h1 h2
    by_cases c : ∃ j : Nat, j < k ∧ A j < P j
    · -- the first of these
      have fst : ∀ m : Nat, m ≤ k → (∃ j : Nat, j < m ∧ A j < P j) → ∃ j : Nat, j < m ∧ A j < P j ∧ ∀ i : Nat, i < j → ¬ A i < P i := by
        intro m
        induction m with
        | zero => rintro _ ⟨j, hj, _⟩; omega
        | succ m ihm =>
          intro hm ⟨j, hj, hl⟩
          by_cases c2 : ∃ j : Nat, j < m ∧ A j < P j
          · obtain ⟨i, i1, i2, i3⟩ := ihm (by omega) c2
            exact ⟨i, by omega, i2, i3⟩
          · have e : j = m := by
              rcases Nat.lt_or_ge j m with z | z
              · exact absurd ⟨j, z, hl⟩ c2
              · omega
            exact ⟨j, hj, hl, fun i hi z => c2 ⟨i, by omega, z⟩⟩
      obtain ⟨j, j1, j2, j3⟩ := fst k (Nat.le_refl _) c
      refine ⟨j, by omega, fun i hi => ?_, j2⟩
      have := h i (by omega)
      have := h1 i (by omega)
      have := j3 i hi
      omega
    · refine ⟨k, hk, fun j hj => ?_, ?_⟩
      · have := h j (by omega)
        have := h1 j hj
        have : ¬ A j < P j := fun z => c ⟨j, hj, z⟩
        omega
      · have := h k hk
        omega
theorem yy_lt_tri {n : Int} {P Q : Nat → Int} (h1 : ¬ yy_lt n P Q) (h2 : ¬ yy_lt n Q P) : ∀ t : Nat, (t : Int) < n → P t = Q t := by
  intro t
  induction t using Nat.strongRecOn with
  | ind t ih =>
    intro ht
    rcases Int.lt_trichotomy (P t) (Q t) with c | c | c
    · exact absurd ⟨t, ht, fun j hj => ih j hj (by omega), c⟩ h1
    · exact c
    · exact absurd ⟨t, ht, fun j hj => (ih j hj (by omega)).symm, c⟩ h2
def yy_D (S : qq_S) (Q : Nat → Int) : Prop := (∀ t : Nat, (t : Int) < S 4 0 → 0 ≤ Q t ∧ Q t < S 48 0 * S 48 1 ∧ (S 51 t = 0 ∨ Q t = S 50 t * S 48 0 + S 49 t)) ∧ zz_al S (fun t => Q t % S 48 0) (fun t => Q t / S 48 0)
def yy_cD (S : qq_S) (Q : Nat → Int) : Int := zz_cst S (fun t => Q t % S 48 0) (fun t => Q t / S 48 0)
def yy_B (S : qq_S) (P : Nat → Int) : Prop := yy_D S P ∧ ∀ Q, yy_D S Q → yy_cD S P < yy_cD S Q ∨ (yy_cD S P = yy_cD S Q ∧ ¬ yy_lt (S 4 0) Q P)
theorem yy_B_uq {S : qq_S} {P Q : Nat → Int} (hP : yy_B S P) (hQ : yy_B S Q) : yy_cD S P = yy_cD S Q ∧ ∀ t : Nat, (t : Int) < S 4 0 → P t = Q t := by
  have a := hP.2 Q hQ.1
  have b := hQ.2 P hP.1
  refine ⟨by omega, ?_⟩
  rcases a with a | ⟨a1, a2⟩
  · omega
  · rcases b with b | ⟨b1, b2⟩
    · omega
    · exact yy_lt_tri b2 a2
/-- the least of some -/
theorem yy_min (f : Nat → Int) : ∀ n : Nat, 0 < n → ∃ t : Nat, t < n ∧ ∀ i : Nat, i < n → f t ≤ f i
  | 0, h => by omega
  | n + 1, _ => by
    by_cases c : n = 0
    · subst c
      exact ⟨0, by omega, fun i hi => by rw [show i = 0 by omega]; exact Int.le_refl _⟩
    · obtain ⟨t, t1, t2⟩ := yy_min f n (by omega)
      by_cases e : f n < f t
      · refine ⟨n, by omega, fun i hi => ?_⟩
        by_cases e2 : i = n
        · rw [e2]; exact Int.le_refl _
        · have := t2 i (by omega); omega
      · refine ⟨t, by omega, fun i hi => ?_⟩
        by_cases e2 : i = n
        · rw [e2]; omega
        · exact t2 i (by omega)
theorem yy_dr_sh {X Y : Nat → Int} {a b : Int} {p q : Nat} : zz_dr (fun t => X t - a) (fun t => Y t - b) p q = zz_dr X Y p q := by
  show zz_dir (X q - a - (X p - a)) (Y q - b - (Y p - b)) = zz_dir (X q - X p) (Y q - Y p)
  rw [show X q - a - (X p - a) = X q - X p by omega, show Y q - b - (Y p - b) = Y q - Y p by omega]
theorem yy_ln_sh {X Y : Nat → Int} {a b : Int} {p q : Nat} : zz_ln (fun t => X t - a) (fun t => Y t - b) p q = zz_ln X Y p q := by
  show zz_len (X q - a - (X p - a)) (Y q - b - (Y p - b)) = zz_len (X q - X p) (Y q - Y p)
  rw [show X q - a - (X p - a) = X q - X p by omega, show Y q - b - (Y p - b) = Y q - Y p by omega]
theorem yy_side_sh {X Y : Nat → Int} {a b : Int} {p q r : Nat} : zz_side (fun t => X t - a) (fun t => Y t - b) p q r = zz_side X Y p q r := by
  show (X q - a - (X p - a)) * (Y r - b - (Y p - b)) - (Y q - b - (Y p - b)) * (X r - a - (X p - a)) = (X q - X p) * (Y r - Y p) - (Y q - Y p) * (X r - X p)
  rw [show X q - a - (X p - a) = X q - X p by omega, show Y q - b - (Y p - b) = Y q - Y p by omega, show X r - a - (X p - a) = X r - X p by omega, show Y r - b - (Y p - b) = Y r - Y p by omega]
theorem yy_in_sh {x p q a : Int} : zz_in (x - a) (p - a) (q - a) ↔ zz_in x p q := by
  unfold zz_in
  omega
theorem yy_al_sh {S : qq_S} (hN : zz_N S) {X Y : Nat → Int} {a b : Int} (hp : ∀ t : Nat, (t : Int) < S 4 0 → 0 ≤ X t - a) (h : zz_al S X Y) : zz_al S (fun t => X t - a) (fun t => Y t - b) := by
  have gb := hN.1.1
  have gn := zz_N_nb hN
  obtain ⟨a1, a2, a3, a4, a5, a6, a7⟩ := h
  refine ⟨fun t ht z => ?_, fun p q h1 h2 z => ?_, fun e he z => ?_, fun e he z => ?_, fun e t he ht z => ?_, fun e f he hf z => ?_, fun t ht z => ?_⟩
  · have := hp t (by omega)
    have z : X t - a = -1 := z
    omega
  · obtain ⟨z1, z2, z3⟩ := z
    have z2 : X p - a = X q - a := z2
    have z3 : Y p - b = Y q - b := z3
    exact a2 p q h1 h2 ⟨z1, by omega, by omega⟩
  · unfold zz_cr at z
    rw [yy_dr_sh] at z
    exact a3 e he z
  · unfold zz_sho at z
    rw [yy_ln_sh] at z
    exact a4 e he z
  · obtain ⟨z1, z2, z3, z4⟩ := z
    rw [yy_side_sh] at z2
    exact a5 e t he ht ⟨z1, z2, yy_in_sh.mp z3, yy_in_sh.mp z4⟩
  · obtain ⟨z1, z2⟩ := z
    unfold zz_crs at z2
    rw [yy_side_sh, yy_side_sh, yy_side_sh, yy_side_sh] at z2
    exact a6 e f he hf ⟨z1, z2⟩
  · refine a7 t ht ?_
    unfold zz_tw at z ⊢
    intro y
    apply z
    have y : zz_rt (fun i => ¬ X (S (26 + 1 + t) i).toNat = -1) (fun i => zz_dr X Y t (S (26 + 1 + t) i).toNat) (S 25 t).toNat := y
    show zz_rt (fun i => ¬ X (S (26 + 1 + t) i).toNat - a = -1) (fun i => zz_dr (fun t => X t - a) (fun t => Y t - b) t (S (26 + 1 + t) i).toNat) (S 25 t).toNat
    unfold zz_rt at y ⊢
    rw [zz_rf_c (pl := fun i => ¬ X (S (26 + 1 + t) i).toNat - a = -1) (dr := fun i => zz_dr (fun t => X t - a) (fun t => Y t - b) t (S (26 + 1 + t) i).toNat) (pl' := fun i => ¬ X (S (26 + 1 + t) i).toNat = -1) (dr' := fun i => zz_dr X Y t (S (26 + 1 + t) i).toNat) (fun i hi => by
      have gd := gn.2.2.1 t (by omega)
      have r := gd.2.2 i (by omega)
      have p1 := hp (S (26 + 1 + t) i).toNat (by omega)
      have p2 := a1 (S (26 + 1 + t) i).toNat (by omega)
      exact ⟨fun _ => p2, fun _ => by omega⟩) (fun i _ _ => yy_dr_sh)]
    exact y
theorem yy_cst_sh {S : qq_S} {X Y : Nat → Int} {a b : Int} : zz_cst S (fun t => X t - a) (fun t => Y t - b) = zz_cst S X Y := by
  have e1 : zz_bds S (fun t => X t - a) (fun t => Y t - b) = zz_bds S X Y := by
    unfold zz_bds
    refine zz_sum_c (fun l _ => zz_sum_c (fun k _ => ?_))
    unfold zz_bnd
    rw [yy_dr_sh, yy_dr_sh]
  have e2 : zz_lns S (fun t => X t - a) (fun t => Y t - b) = zz_lns S X Y := zz_sum_c (fun e _ => yy_ln_sh)
  have e3 : zz_trs S (fun t => X t - a) (fun t => Y t - b) = zz_trs S X Y := zz_sum_c (fun e _ => by
    unfold zz_trn
    rw [yy_dr_sh])
  unfold zz_cst
  rw [e1, e2, e3]
/-- a drawing is shifted until it touches both sides -/
theorem yy_shift {S : qq_S} (hN : zz_N S) (wp : 0 < S 48 0) (h0 : 0 < S 4 0) (nh : ∀ t : Nat, (t : Int) < S 4 0 → S 51 t = 0) {Q : Nat → Int} (hQ : yy_D S Q) : ∃ A, yy_D S A ∧ yy_fls (S 4 0) (fun t => A t % S 48 0) (fun t => A t / S 48 0) ∧ yy_cD S A = yy_cD S Q ∧ ∀ t : Nat, (t : Int) < S 4 0 → A t ≤ Q t := by
  have gb := hN.1.1
  obtain ⟨u, u1, u2⟩ := yy_min (fun t => Q t % S 48 0) (S 4 0).toNat (by omega)
  obtain ⟨v, v1, v2⟩ := yy_min (fun t => Q t / S 48 0) (S 4 0).toNat (by omega)
  have m1 : ∀ t : Nat, 0 ≤ Q t % S 48 0 ∧ Q t % S 48 0 < S 48 0 := fun t => ⟨Int.emod_nonneg (Q t) (by omega), Int.emod_lt_of_pos (Q t) wp⟩
  have d1 : ∀ t : Nat, (t : Int) < S 4 0 → 0 ≤ Q t / S 48 0 ∧ Q t / S 48 0 < S 48 1 := fun t ht => ⟨Int.ediv_nonneg (hQ.1 t ht).1 (by omega), Int.ediv_lt_of_lt_mul (by omega) (by rw [Int.mul_comm]; exact (hQ.1 t ht).2.1)⟩
  have u2 : ∀ t : Nat, (t : Int) < S 4 0 → Q u % S 48 0 ≤ Q t % S 48 0 := fun t ht => u2 t (by omega)
  have v2 : ∀ t : Nat, (t : Int) < S 4 0 → Q v / S 48 0 ≤ Q t / S 48 0 := fun t ht => v2 t (by omega)
  have key : ∀ t : Nat, (t : Int) < S 4 0 → ((Q t / S 48 0 - Q v / S 48 0) * S 48 0 + (Q t % S 48 0 - Q u % S 48 0)) % S 48 0 = Q t % S 48 0 - Q u % S 48 0 ∧ ((Q t / S 48 0 - Q v / S 48 0) * S 48 0 + (Q t % S 48 0 - Q u % S 48 0)) / S 48 0 = Q t / S 48 0 - Q v / S 48 0 := fun t ht => by
    have a1 := m1 t
    have a2 := m1 u
    have a3 := u2 t ht
    have a4 := v2 t ht
    have a5 := d1 t ht
    have a6 := d1 v (by omega)
    exact yy_xy (h := S 48 1) (by omega) (by omega)
  have bd : ∀ t : Nat, (t : Int) < S 4 0 → 0 ≤ (Q t / S 48 0 - Q v / S 48 0) * S 48 0 + (Q t % S 48 0 - Q u % S 48 0) ∧ (Q t / S 48 0 - Q v / S 48 0) * S 48 0 + (Q t % S 48 0 - Q u % S 48 0) < S 48 0 * S 48 1 := fun t ht => by
    have a1 := m1 t
    have a2 := m1 u
    have a3 := u2 t ht
    have a4 := v2 t ht
    have a5 := d1 t ht
    have a6 := d1 v (by omega)
    exact yy_mlt (by omega) (by omega)
  have al := yy_al_sh hN (X := fun t => Q t % S 48 0) (Y := fun t => Q t / S 48 0) (a := Q u % S 48 0) (b := Q v / S 48 0) (fun t ht => by
    have := u2 t ht
    show 0 ≤ Q t % S 48 0 - Q u % S 48 0
    omega) hQ.2
  refine ⟨fun t => (Q t / S 48 0 - Q v / S 48 0) * S 48 0 + (Q t % S 48 0 - Q u % S 48 0), ⟨fun t ht => ⟨(bd t ht).1, (bd t ht).2, Or.inl (nh t ht)⟩, yy_al_q hN (fun t ht => key t ht) al⟩, ⟨⟨u, by omega, ?_⟩, ⟨v, by omega, ?_⟩⟩, ?_, fun t ht => ?_⟩
  · show ((Q u / S 48 0 - Q v / S 48 0) * S 48 0 + (Q u % S 48 0 - Q u % S 48 0)) % S 48 0 = 0
    rw [(key u (by omega)).1]; omega
  · show ((Q v / S 48 0 - Q v / S 48 0) * S 48 0 + (Q v % S 48 0 - Q u % S 48 0)) / S 48 0 = 0
    rw [(key v (by omega)).2]; omega
  · show zz_cst S (fun t => ((Q t / S 48 0 - Q v / S 48 0) * S 48 0 + (Q t % S 48 0 - Q u % S 48 0)) % S 48 0) (fun t => ((Q t / S 48 0 - Q v / S 48 0) * S 48 0 + (Q t % S 48 0 - Q u % S 48 0)) / S 48 0) = zz_cst S (fun t => Q t % S 48 0) (fun t => Q t / S 48 0)
    rw [yy_pc_c hN (A := fun t => Q t % S 48 0 - Q u % S 48 0) (B := fun t => Q t / S 48 0 - Q v / S 48 0) (fun t ht => key t ht)]
    exact yy_cst_sh (X := fun t => Q t % S 48 0) (Y := fun t => Q t / S 48 0)
  · show (Q t / S 48 0 - Q v / S 48 0) * S 48 0 + (Q t % S 48 0 - Q u % S 48 0) ≤ Q t
    have me : Q t / S 48 0 * S 48 0 + Q t % S 48 0 = Q t := Int.ediv_mul_add_emod (Q t) (S 48 0)
    have a2 := m1 u
    have a6 := d1 v (by omega)
    have m0 := Int.mul_nonneg a6.1 (show 0 ≤ S 48 0 by omega)
    rw [Int.sub_mul]
    omega
