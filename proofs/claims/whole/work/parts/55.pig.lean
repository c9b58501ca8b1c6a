/-! A round that takes one more. -/
theorem zz_pig : ∀ (N m : Nat) (f : Nat → Nat), (∀ i, i < m → f i < N) → (∀ i j, i < m → j < m → f i = f j → i = j) → m ≤ N
  | 0, m, f, h, _ => by
    rcases Nat.eq_zero_or_pos m with z | z
    · omega
    · exact absurd (h 0 z) (by omega)
  | N + 1, m, f, h, inj => by
    by_cases c : ∃ i, i < m ∧ f i = N
    · obtain ⟨i, hi, e⟩ := c
      have := zz_pig N (m - 1) (fun k => if k = i then f (m - 1) else f k) (fun k hk => by
        by_cases z : k = i
        · simp only [if_pos z]
          have h1 := h (m - 1) (by omega)
          have : ¬ f (m - 1) = N := fun y => by
            have := inj (m - 1) i (by omega) hi (by omega)
            omega
          omega
        · simp only [if_neg z]
          have h1 := h k (by omega)
          have : ¬ f k = N := fun y => z (inj k i (by omega) hi (by omega))
          omega) (fun k l hk hl y => by
        by_cases z : k = i <;> by_cases w : l = i
        · omega
        · simp only [if_pos z, if_neg w] at y
          have := inj (m - 1) l (by omega) (by omega) y
          omega
        · simp only [if_neg z, if_pos w] at y
          have := inj k (m - 1) (by omega) (by omega) y
          omega
        · simp only [if_neg z, if_neg w] at y
          exact inj k l (by omega) (by omega) y)
      omega
    · have := zz_pig N m f (fun i hi => by
        have h1 := h i hi
        have : ¬ f i = N := fun y => c ⟨i, hi, y⟩
        omega) inj
      omega
/-- what a round is -/
def zz_rc (n : Int) (X Y : Nat → Int) (s : Nat) (dg : Int) (R : Nat → Int) (q : Nat → Prop) : Prop := (0 ≤ dg ∧ dg ≤ 9) ∧ (∀ i : Nat, (i : Int) < dg → 0 ≤ R i ∧ R i < n ∧ ¬ R i = s ∧ q (R i).toNat) ∧ (∀ t : Nat, t < 10 → q t → ∃ i : Nat, (i : Int) < dg ∧ R i = t) ∧ (∀ i j : Nat, i < j → (j : Int) < dg → zz_ahead X Y s (R i).toNat (R j).toNat)
theorem zz_rc_inj {n : Int} {X Y : Nat → Int} {s : Nat} {dg : Int} {R : Nat → Int} {q : Nat → Prop} (h : zz_rc n X Y s dg R q) : ∀ i j : Nat, (i : Int) < dg → (j : Int) < dg → R i = R j → i = j := by
  intro i j hi hj e
  rcases Nat.lt_trichotomy i j with z | z | z
  · have := h.2.2.2 i j z hj
    rw [e] at this
    exact absurd this (zz_ahead_as this)
  · exact z
  · have := h.2.2.2 j i z hi
    rw [e] at this
    exact absurd this (zz_ahead_as this)
theorem zz_rc_le {n : Int} {X Y : Nat → Int} {s : Nat} {dg : Int} {R : Nat → Int} {q : Nat → Prop} (h : zz_rc n X Y s dg R q) {m : Nat} (hq : ¬ q m) (hm : ¬ m = s) (hmn : m < 10) (hsn : s < 10) (hn : n ≤ 10) : dg ≤ 8 := by
  have inj := zz_rc_inj h
  have := zz_pig 10 (dg.toNat + 2) (fun k => if k < dg.toNat then (R k).toNat else if k = dg.toNat then s else m) (fun i hi => by
    (try dsimp only)
    split
    · rename_i z
      have := h.2.1 i (by omega)
      omega
    · split <;> omega) (fun i j hi hj e => by
    (try dsimp only at e)
    have el : ∀ k : Nat, k < dg.toNat → ¬ (R k).toNat = s ∧ ¬ (R k).toNat = m := fun k hk => by
      have r := h.2.1 k (by omega)
      refine ⟨by omega, fun z => hq ?_⟩
      rw [← z]
      exact r.2.2.2
    by_cases a : i < dg.toNat <;> by_cases b : j < dg.toNat
    · rw [if_pos a, if_pos b] at e
      have r1 := h.2.1 i (by omega)
      have r2 := h.2.1 j (by omega)
      exact inj i j (by omega) (by omega) (by omega)
    · rw [if_pos a, if_neg b] at e
      have := el i a
      split at e <;> omega
    · rw [if_neg a, if_pos b] at e
      have := el j b
      split at e <;> omega
    · rw [if_neg a, if_neg b] at e
      split at e <;> split at e <;> omega)
  have := h.1
  omega
theorem zz_rc_ins {n : Int} {X Y : Nat → Int} {s : Nat} {dg : Int} {R R2 : Nat → Int} {q q2 : Nat → Prop} {m t : Nat} (h : zz_rc n X Y s dg R q) (h8 : dg ≤ 8) (hm : ¬ m = s) (hmn : (m : Int) < n) (hi : zz_ri X Y s R R2 dg.toNat m t) (hq : ∀ k : Nat, k < 10 → (q2 k ↔ q k ∨ k = m)) (hn : n ≤ 10) : zz_rc n X Y s (dg + 1) R2 q2 := by
  obtain ⟨a1, a2, a3, a4⟩ := h
  obtain ⟨i1, i2, i3, i4, i5⟩ := hi
  refine ⟨by omega, fun i hi => ?_, fun k hk hqk => ?_, fun i j hij hj => i5 i j hij (by omega)⟩
  · rcases Nat.lt_trichotomy i t with z | z | z
    · rw [i2 i z]
      have r := a2 i (by omega)
      exact ⟨r.1, r.2.1, r.2.2.1, (hq _ (by omega)).mpr (Or.inl r.2.2.2)⟩
    · rw [z, i3]
      exact ⟨by omega, hmn, by omega, (hq _ (by omega)).mpr (Or.inr (Int.toNat_natCast m))⟩
    · rw [i4 i z (by omega)]
      have r := a2 (i - 1) (by omega)
      exact ⟨r.1, r.2.1, r.2.2.1, (hq _ (by omega)).mpr (Or.inl r.2.2.2)⟩
  · rcases (hq k hk).mp hqk with z | z
    · obtain ⟨i, hi, e⟩ := a3 k hk z
      by_cases c : i < t
      · exact ⟨i, by omega, by rw [i2 i c]; exact e⟩
      · exact ⟨i + 1, by omega, by rw [i4 (i + 1) (by omega) (by omega)]; exact e⟩
    · exact ⟨t, by omega, by rw [i3, z]⟩
theorem zz_rc_c {n : Int} {X Y : Nat → Int} {s : Nat} {dg : Int} {R : Nat → Int} {q q2 : Nat → Prop} (h : zz_rc n X Y s dg R q) (hq : ∀ k : Nat, k < 10 → (q2 k ↔ q k)) (hn : n ≤ 10) : zz_rc n X Y s dg R q2 := by
  obtain ⟨a1, a2, a3, a4⟩ := h
  refine ⟨a1, fun i hi => ?_, fun k hk hqk => a3 k hk ((hq k hk).mp hqk), a4⟩
  have r := a2 i hi
  exact ⟨r.1, r.2.1, r.2.2.1, (hq _ (by omega)).mpr r.2.2.2⟩
/-- the class's edges and rounds, without the lines -/
def zz_CE (S : qq_S) : Prop :=
  (0 ≤ S 4 0 ∧ S 4 0 ≤ 10) ∧ (∀ i : Nat, (i : Int) < S 4 0 → 0 ≤ S 5 i ∧ S 5 i ≤ 1000 ∧ 0 ≤ S 6 i ∧ S 6 i ≤ 1000) ∧ (∀ i j : Nat, (i : Int) < S 4 0 → (j : Int) < S 4 0 → S 5 i = S 5 j → S 6 i = S 6 j → i = j) ∧
  (0 ≤ S 4 2 ∧ S 4 2 ≤ 45) ∧
  (∀ e : Nat, (e : Int) < S 4 2 → 0 ≤ S 22 e ∧ S 22 e < S 23 e ∧ S 23 e < S 4 0 ∧ S 24 e = zz_td (S 5 (S 23 e).toNat - S 5 (S 22 e).toNat) (S 6 (S 23 e).toNat - S 6 (S 22 e).toNat) ∧ S (37 + 1 + (S 22 e).toNat) (S 23 e).toNat = e ∧ S (37 + 1 + (S 23 e).toNat) (S 22 e).toNat = e) ∧
  (∀ a b : Nat, a < 10 → b < 10 → S (37 + 1 + a) b = -1 ∨ (0 ≤ S (37 + 1 + a) b ∧ S (37 + 1 + a) b < S 4 2 ∧ ((S 22 (S (37 + 1 + a) b).toNat = a ∧ S 23 (S (37 + 1 + a) b).toNat = b) ∨ (S 22 (S (37 + 1 + a) b).toNat = b ∧ S 23 (S (37 + 1 + a) b).toNat = a)))) ∧
  (∀ e f : Nat, e < f → (f : Int) < S 4 2 → S 22 e < S 22 f ∨ (S 22 e = S 22 f ∧ S 23 e < S 23 f)) ∧
  (∀ s : Nat, s < 10 → zz_rc (S 4 0) (S 5) (S 6) s (S 25 s) (S (26 + 1 + s)) (fun t => ¬ S (37 + 1 + s) t = -1))
theorem zz_CE_sy {S : qq_S} (h : zz_CE S) {x y : Nat} (hx : x < 10) (hy : y < 10) (hn : ¬ S (37 + 1 + x) y = -1) : ¬ S (37 + 1 + y) x = -1 ∧ (x : Int) < S 4 0 ∧ (y : Int) < S 4 0 ∧ ¬ x = y := by
  obtain ⟨b1, b2, b3, b4, b5, b6, b7, b8⟩ := h
  rcases b6 x y hx hy with z | ⟨z1, z2, z3⟩
  · exact absurd z hn
  · have q := b5 (S (37 + 1 + x) y).toNat (by omega)
    rcases z3 with ⟨u, v⟩ | ⟨u, v⟩
    · rw [u, v, Int.toNat_natCast, Int.toNat_natCast] at q
      refine ⟨by omega, by omega, by omega, by omega⟩
    · rw [u, v, Int.toNat_natCast, Int.toNat_natCast] at q
      refine ⟨by omega, by omega, by omega, by omega⟩
/-- one pair more is joined, and numbered -/
theorem zz_CE_num {S S0 T : qq_S} {a b : Nat} (h : zz_CE S) (hab : ¬ a = b) (ha : (a : Int) < S 4 0) (hb : (b : Int) < S 4 0)
    (o1 : ∀ c : Nat, ¬ (38 ≤ c ∧ c < 48) → S0 c = S c) (o2 : ∀ x y : Nat, x < 10 → y < 10 → S0 (37 + 1 + x) y = if (x = a ∧ y = b) ∨ (x = b ∧ y = a) then 0 else S (37 + 1 + x) y) (hJ : zz_J S0 T (S0 4 0).toNat 0) (hE : T 4 2 ≤ 45) :
    (∀ c : Nat, ¬ (c = 4 ∨ c = 22 ∨ c = 23 ∨ c = 24 ∨ (38 ≤ c ∧ c < 48)) → T c = S c) ∧ (∀ j : Nat, ¬ j = 2 → T 4 j = S 4 j) ∧
    (0 ≤ T 4 2 ∧ T 4 2 ≤ 45) ∧
    (∀ e : Nat, (e : Int) < T 4 2 → 0 ≤ T 22 e ∧ T 22 e < T 23 e ∧ T 23 e < T 4 0 ∧ T 24 e = zz_td (T 5 (T 23 e).toNat - T 5 (T 22 e).toNat) (T 6 (T 23 e).toNat - T 6 (T 22 e).toNat) ∧ T (37 + 1 + (T 22 e).toNat) (T 23 e).toNat = e ∧ T (37 + 1 + (T 23 e).toNat) (T 22 e).toNat = e) ∧
    (∀ a b : Nat, a < 10 → b < 10 → T (37 + 1 + a) b = -1 ∨ (0 ≤ T (37 + 1 + a) b ∧ T (37 + 1 + a) b < T 4 2 ∧ ((T 22 (T (37 + 1 + a) b).toNat = a ∧ T 23 (T (37 + 1 + a) b).toNat = b) ∨ (T 22 (T (37 + 1 + a) b).toNat = b ∧ T 23 (T (37 + 1 + a) b).toNat = a)))) ∧
    (∀ e f : Nat, e < f → (f : Int) < T 4 2 → T 22 e < T 22 f ∨ (T 22 e = T 22 f ∧ T 23 e < T 23 f)) ∧
    (∀ x y : Nat, x < 10 → y < 10 → (¬ T (37 + 1 + x) y = -1 ↔ ¬ S (37 + 1 + x) y = -1 ∨ (x = a ∧ y = b) ∨ (x = b ∧ y = a))) := by
  have b1 := h.1
  obtain ⟨⟨j1, j2, j3⟩, j4, j5, j6, j7⟩ := hJ
  have f4 : S0 4 = S 4 := o1 4 (by omega)
  have f5 : S0 5 = S 5 := o1 5 (by omega)
  have f6 : S0 6 = S 6 := o1 6 (by omega)
  have t5 : T 5 = S 5 := by rw [j1 5 (by omega), f5]
  have t6 : T 6 = S 6 := by rw [j1 6 (by omega), f6]
  have t4 : T 4 0 = S 4 0 := by rw [j2 0 (by decide), f4]
  have iff0 : ∀ x y : Nat, x < 10 → y < 10 → (¬ T (37 + 1 + x) y = -1 ↔ ¬ S (37 + 1 + x) y = -1 ∨ (x = a ∧ y = b) ∨ (x = b ∧ y = a)) := fun x y hx hy => by
    rw [(j7 x y hx hy).1, o2 x y hx hy]
    by_cases c : (x = a ∧ y = b) ∨ (x = b ∧ y = a)
    · rw [if_pos c]
      exact ⟨fun _ => Or.inr c, fun _ => by omega⟩
    · rw [if_neg c]
      exact ⟨fun z => Or.inl z, fun z => z.elim id (fun y => absurd y c)⟩
  have sy0 : ∀ x y : Nat, x < 10 → y < 10 → ¬ S0 (37 + 1 + x) y = -1 → (x : Int) < S 4 0 ∧ (y : Int) < S 4 0 ∧ ¬ x = y ∧ ¬ S0 (37 + 1 + y) x = -1 := fun x y hx hy hn => by
    rw [o2 x y hx hy] at hn
    rw [o2 y x hy hx]
    by_cases c : (x = a ∧ y = b) ∨ (x = b ∧ y = a)
    · rw [if_pos (by omega)]
      omega
    · rw [if_neg c] at hn
      have := zz_CE_sy h hx hy hn
      rw [if_neg (by omega)]
      exact ⟨this.2.1, this.2.2.1, this.2.2.2, this.1⟩
  refine ⟨fun c hc => by rw [j1 c hc, o1 c (by omega)], fun j hj => by rw [j2 j hj, f4], ⟨j3, hE⟩, fun e he => ?_, fun x y hx hy => ?_, j5, iff0⟩
  · obtain ⟨q1, q2, q3, -, q5, q6, q7⟩ := j4 e he
    rw [f4] at q3
    rw [f5, f6] at q5
    rw [t4, t5, t6]
    exact ⟨q1, q2, q3, q5, q6, q7⟩
  · by_cases c : T (37 + 1 + x) y = -1
    · exact Or.inl c
    · have n0 : ¬ S0 (37 + 1 + x) y = -1 := fun z => c ((j7 x y hx hy).1.mpr z)
      have s0 := sy0 x y hx hy n0
      right
      rcases Nat.lt_trichotomy x y with z | z | z
      · obtain ⟨e, he, e1, e2⟩ := j6 x y z (by rw [f4]; exact s0.2.1) (Or.inl (by rw [f4]; omega)) n0
        obtain ⟨q1, q2, q3, -, q5, q6, q7⟩ := j4 e he
        rw [e1, e2, Int.toNat_natCast, Int.toNat_natCast] at q6
        rw [q6, Int.toNat_natCast]
        exact ⟨by omega, he, Or.inl ⟨e1, e2⟩⟩
      · exact absurd z s0.2.2.1
      · obtain ⟨e, he, e1, e2⟩ := j6 y x z (by rw [f4]; exact s0.1) (Or.inl (by rw [f4]; omega)) s0.2.2.2
        obtain ⟨q1, q2, q3, -, q5, q6, q7⟩ := j4 e he
        rw [e1, e2, Int.toNat_natCast, Int.toNat_natCast] at q7
        rw [q7, Int.toNat_natCast]
        exact ⟨by omega, he, Or.inr ⟨e1, e2⟩⟩
