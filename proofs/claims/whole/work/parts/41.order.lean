/-! The order round a station is one: whoever sorts the neighbours finds the same. -/
theorem zz_ahead_as {X Y : Nat → Int} {s a b : Nat} (h : zz_ahead X Y s a b) : ¬ zz_ahead X Y s b a := by
  unfold zz_ahead at *
  generalize hu : (X a - X s) * (Y b - Y s) - (Y a - Y s) * (X b - X s) = u at *
  have hv : (X b - X s) * (Y a - Y s) - (Y b - Y s) * (X a - X s) = -u := by grind
  rw [hv]
  generalize zz_half (X a - X s) (Y a - Y s) = p at *
  generalize zz_half (X b - X s) (Y b - Y s) = q at *
  by_cases e : p = q
  · subst e
    simp only [if_true] at *
    by_cases e2 : u = 0
    · subst e2
      simp at *
      omega
    · simp only [e2, if_false, show ¬ (-u = 0) by omega] at *
      omega
  · simp only [e, if_false, show ¬ (q = p) by omega] at *
    omega
theorem zz_ah_iff {X Y : Nat → Int} {s a b : Nat} : zz_ah (X a - X s) (Y a - Y s) (X b - X s) (Y b - Y s) a b = 1 ↔ zz_ahead X Y s a b := by
  unfold zz_ah zz_ahead
  generalize (X a - X s) * (Y b - Y s) - (Y a - Y s) * (X b - X s) = u
  generalize zz_half (X a - X s) (Y a - Y s) = p
  generalize zz_half (X b - X s) (Y b - Y s) = q
  by_cases e : p = q
  · simp only [e, if_true]
    by_cases e2 : u = 0
    · simp only [e2, if_true]
      by_cases e3 : a < b
      · simp [e3]
      · simp [e3]
    · simp only [e2, if_false]
      by_cases e3 : 0 < u <;> simp [e3]
  · simp only [e, if_false]
    by_cases e3 : p < q <;> simp [e3]
/-- v holds, from 0 to c, those of R below m, in R's order -/
def zz_I (R : Nat → Int) (dg : Nat) (v : Nat → Int) (c m : Nat) : Prop :=
  (∀ k, k < c → ∃ i, i < dg ∧ v k = R i ∧ R i < m) ∧ (∀ i, i < dg → R i < m → ∃ k, k < c ∧ v k = R i) ∧ (∀ k1 k2 i j, k1 < k2 → k2 < c → i < dg → j < dg → v k1 = R i → v k2 = R j → i < j)
theorem zz_I_skip {R : Nat → Int} {dg : Nat} {v : Nat → Int} {c m : Nat} (h : zz_I R dg v c m) (hn : ∀ i, i < dg → ¬ R i = m) : zz_I R dg v c (m + 1) := by
  obtain ⟨h1, h2, h3⟩ := h
  refine ⟨fun k hk => ?_, fun i hi hm => ?_, h3⟩
  · obtain ⟨i, hi, e, hl⟩ := h1 k hk
    exact ⟨i, hi, e, by omega⟩
  · exact h2 i hi (by have := hn i hi; omega)
theorem zz_I_ins {R : Nat → Int} {dg : Nat} {v v' : Nat → Int} {c m p t : Nat} (h : zz_I R dg v c m) (inj : ∀ i j, i < dg → j < dg → R i = R j → i = j) (hp : p < dg) (hR : R p = m) (ht : t ≤ c)
    (a1 : ∀ k i, t ≤ k → k < c → i < dg → v k = R i → p < i) (a2 : ∀ i, 0 < t → i < dg → v (t - 1) = R i → i < p)
    (b1 : ∀ k, k < t → v' k = v k) (b2 : v' t = m) (b3 : ∀ k, t < k → k ≤ c → v' k = v (k - 1)) : zz_I R dg v' (c + 1) (m + 1) := by
  obtain ⟨h1, h2, h3⟩ := h
  have lo : ∀ k i, k < t → i < dg → v k = R i → i < p := by
    intro k i hk hi e
    by_cases ek : k = t - 1
    · subst ek
      exact a2 i (by omega) hi e
    · obtain ⟨j, hj, ej, -⟩ := h1 (t - 1) (by omega)
      have := h3 k (t - 1) i j (by omega) (by omega) hi hj e ej
      have := a2 j (by omega) hj ej
      omega
  refine ⟨fun k hk => ?_, fun i hi hm => ?_, fun k1 k2 i j hk h2c hi hj e1 e2 => ?_⟩
  · by_cases c1 : k < t
    · obtain ⟨i, hi, e, hl⟩ := h1 k (by omega)
      exact ⟨i, hi, by rw [b1 k c1]; exact e, by omega⟩
    · by_cases c2 : k = t
      · subst c2
        exact ⟨p, hp, by rw [b2, hR], by omega⟩
      · obtain ⟨i, hi, e, hl⟩ := h1 (k - 1) (by omega)
        exact ⟨i, hi, by rw [b3 k (by omega) (by omega)]; exact e, by omega⟩
  · by_cases c1 : R i < m
    · obtain ⟨k, hk, e⟩ := h2 i hi c1
      by_cases c2 : k < t
      · exact ⟨k, by omega, by rw [b1 k c2]; exact e⟩
      · exact ⟨k + 1, by omega, by rw [b3 (k + 1) (by omega) (by omega)]; exact e⟩
    · have : R i = m := by omega
      exact ⟨t, by omega, by rw [b2, this]⟩
  · have q : ∀ k i, k ≤ c → i < dg → v' k = R i → (k < t → v k = R i ∧ i < p) ∧ (k = t → i = p) ∧ (t < k → v (k - 1) = R i ∧ p < i) := by
      intro k i hk hi e
      refine ⟨fun z => ?_, fun z => ?_, fun z => ?_⟩
      · rw [b1 k z] at e
        exact ⟨e, lo k i z hi e⟩
      · subst z
        rw [b2, ← hR] at e
        exact (inj p i hp hi e).symm
      · rw [b3 k z hk] at e
        exact ⟨e, a1 (k - 1) i (by omega) (by omega) hi e⟩
    have q1 := q k1 i (by omega) hi e1
    have q2 := q k2 j (by omega) hj e2
    rcases Nat.lt_trichotomy k1 t with z1 | z1 | z1
    · rcases Nat.lt_trichotomy k2 t with z2 | z2 | z2
      · exact h3 k1 k2 i j hk (by omega) hi hj (q1.1 z1).1 (q2.1 z2).1
      · have := q1.1 z1
        have := q2.2.1 z2
        omega
      · have := q1.1 z1
        have := q2.2.2 z2
        omega
    · have := q1.2.1 z1
      have := q2.2.2 (by omega)
      omega
    · exact h3 (k1 - 1) (k2 - 1) i j (by omega) (by omega) hi hj (q1.2.2 z1).1 (q2.2.2 (by omega)).1
theorem zz_I_end {R : Nat → Int} {dg : Nat} {v : Nat → Int} {c m : Nat} (h : zz_I R dg v c m) (inj : ∀ i j, i < dg → j < dg → R i = R j → i = j) (hm : ∀ i, i < dg → R i < m) : c = dg ∧ ∀ k, k < c → v k = R k := by
  obtain ⟨h1, h2, h3⟩ := h
  have key : ∀ k, k < c → k < dg ∧ v k = R k := by
    intro k
    induction k using Nat.strongRecOn with
    | ind k ih =>
      intro hk
      obtain ⟨i, hi, e, -⟩ := h1 k hk
      have ge : k ≤ i := by
        rcases Nat.lt_or_ge i k with z | z
        · have := ih i z (by omega)
          have := h3 i k i i z hk hi hi this.2 e
          omega
        · exact z
      obtain ⟨k', hk', e'⟩ := h2 k (by omega) (hm k (by omega))
      rcases Nat.lt_trichotomy k' k with z | z | z
      · have := ih k' z (by omega)
        have := inj k' k this.1 (by omega) (by rw [← this.2, e'])
        omega
      · subst z
        exact ⟨by omega, e'⟩
      · have := h3 k k' i k z hk' hi (by omega) e e'
        omega
  refine ⟨?_, fun k hk => (key k hk).2⟩
  rcases Nat.lt_trichotomy c dg with z | z | z
  · obtain ⟨k, hk, e⟩ := h2 c z (hm c z)
    have := inj k c (key k hk).1 z (by rw [← (key k hk).2, e])
    omega
  · exact z
  · have := (key dg z).1
    omega
