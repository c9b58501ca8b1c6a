/-! findLeast. -/
def yy_S0 (S : qq_S) : Prop := zz_N S ∧ S 4 0 ≤ 5 ∧ (2 ≤ S 48 0 ∧ S 48 0 ≤ 8 ∧ 2 ≤ S 48 1 ∧ S 48 1 ≤ 8 ∧ S 48 0 * S 48 1 ≤ 25) ∧ (∀ t : Nat, t < 10 → i_at (S 48 0) (S 48 1) (S 49 t) (S 50 t) ∧ (S 51 t = 0 ∨ S 51 t = 1) ∧ (S 49 t = -1 → S 51 t = 0) ∧ (S 4 0 ≤ t → S 49 t = -1)) ∧ (0 ≤ S 52 0 ∧ S 52 0 ≤ 100 ∧ 0 ≤ S 52 1 ∧ S 52 1 ≤ 100 ∧ 0 ≤ S 52 2 ∧ S 52 2 ≤ 100 ∧ 1 ≤ S 52 3 ∧ S 52 3 ≤ 4)
def yy_Fh (S : qq_S) (t : Nat) : Int := if S 51 t = 0 then -1 else S 50 t * S 48 0 + S 49 t
/-- T: the search's ground over S -/
def yy_Gs (S T : qq_S) (F : Nat → Int) : Prop := (∀ a : Nat, ¬ (55 ≤ a ∧ a ≤ 91) → T a = S a) ∧ T 56 0 = S 48 0 ∧ T 56 1 = S 48 1 ∧ (∀ t : Nat, (t : Int) < S 4 0 → F t = yy_Fh S t) ∧ (T 55 12 = 0 ↔ ∀ t : Nat, (t : Int) < S 4 0 → S 51 t = 0)
theorem yy_cnt0 (f : Nat → Int) : ∀ k : Nat, zz_cnt f 0 k ≤ 0 ↔ ∀ i : Nat, i < k → f i = 0
  | 0 => ⟨fun _ i hi => by omega, fun _ => by simp [zz_cnt]⟩
  | k + 1 => by
    have ih := yy_cnt0 f k
    have b := zz_cnt_bd f 0 k
    have s := zz_cnt_s f 0 k (by omega)
    rw [show ((k : Int) + 1).toNat = k + 1 by omega, show ((k : Int)).toNat = k by omega] at s
    rw [s]
    by_cases c : f k = 0
    · rw [if_pos c]
      constructor
      · intro z i hi
        by_cases e : i = k
        · rw [e]; exact c
        · exact ih.mp (by omega) i (by omega)
      · intro z
        have := ih.mpr (fun i hi => z i (by omega))
        omega
    · rw [if_neg c]
      constructor
      · intro z; omega
      · intro z; exact absurd (z k (by omega)) c
theorem yy_Gs_cq {S T : qq_S} {F : Nat → Int} (h : yy_Gs S T F) (hN : zz_N S) (Q : Nat → Int) : yy_cq T Q = yy_cD S Q := by
  have gb := hN.1.1
  unfold yy_cq yy_cD
  rw [h.2.1, zz_cst_c (fun a h1 h2 => h.1 a (by omega)) (h.1 52 (by omega)) (by omega)]
theorem yy_Gs_F {S : qq_S} (s0 : yy_S0 S) {t : Nat} (ht : (t : Int) < S 4 0) {x : Int} (hx : 0 ≤ x) : (yy_Fh S t = -1 ∨ yy_Fh S t = x) ↔ (S 51 t = 0 ∨ x = S 50 t * S 48 0 + S 49 t) := by
  have n5 := s0.2.1
  have w := s0.2.2.1
  have q := s0.2.2.2.1 t (by omega)
  unfold yy_Fh
  by_cases c : S 51 t = 0
  · rw [if_pos c]; exact ⟨fun _ => Or.inl c, fun _ => Or.inl rfl⟩
  · rw [if_neg c]
    have np : ¬ S 49 t = -1 := fun z => c (q.2.2.1 z)
    have b : 0 ≤ S 50 t * S 48 0 + S 49 t := by
      rcases q.1 with z | z
      · omega
      · have := yy_mlt (x := S 49 t) (y := S 50 t) (w := S 48 0) (h := S 48 1) (by omega) (by omega)
        omega
    exact ⟨fun z => Or.inr (by omega), fun z => Or.inr (by omega)⟩
theorem yy_Gs_D {S T : qq_S} {F : Nat → Int} (s0 : yy_S0 S) (h : yy_Gs S T F) {Q : Nat → Int} : yy_CdF T F Q ↔ yy_D S Q ∧ (T 55 12 = 0 → 0 < S 4 0 → yy_fls (S 4 0) (fun t => Q t % S 48 0) (fun t => Q t / S 48 0)) := by
  have gb := s0.1.1.1
  have f4 : T 4 = S 4 := h.1 4 (by omega)
  unfold yy_CdF yy_D
  rw [f4, h.2.1, h.2.2.1, zz_al_c (fun a h1 h2 => h.1 a (by omega)) (by rw [h.1 52 (by omega)]) (by omega)]
  constructor
  · rintro ⟨a, b, c⟩
    refine ⟨⟨fun t ht => ⟨(a t ht).1, (a t ht).2.1, ?_⟩, b⟩, c⟩
    have := (a t ht).2.2
    rw [h.2.2.2.1 t ht] at this
    exact (yy_Gs_F s0 ht (a t ht).1).mp this
  · rintro ⟨⟨a, b⟩, c⟩
    refine ⟨fun t ht => ⟨(a t ht).1, (a t ht).2.1, ?_⟩, b, c⟩
    rw [h.2.2.2.1 t ht]
    exact (yy_Gs_F s0 ht (a t ht).1).mpr (a t ht).2.2
theorem yy_Gs_sh {S T : qq_S} {F : Nat → Int} (s0 : yy_S0 S) (h : yy_Gs S T F) {Q : Nat → Int} (hQ : yy_D S Q) : ∃ A, yy_CdF T F A ∧ yy_cD S A = yy_cD S Q ∧ ∀ t : Nat, (t : Int) < S 4 0 → A t ≤ Q t := by
  by_cases c : T 55 12 = 0 ∧ 0 < S 4 0
  · obtain ⟨A, a1, a2, a3, a4⟩ := yy_shift s0.1 (by have := s0.2.2.1; omega) c.2 (h.2.2.2.2.mp c.1) hQ
    exact ⟨A, (yy_Gs_D s0 h).mpr ⟨a1, fun _ _ => a2⟩, a3, a4⟩
  · exact ⟨Q, (yy_Gs_D s0 h).mpr ⟨hQ, fun e1 e2 => absurd ⟨e1, e2⟩ c⟩, rfl, fun _ _ => Int.le_refl _⟩
/-- settled to the end: the best -/
theorem yy_J_B {S T : qq_S} {F : Nat → Int} {c : Int} (s0 : yy_S0 S) (h : yy_Gs S T F) (j : yy_J T F (S 4 0) c) : yy_B S (T 88) ∧ yy_cD S (T 88) = c := by
  obtain ⟨j1, j2, j3, j4, j5⟩ := j
  have cq := yy_Gs_cq h s0.1
  rw [cq] at j3
  refine ⟨⟨((yy_Gs_D s0 h).mp j2).1, fun Q hQ => ?_⟩, j3⟩
  obtain ⟨A, a1, a2, a3⟩ := yy_Gs_sh s0 h hQ
  have l := j4 A a1
  rw [cq] at l
  by_cases e : yy_cD S Q = c
  · refine Or.inr ⟨by omega, fun ⟨k, k1, k2, k3⟩ => ?_⟩
    obtain ⟨q, q1, q2, q3⟩ := yy_lt_le a3 k k1 k2 k3
    exact j5 A a1 (by rw [cq]; omega) q q1 q2 q3
  · exact Or.inl (by omega)
/-- what findLeast leaves -/
def yy_R (S T : qq_S) (r : Int) : Prop := (r = -1 ∧ (∀ Q, ¬ yy_D S Q) ∧ (∀ a : Nat, ¬ (55 ≤ a ∧ a ≤ 91) → T a = S a)) ∨ (0 ≤ r ∧ r ≤ 200000 ∧ ∃ P, yy_B S P ∧ yy_cD S P = r ∧ (∀ a : Nat, ¬ (55 ≤ a ∧ a ≤ 91) → ¬ a = 49 → ¬ a = 50 → T a = S a) ∧ (∀ t : Nat, T 49 t = (if (t : Int) < S 4 0 then P t % S 48 0 else S 49 t) ∧ T 50 t = (if (t : Int) < S 4 0 then P t / S 48 0 else S 50 t)))
theorem yy_low0 {S : qq_S} (g : yy_G S) (c : yy_C S) {Q : Nat → Int} (hQ : yy_Cd S Q) : S 91 0 ≤ yy_cq S Q := by
  have w := g.2.2.1
  have i0 := yy_I0 g
  have full : ∀ t : Nat, (t : Int) < S 4 0 → ¬ (fun t => Q t % S 56 0) t = -1 := fun t ht => by
    have m1 := Int.emod_nonneg (Q t) (show S 56 0 ≠ 0 by omega)
    show ¬ Q t % S 56 0 = -1
    omega
  have gb := g.1.1.1
  have l := yy_low g.1 c.2.2.2.2.1 c.2.2.2.2.2.1 (by have := c.2.2.2.2.2.2.2.2.1; omega) ((yy_pal_al g.1 full).mpr hQ.2.1) full (S 4 0).toNat 0 (S 57) (S 58) (by omega) i0.2.1 (fun t ht pt => absurd ((g.2.2.2.2.2.2.2 t (by omega)).1) pt)
  rw [← i0.2.2.2.2.1] at l
  unfold yy_cq
  omega
