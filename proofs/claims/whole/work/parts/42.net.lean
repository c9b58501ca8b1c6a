/-! What the tie says of the net, in plain bounds. -/
theorem qq_R_at {S : qq_S} {b n l : Nat} (h : l < n) : qq_R S b n l = S (b + l) := if_pos h
def zz_N (S : qq_S) : Prop :=
  i_net (S 4 0) (S 115 1) (S 4 1) (S 115 2) (S 5) (S 6) (S 116) (S 117) ∧
  i_line (S 4 0) (S 4 1) (S 7) (S 118) (qq_R S 9 6) (qq_R S 16 6) (S 119) ∧
  i_edge (S 4 0) (S 4 1) (S 4 2) (S 115 3) (S 5) (S 6) (S 7) (qq_R S 9 6) (S 22) (S 23) (S 24) (S 120) (S 121) (qq_R S 38 10) ∧
  i_ring (S 4 0) (S 5) (S 6) (S 25) (qq_R S 27 10) (qq_R S 38 10)
theorem inv_N {S : qq_S} (h : inv S) : zz_N S := ⟨h.1, h.2.1, h.2.2.1, h.2.2.2.1⟩
theorem zz_N_nb {S : qq_S} (h : zz_N S) : zz_nb S := by
  obtain ⟨h1, h2, h3, h4⟩ := h
  refine ⟨?_, fun e he => ?_, fun s hs => ?_, fun l hl => ?_⟩
  · have := h1.1
    have := h3.1
    omega
  · have q := h3.2.1 e he
    have t := zz_td_bd (S 5 (S 23 e).toNat - S 5 (S 22 e).toNat) (S 6 (S 23 e).toNat - S 6 (S 22 e).toNat)
    rw [← q.2.2.2.2.2.1] at t
    omega
  · have q := h4 s hs
    refine ⟨q.1.1, q.1.2, fun i hi => ?_⟩
    have q2 := q.2.1 i hi
    rw [qq_R_at hs, qq_R_at hs] at q2
    have b := h1.1
    have q3 := h3.2.2.1 s (S (27 + s) i).toNat hs (by omega)
    rw [qq_R_at hs] at q3
    have e1 : 26 + 1 + s = 27 + s := by omega
    have e2 : 37 + 1 + s = 38 + s := by omega
    rw [e1, e2]
    rcases q3 with q3 | q3
    · exact absurd q3 q2.2.2.2
    · omega
  · have b := h1.1
    have q := h2.1 l hl
    have e1 : 8 + 1 + l = 9 + l := by omega
    have e2 : 15 + 1 + l = 16 + l := by omega
    rw [e1, e2]
    refine ⟨q.1, q.2.1, fun i hi => ?_, fun s hs => ?_⟩
    · have q2 := q.2.2.2 i hi
      rw [qq_R_at (by omega)] at q2
      omega
    · have q3 := h2.2.2 l s (by omega) hs
      rw [qq_R_at (by omega)] at q3
      omega
/-- the reference's lines are in their bounds -/
def zz_ml (S : qq_S) : Prop := (0 ≤ S 115 2 ∧ S 115 2 ≤ 6) ∧ ∀ l : Nat, (l : Int) < S 115 2 → 0 ≤ S 118 l ∧ S 118 l ≤ 10 ∧ ∀ i : Nat, (i : Int) < S 118 l → 0 ≤ S 119 (10 * l + i) ∧ S 119 (10 * l + i) < 10
theorem zz_N_ml {S : qq_S} (h : zz_N S) : zz_ml S := by
  obtain ⟨h1, h2, h3, h4⟩ := h
  have b := h1.1
  refine ⟨by omega, fun l hl => ?_⟩
  have q := h2.1 l (by omega)
  refine ⟨by omega, by omega, fun i hi => ?_⟩
  have q2 := q.2.2.2 i (by omega)
  omega
def zz_mled (S : qq_S) (a b : Nat) : Prop := i_led (S 115 2) (S 118) (fun l i => S 119 (10 * l + i)) a b
theorem zz_mled_eo {S : qq_S} (h : zz_N S) {a b : Nat} (ha : a < 10) (hb : b < 10) : zz_mled S a b ↔ ¬ S (37 + 1 + a) b = -1 := by
  obtain ⟨h1, h2, h3, h4⟩ := h
  have q := h3.2.2.2.2 a b ha hb
  rw [qq_R_at ha] at q
  have e : 37 + 1 + a = 38 + a := by omega
  rw [e, q]
  have b := h1.1
  unfold zz_mled i_led
  constructor
  · rintro ⟨l, i, hl, hi, z⟩
    have q1 := h2.1 l (by omega)
    have q2 := q1.2.2.2 i (by omega)
    have q3 := q1.2.2.2 (i + 1) (by omega)
    refine ⟨l, i, by omega, by omega, ?_⟩
    rw [← q2.2.2.1, ← q3.2.2.1]
    exact z
  · rintro ⟨l, i, hl, hi, z⟩
    have q1 := h2.1 l (by omega)
    have q2 := q1.2.2.2 i (by omega)
    have q3 := q1.2.2.2 (i + 1) (by omega)
    refine ⟨l, i, by omega, by omega, ?_⟩
    show (S 119 (10 * l + i) = _ ∧ S 119 (10 * l + (i + 1)) = _) ∨ (S 119 (10 * l + i) = _ ∧ S 119 (10 * l + (i + 1)) = _)
    rw [q2.2.2.1, q3.2.2.1]
    exact z
theorem zz_rinj {S : qq_S} (h : zz_N S) {s : Nat} (hs : s < 10) : ∀ i j : Nat, i < (S 25 s).toNat → j < (S 25 s).toNat → S (26 + 1 + s) i = S (26 + 1 + s) j → i = j := by
  intro i j hi hj e
  have q := h.2.2.2 s hs
  rw [qq_R_at hs] at q
  have e1 : 26 + 1 + s = 27 + s := by omega
  rw [e1] at e
  rcases Nat.lt_trichotomy i j with z | z | z
  · have := q.2.2.2 i j z (by omega)
    rw [e] at this
    exact absurd this (zz_ahead_as this)
  · exact z
  · have := q.2.2.2 j i z (by omega)
    rw [e] at this
    exact absurd this (zz_ahead_as this)
theorem zz_rpos {S : qq_S} (h : zz_N S) {s i j : Nat} (hs : (s : Int) < S 4 0) (hi : i < (S 25 s).toNat) (hj : j < (S 25 s).toNat) : zz_ah (S 116 (S (26 + 1 + s) i).toNat - S 116 s) (S 117 (S (26 + 1 + s) i).toNat - S 117 s) (S 116 (S (26 + 1 + s) j).toNat - S 116 s) (S 117 (S (26 + 1 + s) j).toNat - S 117 s) (S (26 + 1 + s) i) (S (26 + 1 + s) j) = 1 ↔ i < j := by
  have b := h.1.1
  have q := h.2.2.2 s (by omega)
  rw [qq_R_at (show s < 10 by omega)] at q
  have e1 : 26 + 1 + s = 27 + s := by omega
  rw [e1]
  have r1 := q.2.1 i (by omega)
  have r2 := q.2.1 j (by omega)
  have x1 := h.1.2.1 (S (27 + s) i).toNat (by omega)
  have x2 := h.1.2.1 (S (27 + s) j).toNat (by omega)
  have x3 := h.1.2.1 s hs
  rw [x1.2.2.2.2.1, x1.2.2.2.2.2, x2.2.2.2.2.1, x2.2.2.2.2.2, x3.2.2.2.2.1, x3.2.2.2.2.2]
  have z := zz_ah_iff (X := S 5) (Y := S 6) (s := s) (a := (S (27 + s) i).toNat) (b := (S (27 + s) j).toNat)
  rw [show (((S (27 + s) i).toNat : Nat) : Int) = S (27 + s) i by omega, show (((S (27 + s) j).toNat : Nat) : Int) = S (27 + s) j by omega] at z
  rw [z]
  rcases Nat.lt_trichotomy i j with c | c | c
  · exact ⟨fun _ => c, fun _ => q.2.2.2 i j c (by omega)⟩
  · subst c
    exact ⟨fun y => absurd y (zz_ahead_as y), fun y => by omega⟩
  · exact ⟨fun y => absurd (q.2.2.2 j i c (by omega)) (zz_ahead_as y), fun y => by omega⟩
theorem zz_ah01 (xa ya xb yb a b : Int) : zz_ah xa ya xb yb a b = 0 ∨ zz_ah xa ya xb yb a b = 1 := by
  unfold zz_ah
  repeat' split
  all_goals simp
theorem zz_I_le {R : Nat → Int} {dg : Nat} {v : Nat → Int} {c m : Nat} (h : zz_I R dg v c m) : c ≤ dg := by
  obtain ⟨h1, h2, h3⟩ := h
  have key : ∀ k i, k < c → i < dg → v k = R i → k ≤ i := by
    intro k
    induction k with
    | zero => intros; omega
    | succ k ih =>
      intro i hk hi e
      obtain ⟨j, hj, ej, -⟩ := h1 k (by omega)
      have := ih j (by omega) hj ej
      have := h3 k (k + 1) j i (by omega) hk hj hi ej e
      omega
  rcases Nat.lt_or_ge dg c with z | z
  · obtain ⟨i, hi, e, -⟩ := h1 dg z
    have := key dg i z hi e
    omega
  · exact z
/-- T is S but for the reference's ring -/
def zz_fr (S T : qq_S) : Prop := (∀ a, a ≠ 122 → a ≠ 115 → T a = S a) ∧ (∀ j, j ≠ 11 → T 115 j = S 115 j)
theorem zz_fr0 (S : qq_S) : zz_fr S S := ⟨fun _ _ _ => rfl, fun _ _ => rfl⟩
theorem zz_fr_u {S T : qq_S} (h : zz_fr S T) (k : Nat) (x : Int) : zz_fr S (qq_u T 122 k x) := ⟨fun a h1 h2 => by rw [qq_ueq h1]; exact h.1 a h1 h2, fun j hj => by rw [qq_ueq (by decide)]; exact h.2 j hj⟩
theorem zz_fr_v {S T : qq_S} (h : zz_fr S T) (x : Int) : zz_fr S (qq_u T 115 11 x) := ⟨fun a h1 h2 => by rw [qq_ueq h2]; exact h.1 a h1 h2, fun j hj => by rw [qq_un (Or.inr hj)]; exact h.2 j hj⟩
theorem zz_fr_ml {S T : qq_S} (h : zz_fr S T) (m : zz_ml S) : zz_ml T := by
  unfold zz_ml at *
  rw [h.2 2 (by decide), h.1 118 (by decide) (by decide), h.1 119 (by decide) (by decide)]
  exact m
theorem zz_fr_led {S T : qq_S} (h : zz_fr S T) (a b : Nat) : zz_mled T a b = zz_mled S a b := by
  unfold zz_mled
  rw [h.2 2 (by decide), h.1 118 (by decide) (by decide), h.1 119 (by decide) (by decide)]
/-- the reference's ring after rounds(s) -/
def zz_rg (S : qq_S) (s : Nat) : qq_S := fun a j => if a = 122 ∧ (j : Int) < S 25 s then S (26 + 1 + s) j else if a = 115 ∧ j = 11 then S 25 s else S a j
theorem zz_rg_fr (S : qq_S) (s : Nat) : zz_fr S (zz_rg S s) := by
  refine ⟨fun a h1 h2 => ?_, fun j hj => ?_⟩
  · funext j
    unfold zz_rg
    rw [if_neg (fun z => h1 z.1), if_neg (fun z => h2 z.1)]
  · unfold zz_rg
    rw [if_neg (by omega), if_neg (fun z => hj z.2)]
theorem zz_rg_eq {S T : qq_S} {s : Nat} (h : zz_fr S T) (h2 : T 115 11 = S 25 s) (h3 : ∀ k : Nat, (k : Int) < S 25 s → T 122 k = S (26 + 1 + s) k) (h4 : ∀ k : Nat, S 25 s ≤ k → T 122 k = S 122 k) : T = zz_rg S s := by
  funext a j
  unfold zz_rg
  by_cases c1 : a = 122
  · subst c1
    by_cases c2 : (j : Int) < S 25 s
    · rw [if_pos ⟨rfl, c2⟩, h3 j c2]
    · rw [if_neg (fun z => c2 z.2), if_neg (by omega), h4 j (by omega)]
  · rw [if_neg (fun z => c1 z.1)]
    by_cases c2 : a = 115
    · subst c2
      by_cases c3 : j = 11
      · rw [if_pos ⟨rfl, c3⟩, c3, h2]
      · rw [if_neg (fun z => c3 z.2), h.2 j c3]
    · rw [if_neg (fun z => c2 z.1), h.1 a c1 c2]
