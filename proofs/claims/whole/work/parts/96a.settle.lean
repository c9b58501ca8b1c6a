/-! settle: station by station the lowest point. -/
def yy_CdF (S : qq_S) (F : Nat → Int) (Q : Nat → Int) : Prop := (∀ t : Nat, (t : Int) < S 4 0 → 0 ≤ Q t ∧ Q t < S 56 0 * S 56 1 ∧ (F t = -1 ∨ F t = Q t)) ∧ zz_al S (fun t => Q t % S 56 0) (fun t => Q t / S 56 0) ∧ (S 55 12 = 0 → 0 < S 4 0 → yy_fls (S 4 0) (fun t => Q t % S 56 0) (fun t => Q t / S 56 0))
/-- the search's ground: all but order and limits -/
def yy_G (S : qq_S) : Prop := zz_N S ∧ S 4 0 ≤ 5 ∧ (2 ≤ S 56 0 ∧ S 56 0 ≤ 8 ∧ 2 ≤ S 56 1 ∧ S 56 1 ≤ 8 ∧ S 56 0 * S 56 1 ≤ 25) ∧ yy_T S (S 56 0) (S 56 1) ∧ (∀ t : Nat, (t : Int) < S 4 0 → S 87 t = -1 ∨ (0 ≤ S 87 t ∧ S 87 t < S 56 0 * S 56 1)) ∧ (S 55 12 = 0 ∨ S 55 12 = 1) ∧ (0 ≤ S 52 0 ∧ S 52 0 ≤ 100 ∧ 0 ≤ S 52 1 ∧ S 52 1 ≤ 100 ∧ 0 ≤ S 52 2 ∧ S 52 2 ≤ 100 ∧ 1 ≤ S 52 3 ∧ S 52 3 ≤ 4) ∧ (∀ t : Nat, t < 10 → S 57 t = -1 ∧ S 58 t = -1)
/-- T differs from S in the search's own rows alone -/
def yy_fs (S T : qq_S) : Prop := (∀ a : Nat, ¬ a = 55 → ¬ (87 ≤ a ∧ a ≤ 91) → T a = S a) ∧ (∀ j : Nat, ¬ j = 13 → ¬ j = 14 → T 55 j = S 55 j)
theorem yy_fs0 (S : qq_S) : yy_fs S S := ⟨fun _ _ _ => rfl, fun _ _ _ => rfl⟩
theorem yy_fs_t {S T U : qq_S} (h : yy_fs S T) (g : yy_fs T U) : yy_fs S U := ⟨fun a h1 h2 => by rw [g.1 a h1 h2, h.1 a h1 h2], fun j h1 h2 => by rw [g.2 j h1 h2, h.2 j h1 h2]⟩
theorem yy_fs_n {S T : qq_S} (h : yy_fs S T) : ∀ a : Nat, 4 ≤ a → a < 48 → T a = S a := fun a h1 h2 => h.1 a (by omega) (by omega)
theorem yy_G_fs {S T : qq_S} (h : yy_fs S T) (hf : ∀ t : Nat, (t : Int) < S 4 0 → T 87 t = -1 ∨ (0 ≤ T 87 t ∧ T 87 t < S 56 0 * S 56 1)) (c : yy_G S) : yy_G T := by
  obtain ⟨c1, c2, c3, c4, c7, c8, c9, c10⟩ := c
  have f4 : T 4 = S 4 := h.1 4 (by omega) (by omega)
  have f52 : T 52 = S 52 := h.1 52 (by omega) (by omega)
  have f56 : T 56 = S 56 := h.1 56 (by omega) (by omega)
  have f57 : T 57 = S 57 := h.1 57 (by omega) (by omega)
  have f58 : T 58 = S 58 := h.1 58 (by omega) (by omega)
  have f60 : T 60 = S 60 := h.1 60 (by omega) (by omega)
  refine ⟨zz_N_c ⟨fun a ha => h.1 a (by omega) (by omega), fun j _ _ => by rw [h.1 115 (by omega) (by omega)]⟩ c1, by rw [f4]; exact c2, by rw [f56]; exact c3, ?_, by rw [f4, f56]; exact hf, by rw [h.2 12 (by omega) (by omega)]; exact c8, by rw [f52]; exact c9, by rw [f57, f58]; exact c10⟩
  rw [f56]
  intro p hp
  have q := c4 p hp
  unfold yy_tb at q ⊢
  rw [f52, f60, h.1 (61 + 1 + p) (by omega) (by omega)]
  exact q
theorem yy_CdF_fs {S T : qq_S} (h : yy_fs S T) (hN : zz_N S) {F Q : Nat → Int} : yy_CdF T F Q ↔ yy_CdF S F Q := by
  have gb := hN.1.1
  unfold yy_CdF
  rw [h.1 4 (by omega) (by omega), h.1 56 (by omega) (by omega), h.2 12 (by omega) (by omega), zz_al_c (yy_fs_n h) (by rw [h.1 52 (by omega) (by omega)]) (by omega)]
theorem yy_cq_fs {S T : qq_S} (h : yy_fs S T) (hN : zz_N S) {Q : Nat → Int} : yy_cq T Q = yy_cq S Q := by
  have gb := hN.1.1
  unfold yy_cq
  rw [h.1 56 (by omega) (by omega), zz_cst_c (yy_fs_n h) (h.1 52 (by omega) (by omega)) (by omega)]
/-- an empty trial -/
theorem yy_I0 {S : qq_S} (g : yy_G S) : yy_I S 0 0 0 := by
  obtain ⟨c1, c2, c3, c4, c7, c8, c9, c10⟩ := g
  have gb := c1.1.1
  have gn := zz_N_nb c1
  have un : ∀ t : Nat, (t : Int) < S 4 0 → S 57 t = -1 := fun t ht => (c10 t (by omega)).1
  have nd : ∀ e : Nat, (e : Int) < S 4 2 → ¬ zz_dn (S 57) (S 22) (S 23) e := fun e he z => by
    have := gn.2.1 e he
    exact z.1 (un _ (by omega))
  refine ⟨⟨c3, fun t ht => Or.inl (c10 t ht)⟩, fun t ht => ⟨fun z => absurd (un t ht) z, fun ⟨j, j1, _⟩ => by omega⟩, fun t ht pt => absurd (un t ht) pt, ⟨fun a b ha _ _ pa => absurd (un a ha) pa, fun e he hd => absurd hd (nd e he), fun e t he hd => absurd hd (nd e he), fun e f he _ hd => absurd hd (nd e he), fun t ht pt => absurd (un t ht) pt⟩, ?_, fun r => ⟨fun z => absurd z zz_bit_0, fun ⟨_, z⟩ => ?_⟩, fun e1 e2 _ => by omega⟩
  · have e1 : yy_eS S (S 57) (yy_g S (S 57) (S 58)) = 0 := zz_sum_z0 (fun e he => by
      rw [zz_p0 (nd e (by omega)), if_neg (by decide)])
    have e2 : yy_bS S (S 57) (S 58) = 0 := zz_sum_z0 (fun l hl => zz_sum_z0 (fun k hk => by
      have n1 := gn.2.2.2 l (by omega)
      have r0 := n1.2.2.1 k (by omega)
      rw [zz_p0 (fun z => z.1 (un _ (by omega))), if_neg (by decide)]))
    unfold yy_pc
    rw [e1, e2]
    omega
  · exfalso
    rcases z with ⟨t, t1, t2, _⟩ | ⟨e, he, hd, _⟩
    · exact t2 (un t t1)
    · exact nd e he hd
/-- settled up to s -/
def yy_J (S : qq_S) (F : Nat → Int) (s : Int) (c : Int) : Prop := (∀ t : Nat, (t : Int) < S 4 0 → ((t : Int) < s → S 87 t = S 88 t) ∧ (s ≤ t → S 87 t = F t)) ∧ yy_CdF S F (S 88) ∧ yy_cq S (S 88) = c ∧ (∀ Q, yy_CdF S F Q → c ≤ yy_cq S Q) ∧ (∀ Q, yy_CdF S F Q → yy_cq S Q = c → ∀ k : Nat, (k : Int) < s → (∀ j : Nat, j < k → Q j = S 88 j) → ¬ Q k < S 88 k)
theorem yy_CdF_q {S : qq_S} (hN : zz_N S) {F Q P : Nat → Int} (h : ∀ t : Nat, (t : Int) < S 4 0 → P t = Q t) (hc : yy_CdF S F Q) : yy_CdF S F P := by
  refine ⟨fun t ht => by rw [h t ht]; exact hc.1 t ht, yy_al_q hN (fun t ht => by rw [h t ht]; exact ⟨rfl, rfl⟩) hc.2.1, fun e1 e2 => ?_⟩
  obtain ⟨⟨t, t1, t2⟩, ⟨u, u1, u2⟩⟩ := hc.2.2 e1 e2
  exact ⟨⟨t, t1, by show P t % S 56 0 = 0; rw [h t t1]; exact t2⟩, ⟨u, u1, by show P u / S 56 0 = 0; rw [h u u1]; exact u2⟩⟩
/-- the ground with an order is what descend asks -/
theorem yy_G_C {S : qq_S} (g : yy_G S) (hO : yy_ord S) (hR : yy_rst S) (he : 0 ≤ S 55 14 ∧ S 55 14 ≤ 1000000) : yy_C S := by
  obtain ⟨c1, c2, c3, c4, c7, c8, c9, c10⟩ := g
  exact ⟨c1, c2, c3, c4, hO, hR, c7, c8, c9, he⟩
theorem yy_ex0 {S : qq_S} (g : yy_G S) (Q : Nat → Int) : yy_ex S Q := fun t ht pt => by
  have := g.1.1.1
  exact absurd ((g.2.2.2.2.2.2.2 t (by omega)).1) pt
/-- settled: a held one, or one that is found at the lowest -/
theorem yy_J_held {S : qq_S} {F : Nat → Int} {s c : Int} (j : yy_J S F s c) (hs : 0 ≤ s ∧ s < S 4 0) (h : ¬ S 87 s.toNat = -1) : yy_J S F (s + 1) c := by
  obtain ⟨j1, j2, j3, j4, j5⟩ := j
  have ks := (j1 s.toNat (by omega)).2 (by omega)
  have kp := (j2.1 s.toNat (by omega)).2.2
  refine ⟨fun t ht => ⟨fun h1 => ?_, fun h1 => (j1 t ht).2 (by omega)⟩, j2, j3, j4, fun Q a b k h1 h2 h3 => ?_⟩
  · by_cases e : t = s.toNat
    · rw [e, ks]
      rw [ks] at h
      exact kp.resolve_left h
    · exact (j1 t ht).1 (by omega)
  · by_cases e : k = s.toNat
    · have kq := (a.1 s.toNat (by omega)).2.2
      rw [ks] at h
      have e1 := kq.resolve_left h
      have e2 := kp.resolve_left h
      rw [e] at h3
      omega
    · exact j5 Q a b k (by omega) h2 h3
/-- what stands of the state within settle -/
def yy_K (S T : qq_S) (F : Nat → Int) (s c p : Int) : Prop := yy_fs S T ∧ yy_ord T ∧ yy_rst T ∧ T 55 14 = c ∧ (∀ t : Nat, (t : Int) < S 4 0 → T 88 t = S 88 t) ∧ (∀ t : Nat, ¬ t = s.toNat → T 87 t = S 87 t) ∧ (∀ Q, yy_CdF S F Q → yy_cq S Q = c → (∀ j : Nat, (j : Int) < s → Q j = S 88 j) → ¬ Q s.toNat < p)
theorem yy_K_end {S T : qq_S} {F : Nat → Int} {s c p : Int} (g : yy_G S) (j : yy_J S F s c) (hs : 0 ≤ s ∧ s < S 4 0) (k : yy_K S T F s c p) (hp : S 88 s.toNat ≤ p) : yy_J (qq_u T 87 s.toNat (T 88 s.toNat)) F (s + 1) c := by
  obtain ⟨j1, j2, j3, j4, j5⟩ := j
  obtain ⟨k1, k2, k3, k4, k5, k6, k7⟩ := k
  have hN := g.1
  have gb := hN.1.1
  have fs : yy_fs S (qq_u T 87 s.toNat (T 88 s.toNat)) := ⟨fun a h1 h2 => by rw [qq_ueq (by omega)]; exact k1.1 a h1 h2, fun q h1 h2 => by rw [qq_ueq (by decide)]; exact k1.2 q h1 h2⟩
  have f4 : qq_u T 87 s.toNat (T 88 s.toNat) 4 = S 4 := fs.1 4 (by omega) (by omega)
  have f88 : ∀ t : Nat, (t : Int) < S 4 0 → qq_u T 87 s.toNat (T 88 s.toNat) 88 t = S 88 t := fun t ht => by rw [qq_ueq (by decide)]; exact k5 t ht
  have f87 : ∀ t : Nat, qq_u T 87 s.toNat (T 88 s.toNat) 87 t = if t = s.toNat then T 88 s.toNat else T 87 t := fun t => qq_uat
  unfold yy_J
  rw [f4]
  refine ⟨fun t ht => ⟨fun h1 => ?_, fun h1 => ?_⟩, (yy_CdF_fs fs hN).mpr (yy_CdF_q hN f88 j2), by rw [yy_cq_fs fs hN, yy_cq_q hN f88]; exact j3, fun Q a => by rw [yy_cq_fs fs hN]; exact j4 Q ((yy_CdF_fs fs hN).mp a), fun Q a b q h1 h2 h3 => ?_⟩
  · rw [f87, f88 t ht]
    by_cases e : t = s.toNat
    · rw [if_pos e, e]; exact k5 _ (by omega)
    · rw [if_neg e, k6 t e]; exact (j1 t ht).1 (by omega)
  · rw [f87, if_neg (by omega), k6 t (by omega)]; exact (j1 t ht).2 (by omega)
  · rw [f88 q (by omega)] at h3
    have h2 : ∀ j : Nat, j < q → Q j = S 88 j := fun j hj => by rw [h2 j hj]; exact f88 j (by omega)
    have a := (yy_CdF_fs fs hN).mp a
    rw [yy_cq_fs fs hN] at b
    by_cases e : q = s.toNat
    · rw [e] at h3 h2
      exact k7 Q a b (fun j hj => h2 j (by omega)) (by omega)
    · exact j5 Q a b q (by omega) h2 h3
/-- what descend tells with s fixed to p -/
theorem yy_K_go {S T M U : qq_S} {F : Nat → Int} {s c p r : Int} (g : yy_G S) (j : yy_J S F s c) (hs : 0 ≤ s ∧ s < S 4 0) (k : yy_K S T F s c p) (hp : 0 ≤ p ∧ p < S 88 s.toNat) (hu : S 87 s.toNat = -1) (m1 : yy_fs S M) (m2 : ∀ a : Nat, 88 ≤ a → a ≤ 91 → M a = T a) (m3 : M 87 s.toNat = p ∧ ∀ t : Nat, ¬ t = s.toNat → M 87 t = S 87 t) (m4 : M 55 13 = c + 1 ∧ M 55 14 = c) (po : yy_Po M U r) (hr : r = 0 ∨ r = 1) : (r = 1 → yy_J U F (s + 1) c) ∧ (r = 0 → yy_K S U F s c (p + 1)) ∧ yy_fs S U := by
  obtain ⟨j1, j2, j3, j4, j5⟩ := j
  obtain ⟨k1, k2, k3, k4, k5, k6, k7⟩ := k
  obtain ⟨p1, p2, p3, p4, p5, p6, p7⟩ := po
  have hN := g.1
  have gb := hN.1.1
  have pb := (j2.1 s.toNat (by omega)).2.1
  have f4 : M 4 = S 4 := m1.1 4 (by omega) (by omega)
  have fsU : yy_fs S U := ⟨fun a h1 h2 => by
    by_cases e57 : a = 57
    · rw [e57, p2]; exact m1.1 57 (by omega) (by omega)
    · by_cases e58 : a = 58
      · rw [e58, p3]; exact m1.1 58 (by omega) (by omega)
      · rw [p1.1 a h1 e57 e58 (by omega)]; exact m1.1 a h1 h2, fun q h1 h2 => by rw [p1.2 q h1]; exact m1.2 q h1 h2⟩
  have mG : yy_G M := yy_G_fs m1 (fun t ht => by
    by_cases e : t = s.toNat
    · rw [e, m3.1]; exact Or.inr (by omega)
    · rw [m3.2 t e]; exact g.2.2.2.2.1 t ht) g
  have mN := mG.1
  -- a candidate with the first ones as found and s at p
  have cand : ∀ Q, yy_CdF S F Q → (∀ j : Nat, (j : Int) < s → Q j = S 88 j) → Q s.toNat = p → yy_Cd M Q := fun Q a b e => by
    have aM := (yy_CdF_fs m1 hN).mpr a
    refine ⟨fun t ht => ⟨(aM.1 t ht).1, (aM.1 t ht).2.1, ?_⟩, aM.2.1, aM.2.2⟩
    rw [f4] at ht
    by_cases e1 : t = s.toNat
    · rw [e1, m3.1, e]; exact Or.inr rfl
    · rw [m3.2 t e1]
      by_cases e2 : (t : Int) < s
      · rw [(j1 t ht).1 e2, b t e2]; exact Or.inr rfl
      · rw [(j1 t ht).2 (by omega)]; exact (a.1 t ht).2.2
  have candF : ∀ Q, yy_Cd M Q → yy_CdF S F Q ∧ (∀ j : Nat, (j : Int) < s → Q j = S 88 j) ∧ Q s.toNat = p := fun Q a => by
    have key : ∀ t : Nat, (t : Int) < S 4 0 → (M 87 t = -1 ∨ M 87 t = Q t) := fun t ht => (a.1 t (by rw [f4]; exact ht)).2.2
    have q1 : ∀ j : Nat, (j : Int) < s → Q j = S 88 j := fun t ht => by
      have k9 := key t (by omega)
      rw [m3.2 t (by omega), (j1 t (by omega)).1 ht] at k9
      have := (j2.1 t (by omega)).1
      omega
    have q2 : Q s.toNat = p := by
      have k9 := key s.toNat (by omega)
      rw [m3.1] at k9
      omega
    refine ⟨(yy_CdF_fs m1 hN).mp ⟨fun t ht => ⟨(a.1 t ht).1, (a.1 t ht).2.1, ?_⟩, a.2.1, a.2.2⟩, q1, q2⟩
    rw [f4] at ht
    by_cases e1 : t = s.toNat
    · have := (j1 t ht).2 (by omega)
      rw [e1] at this ⊢
      rw [← this]; exact Or.inl hu
    · by_cases e2 : (t : Int) < s
      · rw [q1 t e2]; exact (j2.1 t ht).2.2
      · have k9 := key t ht
        rw [m3.2 t e1, (j1 t ht).2 (by omega)] at k9
        exact k9
  have f4U : U 4 = S 4 := fsU.1 4 (by omega) (by omega)
  refine ⟨fun e => ?_, fun e => ?_, fsU⟩
  · have q6 := p6 e
    rcases p5 with ⟨z, _⟩ | ⟨_, a, _, b⟩
    · omega
    · obtain ⟨aF, a1, a2⟩ := candF _ a
      have l1 := j4 _ aF
      rw [yy_cq_fs m1 hN] at b
      have ec : yy_cq S (U 88) = c := by omega
      have u87 : U 87 = M 87 := p1.1 87 (by omega) (by omega) (by omega) (by omega)
      unfold yy_J
      rw [f4U]
      refine ⟨fun t ht => ⟨fun h1 => ?_, fun h1 => ?_⟩, (yy_CdF_fs fsU hN).mpr aF, by rw [yy_cq_fs fsU hN]; exact ec, fun Q a9 => by rw [yy_cq_fs fsU hN]; exact j4 Q ((yy_CdF_fs fsU hN).mp a9), fun Q a9 b9 q h1 h2 h3 => ?_⟩
      · rw [u87]
        by_cases e1 : t = s.toNat
        · rw [e1, m3.1, a2]
        · rw [m3.2 t e1, a1 t (by omega)]; exact (j1 t ht).1 (by omega)
      · rw [u87, m3.2 t (by omega)]; exact (j1 t ht).2 (by omega)
      · have a9 := (yy_CdF_fs fsU hN).mp a9
        rw [yy_cq_fs fsU hN] at b9
        by_cases e1 : q = s.toNat
        · rw [e1] at h2 h3
          rw [a2] at h3
          exact k7 Q a9 b9 (fun j hj => by rw [h2 j (by omega)]; exact a1 j hj) h3
        · refine j5 Q a9 b9 q (by omega) (fun j hj => by rw [h2 j hj]; exact a1 j (by omega)) ?_
          rw [← a1 q (by omega)]; exact h3
  · have q7 := p7 e
    rw [m4.1, m4.2] at q7
    have u13 : U 55 13 = c + 1 := by
      have := p4
      rw [m4.1] at this
      omega
    have u88 : ∀ t : Nat, (t : Int) < S 4 0 → U 88 t = S 88 t := fun t ht => by
      rcases p5 with ⟨_, z⟩ | ⟨z, _⟩
      · rw [z t (by rw [f4]; exact ht), m2 88 (by omega) (by omega)]; exact k5 t ht
      · rw [m4.1] at z; omega
    have u89 : U 89 = T 89 := by rw [p1.1 89 (by omega) (by omega) (by omega) (by omega)]; exact m2 89 (by omega) (by omega)
    have u91 : U 91 = T 91 := by rw [p1.1 91 (by omega) (by omega) (by omega) (by omega)]; exact m2 91 (by omega) (by omega)
    have u4 : U 4 = T 4 := by rw [f4U, k1.1 4 (by omega) (by omega)]
    have u52 : U 52 = T 52 := by rw [fsU.1 52 (by omega) (by omega), k1.1 52 (by omega) (by omega)]
    have nUT : ∀ a : Nat, 4 ≤ a → a < 48 → U a = T a := fun a h1 h2 => by rw [yy_fs_n fsU a h1 h2, yy_fs_n k1 a h1 h2]
    have t4 : T 4 = S 4 := k1.1 4 (by omega) (by omega)
    refine ⟨fsU, ?_, ?_, ?_, u88, fun t ht => ?_, fun Q a b h1 h2 => ?_⟩
    · unfold yy_ord
      rw [u4, u89]; exact k2
    · unfold yy_rst
      rw [u4, u52, u91]
      refine ⟨k3.1, fun q hq => ?_⟩
      have oq := k2.1 q hq
      rw [yy_oc_c nUT u89 (by rw [t4] at oq; omega)]
      exact k3.2 q hq
    · rw [p1.2 14 (by omega)]; exact m4.2
    · rw [p1.1 87 (by omega) (by omega) (by omega) (by omega)]; exact m3.2 t ht
    · by_cases e9 : Q s.toNat = p
      · have := q7.1 Q (cand Q a h1 e9) (yy_ex0 mG Q)
        rw [yy_cq_fs m1 hN] at this
        omega
      · exact k7 Q a b h1 (by omega)
