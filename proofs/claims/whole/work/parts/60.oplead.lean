/-! lead: both go on alike. -/
theorem il_ld {n L : Int} {Z Z2 Zm Zm2 : Nat → Int} {row row2 rank rank2 : Nat → Nat → Int} {lof lof2 : Nat → Int} {l s : Nat} (h : i_line n L Z Zm row rank lof) (hl : (l : Int) < L) (hL : L ≤ 6) (hs : (s : Int) < n) (hn : n ≤ 10) (hz : Z l < 10) (nr : rank l s = -1)
    (z2 : ∀ j, Z2 j = if j = l then Z l + 1 else Z j) (m2 : ∀ j, Zm2 j = if j = l then Zm l + 1 else Zm j) (r2 : ∀ k j, row2 k j = if k = l ∧ j = (Z l).toNat then (s : Int) else row k j) (k2 : ∀ k j, rank2 k j = if k = l ∧ j = s then Z l else rank k j) (l2 : ∀ k, lof2 k = if k = 10 * l + (Z l).toNat then (s : Int) else lof k) : i_line n L Z2 Zm2 row2 rank2 lof2 := by
  obtain ⟨h1, h2, h3⟩ := h
  have q := h1 l hl
  refine ⟨fun k hk => ?_, fun k hk hkL => ?_, fun k t hk ht => ?_⟩
  · have qk := h1 k hk
    rw [z2, m2]
    by_cases c : k = l
    · subst c
      rw [if_pos rfl, if_pos rfl]
      refine ⟨by omega, by omega, by omega, fun i hi => ?_⟩
      rw [r2, l2]
      by_cases e : i = (Z k).toNat
      · subst e
        rw [if_pos ⟨rfl, rfl⟩, if_pos rfl, Int.toNat_natCast, k2, if_pos ⟨rfl, rfl⟩]
        refine ⟨by omega, hs, rfl, by omega⟩
      · rw [if_neg (fun z => e z.2), if_neg (by omega)]
        have qi := q.2.2.2 i (by omega)
        refine ⟨qi.1, qi.2.1, qi.2.2.1, ?_⟩
        rw [k2, if_neg (fun z => ?_)]
        · exact qi.2.2.2
        · have := qi.2.2.2
          rw [z.2, nr] at this
          omega
    · rw [if_neg c, if_neg c]
      refine ⟨qk.1, qk.2.1, qk.2.2.1, fun i hi => ?_⟩
      have qi := qk.2.2.2 i hi
      rw [r2, if_neg (fun z => c z.1), l2, if_neg (by omega), k2, if_neg (fun z => c z.1)]
      exact qi
  · rw [z2, if_neg (by omega)]
    exact h2 k hk hkL
  · rw [k2, z2]
    by_cases c : k = l
    · subst c
      rw [if_pos rfl]
      by_cases e : t = s
      · rw [if_pos ⟨rfl, e⟩]
        right
        refine ⟨by omega, by omega, ?_⟩
        rw [r2, if_pos ⟨rfl, rfl⟩, e]
      · rw [if_neg (fun z => e z.2)]
        rcases h3 k t hk ht with z | ⟨z1, z3, z4⟩
        · exact Or.inl z
        · right
          refine ⟨z1, by omega, ?_⟩
          rw [r2, if_neg (by omega)]
          exact z4
    · rw [if_neg (fun z => c z.1), if_neg c]
      rcases h3 k t hk ht with z | ⟨z1, z3, z4⟩
      · exact Or.inl z
      · right
        refine ⟨z1, z3, ?_⟩
        rw [r2, if_neg (fun z => c z.1)]
        exact z4
theorem led_ld {L : Int} {Z Z2 : Nat → Int} {row row2 : Nat → Nat → Int} {l s : Nat} (hl : (l : Int) < L) (hz : 0 ≤ Z l)
    (z2 : ∀ j, Z2 j = if j = l then Z l + 1 else Z j) (r2 : ∀ k j, row2 k j = if k = l ∧ j = (Z l).toNat then (s : Int) else row k j) (x y : Nat) : i_led L Z2 row2 x y ↔ i_led L Z row x y ∨ (0 < Z l ∧ (((x : Int) = row l (Z l - 1).toNat ∧ y = s) ∨ (x = s ∧ (y : Int) = row l (Z l - 1).toNat))) := by
  constructor
  · rintro ⟨k, i, hk, hi, hh⟩
    rw [z2] at hi
    rw [r2, r2] at hh
    by_cases c : k = l
    · subst c
      rw [if_pos rfl] at hi
      rw [if_neg (show ¬ (k = k ∧ i = (Z k).toNat) by omega)] at hh
      by_cases e : i + 1 = (Z k).toNat
      · rw [if_pos ⟨rfl, e⟩] at hh
        right
        rw [show (Z k - 1).toNat = i by omega]
        refine ⟨by omega, ?_⟩
        omega
      · rw [if_neg (fun z => e z.2)] at hh
        exact Or.inl ⟨k, i, hk, by omega, hh⟩
    · rw [if_neg c] at hi
      rw [if_neg (fun z => c z.1), if_neg (fun z => c z.1)] at hh
      exact Or.inl ⟨k, i, hk, hi, hh⟩
  · rintro (⟨k, i, hk, hi, hh⟩ | ⟨pz, hh⟩)
    · refine ⟨k, i, hk, ?_, ?_⟩
      · rw [z2]
        split
        · rename_i e
          subst e
          omega
        · exact hi
      · have n1 : ¬ (k = l ∧ i = (Z l).toNat) := fun z => by
          rw [z.1] at hi
          omega
        have n2 : ¬ (k = l ∧ i + 1 = (Z l).toNat) := fun z => by
          rw [z.1] at hi
          omega
        rw [r2, r2, if_neg n1, if_neg n2]
        exact hh
    · refine ⟨l, (Z l - 1).toNat, hl, ?_, ?_⟩
      · rw [z2, if_pos rfl]
        omega
      · rw [r2, r2, if_neg (by omega), if_pos ⟨rfl, by omega⟩]
        omega
theorem led_row {n L : Int} {Z Zm : Nat → Int} {row rank : Nat → Nat → Int} {lof : Nat → Int} (h : i_line n L Z Zm row rank lof) (x y : Nat) : i_led L Zm (fun l i => lof (10 * l + i)) x y ↔ i_led L Z row x y := by
  constructor
  · rintro ⟨l, i, hl, hi, z⟩
    have q1 := h.1 l hl
    have q2 := q1.2.2.2 i (by omega)
    have q3 := q1.2.2.2 (i + 1) (by omega)
    refine ⟨l, i, hl, by omega, ?_⟩
    rw [← q2.2.2.1, ← q3.2.2.1]
    exact z
  · rintro ⟨l, i, hl, hi, z⟩
    have q1 := h.1 l hl
    have q2 := q1.2.2.2 i (by omega)
    have q3 := q1.2.2.2 (i + 1) (by omega)
    refine ⟨l, i, hl, by omega, ?_⟩
    show (lof (10 * l + i) = _ ∧ lof (10 * l + (i + 1)) = _) ∨ (lof (10 * l + i) = _ ∧ lof (10 * l + (i + 1)) = _)
    rw [q2.2.2.1, q3.2.2.1]
    exact z
theorem zz_CE_pair {S : qq_S} (h : zz_CE S) {a b : Nat} (hab : a < b) (hb : (b : Int) < S 4 0) : (¬ S (37 + 1 + a) b = -1) ↔ ∃ e : Nat, (e : Int) < S 4 2 ∧ S 22 e = a ∧ S 23 e = b := by
  have b1 := h.1
  constructor
  · intro hn
    rcases h.2.2.2.2.2.1 a b (by omega) (by omega) with z | ⟨z1, z2, z3⟩
    · exact absurd z hn
    · have q := h.2.2.2.2.1 (S (37 + 1 + a) b).toNat (by omega)
      refine ⟨(S (37 + 1 + a) b).toNat, by omega, by omega, by omega⟩
  · rintro ⟨e, he, e1, e2⟩
    have q := h.2.2.2.2.1 e he
    rw [e1, e2, Int.toNat_natCast, Int.toNat_natCast] at q
    omega
theorem o_lead {xs : List Int32} (hxs : xs.length ≤ 2048) (S : qq_S) (a b : Int) (ha : qq_in a) (hb : qq_in b) (hI : inv S) : qq_op xs 29 87 119 [.inl a, .inl b] S := by
  have hN := inv_N hI
  have gb := hN.1.1
  have gn := zz_N_nb hN
  have gm := zz_N_ml hN
  have L0 := hN.2.1
  obtain ⟨S1, E1, LD⟩ := f87 hxs 0 S a b ha hb hN
  -- the reference's own cells are as they were
  have cells : (∀ c : Nat, 115 ≤ c → S1 c = S c) ∧ S1 4 0 = S 4 0 := by
    rcases LD with ⟨-, e⟩ | ⟨hc, -, -, -, T, X, e⟩
    · exact ⟨fun c hc => by rw [e, qq_ueq (by omega)], by rw [e, qq_un' (by decide)]⟩
    · have hc1 := hc.1
      exact ⟨fun c hc => by rw [e, qq_ueq (by omega)]; exact X.2.1 c (by omega), by rw [e, qq_un' (by decide)]; exact X.2.2.1 0 (by decide)⟩
  have c115 := cells.1 115 (by omega)
  have c118 := cells.1 118 (by omega)
  have c119 := cells.1 119 (by omega)
  have mcc : zz_mcc S1 a b ↔ zz_lc S a b := by
    unfold zz_mcc zz_lc
    rw [c115]
    omega
  have mfd : zz_lc S a b → (zz_mfd S1 a b ↔ ¬ S (15 + 1 + a.toNat) b.toNat = -1) := fun hc => by
    have hc1 := hc.1
    have hc2 := hc.2
    have q := L0.1 a.toNat (by omega)
    have q3 := L0.2.2 a.toNat b.toNat (by omega) (by omega)
    rw [qq_R_at (show a.toNat < 6 by omega), qq_R_at (show a.toNat < 6 by omega)] at q3
    unfold zz_mfd
    rw [c118, c119, show 15 + 1 + a.toNat = 16 + a.toNat by omega]
    constructor
    · rintro ⟨i, hi, z⟩ w
      have q2 := q.2.2.2 i (by omega)
      rw [qq_R_at (show a.toNat < 6 by omega), qq_R_at (show a.toNat < 6 by omega)] at q2
      have : S (9 + a.toNat) i = b := by rw [← z]; exact q2.2.2.1.symm
      have := q2.2.2.2
      rw [show (S (9 + a.toNat) i).toNat = b.toNat by omega, w] at this
      omega
    · intro w
      rcases q3 with z | ⟨z1, z2, z3⟩
      · exact absurd z w
      · have q2 := q.2.2.2 (S (16 + a.toNat) b.toNat).toNat (by omega)
        rw [qq_R_at (show a.toNat < 6 by omega)] at q2
        refine ⟨(S (16 + a.toNat) b.toNat).toNat, by omega, ?_⟩
        rw [q2.2.2.1, z3]
        omega
  have sz : zz_lc S a b → S1 118 a.toNat = S 7 a.toNat := fun hc => by
    have hc1 := hc.1
    rw [c118]
    exact (L0.1 a.toNat (by omega)).2.2.1
  have er : zz_mlr S1 a b = zz_ldr S a b := by
    by_cases c : zz_lc S a b
    · have q := (L0.1 a.toNat (by have := c.1; omega))
      unfold zz_ldr
      rw [if_neg (show ¬ ¬ ((0 ≤ a ∧ a < S 4 1) ∧ (0 ≤ b ∧ b < S 4 0)) from not_not_intro c)]
      by_cases c2 : S (15 + 1 + a.toNat) b.toNat = -1
      · rw [if_neg (not_not_intro c2)]
        have nf : ¬ zz_mfd S1 a b := fun z => (mfd c).mp z c2
        by_cases c3 : S 7 a.toNat = 10
        · rw [zz_mlr5 (mcc.mpr c) nf (by rw [sz c]; exact c3), if_pos (by omega)]
        · rw [zz_mlr0 (mcc.mpr c) nf (by rw [sz c]; exact c3), if_neg (by omega), sz c]
      · rw [zz_mlr4 (mcc.mpr c) ((mfd c).mpr c2), if_pos c2]
    · rw [zz_mlr2 (fun z => c (mcc.mp z))]
      exact (if_pos c).symm
  have ml1 : zz_ml S1 := by
    unfold zz_ml at *
    rw [c115, c118, c119]
    exact gm
  have rb : -6 ≤ zz_ldr S a b ∧ zz_ldr S a b ≤ 20 := by
    unfold zz_ldr
    by_cases c : zz_lc S a b
    · have q := (L0.1 a.toNat (by have := c.1; omega))
      repeat' split
      all_goals omega
    · rw [if_pos (show ¬ ((0 ≤ a ∧ a < S 4 1) ∧ (0 ≤ b ∧ b < S 4 0)) from c)]
      omega
  rcases LD with ⟨neg, e⟩ | ⟨hc, nr, lt, er2, T, X, e⟩
  · have e2 := f119 hxs 0 S1 a b ⟨ha, hb, zz_p1 ml1, by rw [c115]; omega, zz_p1 (fun w1 w2 w3 => by
      have := zz_mlr0 w1 w2 w3
      have q := sz (mcc.mp w1)
      have q2 := L0.1 a.toNat (by have := (mcc.mp w1).1; omega)
      omega)⟩
    refine qq_op_of E1 e2 (by decide) (by decide) er (by unfold qq_in; omega) ?_
    unfold zz_mls
    rw [er, if_pos neg, e]
    obtain ⟨h1, h2, h3, h4, h5, h6, h7, h8, h9, h10, h11⟩ := hI
    unfold inv
    simp (decide := true) only [qq_un', qq_un2, qq_us, qq_ueq, qq_R_u, qq_usf]
    exact ⟨h1, h2, h3, h4, h5, h6, h7, h8, h9, h10, trivial, by unfold qq_in; omega⟩
  · obtain ⟨X1, X2, X3, X4, X5, X6, X7⟩ := X
    have hc1 := hc.1
    have hc2 := hc.2
    have eb : ((b.toNat : Nat) : Int) = b := by omega
    have q0 := L0.1 a.toNat (by omega)
    -- the lines, as they are now
    have uU118 : ∀ j : Nat, zz_mU S1 a b 118 j = if j = a.toNat then S 118 a.toNat + 1 else S 118 j := fun j => by
      unfold zz_mU
      rw [qq_uat, qq_ueq (by decide), c118]
    have uU119 : ∀ k : Nat, zz_mU S1 a b 119 k = if k = 10 * a.toNat + (S 7 a.toNat).toNat then ((b.toNat : Nat) : Int) else S 119 k := fun k => by
      unfold zz_mU
      rw [qq_ueq (by decide), qq_uat, c118, c119, show (10 * a + S 118 a.toNat).toNat = 10 * a.toNat + (S 7 a.toNat).toNat by omega, eb]
    have uUo : ∀ c : Nat, ¬ (c = 118 ∨ c = 119) → zz_mU S1 a b c = S1 c := fun c hc => by
      unfold zz_mU
      rw [qq_ueq (by omega), qq_ueq (by omega)]
    have sT : ∀ c : Nat, ¬ c = 3 → S1 c = T c := fun c hc => by rw [e, qq_ueq hc]
    have T4 : T 4 0 = S 4 0 ∧ T 4 1 = S 4 1 := ⟨X3 0 (by decide), X3 1 (by decide)⟩
    have rowT : ∀ k j : Nat, qq_R T 9 6 k j = if k = a.toNat ∧ j = (S 7 a.toNat).toNat then ((b.toNat : Nat) : Int) else qq_R S 9 6 k j := fun k j => by
      unfold qq_R
      by_cases k6 : k < 6
      · rw [if_pos k6, if_pos k6]
        by_cases c : k = a.toNat
        · subst c
          rw [show 9 + a.toNat = 8 + 1 + a.toNat by omega, X5]
          by_cases c2 : j = (S 7 a.toNat).toNat
          · rw [if_pos c2, if_pos ⟨rfl, c2⟩]
          · rw [if_neg c2, if_neg (fun z => c2 z.2)]
        · rw [if_neg (fun z => c z.1), X2 (9 + k) (by omega)]
      · rw [if_neg k6, if_neg k6, if_neg (by omega)]
    have rankT : ∀ k j : Nat, qq_R T 16 6 k j = if k = a.toNat ∧ j = b.toNat then S 7 a.toNat else qq_R S 16 6 k j := fun k j => by
      unfold qq_R
      by_cases k6 : k < 6
      · rw [if_pos k6, if_pos k6]
        by_cases c : k = a.toNat
        · subst c
          rw [show 16 + a.toNat = 15 + 1 + a.toNat by omega, X6]
          by_cases c2 : j = b.toNat
          · rw [if_pos c2, if_pos ⟨rfl, c2⟩]
          · rw [if_neg c2, if_neg (fun z => c2 z.2)]
        · rw [if_neg (fun z => c z.1), X2 (16 + k) (by omega)]
      · rw [if_neg k6, if_neg k6, if_neg (by omega)]
    have NL : i_line (S 4 0) (S 4 1) (T 7) (zz_mU S1 a b 118) (qq_R T 9 6) (qq_R T 16 6) (zz_mU S1 a b 119) := by
      refine il_ld (l := a.toNat) (s := b.toNat) L0 (by omega) (by omega) (by omega) (by omega) lt ?_ X4 (fun j => by rw [uU118]) rowT rankT uU119
      rw [qq_R_at (show a.toNat < 6 by omega), show 16 + a.toNat = 15 + 1 + a.toNat by omega]
      exact nr
    have led2 : ∀ x y : Nat, i_led (S 4 1) (T 7) (qq_R T 9 6) x y ↔ i_led (S 4 1) (S 7) (qq_R S 9 6) x y ∨ (0 < S 7 a.toNat ∧ (((x : Int) = S (8 + 1 + a.toNat) (S 7 a.toNat - 1).toNat ∧ y = b.toNat) ∨ (x = b.toNat ∧ (y : Int) = S (8 + 1 + a.toNat) (S 7 a.toNat - 1).toNat))) := fun x y => by
      rw [led_ld (l := a.toNat) (s := b.toNat) (by omega) q0.1 X4 rowT x y, qq_R_at (show a.toNat < 6 by omega), show 9 + a.toNat = 8 + 1 + a.toNat by omega]
    have eoS : ∀ x y : Nat, x < 10 → y < 10 → (¬ S (37 + 1 + x) y = -1 ↔ i_led (S 4 1) (S 7) (qq_R S 9 6) x y) := fun x y hx hy => by
      have q := hN.2.2.1.2.2.2.2 x y hx hy
      rw [qq_R_at hx, show 38 + x = 37 + 1 + x by omega] at q
      exact q
    have eoT : ∀ x y : Nat, x < 10 → y < 10 → (¬ T (37 + 1 + x) y = -1 ↔ i_led (S 4 1) (T 7) (qq_R T 9 6) x y) := fun x y hx hy => by
      rw [X7 x y hx hy, led2, eoS x y hx hy]
    have U1 : zz_mU S1 a b 115 1 = S 4 0 := by rw [uUo 115 (by omega), c115]; omega
    have U2 : zz_mU S1 a b 115 2 = S 4 1 := by rw [uUo 115 (by omega), c115]; omega
    have u4 : zz_mU S1 a b 4 = T 4 := by rw [uUo 4 (by omega), sT 4 (by omega)]
    have u22 : zz_mU S1 a b 22 = T 22 := by rw [uUo 22 (by omega), sT 22 (by omega)]
    have u23 : zz_mU S1 a b 23 = T 23 := by rw [uUo 23 (by omega), sT 23 (by omega)]
    have mlU : zz_ml (zz_mU S1 a b) := by
      refine ⟨by omega, fun l hl => ?_⟩
      have q := NL.1 l (by omega)
      refine ⟨by omega, by omega, fun i hi => ?_⟩
      have q2 := q.2.2.2 i (by omega)
      omega
    have fpU : zz_fp (zz_mU S1 a b) := by
      unfold zz_fp
      rw [u4, u22, u23, U1]
      refine ⟨by omega, X1.2.2.2.1, fun e he => ?_, X1.2.2.2.2.2.2.1, fun x y hxy hy => ?_⟩
      · have q := X1.2.2.2.2.1 e he
        exact ⟨q.1, q.2.1, q.2.2.1⟩
      · unfold zz_mled
        rw [U2, led_row NL, ← eoT x y (by omega) (by omega)]
        exact zz_CE_pair X1 hxy hy
    have e2 := f119 hxs 0 S1 a b ⟨ha, hb, zz_p1 ml1, by rw [c115]; omega, zz_p1 (fun _ _ _ => ⟨mlU, fpU⟩)⟩
    refine qq_op_of E1 e2 (by decide) (by decide) er (by unfold qq_in; omega) ?_
    have es : zz_mls S1 a b = qq_u (zz_fd (zz_mU S1 a b)) 115 0 0 := by
      unfold zz_mls
      rw [er, if_neg (by omega)]
    rw [es]
    -- the cells of the end
    have fo : ∀ c : Nat, ¬ (c = 115 ∨ c = 118 ∨ c = 119 ∨ c = 120 ∨ c = 121) → qq_u (zz_fd (zz_mU S1 a b)) 115 0 0 c = S1 c := fun c hc => by
      rw [qq_ueq (by omega)]
      funext j
      unfold zz_fd
      rw [if_neg (by omega), if_neg (by omega), if_neg (by omega), uUo c (by omega)]
    have f118 : qq_u (zz_fd (zz_mU S1 a b)) 115 0 0 118 = zz_mU S1 a b 118 := by
      rw [qq_ueq (by decide)]
      funext j
      unfold zz_fd
      rw [if_neg (by omega), if_neg (by omega), if_neg (by omega)]
    have f119 : qq_u (zz_fd (zz_mU S1 a b)) 115 0 0 119 = zz_mU S1 a b 119 := by
      rw [qq_ueq (by decide)]
      funext j
      unfold zz_fd
      rw [if_neg (by omega), if_neg (by omega), if_neg (by omega)]
    have f115 : ∀ j : Nat, ¬ (j = 0 ∨ j = 3) → qq_u (zz_fd (zz_mU S1 a b)) 115 0 0 115 j = S 115 j := fun j hj => by
      rw [qq_un (Or.inr (by omega))]
      unfold zz_fd
      rw [if_neg (by omega), if_neg (by omega), if_neg (by omega), uUo 115 (by omega), c115]
    have f3 : qq_u (zz_fd (zz_mU S1 a b)) 115 0 0 115 3 = T 4 2 := by
      rw [qq_un (Or.inr (by omega))]
      unfold zz_fd
      rw [if_neg (by omega), if_neg (by omega), if_pos ⟨rfl, rfl⟩, u4]
    have f120 : ∀ j : Nat, (j : Int) < T 4 2 → qq_u (zz_fd (zz_mU S1 a b)) 115 0 0 120 j = T 22 j ∧ qq_u (zz_fd (zz_mU S1 a b)) 115 0 0 121 j = T 23 j := fun j hj => by
      rw [qq_un' (by decide), qq_un' (by decide)]
      unfold zz_fd
      rw [if_pos ⟨rfl, by rw [u4]; exact hj⟩, if_neg (by omega), if_pos ⟨rfl, by rw [u4]; exact hj⟩, u22, u23]
      exact ⟨rfl, rfl⟩
    have f00 : qq_u (zz_fd (zz_mU S1 a b)) 115 0 0 115 0 = 0 := qq_us
    generalize qq_u (zz_fd (zz_mU S1 a b)) 115 0 0 = V at *
    have vT : ∀ c : Nat, ¬ (c = 3 ∨ c = 115 ∨ c = 118 ∨ c = 119 ∨ c = 120 ∨ c = 121) → V c = T c := fun c hc => by rw [fo c (by omega), sT c (by omega)]
    have vS : ∀ c : Nat, ¬ (c = 3 ∨ c = 4 ∨ c = 7 ∨ (9 ≤ c ∧ c < 15) ∨ (16 ≤ c ∧ c < 48) ∨ c = 115 ∨ c = 118 ∨ c = 119 ∨ c = 120 ∨ c = 121) → V c = S c := fun c hc => by rw [vT c (by omega)]; exact X2 c (by omega)
    have rR : ∀ b0 n0 : Nat, 5 ≤ b0 ∧ b0 + n0 ≤ 48 → qq_R V b0 n0 = qq_R T b0 n0 := fun b0 n0 hb0 => by
      funext l
      unfold qq_R
      split
      · rw [vT _ (by omega)]
      · rfl
    have v40 : V 4 0 = S 4 0 := by rw [vT 4 (by omega)]; exact T4.1
    have v41 : V 4 1 = S 4 1 := by rw [vT 4 (by omega)]; exact T4.2
    have v42 : V 4 2 = T 4 2 := by rw [vT 4 (by omega)]
    have v39 : V 3 9 = 0 := by rw [fo 3 (by omega), e, qq_us]
    obtain ⟨h1, h2, h3, h4, h5, h6, h7, h8, h9, h10, h11⟩ := hI
    unfold inv
    rw [v40, v41, v42, v39, f00, f3, f118, f119, f115 1 (by omega), f115 2 (by omega), f115 12 (by omega), f115 13 (by omega), f115 14 (by omega), f115 15 (by omega), f115 16 (by omega), f115 17 (by omega), f115 26 (by omega), rR 9 6 (by omega), rR 16 6 (by omega), rR 38 10 (by omega), rR 27 10 (by omega), vT 7 (by omega), vT 22 (by omega), vT 23 (by omega), vT 24 (by omega), vT 25 (by omega), vS 5 (by omega), vS 6 (by omega), vS 48 (by omega), vS 49 (by omega), vS 50 (by omega), vS 51 (by omega), vS 52 (by omega), vS 95 (by omega), vS 96 (by omega), vS 97 (by omega), vS 102 (by omega), vS 103 (by omega), vS 104 (by omega), vS 105 (by omega), vS 106 (by omega), vS 107 (by omega), vS 108 (by omega), vS 109 (by omega), vS 110 (by omega), vS 111 (by omega), vS 112 (by omega), vS 113 (by omega), vS 114 (by omega), vS 116 (by omega), vS 117 (by omega), vS 123 (by omega), vS 124 (by omega), vS 125 (by omega), vS 130 (by omega), vS 131 (by omega), vS 132 (by omega), vS 133 (by omega)]
    have t5 : T 5 = S 5 := X2 5 (by omega)
    have t6 : T 6 = S 6 := X2 6 (by omega)
    have rr : ∀ x : Nat, x < 10 → qq_R T 38 10 x = T (37 + 1 + x) := fun x hx => by rw [qq_R_at hx, show 38 + x = 37 + 1 + x by omega]
    refine ⟨h1, NL, ⟨⟨X1.2.2.2.1.1, X1.2.2.2.1.2, rfl⟩, fun e he => ?_, fun x y hx hy => ?_, X1.2.2.2.2.2.2.1, fun x y hx hy => ?_⟩, fun s hs => ?_, h5, h6, h7, h8, h9, h10, rfl, by unfold qq_in; omega⟩
    · have q := X1.2.2.2.2.1 e he
      have w := f120 e he
      rw [t5, t6, T4.1] at q
      rw [w.1, w.2, rr _ (by omega), rr _ (by omega)]
      exact ⟨q.1, q.2.1, q.2.2.1, rfl, rfl, q.2.2.2.1, q.2.2.2.2.1, q.2.2.2.2.2⟩
    · rw [rr x hx]
      exact X1.2.2.2.2.2.1 x y hx hy
    · rw [rr x hx]
      exact eoT x y hx hy
    · have q := X1.2.2.2.2.2.2.2 s hs
      rw [t5, t6, T4.1] at q
      rw [rr s hs, qq_R_at hs, show 27 + s = 26 + 1 + s by omega]
      exact q
