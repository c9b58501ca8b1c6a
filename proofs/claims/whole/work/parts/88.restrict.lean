/-! Fewer neighbours of a true round are a true round. -/
theorem yy_rf_yes {pl : Nat → Prop} {dr : Nat → Int} {i : Nat} (h : pl i) : zz_rf pl dr (i + 1) = ((zz_rf pl dr i).1 + 1, (if (zz_rf pl dr i).1 = 0 then dr i else (zz_rf pl dr i).2.1), dr i, (if (zz_rf pl dr i).1 = 0 then (zz_rf pl dr i).2.2.2 else (zz_rf pl dr i).2.2.2 + qq_and (dr i - (zz_rf pl dr i).2.2.1) 7)) := if_pos h
theorem yy_rf_no {pl : Nat → Prop} {dr : Nat → Int} {i : Nat} (h : ¬ pl i) : zz_rf pl dr (i + 1) = zz_rf pl dr i := if_neg h
theorem yy_rfA {pl : Nat → Prop} {dr : Nat → Int} {n : Nat} (hb : ∀ j, j < n → pl j → 0 ≤ dr j ∧ dr j ≤ 7) (hd : ∀ j k, j < k → k < n → pl j → pl k → ¬ dr j = dr k) : ∀ i, i ≤ n → 0 ≤ (zz_rf pl dr i).1 ∧ 0 ≤ (zz_rf pl dr i).2.2.2 ∧ ((zz_rf pl dr i).1 = 0 → (zz_rf pl dr i).2.2.2 = 0) ∧ (0 < (zz_rf pl dr i).1 → (∃ j, j < i ∧ pl j ∧ (zz_rf pl dr i).2.1 = dr j) ∧ (∃ j, j < i ∧ pl j ∧ (zz_rf pl dr i).2.2.1 = dr j) ∧ 0 ≤ (zz_rf pl dr i).2.1 ∧ (zz_rf pl dr i).2.1 ≤ 7 ∧ 0 ≤ (zz_rf pl dr i).2.2.1 ∧ (zz_rf pl dr i).2.2.1 ≤ 7 ∧ ((zz_rf pl dr i).2.1 + (zz_rf pl dr i).2.2.2) % 8 = (zz_rf pl dr i).2.2.1) ∧ (2 ≤ (zz_rf pl dr i).1 → ¬ (zz_rf pl dr i).2.1 = (zz_rf pl dr i).2.2.1)
  | 0, _ => by simp [zz_rf]
  | i + 1, hi => by
    obtain ⟨a1, a2, a3, a4, a5⟩ := yy_rfA hb hd i (by omega)
    by_cases c : pl i
    · have b := hb i (by omega) c
      rw [yy_rf_yes c]
      generalize zz_rf pl dr i = A at *
      by_cases z : A.1 = 0
      · rw [if_pos z, if_pos z, a3 z]
        refine ⟨by show 0 ≤ A.1 + 1; omega, by show (0 : Int) ≤ 0; omega, fun _ => rfl, fun _ => ⟨⟨i, by omega, c, rfl⟩, ⟨i, by omega, c, rfl⟩, b.1, b.2, b.1, b.2, ?_⟩, fun w => ?_⟩
        · show (dr i + 0) % 8 = dr i
          omega
        · have w : 2 ≤ A.1 + 1 := w
          omega
      · rw [if_neg z, if_neg z]
        obtain ⟨⟨j, hj, pj, ej⟩, ⟨k, hk, pk, ek⟩, c1, c2, c3, c4, c5⟩ := a4 (by omega)
        have e7 := zz_and7 (dr i - A.2.2.1) (by omega)
        rw [e7]
        refine ⟨by show 0 ≤ A.1 + 1; omega, by show 0 ≤ A.2.2.2 + (dr i - A.2.2.1) % 8; omega, fun w => ?_, fun _ => ⟨⟨j, by omega, pj, ej⟩, ⟨i, by omega, c, rfl⟩, c1, c2, b.1, b.2, ?_⟩, fun _ w => ?_⟩
        · have w : A.1 + 1 = 0 := w
          omega
        · show (A.2.1 + (A.2.2.2 + (dr i - A.2.2.1) % 8)) % 8 = dr i
          omega
        · have w : A.2.1 = dr i := w
          rw [ej] at w
          exact hd j i hj (by omega) pj c w
    · rw [yy_rf_no c]
      refine ⟨a1, a2, a3, fun z => ?_, a5⟩
      obtain ⟨⟨j, hj, pj, ej⟩, ⟨k, hk, pk, ek⟩, c5⟩ := a4 z
      exact ⟨⟨j, by omega, pj, ej⟩, ⟨k, by omega, pk, ek⟩, c5⟩
theorem yy_rf_mono {pl : Nat → Prop} {dr : Nat → Int} {n : Nat} (hb : ∀ j, j < n → pl j → 0 ≤ dr j ∧ dr j ≤ 7) (hd : ∀ j k, j < k → k < n → pl j → pl k → ¬ dr j = dr k) {i : Nat} : ∀ m, i + m ≤ n → (zz_rf pl dr i).2.2.2 ≤ (zz_rf pl dr (i + m)).2.2.2
  | 0, _ => Int.le_refl _
  | m + 1, hm => by
    have ih := yy_rf_mono hb hd (i := i) m (by omega)
    have a := yy_rfA hb hd (i + m) (by omega)
    rw [show i + (m + 1) = i + m + 1 by omega]
    by_cases c : pl (i + m)
    · have b := hb (i + m) (by omega) c
      rw [yy_rf_yes c]
      by_cases z : (zz_rf pl dr (i + m)).1 = 0
      · rw [if_pos z, if_pos z]; exact ih
      · rw [if_neg z, if_neg z]
        obtain ⟨_, _, c1, c2, c3, c4, c5⟩ := a.2.2.2.1 (by omega)
        have e7 := zz_and7 (dr (i + m) - (zz_rf pl dr (i + m)).2.2.1) (by omega)
        show _ ≤ (zz_rf pl dr (i + m)).2.2.2 + qq_and (dr (i + m) - (zz_rf pl dr (i + m)).2.2.1) 7
        omega
    · rw [yy_rf_no c]; exact ih
theorem yy_rfB {pl ql : Nat → Prop} {dr : Nat → Int} {n : Nat} (sub : ∀ j, j < n → ql j → pl j) (hb : ∀ j, j < n → pl j → 0 ≤ dr j ∧ dr j ≤ 7) (hd : ∀ j k, j < k → k < n → pl j → pl k → ¬ dr j = dr k) (h7 : (zz_rf pl dr n).2.2.2 ≤ 7) : ∀ i, i ≤ n → 0 ≤ (zz_rf ql dr i).1 ∧ (zz_rf ql dr i).1 ≤ (zz_rf pl dr i).1 ∧ ((zz_rf ql dr i).1 = 0 → (zz_rf ql dr i).2.2.2 = 0) ∧ (0 < (zz_rf ql dr i).1 → ∃ a b : Int, 0 ≤ a ∧ a ≤ b ∧ b ≤ (zz_rf pl dr i).2.2.2 ∧ ((zz_rf pl dr i).2.1 + a) % 8 = (zz_rf ql dr i).2.1 ∧ ((zz_rf pl dr i).2.1 + b) % 8 = (zz_rf ql dr i).2.2.1 ∧ (zz_rf ql dr i).2.2.2 = b - a ∧ (zz_rf ql dr i).1 - 1 ≤ b - a ∧ ∃ j, j < i ∧ pl j ∧ (zz_rf ql dr i).2.2.1 = dr j)
  | 0, _ => by simp [zz_rf]
  | i + 1, hi => by
    obtain ⟨b1, b2, b3, b4⟩ := yy_rfB sub hb hd h7 i (by omega)
    have A0 := yy_rfA hb hd i (by omega)
    have A1 := yy_rfA hb hd (i + 1) hi
    have m1 := yy_rf_mono hb hd (i := i + 1) (n - (i + 1)) (by omega)
    rw [show i + 1 + (n - (i + 1)) = n by omega] at m1
    have m0 := yy_rf_mono hb hd (i := i) 1 (by omega)
    by_cases cp : pl i
    · have rp := yy_rf_yes (dr := dr) cp
      have f1 : (zz_rf pl dr (i + 1)).1 = (zz_rf pl dr i).1 + 1 := by rw [rp]
      have f2 : (zz_rf pl dr (i + 1)).2.2.1 = dr i := by rw [rp]
      have f3 : ¬ (zz_rf pl dr i).1 = 0 → (zz_rf pl dr (i + 1)).2.1 = (zz_rf pl dr i).2.1 := fun z => by rw [rp]; exact if_neg z
      obtain ⟨_, _, s1, s2, s3, s4, s5⟩ := A1.2.2.2.1 (by omega)
      by_cases cq : ql i
      · have rq := yy_rf_yes (dr := dr) cq
        have g1 : (zz_rf ql dr (i + 1)).1 = (zz_rf ql dr i).1 + 1 := by rw [rq]
        have g2 : (zz_rf ql dr (i + 1)).2.2.1 = dr i := by rw [rq]
        by_cases z : (zz_rf ql dr i).1 = 0
        · have g3 : (zz_rf ql dr (i + 1)).2.1 = dr i := by rw [rq]; exact if_pos z
          have g4 : (zz_rf ql dr (i + 1)).2.2.2 = 0 := by
            rw [rq]
            show (if (zz_rf ql dr i).1 = 0 then (zz_rf ql dr i).2.2.2 else _) = 0
            rw [if_pos z]; exact b3 z
          refine ⟨by omega, by omega, fun w => by omega, fun _ => ⟨(zz_rf pl dr (i + 1)).2.2.2, (zz_rf pl dr (i + 1)).2.2.2, A1.2.1, by omega, by omega, by omega, by omega, by omega, by omega, i, by omega, cp, g2⟩⟩
        · obtain ⟨a, b, k1, k2, k3, k4, k5, k6, k7, j, hj, pj, ej⟩ := b4 (by omega)
          have bj := hb j (by omega) pj
          have bi := hb i (by omega) cp
          have ne := hd j i hj (by omega) pj cp
          have g3 : (zz_rf ql dr (i + 1)).2.1 = (zz_rf ql dr i).2.1 := by rw [rq]; exact if_neg z
          have e7 := zz_and7 (dr i - (zz_rf ql dr i).2.2.1) (by omega)
          have g4 : (zz_rf ql dr (i + 1)).2.2.2 = (zz_rf ql dr i).2.2.2 + (dr i - (zz_rf ql dr i).2.2.1) % 8 := by
            rw [rq, ← e7]
            exact if_neg z
          have f4 := f3 (by omega)
          refine ⟨by omega, by omega, fun w => by omega, fun _ => ⟨a, (zz_rf pl dr (i + 1)).2.2.2, k1, by omega, by omega, by omega, by omega, by omega, by omega, i, by omega, cp, g2⟩⟩
      · rw [yy_rf_no cq]
        refine ⟨b1, by omega, b3, fun z => ?_⟩
        obtain ⟨a, b, k1, k2, k3, k4, k5, k6, k7, j, hj, pj, ej⟩ := b4 z
        have f4 := f3 (by omega)
        exact ⟨a, b, k1, k2, by omega, by rw [f4]; exact k4, by rw [f4]; exact k5, k6, k7, j, by omega, pj, ej⟩
    · rw [yy_rf_no cp, yy_rf_no (fun z => cp (sub i (by omega) z))]
      refine ⟨b1, b2, b3, fun z => ?_⟩
      obtain ⟨a, b, k1, k2, k3, k4, k5, k6, k7, j, hj, pj, ej⟩ := b4 z
      exact ⟨a, b, k1, k2, k3, k4, k5, k6, k7, j, by omega, pj, ej⟩
theorem yy_rt_sub {pl ql : Nat → Prop} {dr : Nat → Int} {n : Nat} (sub : ∀ j, j < n → ql j → pl j) (hb : ∀ j, j < n → pl j → 0 ≤ dr j ∧ dr j ≤ 7) (hd : ∀ j k, j < k → k < n → pl j → pl k → ¬ dr j = dr k) (h : zz_rt pl dr n) : zz_rt ql dr n := by
  have A := yy_rfA hb hd n (Nat.le_refl _)
  unfold zz_rt at h ⊢
  have h7 : (zz_rf pl dr n).2.2.2 ≤ 7 ∨ (zz_rf pl dr n).1 < 3 := by
    rcases h with h | h
    · exact Or.inr h
    · by_cases c : (zz_rf pl dr n).1 < 3
      · exact Or.inr c
      · obtain ⟨_, _, c1, c2, c3, c4, c5⟩ := A.2.2.2.1 (by omega)
        have ne := A.2.2.2.2 (by omega)
        have e7 := zz_and7 ((zz_rf pl dr n).2.1 - (zz_rf pl dr n).2.2.1) (by omega)
        exact Or.inl (by omega)
  rcases h7 with h7 | h7
  · have B := yy_rfB sub hb hd h7 n (Nat.le_refl _)
    by_cases c : (zz_rf ql dr n).1 < 3
    · exact Or.inl c
    · obtain ⟨a, b, k1, k2, k3, k4, k5, k6, k7, _⟩ := B.2.2.2 (by omega)
      have e7 := zz_and7 ((zz_rf ql dr n).2.1 - (zz_rf ql dr n).2.2.1) (by omega)
      exact Or.inr (by omega)
  · refine Or.inl ?_
    have : ∀ i, i ≤ n → 0 ≤ (zz_rf ql dr i).1 ∧ (zz_rf ql dr i).1 ≤ (zz_rf pl dr i).1 := by
      intro i
      induction i with
      | zero => intro _; simp [zz_rf]
      | succ i ih =>
        intro hi
        have ih := ih (by omega)
        by_cases cq : ql i
        · rw [yy_rf_yes cq, yy_rf_yes (sub i (by omega) cq)]
          show 0 ≤ (zz_rf ql dr i).1 + 1 ∧ (zz_rf ql dr i).1 + 1 ≤ (zz_rf pl dr i).1 + 1
          omega
        · rw [yy_rf_no cq]
          by_cases cp : pl i
          · rw [yy_rf_yes cp]
            show 0 ≤ (zz_rf ql dr i).1 ∧ (zz_rf ql dr i).1 ≤ (zz_rf pl dr i).1 + 1
            omega
          · rw [yy_rf_no cp]; exact ih
    have := this n (Nat.le_refl _)
    omega
/-- X, Y has some of the stations of A, B -/
def yy_sub (n : Int) (X Y A B : Nat → Int) : Prop := ∀ t : Nat, (t : Int) < n → ¬ X t = -1 → X t = A t ∧ Y t = B t
theorem yy_pal_res {S : qq_S} (hN : zz_N S) {X Y A B : Nat → Int} (h : yy_pal S A B) (hs : yy_sub (S 4 0) X Y A B) : yy_pal S X Y := by
  have gb := hN.1.1
  have gn := zz_N_nb hN
  obtain ⟨a1, a2, a3, a4, a5⟩ := h
  have pA : ∀ t : Nat, (t : Int) < S 4 0 → ¬ X t = -1 → ¬ A t = -1 := fun t h9 ht => by rw [← (hs t h9 ht).1]; exact ht
  have eb : ∀ e : Nat, (e : Int) < S 4 2 → ((S 22 e).toNat : Int) < S 4 0 ∧ ((S 23 e).toNat : Int) < S 4 0 := fun e he => by
    have := gn.2.1 e he
    omega
  have dA : ∀ e : Nat, (e : Int) < S 4 2 → zz_dn X (S 22) (S 23) e → zz_dn A (S 22) (S 23) e := fun e h9 he => ⟨pA _ (eb e h9).1 he.1, pA _ (eb e h9).2 he.2⟩
  refine ⟨fun a b ha hb hab pa pb z => ?_, fun e he hd => ⟨fun z => ?_, fun z => ?_⟩, fun e t he hd ht pt z => ?_, fun e f he hf hd hdf z => ?_, fun t ht pt => ?_⟩
  · refine a1 a b ha hb hab (pA a ha pa) (pA b hb pb) ?_
    rw [← (hs a ha pa).1, ← (hs a ha pa).2, ← (hs b hb pb).1, ← (hs b hb pb).2]
    exact z
  · refine (a2 e he (dA e he hd)).1 ?_
    unfold zz_cr at *
    rw [← zz_dr_c (hs _ (eb e he).1 hd.1) (hs _ (eb e he).2 hd.2)]
    exact z
  · refine (a2 e he (dA e he hd)).2 ?_
    unfold zz_sho at *
    rw [← zz_ln_c (hs _ (eb e he).1 hd.1) (hs _ (eb e he).2 hd.2)]
    exact z
  · refine a3 e t he (dA e he hd) ht (pA t ht pt) ⟨z.1, ?_⟩
    rw [← zz_lies_c (hs _ (eb e he).1 hd.1) (hs _ (eb e he).2 hd.2) (hs _ ht pt)]
    exact z.2
  · refine a4 e f he hf (dA e he hd) (dA f hf hdf) ?_
    rw [← zz_crs_c (hs _ (eb e he).1 hd.1) (hs _ (eb e he).2 hd.2) (hs _ (eb f hf).1 hdf.1) (hs _ (eb f hf).2 hdf.2)]
    exact z
  · have big := a5 t ht (pA t ht pt)
    unfold zz_tw at big ⊢
    intro z
    apply z
    have big := Classical.not_not.mp big
    have big : zz_rt (fun i => ¬ A (S (26 + 1 + t) i).toNat = -1) (fun i => zz_dr A B t (S (26 + 1 + t) i).toNat) (S 25 t).toNat := big
    show zz_rt (fun i => ¬ X (S (26 + 1 + t) i).toNat = -1) (fun i => zz_dr X Y t (S (26 + 1 + t) i).toNat) (S 25 t).toNat
    -- an edge to each placed neighbour
    have ne : ∀ j : Nat, j < (S 25 t).toNat → ∃ e : Nat, (e : Int) < S 4 2 ∧ 0 ≤ S (26 + 1 + t) j ∧ S (26 + 1 + t) j < S 4 0 ∧ ¬ S (26 + 1 + t) j = t ∧ (((S 22 e).toNat = t ∧ (S 23 e).toNat = (S (26 + 1 + t) j).toNat) ∨ ((S 23 e).toNat = t ∧ (S 22 e).toNat = (S (26 + 1 + t) j).toNat)) := fun j hj => by
      obtain ⟨e, he, hl, r0, r1, r2, r3⟩ := zz_ring_edge hN (s := t) (i := j) (by omega) (by omega)
      exact ⟨e, he, r0, r1, r2, by omega⟩
    have dj : ∀ j : Nat, j < (S 25 t).toNat → ¬ A (S (26 + 1 + t) j).toNat = -1 → ¬ zz_dr A B t (S (26 + 1 + t) j).toNat = -1 := fun j hj pj => by
      obtain ⟨e, he, r0, r1, r2, hl⟩ := ne j hj
      rcases hl with ⟨u, v⟩ | ⟨u, v⟩
      · have k := (a2 e he ⟨by rw [u]; exact pA t ht pt, by rw [v]; exact pj⟩).1
        unfold zz_cr at k
        rw [u, v] at k
        exact k
      · have k := (a2 e he ⟨by rw [v]; exact pj, by rw [u]; exact pA t ht pt⟩).1
        unfold zz_cr at k
        rw [u, v] at k
        exact fun z => k (zz_dr_sw.mp z)
    have lie : ∀ i j : Nat, i < (S 25 t).toNat → j < (S 25 t).toNat → ¬ i = j → ¬ A (S (26 + 1 + t) i).toNat = -1 → ¬ A (S (26 + 1 + t) j).toNat = -1 → ¬ zz_lies A B (S (26 + 1 + t) i).toNat t (S (26 + 1 + t) j).toNat := fun i j hi hj hij pi pj z => by
      obtain ⟨e, he, r0, r1, r2, hl⟩ := ne j hj
      obtain ⟨e2, he2, q0, q1, q2, hl2⟩ := ne i hi
      have inj : ¬ (S (26 + 1 + t) i).toNat = (S (26 + 1 + t) j).toNat := fun w => hij (zz_rinj hN (show t < 10 by omega) i j hi hj (by omega))
      have ee := gn.2.1 e he
      rcases hl with ⟨u, v⟩ | ⟨u, v⟩
      · refine a3 e (S (26 + 1 + t) i).toNat he ⟨by rw [u]; exact pA t ht pt, by rw [v]; exact pj⟩ (by omega) pi ⟨by omega, ?_⟩
        rw [u, v]; exact z
      · refine a3 e (S (26 + 1 + t) i).toNat he ⟨by rw [v]; exact pj, by rw [u]; exact pA t ht pt⟩ (by omega) pi ⟨by omega, ?_⟩
        rw [u, v]; exact zz_lies_sw.mp z
    have r := yy_rt_sub (pl := fun i => ¬ A (S (26 + 1 + t) i).toNat = -1) (ql := fun i => ¬ X (S (26 + 1 + t) i).toNat = -1) (dr := fun i => zz_dr A B t (S (26 + 1 + t) i).toNat) (n := (S 25 t).toNat) (fun j h9 hj => by
      obtain ⟨e, he, r0, r1, r2, hl⟩ := ne j h9
      exact pA _ (by omega) hj) (fun j hj pj => by
      have b := zz_dr_bd A B t (S (26 + 1 + t) j).toNat
      have := dj j hj pj
      show 0 ≤ zz_dr A B t (S (26 + 1 + t) j).toNat ∧ zz_dr A B t (S (26 + 1 + t) j).toNat ≤ 7
      omega) (fun j k hjk hk pj pk z => by
      rcases zz_dir_lies (X := A) (Y := B) (s := t) z (dj j (by omega) pj) with w | w
      · exact lie j k (by omega) hk (by omega) pj pk w
      · exact lie k j hk (by omega) (by omega) pk pj w) big
    unfold zz_rt at r ⊢
    rw [zz_rf_c (pl := fun i => ¬ X (S (26 + 1 + t) i).toNat = -1) (dr := fun i => zz_dr X Y t (S (26 + 1 + t) i).toNat) (pl' := fun i => ¬ X (S (26 + 1 + t) i).toNat = -1) (dr' := fun i => zz_dr A B t (S (26 + 1 + t) i).toNat) (fun _ _ => Iff.rfl) (fun i h9 hi => by
      obtain ⟨e, he, r0, r1, r2, hl⟩ := ne i h9
      exact zz_dr_c (hs _ ht pt) (hs _ (by omega) hi))]
    exact r
