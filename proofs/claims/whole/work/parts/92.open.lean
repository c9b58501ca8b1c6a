/-! What the search asks of a point, and what it then has taken. -/
theorem yy_T3 {S : qq_S} (hN : zz_N S) {X Y : Nat → Int} {s : Nat} {w h tk : Int} (hs : (s : Int) < S 4 0) (hw : S 56 0 = w) (wp : 0 < w) (wb : w * h ≤ 25) (hT : yy_T S w h) (gr : yy_gr (S 4 0) w h (S 57) (S 58)) (ho : ∀ t : Nat, ¬ t = s → X t = S 57 t ∧ Y t = S 58 t) (hu : X s = -1) (hp : ¬ S 57 s = -1) (ht : yy_tk S w h X Y tk) (hE : zz_gE (S 57) (S 58) (S 25) (fun s => S (26 + 1 + s)) (S 52 3) s) : yy_tk S w h (S 57) (S 58) (qq_or (qq_or tk (yy_pp S s (S 58 s * w + S 57 s).toNat (S 25 s).toNat)) (qq_shl 1 (S 58 s * w + S 57 s))) := by
  have gb := hN.1.1
  have gn := zz_N_nb hN
  have gd := gn.2.2.1 s (by omega)
  have g1 := gr s hs
  have sb := yy_mlt (x := S 57 s) (y := S 58 s) (w := w) (h := h) (by omega) (by omega)
  have sm := yy_xy (x := S 57 s) (y := S 58 s) (w := w) (h := h) (by omega) (by omega)
  intro r
  rw [zz_bit_or, zz_bit_or, ht r, zz_bit_shl (by omega), yy_pp_ins hN hs hw wp hT gr hp hE (by omega)]
  have pe : ∀ t : Nat, ¬ t = s → (¬ X t = -1 ↔ ¬ S 57 t = -1) := fun t h9 => by rw [(ho t h9).1]
  constructor
  · rintro ((⟨hr, z⟩ | ⟨hr, j, hj, pj, hins⟩) | e)
    · refine ⟨hr, ?_⟩
      rcases z with ⟨t, t1, t2, t3, t4⟩ | ⟨e, he, hd, hie⟩
      · have ts : ¬ t = s := fun y => by rw [y] at t2; exact t2 hu
        rw [(ho t ts).1] at t2 t3
        rw [(ho t ts).2] at t4
        exact Or.inl ⟨t, t1, t2, t3, t4⟩
      · have n1 : ¬ (S 22 e).toNat = s := fun z => hd.1 (by rw [z]; exact hu)
        have n2 : ¬ (S 23 e).toNat = s := fun z => hd.2 (by rw [z]; exact hu)
        rw [(ho _ n1).1, (ho _ n1).2, (ho _ n2).1, (ho _ n2).2] at hie
        exact Or.inr ⟨e, he, ⟨(pe _ n1).mp hd.1, (pe _ n2).mp hd.2⟩, hie⟩
    · refine ⟨hr, Or.inr ?_⟩
      obtain ⟨e, he, hl, r0, r1, r2, r3⟩ := zz_ring_edge hN (s := s) (i := j) (by omega) (by omega)
      rcases hl with ⟨u, v⟩ | ⟨u, v⟩
      · have u2 : (S 22 e).toNat = s := by omega
        have v2 : (S 23 e).toNat = (S (26 + 1 + s) j).toNat := by omega
        refine ⟨e, he, ⟨by rw [u2]; exact hp, by rw [v2]; exact pj⟩, ?_⟩
        rw [u2, v2]; exact hins
      · have u2 : (S 23 e).toNat = s := by omega
        have v2 : (S 22 e).toNat = (S (26 + 1 + s) j).toNat := by omega
        refine ⟨e, he, ⟨by rw [v2]; exact pj, by rw [u2]; exact hp⟩, ?_⟩
        rw [u2, v2]; exact yy_ins_sw hins
    · rw [e]
      refine ⟨by omega, Or.inl ⟨s, hs, hp, ?_, ?_⟩⟩
      · rw [e, sm.1]
      · rw [e, sm.2]
  · rintro ⟨hr, z⟩
    rcases z with ⟨t, t1, t2, t3, t4⟩ | ⟨e, he, hd, hie⟩
    · by_cases ts : t = s
      · right
        subst ts
        have me : (r : Int) / w * w + (r : Int) % w = r := Int.ediv_mul_add_emod (r : Int) w
        rw [← t3, ← t4] at me
        exact me.symm
      · left; left
        refine ⟨hr, Or.inl ⟨t, t1, (pe t ts).mpr t2, ?_, ?_⟩⟩
        · rw [(ho t ts).1]; exact t3
        · rw [(ho t ts).2]; exact t4
    · left
      have w9 := zz_edge_ring hN he
      have q := gn.2.1 e he
      by_cases c1 : (S 22 e).toNat = s
      · right
        obtain ⟨i, hi, z⟩ := w9.1
        rw [c1] at hi z
        refine ⟨hr, i, by omega, by rw [z]; exact hd.2, ?_⟩
        rw [z]; rw [c1] at hie; exact hie
      · by_cases c2 : (S 23 e).toNat = s
        · right
          obtain ⟨i, hi, z⟩ := w9.2
          rw [c2] at hi z
          refine ⟨hr, i, by omega, by rw [z]; exact hd.1, ?_⟩
          rw [z]; rw [c2] at hie; exact yy_ins_sw hie
        · left
          refine ⟨hr, Or.inr ⟨e, he, ⟨(pe _ c1).mpr hd.1, (pe _ c2).mpr hd.2⟩, ?_⟩⟩
          rw [(ho _ c1).1, (ho _ c1).2, (ho _ c2).1, (ho _ c2).2]; exact hie
theorem yy_op_bit {S : qq_S} {s : Nat} {p : Nat} (h87 : S 87 s = -1 ∨ (0 ≤ S 87 s ∧ S 87 s < 32)) (hp : p < 32) : ∀ m : Nat, zz_bit (yy_op S s m) p ↔ ((S 87 s = -1 ∨ S 87 s = p) ∧ ∀ j : Nat, j < m → ¬ S 57 (S (26 + 1 + s) j).toNat = -1 → zz_bit (S 60 (yy_wh S (S (26 + 1 + s) j).toNat).toNat) p)
  | 0 => by
    unfold yy_op
    by_cases c : S 87 s = -1
    · rw [if_pos c, zz_bit_m1]
      exact ⟨fun _ => ⟨Or.inl c, fun j hj => by omega⟩, fun _ => hp⟩
    · rw [if_neg c, zz_bit_shl (by omega)]
      exact ⟨fun z => ⟨Or.inr z.symm, fun j hj => by omega⟩, fun z => by omega⟩
  | m + 1 => by
    have ih := yy_op_bit (S := S) (s := s) (p := p) h87 hp m
    unfold yy_op
    by_cases c : S 57 (S (26 + 1 + s) m).toNat = -1
    · rw [if_pos c, ih]
      exact ⟨fun z => ⟨z.1, fun j hj pj => by
        by_cases e : j = m
        · subst e; exact absurd c pj
        · exact z.2 j (by omega) pj⟩, fun z => ⟨z.1, fun j hj pj => z.2 j (by omega) pj⟩⟩
    · rw [if_neg c, zz_bit_and, ih]
      exact ⟨fun z => ⟨z.1.1, fun j hj pj => by
        by_cases e : j = m
        · subst e; exact z.2
        · exact z.1.2 j (by omega) pj⟩, fun z => ⟨⟨z.1, fun j hj pj => z.2 j (by omega) pj⟩, z.2 m (by omega) c⟩⟩
/-- the edges of s at p are good -/
theorem yy_T4 {S : qq_S} (hN : zz_N S) {X' Y' : Nat → Int} {s : Nat} {w h p : Int} (hs : (s : Int) < S 4 0) (hw : S 56 0 = w) (wp : 0 < w) (hT : yy_T S w h) (gr : yy_gr (S 4 0) w h (S 57) (S 58)) (ho : ∀ t : Nat, ¬ t = s → S 57 t = X' t ∧ S 58 t = Y' t) (hp : 0 ≤ p ∧ p < w * h) (hx : X' s = p % w ∧ Y' s = p / w) : (∀ j : Nat, j < (S 25 s).toNat → ¬ S 57 (S (26 + 1 + s) j).toNat = -1 → zz_bit (S 60 (yy_wh S (S (26 + 1 + s) j).toNat).toNat) p.toNat) ↔ zz_gE X' Y' (S 25) (fun s => S (26 + 1 + s)) (S 52 3) s := by
  have gb := hN.1.1
  have gd := (zz_N_nb hN).2.2.1 s (by omega)
  have ep : ((p.toNat : Nat) : Int) = p := by omega
  have rne : ∀ j : Nat, (j : Int) < S 25 s → 0 ≤ S (26 + 1 + s) j ∧ S (26 + 1 + s) j < S 4 0 ∧ ¬ (S (26 + 1 + s) j).toNat = s := fun j hj => by
    obtain ⟨e, he, hl, r0, r1, r2, r3⟩ := zz_ring_edge hN (s := s) (i := j) (by omega) hj
    exact ⟨r0, r1, by omega⟩
  have key : ∀ j : Nat, (j : Int) < S 25 s → ¬ S 57 (S (26 + 1 + s) j).toNat = -1 → (zz_bit (S 60 (yy_wh S (S (26 + 1 + s) j).toNat).toNat) p.toNat ↔ ¬ (zz_ln X' Y' s (S (26 + 1 + s) j).toNat < S 52 3 ∨ zz_dr X' Y' s (S (26 + 1 + s) j).toNat = -1)) := fun j hj pj => by
    obtain ⟨r0, r1, r2⟩ := rne j hj
    have g2 := gr (S (26 + 1 + s) j).toNat (by omega)
    have qb := yy_mlt (x := S 57 (S (26 + 1 + s) j).toNat) (y := S 58 (S (26 + 1 + s) j).toNat) (w := w) (h := h) (by omega) (by omega)
    have qm := yy_xy (x := S 57 (S (26 + 1 + s) j).toNat) (y := S 58 (S (26 + 1 + s) j).toNat) (w := w) (h := h) (by omega) (by omega)
    have ew : yy_wh S (S (26 + 1 + s) j).toNat = S 58 (S (26 + 1 + s) j).toNat * w + S 57 (S (26 + 1 + s) j).toNat := by
      unfold yy_wh
      rw [if_neg pj, hw]
    have eq : (((yy_wh S (S (26 + 1 + s) j).toNat).toNat : Nat) : Int) = S 58 (S (26 + 1 + s) j).toNat * w + S 57 (S (26 + 1 + s) j).toNat := by omega
    have t := (hT (yy_wh S (S (26 + 1 + s) j).toNat).toNat (by omega)).1 p.toNat
    rw [t, yy_dn8, eq, ep]
    have ed : yy_d w (S 58 (S (26 + 1 + s) j).toNat * w + S 57 (S (26 + 1 + s) j).toNat) p = zz_dr X' Y' (S (26 + 1 + s) j).toNat s := by
      unfold yy_d zz_dr
      rw [qm.1, qm.2, hx.1, hx.2, (ho _ r2).1, (ho _ r2).2]
    have el : yy_l w (S 58 (S (26 + 1 + s) j).toNat * w + S 57 (S (26 + 1 + s) j).toNat) p = zz_ln X' Y' s (S (26 + 1 + s) j).toNat := by
      rw [zz_len_sw]
      unfold yy_l zz_ln
      rw [qm.1, qm.2, hx.1, hx.2, (ho _ r2).1, (ho _ r2).2]
    rw [ed, el]
    have b8 := zz_dr_bd X' Y' (S (26 + 1 + s) j).toNat s
    have sw := zz_dr_sw (X := X') (Y := Y') (a := s) (b := (S (26 + 1 + s) j).toNat)
    constructor
    · rintro ⟨a, b, c⟩ z
      rcases z with z | z
      · omega
      · have := sw.mp z; omega
    · intro z
      have z1 : ¬ zz_dr X' Y' (S (26 + 1 + s) j).toNat s = -1 := fun y => z (Or.inr (sw.mpr y))
      refine ⟨hp.2, by omega, ?_⟩
      rcases Int.lt_or_le (zz_ln X' Y' s (S (26 + 1 + s) j).toNat) (S 52 3) with y | y
      · exact absurd (Or.inl y) z
      · exact y
  constructor
  · intro H j hj z
    obtain ⟨r0, r1, r2⟩ := rne j hj
    have z1 : ¬ X' (S (26 + 1 + s) j).toNat = -1 := z.1
    rw [← (ho _ r2).1] at z1
    exact (key j hj z1).mp (H j (by omega) z1) z.2
  · intro G j hj pj
    obtain ⟨r0, r1, r2⟩ := rne j (by omega)
    refine (key j (by omega) pj).mpr (fun z => G j (by omega) ⟨?_, z⟩)
    show ¬ X' (S (26 + 1 + s) j).toNat = -1
    rw [← (ho _ r2).1]; exact pj
theorem yy_left_bit {w : Int} (hw : 0 < w) {p : Nat} : ∀ h : Nat, (h : Int) * w ≤ 32 → (zz_bit (yy_left w h) p ↔ ∃ y : Nat, y < h ∧ (p : Int) = y * w)
  | 0, _ => ⟨fun z => absurd z zz_bit_0, fun ⟨y, h, _⟩ => by omega⟩
  | h + 1, hb => by
    have e1 : ((h + 1 : Nat) : Int) * w = h * w + w := by rw [Int.natCast_succ, Int.add_mul, Int.one_mul]
    have ih := yy_left_bit hw (p := p) h (by omega)
    have m0 := Int.mul_nonneg (show (0 : Int) ≤ h by omega) (show 0 ≤ w by omega)
    unfold yy_left
    rw [zz_bit_or, ih, zz_bit_shl (by omega)]
    constructor
    · rintro (⟨y, y1, y2⟩ | z)
      · exact ⟨y, by omega, y2⟩
      · exact ⟨h, by omega, z⟩
    · rintro ⟨y, y1, y2⟩
      by_cases e : y = h
      · subst e; exact Or.inr y2
      · exact Or.inl ⟨y, by omega, y2⟩
theorem yy_top_bit {w : Int} (hw : 2 ≤ w ∧ w ≤ 8) {p : Nat} (hp : p < 32) : zz_bit (qq_shl 1 w - 1) p ↔ (p : Int) < w := by
  have : ∀ k : Fin 9, ∀ q : Fin 32, ((BitVec.ofInt 32 (qq_shl 1 (k.val : Int) - 1)).getLsbD q.val = true ↔ q.val < k.val) := by decide +kernel
  have e := this ⟨w.toNat, by omega⟩ ⟨p, hp⟩
  have e2 : ((w.toNat : Nat) : Int) = w := by omega
  simp only [e2] at e
  unfold zz_bit
  rw [e]
  omega
def yy_fls (n : Int) (X Y : Nat → Int) : Prop := (∃ t : Nat, (t : Int) < n ∧ X t = 0) ∧ (∃ t : Nat, (t : Int) < n ∧ Y t = 0)
/-- the last station makes the drawing touch both sides -/
theorem yy_T5 {S : qq_S} {X' Y' : Nat → Int} {s : Nat} {w h p : Int} (hs : (s : Int) < S 4 0) (hw : S 56 0 = w) (hh : S 56 1 = h) (wp : 2 ≤ w ∧ w ≤ 8) (hpp : 2 ≤ h) (wb : w * h ≤ 25) (ho : ∀ t : Nat, ¬ t = s → S 57 t = X' t ∧ S 58 t = Y' t) (hu : S 57 s = -1 ∧ S 58 s = -1) (hp : 0 ≤ p ∧ p < w * h) (hx : X' s = p % w ∧ Y' s = p / w) : zz_bit (yy_fl S) p.toNat ↔ yy_fls (S 4 0) X' Y' := by
  have ep : ((p.toNat : Nat) : Int) = p := by omega
  unfold yy_fl yy_fls
  rw [zz_bit_and, hw, hh]
  have a1 : zz_bit (if zz_p (∃ t : Nat, (t : Int) < S 4 0 ∧ S 57 t = 0) = 0 then yy_left w h.toNat else -1) p.toNat ↔ ∃ t : Nat, (t : Int) < S 4 0 ∧ X' t = 0 := by
    by_cases c : ∃ t : Nat, (t : Int) < S 4 0 ∧ S 57 t = 0
    · rw [zz_p1 c, if_neg (by decide), zz_bit_m1]
      refine ⟨fun _ => ?_, fun _ => by omega⟩
      obtain ⟨t, t1, t2⟩ := c
      have ts : ¬ t = s := fun y => by rw [y] at t2; omega
      exact ⟨t, t1, by rw [← (ho t ts).1]; exact t2⟩
    · rw [zz_p0 c, if_pos rfl, yy_left_bit (by omega) h.toNat (by rw [show ((h.toNat : Nat) : Int) = h by omega, Int.mul_comm]; omega), ep]
      constructor
      · rintro ⟨y, y1, y2⟩
        refine ⟨s, hs, ?_⟩
        rw [hx.1, y2, Int.mul_emod_left]
      · rintro ⟨t, t1, t2⟩
        by_cases ts : t = s
        · subst ts
          rw [hx.1] at t2
          have me : p / w * w + p % w = p := Int.ediv_mul_add_emod p w
          have d1 := Int.ediv_nonneg hp.1 (show 0 ≤ w by omega)
          have d2 : p / w < h := Int.ediv_lt_of_lt_mul (by omega) (by rw [Int.mul_comm]; exact hp.2)
          refine ⟨(p / w).toNat, by omega, ?_⟩
          rw [show (((p / w).toNat : Nat) : Int) = p / w by omega]
          omega
        · exact absurd ⟨t, t1, by rw [(ho t ts).1]; exact t2⟩ c
  have a2 : zz_bit (if zz_p (∃ t : Nat, (t : Int) < S 4 0 ∧ S 58 t = 0) = 0 then qq_shl 1 w - 1 else -1) p.toNat ↔ ∃ t : Nat, (t : Int) < S 4 0 ∧ Y' t = 0 := by
    by_cases c : ∃ t : Nat, (t : Int) < S 4 0 ∧ S 58 t = 0
    · rw [zz_p1 c, if_neg (by decide), zz_bit_m1]
      refine ⟨fun _ => ?_, fun _ => by omega⟩
      obtain ⟨t, t1, t2⟩ := c
      have ts : ¬ t = s := fun y => by rw [y] at t2; omega
      exact ⟨t, t1, by rw [← (ho t ts).2]; exact t2⟩
    · rw [zz_p0 c, if_pos rfl, yy_top_bit wp (by omega), ep]
      constructor
      · intro z
        refine ⟨s, hs, ?_⟩
        rw [hx.2]
        exact Int.ediv_eq_zero_of_lt hp.1 z
      · rintro ⟨t, t1, t2⟩
        by_cases ts : t = s
        · subst ts
          rw [hx.2] at t2
          have me : p / w * w + p % w = p := Int.ediv_mul_add_emod p w
          have m2 := Int.emod_lt_of_pos p (show 0 < w by omega)
          rw [t2] at me
          omega
        · exact absurd ⟨t, t1, by rw [(ho t ts).2]; exact t2⟩ c
  rw [a1, a2]
theorem yy_pal_c {S T : qq_S} (h : ∀ a : Nat, 4 ≤ a → a < 48 → T a = S a) (h3 : T 52 3 = S 52 3) (hn : S 4 0 ≤ 10) {X Y : Nat → Int} : yy_pal T X Y ↔ yy_pal S X Y := by
  unfold yy_pal
  rw [h 4 (by omega) (by omega), h 22 (by omega) (by omega), h 23 (by omega) (by omega), h3]
  have e : ∀ s : Nat, (s : Int) < S 4 0 → (zz_tw X Y (T 25) (fun s => T (26 + 1 + s)) s ↔ zz_tw X Y (S 25) (fun s => S (26 + 1 + s)) s) := fun s hs => by
    unfold zz_tw
    show ¬ zz_rt (fun i => ¬ X (T (26 + 1 + s) i).toNat = -1) (fun i => zz_dr X Y s (T (26 + 1 + s) i).toNat) (T 25 s).toNat ↔ ¬ zz_rt (fun i => ¬ X (S (26 + 1 + s) i).toNat = -1) (fun i => zz_dr X Y s (S (26 + 1 + s) i).toNat) (S 25 s).toNat
    rw [h 25 (by omega) (by omega), h (26 + 1 + s) (by omega) (by omega)]
  constructor
  · rintro ⟨a1, a2, a3, a4, a5⟩
    exact ⟨a1, a2, a3, a4, fun s hs pt z => a5 s hs pt ((e s hs).mpr z)⟩
  · rintro ⟨a1, a2, a3, a4, a5⟩
    exact ⟨a1, a2, a3, a4, fun s hs pt z => a5 s hs pt ((e s hs).mp z)⟩
