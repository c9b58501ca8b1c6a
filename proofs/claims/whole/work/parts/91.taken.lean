/-! Sets of points: what is taken, what lies inside, where a station can stand. -/
/-- on the grid as far as placed -/
def yy_gr (n w h : Int) (X Y : Nat → Int) : Prop := ∀ t : Nat, (t : Int) < n → (X t = -1 ∧ Y t = -1) ∨ (0 ≤ X t ∧ X t < w ∧ 0 ≤ Y t ∧ Y t < h)
/-- the point r has a station or an edge on it -/
def yy_on9 (S : qq_S) (w : Int) (X Y : Nat → Int) (r : Nat) : Prop := (∃ t : Nat, (t : Int) < S 4 0 ∧ ¬ X t = -1 ∧ X t = (r : Int) % w ∧ Y t = (r : Int) / w) ∨ (∃ e : Nat, (e : Int) < S 4 2 ∧ zz_dn X (S 22) (S 23) e ∧ yy_ins (X (S 22 e).toNat) (Y (S 22 e).toNat) (X (S 23 e).toNat) (Y (S 23 e).toNat) ((r : Int) % w) ((r : Int) / w))
def yy_tk (S : qq_S) (w h : Int) (X Y : Nat → Int) (tk : Int) : Prop := ∀ r : Nat, zz_bit tk r ↔ ((r : Int) < w * h ∧ yy_on9 S w X Y r)
def yy_T (S : qq_S) (w h : Int) : Prop := ∀ p : Nat, (p : Int) < w * h → yy_tb S w h (S 52 3) p 8 1
theorem yy_dn8 {w p q : Int} : yy_dn w p q 8 1 ↔ 0 ≤ yy_d w p q := by
  unfold yy_dn
  have := zz_dir_bd (q % w - p % w) (q / w - p / w)
  have e : yy_d w p q = zz_dir (q % w - p % w) (q / w - p / w) := rfl
  constructor
  · exact fun z => z.1
  · intro z
    exact ⟨z, by omega⟩
/-- p is free: nobody is there, and no edge -/
theorem yy_T1 {S : qq_S} (hN : zz_N S) {X Y X' Y' : Nat → Int} {s : Nat} {w h p tk : Int} (hs : (s : Int) < S 4 0) (ho : ∀ t : Nat, ¬ t = s → X t = X' t ∧ Y t = Y' t) (hu : X s = -1) (hw : 0 < w) (hp : 0 ≤ p ∧ p < w * h) (hx : X' s = p % w ∧ Y' s = p / w) (pal : yy_pal S X Y) (ht : yy_tk S w h X Y tk) : ¬ zz_bit tk p.toNat ↔ zz_gA (S 4 0) X' Y' s ∧ zz_gO (S 4 2) X' Y' (S 22) (S 23) s := by
  have gb := hN.1.1
  have gn := zz_N_nb hN
  have ep : ((p.toNat : Nat) : Int) = p := by omega
  have m1 := Int.emod_nonneg p (show w ≠ 0 by omega)
  rw [ht p.toNat, ep]
  have away : ∀ e : Nat, (e : Int) < S 4 2 → zz_dn X (S 22) (S 23) e → ¬ (S 22 e).toNat = s ∧ ¬ (S 23 e).toNat = s := fun e he hd => ⟨fun z => hd.1 (by rw [z]; exact hu), fun z => hd.2 (by rw [z]; exact hu)⟩
  constructor
  · intro z
    have z1 : ¬ yy_on9 S w X Y p.toNat := fun y => z ⟨hp.2, y⟩
    have gA : zz_gA (S 4 0) X' Y' s := fun t h9 y => by
      obtain ⟨y1, y2, y3⟩ := y
      have o := ho t y1
      refine z1 (Or.inl ⟨t, h9, ?_, ?_, ?_⟩)
      · rw [o.1, y2, hx.1]; omega
      · rw [ep, o.1, y2, hx.1]
      · rw [ep, o.2, y3, hx.2]
    refine ⟨gA, fun e he y => ?_⟩
    obtain ⟨y1, y2, y3⟩ := y
    have q := gn.2.1 e he
    have n1 : ¬ (S 22 e).toNat = s := by omega
    have n2 : ¬ (S 23 e).toNat = s := by omega
    have hd : zz_dn X (S 22) (S 23) e := ⟨by rw [(ho _ n1).1]; exact y1.1, by rw [(ho _ n2).1]; exact y1.2⟩
    have nd := (pal.2.1 e he hd).1
    unfold zz_cr at nd
    rw [zz_dr_c (ho _ n1) (ho _ n2)] at nd
    rcases (yy_lies_ins nd).mp y3 with c | c | c
    · exact gA (S 22 e).toNat (by omega) ⟨n1, c.1.symm, c.2.symm⟩
    · exact gA (S 23 e).toNat (by omega) ⟨n2, c.1.symm, c.2.symm⟩
    · refine z1 (Or.inr ⟨e, he, hd, ?_⟩)
      rw [ep, (ho _ n1).1, (ho _ n1).2, (ho _ n2).1, (ho _ n2).2, ← hx.1, ← hx.2]
      exact c
  · rintro ⟨gA, gO⟩ ⟨-, z⟩
    rcases z with ⟨t, t1, t2, t3, t4⟩ | ⟨e, he, hd, z⟩
    · have ts : ¬ t = s := fun y => by rw [y] at t2; exact t2 hu
      rw [ep] at t3 t4
      have o := ho t ts
      exact gA t t1 ⟨ts, by rw [← o.1, t3, hx.1], by rw [← o.2, t4, hx.2]⟩
    · obtain ⟨n1, n2⟩ := away e he hd
      have q := gn.2.1 e he
      have nd := (pal.2.1 e he hd).1
      unfold zz_cr at nd
      rw [zz_dr_c (ho _ n1) (ho _ n2)] at nd
      rw [ep, (ho _ n1).1, (ho _ n1).2, (ho _ n2).1, (ho _ n2).2, ← hx.1, ← hx.2] at z
      refine gO e he ⟨⟨by rw [← (ho _ n1).1]; exact hd.1, by rw [← (ho _ n2).1]; exact hd.2⟩, ⟨by omega, by omega⟩, ?_⟩
      exact (yy_lies_ins nd).mpr (Or.inr (Or.inr z))
theorem yy_pp_bit {S : qq_S} {s p : Nat} {r : Nat} : ∀ m : Nat, zz_bit (yy_pp S s p m) r ↔ ∃ j : Nat, j < m ∧ ¬ S 57 (S (26 + 1 + s) j).toNat = -1 ∧ zz_bit (S (61 + 1 + p) (yy_wh S (S (26 + 1 + s) j).toNat).toNat) r
  | 0 => ⟨fun z => absurd z zz_bit_0, fun ⟨j, h, _⟩ => by omega⟩
  | m + 1 => by
    have ih := yy_pp_bit (S := S) (s := s) (p := p) (r := r) m
    unfold yy_pp
    by_cases c : S 57 (S (26 + 1 + s) m).toNat = -1
    · rw [if_pos c, ih]
      exact ⟨fun ⟨j, h1, h2⟩ => ⟨j, by omega, h2⟩, fun ⟨j, h1, h2⟩ => ⟨j, by
        by_cases e : j = m
        · subst e; exact absurd c h2.1
        · omega, h2⟩⟩
    · rw [if_neg c, zz_bit_or, ih]
      constructor
      · rintro (⟨j, h1, h2⟩ | z)
        · exact ⟨j, by omega, h2⟩
        · exact ⟨m, by omega, c, z⟩
      · rintro ⟨j, h1, h2⟩
        by_cases e : j = m
        · subst e; exact Or.inr h2.2
        · exact Or.inl ⟨j, by omega, h2⟩
/-- inside the edges from s to placed ones -/
theorem yy_pp_ins {S : qq_S} (hN : zz_N S) {s : Nat} {w h : Int} (hs : (s : Int) < S 4 0) (hw : S 56 0 = w) (wp : 0 < w) (hT : yy_T S w h) (gr : yy_gr (S 4 0) w h (S 57) (S 58)) (hp : ¬ S 57 s = -1) (hE : zz_gE (S 57) (S 58) (S 25) (fun s => S (26 + 1 + s)) (S 52 3) s) {m : Nat} (hm : (m : Int) ≤ S 25 s) {r : Nat} : zz_bit (yy_pp S s (S 58 s * w + S 57 s).toNat m) r ↔ ((r : Int) < w * h ∧ ∃ j : Nat, j < m ∧ ¬ S 57 (S (26 + 1 + s) j).toNat = -1 ∧ yy_ins (S 57 s) (S 58 s) (S 57 (S (26 + 1 + s) j).toNat) (S 58 (S (26 + 1 + s) j).toNat) ((r : Int) % w) ((r : Int) / w)) := by
  have gb := hN.1.1
  have gd := (zz_N_nb hN).2.2.1 s (by omega)
  have g1 := gr s hs
  have sb := yy_mlt (x := S 57 s) (y := S 58 s) (w := w) (h := h) (by omega) (by omega)
  have sm := yy_xy (x := S 57 s) (y := S 58 s) (w := w) (h := h) (by omega) (by omega)
  have es : (((S 58 s * w + S 57 s).toNat : Nat) : Int) = S 58 s * w + S 57 s := by omega
  rw [yy_pp_bit]
  have key : ∀ j : Nat, j < m → ¬ S 57 (S (26 + 1 + s) j).toNat = -1 → (zz_bit (S (61 + 1 + (S 58 s * w + S 57 s).toNat) (yy_wh S (S (26 + 1 + s) j).toNat).toNat) r ↔ ((r : Int) < w * h ∧ yy_ins (S 57 s) (S 58 s) (S 57 (S (26 + 1 + s) j).toNat) (S 58 (S (26 + 1 + s) j).toNat) ((r : Int) % w) ((r : Int) / w))) := fun j hj pj => by
    have rb := gd.2.2 j (by omega)
    have g2 := gr (S (26 + 1 + s) j).toNat (by omega)
    have qb := yy_mlt (x := S 57 (S (26 + 1 + s) j).toNat) (y := S 58 (S (26 + 1 + s) j).toNat) (w := w) (h := h) (by omega) (by omega)
    have qm := yy_xy (x := S 57 (S (26 + 1 + s) j).toNat) (y := S 58 (S (26 + 1 + s) j).toNat) (w := w) (h := h) (by omega) (by omega)
    have ew : yy_wh S (S (26 + 1 + s) j).toNat = S 58 (S (26 + 1 + s) j).toNat * w + S 57 (S (26 + 1 + s) j).toNat := by
      unfold yy_wh
      rw [if_neg pj, hw]
    have eq : (((yy_wh S (S (26 + 1 + s) j).toNat).toNat : Nat) : Int) = S 58 (S (26 + 1 + s) j).toNat * w + S 57 (S (26 + 1 + s) j).toNat := by omega
    have nd : ¬ zz_dr (S 57) (S 58) s (S (26 + 1 + s) j).toNat = -1 := fun z => hE j (by omega) ⟨pj, Or.inr z⟩
    have ed : yy_d w (S 58 s * w + S 57 s) (S 58 (S (26 + 1 + s) j).toNat * w + S 57 (S (26 + 1 + s) j).toNat) = zz_dr (S 57) (S 58) s (S (26 + 1 + s) j).toNat := by
      unfold yy_d zz_dr
      rw [sm.1, sm.2, qm.1, qm.2]
    have b8 := zz_dr_bd (S 57) (S 58) s (S (26 + 1 + s) j).toNat
    have t := (hT (S 58 s * w + S 57 s).toNat (by omega)).2 (yy_wh S (S (26 + 1 + s) j).toNat).toNat (by omega) (yy_dn8.mpr (by rw [es, eq, ed]; omega)) r
    rw [t, es, eq]
    unfold yy_ins
    have n9 : ¬ zz_dir (S 57 (S (26 + 1 + s) j).toNat - S 57 s) (S 58 (S (26 + 1 + s) j).toNat - S 58 s) = -1 := nd
    unfold yy_d yy_l
    rw [sm.1, sm.2, qm.1, qm.2]
    exact ⟨fun ⟨a, b, c⟩ => ⟨a, n9, b, c⟩, fun ⟨a, b, c, e⟩ => ⟨a, c, e⟩⟩
  constructor
  · rintro ⟨j, h1, h2, h3⟩
    have k := (key j h1 h2).mp h3
    exact ⟨k.1, j, h1, h2, k.2⟩
  · rintro ⟨a, j, h1, h2, h3⟩
    exact ⟨j, h1, h2, (key j h1 h2).mpr ⟨a, h3⟩⟩
theorem yy_and1 {d : Int} (h : 0 ≤ d ∧ d < 8) : qq_and d 1 = 1 ↔ ¬ d % 2 = 0 := by
  have : ∀ k : Fin 8, (qq_and (k.val : Int) 1 = 1 ↔ ¬ (k.val : Int) % 2 = 0) := by decide +kernel
  have e := this ⟨d.toNat, by omega⟩
  have e2 : ((d.toNat : Nat) : Int) = d := by omega
  simp only [e2] at e
  exact e
/-- nothing is in the way of the edges from s -/
theorem yy_T2 {S : qq_S} (hN : zz_N S) {X Y : Nat → Int} {s : Nat} {w h tk : Int} (hs : (s : Int) < S 4 0) (hw : S 56 0 = w) (wp : 0 < w) (hT : yy_T S w h) (gr : yy_gr (S 4 0) w h (S 57) (S 58)) (ho : ∀ t : Nat, ¬ t = s → X t = S 57 t ∧ Y t = S 58 t) (hu : X s = -1) (hp : ¬ S 57 s = -1) (pal : yy_pal S X Y) (ht : yy_tk S w h X Y tk) (hE : zz_gE (S 57) (S 58) (S 25) (fun s => S (26 + 1 + s)) (S 52 3) s) (gA : zz_gA (S 4 0) (S 57) (S 58) s) (gO : zz_gO (S 4 2) (S 57) (S 58) (S 22) (S 23) s) : (∀ i : Nat, (i : Int) < S 25 s → ¬ yy_pf S s (S 58 s * w + S 57 s).toNat tk i) ↔ zz_gL (S 4 0) (S 4 2) (S 57) (S 58) (S 22) (S 23) (S 25) (fun s => S (26 + 1 + s)) s := by
  have gb := hN.1.1
  have gn := zz_N_nb hN
  have gd := gn.2.2.1 s (by omega)
  have nd : ∀ j : Nat, (j : Int) < S 25 s → ¬ S 57 (S (26 + 1 + s) j).toNat = -1 → ¬ zz_dr (S 57) (S 58) s (S (26 + 1 + s) j).toNat = -1 := fun j hj pj z => hE j hj ⟨pj, Or.inr z⟩
  have rne : ∀ j : Nat, (j : Int) < S 25 s → 0 ≤ S (26 + 1 + s) j ∧ S (26 + 1 + s) j < S 4 0 ∧ ¬ (S (26 + 1 + s) j).toNat = s := fun j hj => by
    obtain ⟨e, he, hl, r0, r1, r2, r3⟩ := zz_ring_edge hN (s := s) (i := j) (by omega) hj
    exact ⟨r0, r1, by omega⟩
  have dX : ∀ e : Nat, ¬ (S 22 e).toNat = s → ¬ (S 23 e).toNat = s → (zz_dn X (S 22) (S 23) e ↔ zz_dn (S 57) (S 22) (S 23) e) := fun e n1 n2 => by
    unfold zz_dn
    rw [(ho _ n1).1, (ho _ n2).1]
  have edr : ∀ e : Nat, (e : Int) < S 4 2 → zz_dn X (S 22) (S 23) e → (¬ (S 22 e).toNat = s ∧ ¬ (S 23 e).toNat = s) ∧ ¬ zz_dr (S 57) (S 58) (S 22 e).toNat (S 23 e).toNat = -1 := fun e he hd => by
    have n1 : ¬ (S 22 e).toNat = s := fun z => hd.1 (by rw [z]; exact hu)
    have n2 : ¬ (S 23 e).toNat = s := fun z => hd.2 (by rw [z]; exact hu)
    have k := (pal.2.1 e he hd).1
    unfold zz_cr at k
    rw [zz_dr_c (ho _ n1) (ho _ n2)] at k
    exact ⟨⟨n1, n2⟩, k⟩
  -- a point inside that is taken shuts the way
  have shut : ∀ i j r : Nat, (i : Int) < S 25 s → j ≤ i → ¬ S 57 (S (26 + 1 + s) i).toNat = -1 → ¬ S 57 (S (26 + 1 + s) j).toNat = -1 → (r : Int) < w * h → yy_ins (S 57 s) (S 58 s) (S 57 (S (26 + 1 + s) j).toNat) (S 58 (S (26 + 1 + s) j).toNat) ((r : Int) % w) ((r : Int) / w) → yy_on9 S w X Y r → yy_pf S s (S 58 s * w + S 57 s).toNat tk i := fun i j r hi hj pi pj hr h1 h2 => by
    refine ⟨pi, Or.inl (fun z => ?_)⟩
    refine zz_bit_dis.mp z r ⟨?_, (ht r).mpr ⟨hr, h2⟩⟩
    exact (yy_pp_ins hN hs hw wp hT gr hp hE (m := i + 1) (by omega)).mpr ⟨hr, j, by omega, pj, h1⟩
  constructor
  · intro H i hi z
    have pi : ¬ S 57 (S (26 + 1 + s) i).toNat = -1 := z.1
    obtain ⟨r0, r1, r2⟩ := rne i hi
    have d1 := nd i hi pi
    have d8 := yy_d8 d1
    refine z.2 ⟨fun t h9 y => ?_, fun ⟨e, he, y⟩ => ?_⟩
    · obtain ⟨⟨y1, y2⟩, y3, y4⟩ := y
      have y2 : ¬ t = (S (26 + 1 + s) i).toNat := y2
      have y4 : zz_lies (S 57) (S 58) t s (S (26 + 1 + s) i).toNat := y4
      rcases (yy_lies_ins d1).mp y4 with c | c | c
      · exact gA t h9 ⟨y1, c.1, c.2⟩
      · have k := pal.1 t (S (26 + 1 + s) i).toNat h9 (by omega) y2 (by rw [(ho t y1).1]; exact y3) (by rw [(ho _ r2).1]; exact pi)
        rw [(ho t y1).1, (ho t y1).2, (ho _ r2).1, (ho _ r2).2] at k
        exact k c
      · have g2 := gr t h9
        have tb := yy_mlt (x := S 57 t) (y := S 58 t) (w := w) (h := h) (by omega) (by omega)
        have tm := yy_xy (x := S 57 t) (y := S 58 t) (w := w) (h := h) (by omega) (by omega)
        have et : (((S 58 t * w + S 57 t).toNat : Nat) : Int) = S 58 t * w + S 57 t := by omega
        refine H i hi (shut i i (S 58 t * w + S 57 t).toNat hi (Nat.le_refl _) pi pi (by omega) ?_ (Or.inl ⟨t, h9, ?_, ?_, ?_⟩))
        · rw [et, tm.1, tm.2]; exact c
        · rw [(ho t y1).1]; exact y3
        · rw [et, tm.1, (ho t y1).1]
        · rw [et, tm.2, (ho t y1).2]
    · obtain ⟨y1, y2⟩ := y
      have y2 : zz_crs (S 57) (S 58) s (S (26 + 1 + s) i).toNat (S 22 e).toNat (S 23 e).toNat := y2
      have self : ∀ a b c : Nat, ¬ zz_crs (S 57) (S 58) a b a c := fun a b c w => by
        have z1 : zz_side (S 57) (S 58) a b a = 0 := by unfold zz_side; grind
        have w4 := w.1
        rw [z1] at w4
        simp at w4
      have n1 : ¬ (S 22 e).toNat = s := fun y => by
        rw [y] at y2
        exact self _ _ _ y2
      have n2 : ¬ (S 23 e).toNat = s := fun y => by
        rw [y] at y2
        exact self _ _ _ (zz_crs_cm.mp (zz_crs_sw.mp (zz_crs_cm.mp y2)))
      have hd := (dX e n1 n2).mpr y1
      have e1 := (edr e he hd).2
      have e8 := yy_d8 e1
      by_cases ev : zz_dr (S 57) (S 58) s (S (26 + 1 + s) i).toNat % 2 = 0
      · obtain ⟨x, y, i1, i2⟩ := yy_S1 d1 e1 ev y2
        have gs := gr s hs
        have gi := gr (S (26 + 1 + s) i).toNat (by omega)
        obtain ⟨rx, ry⟩ := yy_ins_gr (w := w) (h := h) i1 (by omega) (by omega)
        have rb := yy_mlt (w := w) (h := h) rx ry
        have rm := yy_xy (w := w) (h := h) rx ry
        have er : (((y * w + x).toNat : Nat) : Int) = y * w + x := by omega
        refine H i hi (shut i i (y * w + x).toNat hi (Nat.le_refl _) pi pi (by omega) ?_ (Or.inr ⟨e, he, hd, ?_⟩))
        · rw [er, rm.1, rm.2]; exact i1
        · rw [er, rm.1, rm.2, (ho _ n1).1, (ho _ n1).2, (ho _ n2).1, (ho _ n2).2]; exact i2
      · exact H i hi ⟨pi, Or.inr ⟨(yy_and1 d8).mpr ev, ⟨e, he, y1, y2⟩⟩⟩
  · intro G i hi z
    obtain ⟨pi, z⟩ := z
    have cl : ∀ j : Nat, (j : Int) < S 25 s → ¬ S 57 (S (26 + 1 + s) j).toNat = -1 → zz_clr (S 4 0) (S 4 2) (S 57) (S 58) (S 22) (S 23) s (S (26 + 1 + s) j).toNat := fun j hj pj => Classical.not_not.mp (fun y => G j hj ⟨pj, y⟩)
    rcases z with z | ⟨z1, z2⟩
    · apply z
      refine zz_bit_dis.mpr (fun r ⟨b1, b2⟩ => ?_)
      obtain ⟨hr, j, hj, pj, hins⟩ := (yy_pp_ins hN hs hw wp hT gr hp hE (m := i + 1) (by omega)).mp b1
      have b3 := ((ht r).mp b2).2
      have c := cl j (by omega) pj
      obtain ⟨r0, r1, r2⟩ := rne j (by omega)
      have d1 := nd j (by omega) pj
      have d8 := yy_d8 d1
      rcases b3 with ⟨t, t1, t2, t3, t4⟩ | ⟨e, he, hd, hie⟩
      · have ts : ¬ t = s := fun y => by rw [y] at t2; exact t2 hu
        rw [(ho t ts).1] at t2 t3
        rw [(ho t ts).2] at t4
        have tn : ¬ t = (S (26 + 1 + s) j).toNat := fun y => by
          have k := hins.2.2
          rw [← t3, ← t4, y] at k
          omega
        refine c.1 t t1 ⟨⟨ts, tn⟩, t2, ?_⟩
        refine (yy_lies_ins d1).mpr (Or.inr (Or.inr ?_))
        rw [t3, t4]; exact hins
      · obtain ⟨⟨n1, n2⟩, e1⟩ := edr e he hd
        have q := gn.2.1 e he
        have e8 := yy_d8 e1
        have hd2 := (dX e n1 n2).mp hd
        rw [(ho _ n1).1, (ho _ n1).2, (ho _ n2).1, (ho _ n2).2] at hie
        rcases yy_S2 hins hie with g | g | g | g
        · exact c.2 ⟨e, he, hd2, g⟩
        · exact c.1 (S 22 e).toNat (by omega) ⟨⟨n1, fun y => g.2 (by rw [y]; exact ⟨rfl, rfl⟩)⟩, hd2.1, g.1⟩
        · exact c.1 (S 23 e).toNat (by omega) ⟨⟨n2, fun y => g.2 (by rw [y]; exact ⟨rfl, rfl⟩)⟩, hd2.2, g.1⟩
        · exact gO e he ⟨hd2, ⟨by omega, by omega⟩, g⟩
    · exact (cl i hi pi).2 z2
