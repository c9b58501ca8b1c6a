/-! The cost of a drawing of some of the stations. -/
noncomputable def yy_eS (S : qq_S) (X : Nat → Int) (g : Nat → Int) : Int := zz_sum (fun e => if zz_p (zz_dn X (S 22) (S 23) e) = 1 then g e else 0) (S 4 2).toNat
def yy_g (S : qq_S) (X Y : Nat → Int) (e : Nat) : Int := zz_ln X Y (S 22 e).toNat (S 23 e).toNat * S 52 1 + zz_trn S X Y e * S 52 2
noncomputable def yy_bS (S : qq_S) (X Y : Nat → Int) : Int := zz_sum (fun l => zz_sum (fun k => if zz_p (zz_b3 X (S (8 + 1 + l)) k) = 1 then zz_bnd X Y (S (8 + 1 + l)) k else 0) (S 7 l - 2).toNat) (S 4 1).toNat
noncomputable def yy_pc (S : qq_S) (X Y : Nat → Int) : Int := yy_eS S X (yy_g S X Y) + yy_bS S X Y * S 52 0
theorem yy_es {S : qq_S} (hN : zz_N S) {X X' : Nat → Int} {s : Nat} (hs : (s : Int) < S 4 0) (ho : ∀ t : Nat, ¬ t = s → X t = X' t) (hu : X s = -1) (hp : ¬ X' s = -1) (g g' : Nat → Int) (hg : ∀ e : Nat, (e : Int) < S 4 2 → ¬ (S 22 e).toNat = s → ¬ (S 23 e).toNat = s → g' e = g e) : yy_eS S X' g' = yy_eS S X g + zz_sum (fun i => if X' (S (26 + 1 + s) i).toNat = -1 then 0 else g' (S (37 + 1 + s) (S (26 + 1 + s) i).toNat).toNat) (S 25 s).toNat := by
  have gb := hN.1.1
  have gn := zz_N_nb hN
  have C := zz_N_CE hN
  have ed : ∀ e : Nat, e < (S 4 2).toNat → 0 ≤ S 22 e ∧ S 22 e < S 23 e ∧ S 23 e < S 4 0 := fun e he => by
    have := gn.2.1 e (by omega)
    omega
  have gd := gn.2.2.1 s (by omega)
  have phi : ∀ i : Nat, (i : Int) < S 25 s → (S (37 + 1 + s) (S (26 + 1 + s) i).toNat).toNat < (S 4 2).toNat ∧ (((S 22 (S (37 + 1 + s) (S (26 + 1 + s) i).toNat).toNat).toNat = s ∧ (S 23 (S (37 + 1 + s) (S (26 + 1 + s) i).toNat).toNat).toNat = (S (26 + 1 + s) i).toNat) ∨ ((S 23 (S (37 + 1 + s) (S (26 + 1 + s) i).toNat).toNat).toNat = s ∧ (S 22 (S (37 + 1 + s) (S (26 + 1 + s) i).toNat).toNat).toNat = (S (26 + 1 + s) i).toNat)) ∧ 0 ≤ S (26 + 1 + s) i ∧ S (26 + 1 + s) i < S 4 0 := fun i hi => by
    have r := gd.2.2 i hi
    have q := C.2.2.2.2.2.1 s (S (26 + 1 + s) i).toNat (by omega) (by omega)
    refine ⟨by omega, by omega, by omega, by omega⟩
  have key : zz_sum (fun e => (if zz_p (zz_dn X' (S 22) (S 23) e) = 1 then g' e else 0) - (if zz_p (zz_dn X (S 22) (S 23) e) = 1 then g e else 0)) (S 4 2).toNat = zz_sum (fun i => if X' (S (26 + 1 + s) i).toNat = -1 then 0 else g' (S (37 + 1 + s) (S (26 + 1 + s) i).toNat).toNat) (S 25 s).toNat := by
    rw [zz_sum_bij (S 25 s).toNat (fun e => (if zz_p (zz_dn X' (S 22) (S 23) e) = 1 then g' e else 0) - (if zz_p (zz_dn X (S 22) (S 23) e) = 1 then g e else 0)) (fun i => (S (37 + 1 + s) (S (26 + 1 + s) i).toNat).toNat) (fun i hi => (phi i (by omega)).1) (fun i j hi hj w => ?_) (fun e he hne => ?_)]
    · refine zz_sum_c (fun i hi => ?_)
      have p := phi i (by omega)
      show (if zz_p (zz_dn X' (S 22) (S 23) (S (37 + 1 + s) (S (26 + 1 + s) i).toNat).toNat) = 1 then g' (S (37 + 1 + s) (S (26 + 1 + s) i).toNat).toNat else 0) - (if zz_p (zz_dn X (S 22) (S 23) (S (37 + 1 + s) (S (26 + 1 + s) i).toNat).toNat) = 1 then g (S (37 + 1 + s) (S (26 + 1 + s) i).toNat).toNat else 0) = _
      have n0 : ¬ zz_p (zz_dn X (S 22) (S 23) (S (37 + 1 + s) (S (26 + 1 + s) i).toNat).toNat) = 1 := fun z => by
        have z := zz_pi1.mp z
        rcases p.2.1 with ⟨u, v⟩ | ⟨u, v⟩
        · exact z.1 (by rw [u]; exact hu)
        · exact z.2 (by rw [u]; exact hu)
      rw [if_neg n0]
      by_cases c : X' (S (26 + 1 + s) i).toNat = -1
      · have n1 : ¬ zz_p (zz_dn X' (S 22) (S 23) (S (37 + 1 + s) (S (26 + 1 + s) i).toNat).toNat) = 1 := fun z => by
          have z := zz_pi1.mp z
          rcases p.2.1 with ⟨u, v⟩ | ⟨u, v⟩
          · exact z.2 (by rw [v]; exact c)
          · exact z.1 (by rw [v]; exact c)
        rw [if_neg n1, if_pos c]
        omega
      · have n1 : zz_p (zz_dn X' (S 22) (S 23) (S (37 + 1 + s) (S (26 + 1 + s) i).toNat).toNat) = 1 := by
          refine zz_p1 ?_
          unfold zz_dn
          rcases p.2.1 with ⟨u, v⟩ | ⟨u, v⟩
          · rw [u, v]; exact ⟨hp, c⟩
          · rw [u, v]; exact ⟨c, hp⟩
        rw [if_pos n1, if_neg c]
        omega
    · have p1 := phi i (by omega)
      have p2 := phi j (by omega)
      have w2 : (S (37 + 1 + s) (S (26 + 1 + s) i).toNat).toNat = (S (37 + 1 + s) (S (26 + 1 + s) j).toNat).toNat := w
      rw [w2] at p1
      exact zz_rinj hN (show s < 10 by omega) i j hi hj (by omega)
    · have away : ¬ (S 22 e).toNat = s ∧ ¬ (S 23 e).toNat = s := by
        have q := ed e he
        have q5 := C.2.2.2.2.1 e (by omega)
        have w := zz_edge_ring hN (e := e) (by omega)
        constructor
        · intro c
          obtain ⟨i, hi, z⟩ := w.1
          rw [c] at hi z q5
          refine hne i (by omega) ?_
          rw [z]
          omega
        · intro c
          obtain ⟨i, hi, z⟩ := w.2
          rw [c] at hi z q5
          refine hne i (by omega) ?_
          rw [z]
          omega
      have e1 : zz_p (zz_dn X' (S 22) (S 23) e) = zz_p (zz_dn X (S 22) (S 23) e) := by
        unfold zz_dn
        rw [ho _ away.1, ho _ away.2]
      rw [e1, hg e (by omega) away.1 away.2]
      omega
  rw [zz_sum_sub] at key
  unfold yy_eS
  omega
theorem yy_bs {S : qq_S} (hN : zz_N S) {X Y X' Y' : Nat → Int} {s : Nat} (hs : (s : Int) < S 4 0) (ho : ∀ t : Nat, ¬ t = s → X t = X' t ∧ Y t = Y' t) (hu : X s = -1) : yy_bS S X' Y' = yy_bS S X Y + zz_ba S X' Y' s := by
  have gb := hN.1.1
  have gn := zz_N_nb hN
  have key : yy_bS S X' Y' - yy_bS S X Y = zz_ba S X' Y' s := by
    unfold yy_bS zz_ba
    rw [← zz_sum_sub]
    refine zz_sum_c (fun l hl => ?_)
    have n1 := gn.2.2.2 l (by omega)
    have L0 := hN.2.1.1 l (by omega)
    have rkS := hN.2.1.2.2 l s (by omega) (by omega)
    rw [qq_R_at (show l < 6 by omega), qq_R_at (show l < 6 by omega)] at rkS
    have pos : ∀ k : Nat, (k : Int) < S 7 l → ((S (8 + 1 + l) k).toNat = s ↔ S (15 + 1 + l) s = k) := fun k hk => by
      have q := L0.2.2.2 k hk
      rw [qq_R_at (show l < 6 by omega), qq_R_at (show l < 6 by omega)] at q
      rw [show 8 + 1 + l = 9 + l by omega, show 15 + 1 + l = 16 + l by omega]
      constructor
      · intro z
        rw [← z]
        exact q.2.2.2
      · intro z
        rcases rkS with y | ⟨y1, y2, y3⟩
        · omega
        · rw [z, Int.toNat_natCast] at y3
          omega
    have far : ∀ k : Nat, k < (S 7 l - 2).toNat → ¬ (S (15 + 1 + l) s - 2 ≤ k ∧ k ≤ S (15 + 1 + l) s) → zz_bnd X' Y' (S (8 + 1 + l)) k = zz_bnd X Y (S (8 + 1 + l)) k ∧ zz_p (zz_b3 X' (S (8 + 1 + l)) k) = zz_p (zz_b3 X (S (8 + 1 + l)) k) := fun k hk hne => by
      have a0 : ¬ (S (8 + 1 + l) k).toNat = s := fun z => by have := (pos k (by omega)).mp z; omega
      have a1 : ¬ (S (8 + 1 + l) (k + 1)).toNat = s := fun z => by have := (pos (k + 1) (by omega)).mp z; omega
      have a2 : ¬ (S (8 + 1 + l) (k + 2)).toNat = s := fun z => by have := (pos (k + 2) (by omega)).mp z; omega
      unfold zz_bnd zz_b3
      rw [zz_dr_c (ho _ a0) (ho _ a1), zz_dr_c (ho _ a1) (ho _ a2), (ho _ a0).1, (ho _ a1).1, (ho _ a2).1]
      exact ⟨rfl, rfl⟩
    show zz_sum (fun k => if zz_p (zz_b3 X' (S (8 + 1 + l)) k) = 1 then zz_bnd X' Y' (S (8 + 1 + l)) k else 0) (S 7 l - 2).toNat - zz_sum (fun k => if zz_p (zz_b3 X (S (8 + 1 + l)) k) = 1 then zz_bnd X Y (S (8 + 1 + l)) k else 0) (S 7 l - 2).toNat = zz_bl1 X' Y' (S (8 + 1 + l)) (S (15 + 1 + l) s) (S 7 l)
    unfold zz_bl1
    by_cases c : S (15 + 1 + l) s = -1
    · rw [if_pos c, zz_sum_c (f := fun k => if zz_p (zz_b3 X' (S (8 + 1 + l)) k) = 1 then zz_bnd X' Y' (S (8 + 1 + l)) k else 0) (g := fun k => if zz_p (zz_b3 X (S (8 + 1 + l)) k) = 1 then zz_bnd X Y (S (8 + 1 + l)) k else 0) (fun k hk => by
        have f := far k hk (by omega)
        show (if zz_p (zz_b3 X' (S (8 + 1 + l)) k) = 1 then zz_bnd X' Y' (S (8 + 1 + l)) k else 0) = (if zz_p (zz_b3 X (S (8 + 1 + l)) k) = 1 then zz_bnd X Y (S (8 + 1 + l)) k else 0)
        rw [f.1, f.2])]
      omega
    · rw [if_neg c, ← zz_sum_sub]
      refine zz_sum_c (fun k hk => ?_)
      show (if zz_p (zz_b3 X' (S (8 + 1 + l)) k) = 1 then zz_bnd X' Y' (S (8 + 1 + l)) k else 0) - (if zz_p (zz_b3 X (S (8 + 1 + l)) k) = 1 then zz_bnd X Y (S (8 + 1 + l)) k else 0) = _
      by_cases q : S (15 + 1 + l) s - 2 ≤ k ∧ k ≤ S (15 + 1 + l) s
      · have n0 : ¬ zz_p (zz_b3 X (S (8 + 1 + l)) k) = 1 := fun z => by
          have z := zz_pi1.mp z
          have w : S (15 + 1 + l) s = k ∨ S (15 + 1 + l) s = (k + 1 : Nat) ∨ S (15 + 1 + l) s = (k + 2 : Nat) := by omega
          rcases w with w | w | w
          · exact z.1 (by rw [(pos k (by omega)).mpr w]; exact hu)
          · exact z.2.1 (by rw [(pos (k + 1) (by omega)).mpr w]; exact hu)
          · exact z.2.2 (by rw [(pos (k + 2) (by omega)).mpr w]; exact hu)
        rw [if_neg n0]
        by_cases b : zz_b3 X' (S (8 + 1 + l)) k
        · rw [zz_p1 b, if_pos rfl, zz_bf1_yes q b]
          omega
        · rw [zz_p0 b, if_neg (by decide)]
          unfold zz_bf1
          rw [if_neg (fun z => b z.2)]
          omega
      · have f := far k hk q
        rw [zz_bf1_no q, f.1, f.2]
        omega
  omega
theorem yy_pc_mv {S : qq_S} (hN : zz_N S) {X Y X' Y' : Nat → Int} {s : Nat} (hs : (s : Int) < S 4 0) (ho : ∀ t : Nat, ¬ t = s → X t = X' t ∧ Y t = Y' t) (hu : X s = -1) (hp : ¬ X' s = -1) : yy_pc S X' Y' = yy_pc S X Y + zz_ar S X' Y' s := by
  have gb := hN.1.1
  have gn := zz_N_nb hN
  have C := zz_N_CE hN
  have gd := gn.2.2.1 s (by omega)
  have e1 := yy_es hN hs (fun t ht => (ho t ht).1) hu hp (yy_g S X Y) (yy_g S X' Y') (fun e he n1 n2 => by
    unfold yy_g zz_trn
    rw [zz_ln_c (ho _ n1) (ho _ n2), zz_dr_c (ho _ n1) (ho _ n2)])
  have e2 := yy_bs hN hs ho hu
  have e3 : zz_sum (fun i => if X' (S (26 + 1 + s) i).toNat = -1 then 0 else yy_g S X' Y' (S (37 + 1 + s) (S (26 + 1 + s) i).toNat).toNat) (S 25 s).toNat = zz_sum (zz_ar1 S X' Y' s) (S 25 s).toNat := zz_sum_c (fun i hi => by
    have r := gd.2.2 i (by omega)
    have q := C.2.2.2.2.2.1 s (S (26 + 1 + s) i).toNat (by omega) (by omega)
    have p : (((S 22 (S (37 + 1 + s) (S (26 + 1 + s) i).toNat).toNat).toNat = s ∧ (S 23 (S (37 + 1 + s) (S (26 + 1 + s) i).toNat).toNat).toNat = (S (26 + 1 + s) i).toNat) ∨ ((S 23 (S (37 + 1 + s) (S (26 + 1 + s) i).toNat).toNat).toNat = s ∧ (S 22 (S (37 + 1 + s) (S (26 + 1 + s) i).toNat).toNat).toNat = (S (26 + 1 + s) i).toNat)) := by omega
    show (if X' (S (26 + 1 + s) i).toNat = -1 then 0 else yy_g S X' Y' (S (37 + 1 + s) (S (26 + 1 + s) i).toNat).toNat) = zz_ar1 S X' Y' s i
    unfold zz_ar1
    split
    · rfl
    · unfold yy_g
      rcases p with ⟨u, v⟩ | ⟨u, v⟩
      · rw [u, v]
      · rw [u, v, zz_len_sw])
  unfold yy_pc zz_ar
  rw [e1, e2, e3, Int.add_mul]
  omega
theorem yy_pc_all {S : qq_S} (hN : zz_N S) {X Y : Nat → Int} (hp : ∀ a : Nat, (a : Int) < S 4 0 → ¬ X a = -1) : yy_pc S X Y = zz_cst S X Y := by
  have gn := zz_N_nb hN
  have e1 : yy_eS S X (yy_g S X Y) = zz_lns S X Y * S 52 1 + zz_trs S X Y * S 52 2 := by
    unfold yy_eS zz_lns zz_trs
    rw [← zz_sum_lin]
    refine zz_sum_c (fun e he => ?_)
    have q := gn.2.1 e (by omega)
    have d : zz_dn X (S 22) (S 23) e := ⟨hp _ (by omega), hp _ (by omega)⟩
    rw [zz_p1 d, if_pos rfl]
    rfl
  have e2 : yy_bS S X Y = zz_bds S X Y := by
    unfold yy_bS zz_bds
    refine zz_sum_c (fun l hl => ?_)
    have n1 := gn.2.2.2 l (by omega)
    show _ = zz_bln X Y (S (8 + 1 + l)) (S 7 l)
    unfold zz_bln
    refine zz_sum_c (fun k hk => ?_)
    have r0 := n1.2.2.1 k (by omega)
    have r1 := n1.2.2.1 (k + 1) (by omega)
    have r2 := n1.2.2.1 (k + 2) (by omega)
    have d : zz_b3 X (S (8 + 1 + l)) k := ⟨hp _ (by omega), hp _ (by omega), hp _ (by omega)⟩
    rw [zz_p1 d, if_pos rfl]
  unfold yy_pc zz_cst
  rw [e1, e2]
  omega
