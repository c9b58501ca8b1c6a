/-! One station moved: what the cost changes by. -/
theorem zz_sum_sub (f g : Nat → Int) : ∀ n, zz_sum (fun k => f k - g k) n = zz_sum f n - zz_sum g n
  | 0 => rfl
  | n + 1 => by
    show zz_sum (fun k => f k - g k) n + (f n - g n) = zz_sum f n + f n - (zz_sum g n + g n)
    rw [zz_sum_sub f g n]
    omega
theorem zz_sum_lin (f g : Nat → Int) (a b : Int) : ∀ n, zz_sum (fun k => f k * a + g k * b) n = zz_sum f n * a + zz_sum g n * b
  | 0 => by simp [zz_sum]
  | n + 1 => by
    show zz_sum (fun k => f k * a + g k * b) n + (f n * a + g n * b) = (zz_sum f n + f n) * a + (zz_sum g n + g n) * b
    rw [zz_sum_lin f g a b n, Int.add_mul, Int.add_mul]
    omega
theorem zz_sum_upd (g : Nat → Int) (c : Nat) : ∀ n, c < n → zz_sum g n = zz_sum (fun e => if e = c then 0 else g e) n + g c
  | 0, h => by omega
  | n + 1, h => by
    show zz_sum g n + g n = zz_sum (fun e => if e = c then 0 else g e) n + (if n = c then 0 else g n) + g c
    by_cases e : n = c
    · subst e
      rw [if_pos rfl, zz_sum_c (f := fun e => if e = n then 0 else g e) (g := g) (fun j hj => by rw [if_neg (by omega)])]
      omega
    · rw [if_neg e, zz_sum_upd g c n (by omega)]
      omega
/-- a sum over what f hits -/
theorem zz_sum_bij {E : Nat} : ∀ (d : Nat) (g : Nat → Int) (f : Nat → Nat), (∀ i, i < d → f i < E) → (∀ i j, i < d → j < d → f i = f j → i = j) → (∀ e, e < E → (∀ i, i < d → ¬ f i = e) → g e = 0) → zz_sum g E = zz_sum (fun i => g (f i)) d
  | 0, g, f, _, _, hz => zz_sum_z0 (fun e he => hz e he (fun i hi => by omega))
  | d + 1, g, f, hf, inj, hz => by
    have ih := zz_sum_bij d (fun e => if e = f d then 0 else g e) f (fun i hi => hf i (by omega)) (fun i j hi hj => inj i j (by omega) (by omega)) (fun e he hne => by
      by_cases c : e = f d
      · rw [if_pos c]
      · rw [if_neg c]
        refine hz e he (fun i hi w => ?_)
        by_cases q : i = d
        · subst q; exact c w.symm
        · exact hne i (by omega) w)
    rw [zz_sum_upd g (f d) E (hf d (by omega)), ih]
    show _ = zz_sum (fun i => g (f i)) d + g (f d)
    congr 1
    refine zz_sum_c (fun i hi => ?_)
    have : ¬ f i = f d := fun w => by
      have := inj i d (by omega) (by omega) w
      omega
    show (if f i = f d then 0 else g (f i)) = g (f i)
    rw [if_neg this]
theorem zz_gain {S : qq_S} (hN : zz_N S) {X Y X' Y' : Nat → Int} {s : Nat} (hs : (s : Int) < S 4 0) (ho : ∀ t : Nat, ¬ t = s → X t = X' t ∧ Y t = Y' t) (hp : ∀ a, a < (S 4 0).toNat → ¬ X a = -1) (hp' : ¬ X' s = -1) : zz_cst S X' Y' - zz_cst S X Y = zz_ar S X' Y' s - zz_ar S X Y s := by
  have gb := hN.1.1
  have gn := zz_N_nb hN
  have C := zz_N_CE hN
  have pl' : ∀ a, a < (S 4 0).toNat → ¬ X' a = -1 := fun a ha => by
    by_cases c : a = s
    · rw [c]; exact hp'
    · rw [← (ho a c).1]; exact hp a ha
  have ed : ∀ e : Nat, e < (S 4 2).toNat → 0 ≤ S 22 e ∧ S 22 e < S 23 e ∧ S 23 e < S 4 0 := fun e he => by
    have := gn.2.1 e (by omega)
    omega
  have gd := gn.2.2.1 s (by omega)
  -- the edges
  have phi : ∀ i : Nat, (i : Int) < S 25 s → (S (37 + 1 + s) (S (26 + 1 + s) i).toNat).toNat < (S 4 2).toNat ∧ (((S 22 (S (37 + 1 + s) (S (26 + 1 + s) i).toNat).toNat).toNat = s ∧ (S 23 (S (37 + 1 + s) (S (26 + 1 + s) i).toNat).toNat).toNat = (S (26 + 1 + s) i).toNat) ∨ ((S 23 (S (37 + 1 + s) (S (26 + 1 + s) i).toNat).toNat).toNat = s ∧ (S 22 (S (37 + 1 + s) (S (26 + 1 + s) i).toNat).toNat).toNat = (S (26 + 1 + s) i).toNat)) ∧ 0 ≤ S (26 + 1 + s) i ∧ S (26 + 1 + s) i < S 4 0 := fun i hi => by
    have r := gd.2.2 i hi
    have q := C.2.2.2.2.2.1 s (S (26 + 1 + s) i).toNat (by omega) (by omega)
    refine ⟨by omega, by omega, by omega, by omega⟩
  have G : ∀ (A B : Nat → Int), (∀ a, a < (S 4 0).toNat → ¬ A a = -1) → zz_sum (zz_ar1 S A B s) (S 25 s).toNat = zz_sum (fun i => (fun e => zz_ln A B (S 22 e).toNat (S 23 e).toNat * S 52 1 + zz_trn S A B e * S 52 2) (S (37 + 1 + s) (S (26 + 1 + s) i).toNat).toNat) (S 25 s).toNat := fun A B hA => by
    refine zz_sum_c (fun i hi => ?_)
    have p := phi i (by omega)
    unfold zz_ar1
    rw [if_neg (hA _ (by omega))]
    show _ = zz_ln A B (S 22 _).toNat (S 23 _).toNat * S 52 1 + _
    rcases p.2.1 with ⟨u, v⟩ | ⟨u, v⟩
    · rw [u, v]
    · rw [u, v, zz_len_sw]
  have edges : (zz_lns S X' Y' * S 52 1 + zz_trs S X' Y' * S 52 2) - (zz_lns S X Y * S 52 1 + zz_trs S X Y * S 52 2) = zz_sum (zz_ar1 S X' Y' s) (S 25 s).toNat - zz_sum (zz_ar1 S X Y s) (S 25 s).toNat := by
    rw [G X' Y' pl', G X Y hp]
    unfold zz_lns zz_trs
    rw [← zz_sum_lin, ← zz_sum_lin, ← zz_sum_sub, ← zz_sum_sub]
    refine zz_sum_bij (S 25 s).toNat (fun e => zz_ln X' Y' (S 22 e).toNat (S 23 e).toNat * S 52 1 + zz_trn S X' Y' e * S 52 2 - (zz_ln X Y (S 22 e).toNat (S 23 e).toNat * S 52 1 + zz_trn S X Y e * S 52 2)) (fun i => (S (37 + 1 + s) (S (26 + 1 + s) i).toNat).toNat) (fun i hi => (phi i (by omega)).1) (fun i j hi hj w => ?_) (fun e he hne => ?_)
    · have p1 := phi i (by omega)
      have p2 := phi j (by omega)
      have w2 : (S (37 + 1 + s) (S (26 + 1 + s) i).toNat).toNat = (S (37 + 1 + s) (S (26 + 1 + s) j).toNat).toNat := w
      rw [w2] at p1
      exact zz_rinj hN (show s < 10 by omega) i j hi hj (by omega)
    · have away : ¬ (S 22 e).toNat = s ∧ ¬ (S 23 e).toNat = s := by
        have q := ed e he
        have q5 := C.2.2.2.2.1 e (by omega)
        have w := zz_edge_ring hN (e := e) (by omega)
        constructor
        · intro c
          obtain ⟨i, hi, z⟩ := w.1
          rw [c] at hi z q5
          refine hne i (by omega) ?_
          rw [z]
          omega
        · intro c
          obtain ⟨i, hi, z⟩ := w.2
          rw [c] at hi z q5
          refine hne i (by omega) ?_
          rw [z]
          omega
      unfold zz_trn
      rw [zz_ln_c (ho _ away.1) (ho _ away.2), zz_dr_c (ho _ away.1) (ho _ away.2)]
      omega
  -- the bends
  have bends : zz_bds S X' Y' - zz_bds S X Y = zz_ba S X' Y' s - zz_ba S X Y s := by
    unfold zz_bds zz_ba
    rw [← zz_sum_sub, ← zz_sum_sub]
    refine zz_sum_c (fun l hl => ?_)
    have n1 := gn.2.2.2 l (by omega)
    have L0 := hN.2.1.1 l (by omega)
    have rkS := hN.2.1.2.2 l s (by omega) (by omega)
    rw [qq_R_at (show l < 6 by omega), qq_R_at (show l < 6 by omega)] at rkS
    -- where s stands in the row
    have pos : ∀ k : Nat, (k : Int) < S 7 l → ((S (8 + 1 + l) k).toNat = s ↔ S (15 + 1 + l) s = k) := fun k hk => by
      have q := L0.2.2.2 k hk
      rw [qq_R_at (show l < 6 by omega), qq_R_at (show l < 6 by omega)] at q
      rw [show 8 + 1 + l = 9 + l by omega, show 15 + 1 + l = 16 + l by omega]
      constructor
      · intro z
        rw [← z]
        exact q.2.2.2
      · intro z
        rcases rkS with y | ⟨y1, y2, y3⟩
        · omega
        · rw [z, Int.toNat_natCast] at y3
          omega
    have far : ∀ k : Nat, k < (S 7 l - 2).toNat → ¬ (S (15 + 1 + l) s - 2 ≤ k ∧ k ≤ S (15 + 1 + l) s) → zz_bnd X' Y' (S (8 + 1 + l)) k = zz_bnd X Y (S (8 + 1 + l)) k := fun k hk hne => by
      have a0 : ¬ (S (8 + 1 + l) k).toNat = s := fun z => by have := (pos k (by omega)).mp z; omega
      have a1 : ¬ (S (8 + 1 + l) (k + 1)).toNat = s := fun z => by have := (pos (k + 1) (by omega)).mp z; omega
      have a2 : ¬ (S (8 + 1 + l) (k + 2)).toNat = s := fun z => by have := (pos (k + 2) (by omega)).mp z; omega
      unfold zz_bnd
      rw [zz_dr_c (ho _ a0) (ho _ a1), zz_dr_c (ho _ a1) (ho _ a2)]
    have b3 : ∀ (A : Nat → Int), (∀ a, a < (S 4 0).toNat → ¬ A a = -1) → ∀ k : Nat, k < (S 7 l - 2).toNat → zz_b3 A (S (8 + 1 + l)) k := fun A hA k hk => by
      have r0 := n1.2.2.1 k (by omega)
      have r1 := n1.2.2.1 (k + 1) (by omega)
      have r2 := n1.2.2.1 (k + 2) (by omega)
      exact ⟨hA _ (by omega), hA _ (by omega), hA _ (by omega)⟩
    show zz_bln X' Y' (S (8 + 1 + l)) (S 7 l) - zz_bln X Y (S (8 + 1 + l)) (S 7 l) = zz_bl1 X' Y' (S (8 + 1 + l)) (S (15 + 1 + l) s) (S 7 l) - zz_bl1 X Y (S (8 + 1 + l)) (S (15 + 1 + l) s) (S 7 l)
    unfold zz_bln zz_bl1
    by_cases c : S (15 + 1 + l) s = -1
    · rw [if_pos c, if_pos c, zz_sum_c (f := zz_bnd X' Y' (S (8 + 1 + l))) (g := zz_bnd X Y (S (8 + 1 + l))) (fun k hk => far k hk (by omega))]
      omega
    · rw [if_neg c, if_neg c, ← zz_sum_sub, ← zz_sum_sub]
      refine zz_sum_c (fun k hk => ?_)
      by_cases q : S (15 + 1 + l) s - 2 ≤ k ∧ k ≤ S (15 + 1 + l) s
      · rw [zz_bf1_yes q (b3 X' pl' k hk), zz_bf1_yes q (b3 X hp k hk)]
      · rw [zz_bf1_no q, zz_bf1_no q, far k hk q]
        omega
  unfold zz_cst zz_ar
  have e1 : zz_bds S X' Y' * S 52 0 - zz_bds S X Y * S 52 0 = zz_ba S X' Y' s * S 52 0 - zz_ba S X Y s * S 52 0 := by
    rw [← Int.sub_mul, ← Int.sub_mul, bends]
  omega
