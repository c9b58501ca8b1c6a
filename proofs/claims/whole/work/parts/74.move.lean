noncomputable def sp_59 : qq_P := fun y as S => match y, as with
  | 13, [.inr (53, none), .inl s] => some ((0 ≤ s ∧ s < 10 ∧ 0 ≤ S 52 3 ∧ S 52 3 ≤ 100) ∧ zz_p (zz_nb S) = 1 ∧ zz_p (zz_pl (S 49) (S 50)) = 1, some (zz_p (zz_gE (S 49) (S 50) (S 25) (fun s => S (26 + 1 + s)) (S 52 3) s.toNat)), S)
  | 14, [.inr (53, none), .inl s] => some ((0 ≤ s ∧ s < 10) ∧ zz_p (zz_nb S) = 1 ∧ zz_p (zz_pl (S 49) (S 50)) = 1, some (zz_p (zz_fits (S 4 0) (S 4 2) (S 49) (S 50) (S 22) (S 23) (S 25) (fun s => S (26 + 1 + s)) s.toNat)), S)
  | _, _ => sp_58 y as S
theorem sp_59_ok {xs : List Int32} (hxs : xs.length ≤ 2048) (d : Nat) : qq_ok xs (d + 20) sp_59 := by
  intro y as S pre r S2 h hp
  unfold sp_59 at h
  split at h
  · cases h; exact f13 hxs (d + 12) S _ hp
  · cases h; exact f14 hxs (d + 8) S _ hp
  · exact sp_58_ok hxs (d + 0) y as S pre r S2 h hp
def zz_mv (S : qq_S) (s : Nat) (p : Int) : qq_S := qq_u (qq_u S 49 s (p % S 48 0)) 50 s (p / S 48 0)
noncomputable def zz_gn (S : qq_S) (s : Nat) (p : Int) : Int := if zz_p (zz_gE (zz_mv S s p 49) (zz_mv S s p 50) (zz_mv S s p 25) (fun s2 => zz_mv S s p (26 + 1 + s2)) (zz_mv S s p 52 3) s) = 0 then 0 else zz_ar S (S 49) (S 50) s - zz_ar (zz_mv S s p) (zz_mv S s p 49) (zz_mv S s p 50) s
noncomputable def zz_ft (S : qq_S) (s : Nat) (p : Int) : Prop := zz_fits (zz_mv S s p 4 0) (zz_mv S s p 4 2) (zz_mv S s p 49) (zz_mv S s p 50) (zz_mv S s p 22) (zz_mv S s p 23) (zz_mv S s p 25) (fun s2 => zz_mv S s p (26 + 1 + s2)) s
noncomputable def zz_ci (S : qq_S) (s : Nat) (t : Int × Int × Int) : Nat → Int × Int × Int
  | 0 => t
  | p + 1 => if (zz_ci S s t p).1 < zz_gn S s p ∧ ¬ zz_p (zz_ft S s p) = 0 then (zz_gn S s p, s, p) else zz_ci S s t p
noncomputable def zz_co (S : qq_S) : Nat → Int × Int × Int
  | 0 => (0, -1, -1)
  | s + 1 => if ¬ S 51 s = 0 ∨ S 25 s = 0 then zz_co S s else zz_ci S s (zz_co S s) (S 48 0 * S 48 1).toNat
noncomputable def zz_mbc (S : qq_S) : qq_S := if (zz_co S (S 4 0).toNat).2.1 = -1 then S else zz_mv S (zz_co S (S 4 0).toNat).2.1.toNat (zz_co S (S 4 0).toNat).2.2
theorem zz_mv_ne {S : qq_S} {s a : Nat} {p : Int} (h : ¬ (a = 49 ∨ a = 50)) : zz_mv S s p a = S a := by
  unfold zz_mv
  rw [qq_ueq (by omega), qq_ueq (by omega)]
theorem zz_mv_at {S : qq_S} {s t : Nat} {p : Int} : zz_mv S s p 49 t = (if t = s then p % S 48 0 else S 49 t) ∧ zz_mv S s p 50 t = (if t = s then p / S 48 0 else S 50 t) := by
  unfold zz_mv
  refine ⟨?_, ?_⟩
  · rw [qq_ueq (by decide), qq_uat]
  · rw [qq_uat, qq_ueq (by decide)]
theorem zz_mv_mv (S : qq_S) (s : Nat) (p q : Int) : zz_mv (zz_mv S s q) s p = zz_mv S s p := by
  funext a t
  by_cases c : a = 49 ∨ a = 50
  · have l1 := zz_mv_at (S := zz_mv S s q) (s := s) (t := t) (p := p)
    have l2 := zz_mv_at (S := S) (s := s) (t := t) (p := p)
    have l3 := zz_mv_at (S := S) (s := s) (t := t) (p := q)
    rw [zz_mv_ne (a := 48) (by omega), l3.1, l3.2] at l1
    rcases c with e | e <;> subst e
    · rw [l1.1, l2.1]; split <;> rfl
    · rw [l1.2, l2.2]; split <;> rfl
  · rw [zz_mv_ne c, zz_mv_ne c, zz_mv_ne c]
/-- the plan: all placed, on the grid -/
def zz_gp (S : qq_S) : Prop := (2 ≤ S 48 0 ∧ S 48 0 ≤ 8 ∧ 2 ≤ S 48 1 ∧ S 48 1 ≤ 8) ∧ (0 ≤ S 52 0 ∧ S 52 0 ≤ 100 ∧ 0 ≤ S 52 1 ∧ S 52 1 ≤ 100 ∧ 0 ≤ S 52 2 ∧ S 52 2 ≤ 100 ∧ 0 ≤ S 52 3 ∧ S 52 3 ≤ 100) ∧ (∀ t : Nat, t < 10 → (S 51 t = 0 ∨ S 51 t = 1)) ∧ (∀ t : Nat, (t : Int) < S 4 0 → 0 ≤ S 49 t ∧ S 49 t < S 48 0 ∧ 0 ≤ S 50 t ∧ S 50 t < S 48 1)
theorem zz_mv_home {S : qq_S} (h : zz_gp S) {s : Nat} (hs : (s : Int) < S 4 0) : zz_mv S s (S 50 s * S 48 0 + S 49 s) = S := by
  have q := h.2.2.2 s hs
  have m := zz_mod (w := S 48 0) (x := S 49 s) (y := S 50 s) (by omega)
  funext a t
  by_cases c : a = 49 ∨ a = 50
  · have l := zz_mv_at (S := S) (s := s) (t := t) (p := S 50 s * S 48 0 + S 49 s)
    rw [m.1, m.2] at l
    rcases c with e | e <;> subst e
    · rw [l.1]; split
      · rename_i e; rw [e]
      · rfl
    · rw [l.2]; split
      · rename_i e; rw [e]
      · rfl
  · exact congrFun (zz_mv_ne c) t
theorem zz_mv_pl {S : qq_S} (hl : zz_pl (S 49) (S 50)) (h : zz_gp S) {s : Nat} {p : Int} (hp : 0 ≤ p ∧ p < S 48 0 * S 48 1) : zz_pl (zz_mv S s p 49) (zz_mv S s p 50) := by
  intro t ht
  have l := zz_mv_at (S := S) (s := s) (t := t) (p := p)
  have q := hl t ht
  have m1 := Int.emod_nonneg p (show S 48 0 ≠ 0 by have := h.1; omega)
  have m2 := Int.emod_lt_of_pos p (show 0 < S 48 0 by have := h.1; omega)
  have d1 := Int.ediv_nonneg hp.1 (show 0 ≤ S 48 0 by have := h.1; omega)
  have d2 : p / S 48 0 < S 48 1 := Int.ediv_lt_of_lt_mul (by have := h.1; omega) (by rw [Int.mul_comm]; exact hp.2)
  rw [l.1, l.2]
  have := h.1
  split <;> omega
theorem zz_eb_bd {a b : Int} (ha : -1 ≤ a ∧ a ≤ 7) (hb : -1 ≤ b ∧ b ≤ 7) : 0 ≤ zz_eb a b ∧ zz_eb a b ≤ 4 := by
  unfold zz_eb
  rw [zz_and7 _ (by omega)]
  split <;> omega
theorem zz_ar_bd {S : qq_S} (h1 : zz_nb S) (h2 : zz_gp S) {X Y : Nat → Int} (hl : zz_pl X Y) {s : Nat} (hs : s < 10) : -1000000 ≤ zz_ar S X Y s ∧ zz_ar S X Y s ≤ 1000000 := by
  have n0 := h1.1
  have w := h2.2.1
  have gd := h1.2.2.1 s hs
  have a1 := zz_sum_bd (f := zz_ar1 S X Y s) (n := (S 25 s).toNat) (a := 0) (b := 2000) (fun i hi => by
    have r := gd.2.2 i (by omega)
    have n1 := h1.2.1 (S (37 + 1 + s) (S (26 + 1 + s) i).toNat).toNat (by omega)
    unfold zz_ar1
    split
    · omega
    · have l := zz_ln_bd hl (a := s) (b := (S (26 + 1 + s) i).toNat) hs (by omega)
      have t := zz_eb_bd (a := zz_dr X Y (S 22 (S (37 + 1 + s) (S (26 + 1 + s) i).toNat).toNat).toNat (S 23 (S (37 + 1 + s) (S (26 + 1 + s) i).toNat).toNat).toNat) (b := S 24 (S (37 + 1 + s) (S (26 + 1 + s) i).toNat).toNat) (zz_dr_bd _ _ _ _) (by omega)
      have m1 := zz_mb2 l (show 0 ≤ S 52 1 ∧ S 52 1 ≤ 100 by omega)
      have m2 := zz_mb2 t (show 0 ≤ S 52 2 ∧ S 52 2 ≤ 100 by omega)
      unfold zz_trn
      omega)
  have a2 := zz_sum_bd (f := fun l => zz_bl1 X Y (S (8 + 1 + l)) (S (15 + 1 + l) s) (S 7 l)) (n := (S 4 1).toNat) (a := 0) (b := 40) (fun l hl2 => by
    have n1 := h1.2.2.2 l (by omega)
    show 0 ≤ zz_bl1 _ _ _ _ _ ∧ zz_bl1 _ _ _ _ _ ≤ 40
    unfold zz_bl1
    split
    · omega
    · have b := zz_sum_bd (f := zz_bf1 X Y (S (8 + 1 + l)) (S (15 + 1 + l) s)) (n := (S 7 l - 2).toNat) (a := 0) (b := 4) (fun k _ => by
        unfold zz_bf1
        split
        · exact zz_eb_bd (zz_dr_bd _ _ _ _) (zz_dr_bd _ _ _ _)
        · omega)
      omega)
  have b2 : 0 ≤ zz_ba S X Y s ∧ zz_ba S X Y s ≤ 240 := by
    unfold zz_ba
    omega
  have m3 := zz_mb2 b2 (show 0 ≤ S 52 0 ∧ S 52 0 ≤ 100 by omega)
  unfold zz_ar
  omega
