/-! lookRound: which points an edge can lead to, and what lies inside. -/
def yy_sx (d : Int) : Int := if d = 0 ∨ d = 1 ∨ d = 7 then 1 else if d = 2 ∨ d = 6 then 0 else -1
def yy_sy (d : Int) : Int := if d = 1 ∨ d = 2 ∨ d = 3 then 1 else if d = 0 ∨ d = 4 then 0 else -1
theorem yy_ro (xs : List Int32) : (mm_ro xs 1).length = 8 ∧ (mm_ro xs 2).length = 8 := ⟨rfl, rfl⟩
theorem yy_ro1 (xs : List Int32) {d : Int} (h : 0 ≤ d ∧ d < 8) : ((mm_ro xs 1).getD d.toNat 0).toInt = yy_sx d ∧ ((mm_ro xs 2).getD d.toNat 0).toInt = yy_sy d := by
  have : d = 0 ∨ d = 1 ∨ d = 2 ∨ d = 3 ∨ d = 4 ∨ d = 5 ∨ d = 6 ∨ d = 7 := by omega
  rcases this with e | e | e | e | e | e | e | e <;> subst e <;> exact ⟨rfl, rfl⟩
theorem yy_sxy {d : Int} (h : 0 ≤ d ∧ d < 8) : (d = 0 ∧ yy_sx d = 1 ∧ yy_sy d = 0) ∨ (d = 1 ∧ yy_sx d = 1 ∧ yy_sy d = 1) ∨ (d = 2 ∧ yy_sx d = 0 ∧ yy_sy d = 1) ∨ (d = 3 ∧ yy_sx d = -1 ∧ yy_sy d = 1) ∨ (d = 4 ∧ yy_sx d = -1 ∧ yy_sy d = 0) ∨ (d = 5 ∧ yy_sx d = -1 ∧ yy_sy d = -1) ∨ (d = 6 ∧ yy_sx d = 0 ∧ yy_sy d = -1) ∨ (d = 7 ∧ yy_sx d = 1 ∧ yy_sy d = -1) := by
  have : d = 0 ∨ d = 1 ∨ d = 2 ∨ d = 3 ∨ d = 4 ∨ d = 5 ∨ d = 6 ∨ d = 7 := by omega
  rcases this with e | e | e | e | e | e | e | e <;> subst e <;> decide
/-- direction and length from point to point -/
def yy_d (w p q : Int) : Int := zz_dir (q % w - p % w) (q / w - p / w)
def yy_l (w p q : Int) : Int := zz_len (q % w - p % w) (q / w - p / w)
theorem yy_dl_at {d m : Int} (h : 0 ≤ d ∧ d < 8) (hm : 1 ≤ m) : zz_dir (m * yy_sx d) (m * yy_sy d) = d ∧ zz_len (m * yy_sx d) (m * yy_sy d) = m := by
  rcases yy_sxy h with ⟨e, a, b⟩ | ⟨e, a, b⟩ | ⟨e, a, b⟩ | ⟨e, a, b⟩ | ⟨e, a, b⟩ | ⟨e, a, b⟩ | ⟨e, a, b⟩ | ⟨e, a, b⟩ <;> rw [a, b, e] <;> unfold zz_dir zz_len zz_abs <;> constructor <;> (repeat' split) <;> omega
theorem yy_dl_on {d a b : Int} (h : 0 ≤ d ∧ d < 8) (hd : zz_dir a b = d) : a = zz_len a b * yy_sx d ∧ b = zz_len a b * yy_sy d ∧ 1 ≤ zz_len a b := by
  have s := zz_dir_sh a b
  rw [hd] at s
  rcases yy_sxy h with ⟨e, u, v⟩ | ⟨e, u, v⟩ | ⟨e, u, v⟩ | ⟨e, u, v⟩ | ⟨e, u, v⟩ | ⟨e, u, v⟩ | ⟨e, u, v⟩ | ⟨e, u, v⟩ <;> rw [u, v] <;> unfold zz_len zz_abs <;> refine ⟨?_, ?_, ?_⟩ <;> (repeat' split) <;> omega
theorem yy_xy {x y w h : Int} (hx : 0 ≤ x ∧ x < w) (hy : 0 ≤ y ∧ y < h) : (y * w + x) % w = x ∧ (y * w + x) / w = y := zz_mod (by omega)
theorem yy_at {x y w h d m : Int} (hx : 0 ≤ x ∧ x < w) (hy : 0 ≤ y ∧ y < h) (hd : 0 ≤ d ∧ d < 8) (hm : 1 ≤ m) (tx : 0 ≤ x + m * yy_sx d ∧ x + m * yy_sx d < w) (ty : 0 ≤ y + m * yy_sy d ∧ y + m * yy_sy d < h) : yy_d w (y * w + x) ((y + m * yy_sy d) * w + (x + m * yy_sx d)) = d ∧ yy_l w (y * w + x) ((y + m * yy_sy d) * w + (x + m * yy_sx d)) = m := by
  have a := yy_xy (h := h) hx hy
  have b := yy_xy (h := h) tx ty
  unfold yy_d yy_l
  rw [a.1, a.2, b.1, b.2, show x + m * yy_sx d - x = m * yy_sx d by omega, show y + m * yy_sy d - y = m * yy_sy d by omega]
  exact yy_dl_at hd hm
theorem yy_on {x y w h d q : Int} (hx : 0 ≤ x ∧ x < w) (hy : 0 ≤ y ∧ y < h) (hd : 0 ≤ d ∧ d < 8) (hq : 0 ≤ q ∧ q < w * h) (e : yy_d w (y * w + x) q = d) : q = (y + yy_l w (y * w + x) q * yy_sy d) * w + (x + yy_l w (y * w + x) q * yy_sx d) ∧ (0 ≤ x + yy_l w (y * w + x) q * yy_sx d ∧ x + yy_l w (y * w + x) q * yy_sx d < w) ∧ (0 ≤ y + yy_l w (y * w + x) q * yy_sy d ∧ y + yy_l w (y * w + x) q * yy_sy d < h) ∧ 1 ≤ yy_l w (y * w + x) q := by
  have a := yy_xy (h := h) hx hy
  unfold yy_d at e
  unfold yy_l
  rw [a.1, a.2] at e ⊢
  have k := yy_dl_on hd e
  have m1 := Int.emod_nonneg q (show w ≠ 0 by omega)
  have m2 := Int.emod_lt_of_pos q (show 0 < w by omega)
  have d1 := Int.ediv_nonneg hq.1 (show 0 ≤ w by omega)
  have d2 : q / w < h := Int.ediv_lt_of_lt_mul (by omega) (by rw [Int.mul_comm]; exact hq.2)
  have me : q / w * w + q % w = q := Int.ediv_mul_add_emod q w
  have e1 : x + zz_len (q % w - x) (q / w - y) * yy_sx d = q % w := by omega
  have e2 : y + zz_len (q % w - x) (q / w - y) * yy_sy d = q / w := by omega
  rw [e1, e2]
  exact ⟨me.symm, ⟨m1, m2⟩, ⟨d1, d2⟩, k.2.2⟩
theorem yy_l1 {w p q : Int} (h : 0 ≤ yy_d w p q) : 1 ≤ yy_l w p q := (yy_dl_on (d := yy_d w p q) ⟨h, by have := zz_dir_bd (q % w - p % w) (q / w - p / w); unfold yy_d; omega⟩ rfl).2.2
theorem yy_step_in {x w d l m : Int} (hx : 0 ≤ x ∧ x < w) (hs : d = -1 ∨ d = 0 ∨ d = 1) (hl : 0 ≤ x + l * d ∧ x + l * d < w) (hm : 1 ≤ m ∧ m ≤ l) : 0 ≤ x + m * d ∧ x + m * d < w := by
  rcases hs with e | e | e <;> subst e <;> omega
theorem yy_s1 {d : Int} (h : 0 ≤ d ∧ d < 8) : (yy_sx d = -1 ∨ yy_sx d = 0 ∨ yy_sx d = 1) ∧ (yy_sy d = -1 ∨ yy_sy d = 0 ∨ yy_sy d = 1) := by
  have := yy_sxy h
  omega
def yy_dn (w p q D M : Int) : Prop := 0 ≤ yy_d w p q ∧ (yy_d w p q < D ∨ (yy_d w p q = D ∧ yy_l w p q < M))
/-- the row of p, as far as D, M -/
def yy_tb (T : qq_S) (w h L : Int) (p : Nat) (D M : Int) : Prop := (∀ q : Nat, zz_bit (T 60 p) q ↔ ((q : Int) < w * h ∧ yy_dn w p q D M ∧ L ≤ yy_l w p q)) ∧ (∀ q : Nat, (q : Int) < w * h → yy_dn w p q D M → ∀ r : Nat, zz_bit (T (61 + 1 + p) q) r ↔ ((r : Int) < w * h ∧ yy_d w p r = yy_d w p q ∧ yy_l w p r < yy_l w p q))
theorem yy_tb_step {T T2 : qq_S} {w h L dd m ps : Int} {p q0 : Nat} (hq0 : (q0 : Int) < w * h) (a1 : yy_d w p q0 = dd) (a2 : yy_l w p q0 = m) (uq : ∀ q : Nat, (q : Int) < w * h → yy_d w p q = dd → yy_l w p q = m → q = q0) (hdd : 0 ≤ dd) (h4 : yy_tb T w h L p dd m) (h5 : ∀ r : Nat, zz_bit ps r ↔ ((r : Int) < w * h ∧ yy_d w p r = dd ∧ yy_l w p r < m)) (k60 : ∀ q : Nat, zz_bit (T2 60 p) q ↔ zz_bit (T 60 p) q ∨ (L ≤ m ∧ q = q0)) (kin : ∀ q : Nat, T2 (61 + 1 + p) q = if q = q0 then ps else T (61 + 1 + p) q) : yy_tb T2 w h L p dd (m + 1) := by
  have eq : ∀ q : Nat, (q : Int) < w * h → (yy_dn w p q dd (m + 1) ↔ yy_dn w p q dd m ∨ q = q0) := fun q hq => by
    have u := uq q hq
    unfold yy_dn
    constructor
    · rintro ⟨a, b⟩
      by_cases c : yy_d w p q = dd ∧ yy_l w p q = m
      · exact Or.inr (u c.1 c.2)
      · exact Or.inl ⟨a, by omega⟩
    · rintro (⟨a, b⟩ | e)
      · exact ⟨a, by omega⟩
      · rw [e, a1, a2]; omega
  refine ⟨fun q => ?_, fun q hq hd r => ?_⟩
  · rw [k60 q, h4.1 q]
    constructor
    · rintro (⟨a, b, c⟩ | ⟨a, b⟩)
      · exact ⟨a, (eq q a).mpr (Or.inl b), c⟩
      · rw [b]; exact ⟨hq0, (eq q0 hq0).mpr (Or.inr rfl), by omega⟩
    · rintro ⟨a, b, c⟩
      rcases (eq q a).mp b with b | b
      · exact Or.inl ⟨a, b, c⟩
      · rw [b, a2] at c; exact Or.inr ⟨c, b⟩
  · rw [kin q]
    by_cases c : q = q0
    · rw [if_pos c, c, a1, a2]; exact h5 r
    · rw [if_neg c]
      exact h4.2 q hq (((eq q hq).mp hd).resolve_right c) r
set_option maxRecDepth 20000 in
theorem f72 {xs : List Int32} (hxs : xs.length ≤ 2048) (d : Nat) (S : qq_S) (x : Int) (y : Int) (hp : (2 ≤ S 56 0 ∧ S 56 0 ≤ 8 ∧ 2 ≤ S 56 1 ∧ S 56 1 ≤ 8 ∧ S 56 0 * S 56 1 ≤ 25) ∧ (0 ≤ x ∧ x < S 56 0 ∧ 0 ≤ y ∧ y < S 56 1) ∧ (1 ≤ S 52 3 ∧ S 52 3 ≤ 4)) : ∃ S2, qq_E xs (d + 8) 72 [.inr (55, none), .inl x, .inl y] S (none) S2 ∧ (∀ a : Nat, ¬ a = 60 → ¬ a = 61 + 1 + (y * S 56 0 + x).toNat → S2 a = S a) ∧ (∀ j : Nat, ¬ j = (y * S 56 0 + x).toNat → S2 60 j = S 60 j) ∧ yy_tb S2 (S 56 0) (S 56 1) (S 52 3) (y * S 56 0 + x).toNat 8 1 := by
  have pb := yy_mlt (x := x) (y := y) (w := S 56 0) (h := S 56 1) (by omega) (by omega)
  have ep : (((y * S 56 0 + x).toNat : Nat) : Int) = y * S 56 0 + x := by omega
  have L2 : ∀ (k9 : Nat) (dd ps m : Int) (u7 u8 u9 : Option qq_V) (T : qq_S), 8 - m < (k9 : Int) → (0 ≤ dd ∧ dd < 8 ∧ 1 ≤ m ∧ m ≤ 8) → (∀ a : Nat, ¬ a = 60 → ¬ a = 61 + 1 + (y * S 56 0 + x).toNat → T a = S a) → (∀ j : Nat, ¬ j = (y * S 56 0 + x).toNat → T 60 j = S 60 j) → (yy_tb T (S 56 0) (S 56 1) (S 52 3) (y * S 56 0 + x).toNat dd m) → (∀ r : Nat, zz_bit ps r ↔ ((r : Int) < S 56 0 * S 56 1 ∧ yy_d (S 56 0) (y * S 56 0 + x) r = dd ∧ yy_l (S 56 0) (y * S 56 0 + x) r < m)) → (∀ (v5 v6 v7 v8 v9 : Option qq_V) (T2 : qq_S), (∀ a : Nat, ¬ a = 60 → ¬ a = 61 + 1 + (y * S 56 0 + x).toNat → T2 a = S a) → (∀ j : Nat, ¬ j = (y * S 56 0 + x).toNat → T2 60 j = S 60 j) → yy_tb T2 (S 56 0) (S 56 1) (S 52 3) (y * S 56 0 + x).toNat (dd + 1) 1 → qq_p xs (d + 7) (mm_mr mm_m72) (mm_mk mm_m72) (fun r S2 => r = none ∧ zz_p ((∀ a : Nat, ¬ a = 60 → ¬ a = 61 + 1 + (y * S 56 0 + x).toNat → S2 a = S a) ∧ (∀ j : Nat, ¬ j = (y * S 56 0 + x).toNat → S2 60 j = S 60 j) ∧ yy_tb S2 (S 56 0) (S 56 1) (S 52 3) (y * S 56 0 + x).toNat 8 1) = 1) 22 [some (.inr (55, none)), some (.inl x), some (.inl y), some (.inl (y * S 56 0 + x)), some (.inl (dd + 1)), v5, v6, v7, v8, v9] [] T2) → qq_p xs (d + 7) (mm_mr mm_m72) (mm_mk mm_m72) (fun r S2 => r = none ∧ zz_p ((∀ a : Nat, ¬ a = 60 → ¬ a = 61 + 1 + (y * S 56 0 + x).toNat → S2 a = S a) ∧ (∀ j : Nat, ¬ j = (y * S 56 0 + x).toNat → S2 60 j = S 60 j) ∧ yy_tb S2 (S 56 0) (S 56 1) (S 52 3) (y * S 56 0 + x).toNat 8 1) = 1) 35 [some (.inr (55, none)), some (.inl x), some (.inl y), some (.inl (y * S 56 0 + x)), some (.inl dd), some (.inl ps), some (.inl m), u7, u8, u9] [] (T) := by
    intro k9
    induction k9 with
    | zero =>
      intro dd ps m u7 u8 u9 T hm h1 h2 h3 h4 h5 h6
      exfalso
      omega
    | succ k9 ih =>
      intro dd ps m u7 u8 u9 T hm h1 h2 h3 h4 h5 h6
      refine qq_fsound hxs (sp_14_ok hxs (d + 0)) [35, 22] 300 ?_
      repeat' first | apply And.intro | intro _ | (simp only [qq_tab]) | (simp only [qq_pl])
      all_goals (
        (have ro := yy_ro xs
         have r1 := yy_ro1 xs (d := dd) (by omega)
         have s1 := yy_s1 (d := dd) (by omega)
         have t56 : T 56 = S 56 := h2 56 (by omega) (by omega)
         have t560 : T 56 0 = S 56 0 := by rw [t56]
         have t561 : T 56 1 = S 56 1 := by rw [t56]
         have t52 : T 52 = S 52 := h2 52 (by omega) (by omega)
         (try rw [r1.1])
         (try rw [r1.2])
         have mx : -8 ≤ m * yy_sx dd ∧ m * yy_sx dd ≤ 8 := by rcases s1.1 with e | e | e <;> rw [e] <;> omega
         have my : -8 ≤ m * yy_sy dd ∧ m * yy_sy dd ≤ 8 := by rcases s1.2 with e | e | e <;> rw [e] <;> omega
         -- no more of this direction
         have fin : (∀ q : Nat, (q : Int) < S 56 0 * S 56 1 → yy_d (S 56 0) (y * S 56 0 + x) q = dd → yy_l (S 56 0) (y * S 56 0 + x) q < m) → yy_tb T (S 56 0) (S 56 1) (S 52 3) (y * S 56 0 + x).toNat (dd + 1) 1 := fun z => by
           have eq : ∀ q : Nat, (q : Int) < S 56 0 * S 56 1 → (yy_dn (S 56 0) ((y * S 56 0 + x).toNat : Int) q (dd + 1) 1 ↔ yy_dn (S 56 0) ((y * S 56 0 + x).toNat : Int) q dd m) := fun q hq => by
             rw [ep]
             unfold yy_dn
             have z1 := z q hq
             constructor
             · rintro ⟨a, b⟩
               have l1 := yy_l1 a
               exact ⟨a, by omega⟩
             · rintro ⟨a, b⟩
               exact ⟨a, by omega⟩
           refine ⟨fun q => ?_, fun q hq hd => h4.2 q hq ((eq q hq).mp hd)⟩
           rw [h4.1 q]
           exact ⟨fun ⟨a, b, c⟩ => ⟨a, (eq q a).mpr b, c⟩, fun ⟨a, b, c⟩ => ⟨a, (eq q a).mp b, c⟩⟩
         -- a point of this direction
         have onp : ∀ q : Nat, (q : Int) < S 56 0 * S 56 1 → yy_d (S 56 0) (y * S 56 0 + x) q = dd → (q : Int) = (y + yy_l (S 56 0) (y * S 56 0 + x) q * yy_sy dd) * S 56 0 + (x + yy_l (S 56 0) (y * S 56 0 + x) q * yy_sx dd) ∧ (0 ≤ x + yy_l (S 56 0) (y * S 56 0 + x) q * yy_sx dd ∧ x + yy_l (S 56 0) (y * S 56 0 + x) q * yy_sx dd < S 56 0) ∧ (0 ≤ y + yy_l (S 56 0) (y * S 56 0 + x) q * yy_sy dd ∧ y + yy_l (S 56 0) (y * S 56 0 + x) q * yy_sy dd < S 56 1) ∧ 1 ≤ yy_l (S 56 0) (y * S 56 0 + x) q := fun q hq e => yy_on (h := S 56 1) (by omega) (by omega) (by omega) (by omega) e
         first
         | omega
         | exact (zz_bin _).1
         | exact (zz_bin _).2
         | (have em : m = 8 := by omega
            refine h6 _ _ _ _ _ T h2 h3 (fin (fun q hq e => ?_))
            have k := onp q hq e
            have s2 := yy_sxy (d := dd) (by omega)
            rcases s2 with ⟨e, a, b⟩ | ⟨e, a, b⟩ | ⟨e, a, b⟩ | ⟨e, a, b⟩ | ⟨e, a, b⟩ | ⟨e, a, b⟩ | ⟨e, a, b⟩ | ⟨e, a, b⟩ <;> rw [a, b] at k <;> omega)
         | (have c1 : ¬ (0 ≤ x + m * ((mm_ro xs 1).getD dd.toNat 0).toInt ∧ x + m * ((mm_ro xs 1).getD dd.toNat 0).toInt ≤ T 56 0 - 1) := zz_bi0.mp (by assumption)
            rw [r1.1] at c1
            refine h6 _ _ _ _ _ T h2 h3 (fin (fun q hq e => ?_))
            have k := onp q hq e
            rcases Int.lt_or_le (yy_l (S 56 0) (y * S 56 0 + x) q) m with z | z
            · exact z
            · have := yy_step_in (x := x) (w := S 56 0) (by omega) s1.1 k.2.1 (m := m) (by omega)
              omega)
         | (have c1 : (0 ≤ x + m * ((mm_ro xs 1).getD dd.toNat 0).toInt ∧ x + m * ((mm_ro xs 1).getD dd.toNat 0).toInt ≤ T 56 0 - 1) := Classical.not_not.mp (fun z => absurd (zz_bi0.mpr z) (by assumption))
            rw [r1.1] at c1
            first
            | (have c2 : ¬ (0 ≤ y + m * ((mm_ro xs 2).getD dd.toNat 0).toInt ∧ y + m * ((mm_ro xs 2).getD dd.toNat 0).toInt ≤ T 56 1 - 1) := zz_bi0.mp (by assumption)
               rw [r1.2] at c2
               refine h6 _ _ _ _ _ T h2 h3 (fin (fun q hq e => ?_))
               have k := onp q hq e
               rcases Int.lt_or_le (yy_l (S 56 0) (y * S 56 0 + x) q) m with z | z
               · exact z
               · have := yy_step_in (x := y) (w := S 56 1) (by omega) s1.2 k.2.2.1 (m := m) (by omega)
                 omega)
            | (have c2 : (0 ≤ y + m * ((mm_ro xs 2).getD dd.toNat 0).toInt ∧ y + m * ((mm_ro xs 2).getD dd.toNat 0).toInt ≤ T 56 1 - 1) := Classical.not_not.mp (fun z => absurd (zz_bi0.mpr z) (by assumption))
               rw [r1.2] at c2
               have qb := yy_mlt (x := x + m * yy_sx dd) (y := y + m * yy_sy dd) (w := S 56 0) (h := S 56 1) (by omega) (by omega)
               have at9 := yy_at (x := x) (y := y) (w := S 56 0) (h := S 56 1) (d := dd) (m := m) (by omega) (by omega) (by omega) (by omega) (by omega) (by omega)
               (try rw [t560])
               first
               | omega
               | (rw [qq_ueq (by omega), t52]; omega)
               | (have eq0 : ((((y + m * yy_sy dd) * S 56 0 + (x + m * yy_sx dd)).toNat : Nat) : Int) = (y + m * yy_sy dd) * S 56 0 + (x + m * yy_sx dd) := by omega
                  have uq : ∀ q : Nat, (q : Int) < S 56 0 * S 56 1 → yy_d (S 56 0) (y * S 56 0 + x) q = dd → yy_l (S 56 0) (y * S 56 0 + x) q = m → q = ((y + m * yy_sy dd) * S 56 0 + (x + m * yy_sx dd)).toNat := fun q hq e1 e2 => by
                    have k := (onp q hq e1).1
                    rw [e2] at k
                    omega
                  have nps : ∀ r : Nat, zz_bit (qq_or ps (qq_shl 1 ((y + m * yy_sy dd) * S 56 0 + (x + m * yy_sx dd)))) r ↔ ((r : Int) < S 56 0 * S 56 1 ∧ yy_d (S 56 0) (y * S 56 0 + x) r = dd ∧ yy_l (S 56 0) (y * S 56 0 + x) r < m + 1) := fun r => by
                    rw [zz_bit_or, h5 r, zz_bit_shl (by omega)]
                    constructor
                    · rintro (⟨a, b, c⟩ | e)
                      · exact ⟨a, b, by omega⟩
                      · rw [e]; exact ⟨by omega, at9.1, by omega⟩
                    · rintro ⟨a, b, c⟩
                      by_cases c9 : yy_l (S 56 0) (y * S 56 0 + x) r = m
                      · exact Or.inr (by have := uq r a b c9; omega)
                      · exact Or.inl ⟨a, b, by omega⟩
                  have np : ¬ 60 = 61 + 1 + (y * S 56 0 + x).toNat := by omega
                  have mk : ∀ v : Int, (∀ q : Nat, zz_bit v q ↔ zz_bit (T 60 (y * S 56 0 + x).toNat) q ∨ (S 52 3 ≤ m ∧ q = ((y + m * yy_sy dd) * S 56 0 + (x + m * yy_sx dd)).toNat)) → yy_tb (qq_u (qq_u T (61 + 1 + (y * S 56 0 + x).toNat) ((y + m * yy_sy dd) * S 56 0 + (x + m * yy_sx dd)).toNat ps) 60 (y * S 56 0 + x).toNat v) (S 56 0) (S 56 1) (S 52 3) (y * S 56 0 + x).toNat dd (m + 1) := fun v hv => by
                    refine yy_tb_step (T := T) (ps := ps) (q0 := ((y + m * yy_sy dd) * S 56 0 + (x + m * yy_sx dd)).toNat) (by omega) (by rw [ep, eq0]; exact at9.1) (by rw [ep, eq0]; exact at9.2) (by rw [ep]; exact uq) h1.1 h4 (by rw [ep]; exact h5) (fun q => ?_) (fun q => ?_)
                    · rw [qq_uat, if_pos rfl]; exact hv q
                    · rw [qq_ueq (by omega), qq_uat]
                  have f1 : ∀ v : Int, ∀ a : Nat, ¬ a = 60 → ¬ a = 61 + 1 + (y * S 56 0 + x).toNat → qq_u (qq_u T (61 + 1 + (y * S 56 0 + x).toNat) ((y + m * yy_sy dd) * S 56 0 + (x + m * yy_sx dd)).toNat ps) 60 (y * S 56 0 + x).toNat v a = S a := fun v a h8 h9 => by rw [qq_ueq h8, qq_ueq h9]; exact h2 a h8 h9
                  have f2 : ∀ v : Int, ∀ j : Nat, ¬ j = (y * S 56 0 + x).toNat → qq_u (qq_u T (61 + 1 + (y * S 56 0 + x).toNat) ((y + m * yy_sy dd) * S 56 0 + (x + m * yy_sx dd)).toNat ps) 60 (y * S 56 0 + x).toNat v 60 j = S 60 j := fun v j hj => by rw [qq_uat, if_neg hj, qq_ueq np]; exact h3 j hj
                  have o60 : qq_u T (61 + 1 + (y * S 56 0 + x).toNat) ((y + m * yy_sy dd) * S 56 0 + (x + m * yy_sx dd)).toNat ps 60 = T 60 := qq_ueq np
                  have o52 : qq_u T (61 + 1 + (y * S 56 0 + x).toNat) ((y + m * yy_sy dd) * S 56 0 + (x + m * yy_sx dd)).toNat ps 52 = S 52 := by rw [qq_ueq (by omega), t52]
                  rw [o60]
                  first
                  | (have cl : ¬ qq_u T (61 + 1 + (y * S 56 0 + x).toNat) ((y + m * ((mm_ro xs 2).getD dd.toNat 0).toInt) * T 56 0 + (x + m * ((mm_ro xs 1).getD dd.toNat 0).toInt)).toNat ps 52 3 ≤ m := by assumption
                     rw [qq_ueq (by omega), t52] at cl
                     exact ih dd _ (m + 1) _ _ _ _ (by omega) (by omega) (f1 _) (f2 _) (mk _ (fun q => by rw [zz_bit_or]; exact ⟨fun z => z.elim Or.inl (fun y => absurd y zz_bit_0), fun z => z.elim Or.inl (fun y => absurd y.1 cl)⟩)) nps h6)
                  | (have cl : qq_u T (61 + 1 + (y * S 56 0 + x).toNat) ((y + m * ((mm_ro xs 2).getD dd.toNat 0).toInt) * T 56 0 + (x + m * ((mm_ro xs 1).getD dd.toNat 0).toInt)).toNat ps 52 3 ≤ m := by assumption
                     rw [qq_ueq (by omega), t52] at cl
                     exact ih dd _ (m + 1) _ _ _ _ (by omega) (by omega) (f1 _) (f2 _) (mk _ (fun q => by rw [zz_bit_or, zz_bit_shl (by omega)]; exact ⟨fun z => z.elim Or.inl (fun y => Or.inr ⟨cl, by omega⟩), fun z => z.elim Or.inl (fun y => Or.inr (by omega))⟩)) nps h6))
               ))
         ))
  have L1 : ∀ (k9 : Nat) (dd : Int) (u5 u6 u7 u8 u9 : Option qq_V) (T : qq_S), 8 - dd < (k9 : Int) → (0 ≤ dd ∧ dd ≤ 8) → (∀ a : Nat, ¬ a = 60 → ¬ a = 61 + 1 + (y * S 56 0 + x).toNat → T a = S a) → (∀ j : Nat, ¬ j = (y * S 56 0 + x).toNat → T 60 j = S 60 j) → (yy_tb T (S 56 0) (S 56 1) (S 52 3) (y * S 56 0 + x).toNat dd 1) → qq_p xs (d + 7) (mm_mr mm_m72) (mm_mk mm_m72) (fun r S2 => r = none ∧ zz_p ((∀ a : Nat, ¬ a = 60 → ¬ a = 61 + 1 + (y * S 56 0 + x).toNat → S2 a = S a) ∧ (∀ j : Nat, ¬ j = (y * S 56 0 + x).toNat → S2 60 j = S 60 j) ∧ yy_tb S2 (S 56 0) (S 56 1) (S 52 3) (y * S 56 0 + x).toNat 8 1) = 1) 22 [some (.inr (55, none)), some (.inl x), some (.inl y), some (.inl (y * S 56 0 + x)), some (.inl dd), u5, u6, u7, u8, u9] [] (T) := by
    intro k9
    induction k9 with
    | zero =>
      intro dd u5 u6 u7 u8 u9 T hm h1 h2 h3 h4
      exfalso
      omega
    | succ k9 ih =>
      intro dd u5 u6 u7 u8 u9 T hm h1 h2 h3 h4
      refine qq_fsound hxs (sp_14_ok hxs (d + 0)) [35, 22] 300 ?_
      repeat' first | apply And.intro | intro _ | (simp only [qq_tab]) | (simp only [qq_pl])
      all_goals (
        (first
         | omega
         | (have ed : dd = 8 := by omega
            rw [ed] at h4
            exact zz_p1 ⟨h2, h3, h4⟩)
         | (refine L2 9 dd 0 1 _ _ _ T (by omega) (by omega) h2 h3 h4 (fun r => ⟨fun z => absurd z zz_bit_0, fun z => ?_⟩) (fun v5 v6 v7 v8 v9 T2 k1 k2 k3 => ih (dd + 1) _ _ _ _ _ T2 (by omega) (by omega) k1 k2 k3)
            have l1 := yy_l1 (w := S 56 0) (p := y * S 56 0 + x) (q := r) (by omega)
            omega)
         | skip))
  have h : qq_p xs (d + 7) (mm_mr mm_m72) (mm_mk mm_m72) (fun r S2 => r = none ∧ zz_p ((∀ a : Nat, ¬ a = 60 → ¬ a = 61 + 1 + (y * S 56 0 + x).toNat → S2 a = S a) ∧ (∀ j : Nat, ¬ j = (y * S 56 0 + x).toNat → S2 60 j = S 60 j) ∧ yy_tb S2 (S 56 0) (S 56 1) (S 52 3) (y * S 56 0 + x).toNat 8 1) = 1) 0 (qq_ent mm_m72 [.inr (55, none), .inl x, .inl y]) [] S := by
    refine qq_fsound hxs (sp_14_ok hxs (d + 0)) [35, 22] 300 ?_
    repeat' first | apply And.intro | intro _ | (simp only [qq_tab]) | (simp only [qq_pl])
    all_goals (
      first
      | omega
      | (refine L1 9 0 _ _ _ _ _ _ (by omega) (by omega) (fun a h8 h9 => ?_) (fun j hj => ?_) ⟨fun q => ?_, fun q hq hd => ?_⟩
         · exact qq_ueq h8
         · rw [qq_uat, if_neg hj]
         · rw [qq_uat, if_pos rfl]
           refine ⟨fun z => absurd z zz_bit_0, fun z => ?_⟩
           have := z.2.1
           unfold yy_dn at this
           have l1 := yy_l1 this.1
           omega
         · exfalso
           unfold yy_dn at hd
           have l1 := yy_l1 hd.1
           omega)
      | skip)
  obtain ⟨r, S2, hE, e1, e2⟩ := qq_call_of (y := 72) rfl (Nat.le_of_ble_eq_true rfl) h
  rw [e1] at hE
  exact ⟨S2, hE, zz_pi1.mp e2⟩
