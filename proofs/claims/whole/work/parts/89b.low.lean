/-! What is still to come costs at least rest. -/
theorem yy_ar_low {S : qq_S} (hN : zz_N S) (ht : 0 ≤ S 52 0 ∧ 0 ≤ S 52 1 ∧ 0 ≤ S 52 2 ∧ 0 ≤ S 52 3) {X Y : Nat → Int} {s : Nat} (hs : (s : Int) < S 4 0) (hg : zz_gE X Y (S 25) (fun s => S (26 + 1 + s)) (S 52 3) s) : zz_sum (fun i => if X (S (26 + 1 + s) i).toNat = -1 then 0 else 1) (S 25 s).toNat * S 52 3 * S 52 1 ≤ zz_ar S X Y s := by
  have gb := hN.1.1
  have gn := zz_N_nb hN
  have gd := gn.2.2.1 s (by omega)
  have m0 := Int.mul_nonneg ht.2.2.2 ht.2.1
  have a1 : ∀ n : Nat, n ≤ (S 25 s).toNat → zz_sum (fun i => if X (S (26 + 1 + s) i).toNat = -1 then 0 else 1) n * (S 52 3 * S 52 1) ≤ zz_sum (zz_ar1 S X Y s) n := by
    intro n
    induction n with
    | zero => intro _; simp [zz_sum]
    | succ n ih =>
      intro hn
      have ih := ih (by omega)
      have r := gd.2.2 n (by omega)
      have n1 := gn.2.1 (S (37 + 1 + s) (S (26 + 1 + s) n).toNat).toNat (by omega)
      show (zz_sum (fun i => if X (S (26 + 1 + s) i).toNat = -1 then 0 else 1) n + (if X (S (26 + 1 + s) n).toNat = -1 then 0 else 1)) * (S 52 3 * S 52 1) ≤ zz_sum (zz_ar1 S X Y s) n + zz_ar1 S X Y s n
      rw [Int.add_mul]
      have e1 : zz_ar1 S X Y s n = if X (S (26 + 1 + s) n).toNat = -1 then 0 else zz_ln X Y s (S (26 + 1 + s) n).toNat * S 52 1 + zz_trn S X Y (S (37 + 1 + s) (S (26 + 1 + s) n).toNat).toNat * S 52 2 := rfl
      rw [e1]
      by_cases c : X (S (26 + 1 + s) n).toNat = -1
      · rw [if_pos c, if_pos c]; omega
      · rw [if_neg c, if_neg c]
        have k := hg n (by omega)
        have k1 : ¬ zz_ln X Y s (S (26 + 1 + s) n).toNat < S 52 3 := fun z => k ⟨c, Or.inl z⟩
        have m1 := Int.mul_le_mul_of_nonneg_right (show S 52 3 ≤ zz_ln X Y s (S (26 + 1 + s) n).toNat by omega) ht.2.1
        have t := zz_eb_bd (a := zz_dr X Y (S 22 (S (37 + 1 + s) (S (26 + 1 + s) n).toNat).toNat).toNat (S 23 (S (37 + 1 + s) (S (26 + 1 + s) n).toNat).toNat).toNat) (b := S 24 (S (37 + 1 + s) (S (26 + 1 + s) n).toNat).toNat) (zz_dr_bd _ _ _ _) (by omega)
        have m2 := Int.mul_nonneg t.1 ht.2.2.1
        have e2 : zz_trn S X Y (S (37 + 1 + s) (S (26 + 1 + s) n).toNat).toNat = zz_eb (zz_dr X Y (S 22 (S (37 + 1 + s) (S (26 + 1 + s) n).toNat).toNat).toNat (S 23 (S (37 + 1 + s) (S (26 + 1 + s) n).toNat).toNat).toNat) (S 24 (S (37 + 1 + s) (S (26 + 1 + s) n).toNat).toNat) := rfl
        rw [e2]
        omega
  have a2 : 0 ≤ zz_ba S X Y s := by
    have q := zz_sum_bd (f := fun l => zz_bl1 X Y (S (8 + 1 + l)) (S (15 + 1 + l) s) (S 7 l)) (n := (S 4 1).toNat) (a := 0) (b := 40) (fun l hl2 => by
      have n1 := gn.2.2.2 l (by omega)
      show 0 ≤ zz_bl1 _ _ _ _ _ ∧ zz_bl1 _ _ _ _ _ ≤ 40
      unfold zz_bl1
      split
      · omega
      · have b := zz_sum_bd (f := zz_bf1 X Y (S (8 + 1 + l)) (S (15 + 1 + l) s)) (n := (S 7 l - 2).toNat) (a := 0) (b := 4) (fun k _ => by
          unfold zz_bf1
          split
          · exact zz_eb_bd (zz_dr_bd _ _ _ _) (zz_dr_bd _ _ _ _)
          · omega)
        omega)
    unfold zz_ba
    omega
  have a3 := a1 _ (Nat.le_refl _)
  have m3 := Int.mul_nonneg a2 ht.1
  unfold zz_ar
  rw [Int.mul_assoc]
  omega
/-- just those of depth below k are placed -/
def yy_plc (S : qq_S) (X : Nat → Int) (k : Nat) : Prop := ∀ t : Nat, (t : Int) < S 4 0 → (¬ X t = -1 ↔ ∃ j : Nat, j < k ∧ S 89 j = t)
theorem yy_plc_oc {S : qq_S} (hN : zz_N S) (hO : yy_ord S) {X : Nat → Int} {k : Nat} (hk : (k : Int) < S 4 0) (hp : yy_plc S X (k + 1)) : zz_sum (fun i => if X (S (26 + 1 + (S 89 k).toNat) i).toNat = -1 then 0 else 1) (S 25 (S 89 k).toNat).toNat = yy_oc S k := by
  have gb := hN.1.1
  have gn := zz_N_nb hN
  have ok := hO.1 k hk
  have gd := gn.2.2.1 (S 89 k).toNat (by omega)
  refine zz_sum_c (fun i hi => ?_)
  have r := gd.2.2 i (by omega)
  obtain ⟨e, he, hl, r0, r1, r2, r3⟩ := zz_ring_edge hN (s := (S 89 k).toNat) (i := i) (by omega) (by omega)
  have q := hp (S (26 + 1 + (S 89 k).toNat) i).toNat (by omega)
  show (if X (S (26 + 1 + (S 89 k).toNat) i).toNat = -1 then (0 : Int) else 1) = zz_p (∃ m : Nat, m < k ∧ S 89 m = S (26 + 1 + (S 89 k).toNat) i)
  by_cases c : X (S (26 + 1 + (S 89 k).toNat) i).toNat = -1
  · rw [if_pos c, zz_p0]
    rintro ⟨m, m1, m2⟩
    exact q.mpr ⟨m, by omega, by omega⟩ c
  · rw [if_neg c, zz_p1]
    obtain ⟨m, m1, m2⟩ := q.mp c
    refine ⟨m, ?_, by omega⟩
    by_cases e : m = k
    · exfalso
      rw [e] at m2
      clear q
      omega
    · omega
/-- nothing is left at the end -/
theorem yy_rst0 {S : qq_S} (hN : zz_N S) (hO : yy_ord S) (hR : yy_rst S) : S 91 (S 4 0).toNat = 0 := by
  have gb := hN.1.1
  have gn := zz_N_nb hN
  have g2 := gn.1
  have key : ∀ k : Nat, (k : Int) ≤ S 4 0 → S 91 k = (S 4 2 - yy_eS S (fun t => if zz_p (∃ j : Nat, j < k ∧ S 89 j = (t : Int)) = 1 then 0 else -1) (fun _ => 1)) * S 52 3 * S 52 1 := by
    intro k
    induction k with
    | zero =>
      intro _
      have z : yy_eS S (fun t => if zz_p (∃ j : Nat, j < 0 ∧ S 89 j = (t : Int)) = 1 then 0 else -1) (fun _ => 1) = 0 := by
        unfold yy_eS
        refine zz_sum_z0 (fun e _ => ?_)
        rw [if_neg]
        intro z
        have z := (zz_pi1.mp z).1
        apply z
        show (if zz_p (∃ j : Nat, j < 0 ∧ S 89 j = _) = 1 then (0 : Int) else -1) = -1
        rw [zz_p0 (fun ⟨j, h, _⟩ => by omega), if_neg (by decide)]
      rw [z, hR.1, Int.sub_zero]
    | succ k ih =>
      intro hk
      have ih := ih (by omega)
      have ok := hO.1 k (by omega)
      have pk : yy_plc S (fun t => if zz_p (∃ j : Nat, j < k + 1 ∧ S 89 j = (t : Int)) = 1 then 0 else -1) (k + 1) := fun t ht => by
        show (¬ (if zz_p (∃ j : Nat, j < k + 1 ∧ S 89 j = (t : Int)) = 1 then (0 : Int) else -1) = -1) ↔ _
        by_cases c : ∃ j : Nat, j < k + 1 ∧ S 89 j = (t : Int)
        · rw [zz_p1 c, if_pos rfl]
          exact ⟨fun _ => c, fun _ => by omega⟩
        · rw [zz_p0 c, if_neg (by decide)]
          exact ⟨fun z => absurd rfl z, fun z => absurd z c⟩
      have st := yy_es hN (X := fun t => if zz_p (∃ j : Nat, j < k ∧ S 89 j = (t : Int)) = 1 then 0 else -1) (X' := fun t => if zz_p (∃ j : Nat, j < k + 1 ∧ S 89 j = (t : Int)) = 1 then 0 else -1) (s := (S 89 k).toNat) (by omega) (fun t ht => by
        show (if zz_p (∃ j : Nat, j < k ∧ S 89 j = (t : Int)) = 1 then (0 : Int) else -1) = (if zz_p (∃ j : Nat, j < k + 1 ∧ S 89 j = (t : Int)) = 1 then (0 : Int) else -1)
        rw [zz_pc (p := ∃ j : Nat, j < k ∧ S 89 j = (t : Int)) (q := ∃ j : Nat, j < k + 1 ∧ S 89 j = (t : Int)) ⟨fun ⟨j, h1, h2⟩ => ⟨j, by omega, h2⟩, fun ⟨j, h1, h2⟩ => ⟨j, by
          by_cases e : j = k
          · subst e; omega
          · omega, h2⟩⟩]) (by
        show (if zz_p (∃ j : Nat, j < k ∧ S 89 j = ((S 89 k).toNat : Int)) = 1 then (0 : Int) else -1) = -1
        rw [zz_p0, if_neg (by decide)]
        rintro ⟨j, h1, h2⟩
        exact hO.2.1 j k h1 (by omega) (by omega)) (by
        show ¬ (if zz_p (∃ j : Nat, j < k + 1 ∧ S 89 j = ((S 89 k).toNat : Int)) = 1 then (0 : Int) else -1) = -1
        rw [zz_p1 ⟨k, by omega, by omega⟩, if_pos rfl]
        omega) (fun _ => 1) (fun _ => 1) (fun _ _ _ _ => rfl)
      rw [yy_plc_oc hN hO (by omega) pk] at st
      rw [hR.2 k (by omega), ih, st]
      rw [← Int.sub_mul, ← Int.sub_mul]
      congr 2
      omega
  have k9 := key (S 4 0).toNat (by omega)
  have z : yy_eS S (fun t => if zz_p (∃ j : Nat, j < (S 4 0).toNat ∧ S 89 j = (t : Int)) = 1 then 0 else -1) (fun _ => 1) = S 4 2 := by
    unfold yy_eS
    rw [zz_sum_all1 (S 4 2).toNat (fun e he => ?_)]
    · omega
    · have q := gn.2.1 e (by omega)
      have d : zz_dn (fun t => if zz_p (∃ j : Nat, j < (S 4 0).toNat ∧ S 89 j = (t : Int)) = 1 then (0 : Int) else -1) (S 22) (S 23) e := by
        constructor
        · obtain ⟨j, j1, j2⟩ := hO.2.2 (S 22 e).toNat (by omega)
          show ¬ (if zz_p (∃ j : Nat, j < (S 4 0).toNat ∧ S 89 j = ((S 22 e).toNat : Int)) = 1 then (0 : Int) else -1) = -1
          rw [zz_p1 ⟨j, by omega, j2⟩, if_pos rfl]
          omega
        · obtain ⟨j, j1, j2⟩ := hO.2.2 (S 23 e).toNat (by omega)
          show ¬ (if zz_p (∃ j : Nat, j < (S 4 0).toNat ∧ S 89 j = ((S 23 e).toNat : Int)) = 1 then (0 : Int) else -1) = -1
          rw [zz_p1 ⟨j, by omega, j2⟩, if_pos rfl]
          omega
      rw [zz_p1 d, if_pos rfl]
  rw [k9, z, Int.sub_self, Int.zero_mul, Int.zero_mul]
theorem yy_dr_sub {S : qq_S} (hN : zz_N S) {X Y : Nat → Int} (h : yy_pal S X Y) {s : Nat} (hs : (s : Int) < S 4 0) (hp : ¬ X s = -1) : zz_gE X Y (S 25) (fun s => S (26 + 1 + s)) (S 52 3) s := by
  have gb := hN.1.1
  intro i hi z
  obtain ⟨e, he, hl, r0, r1, r2, r3⟩ := zz_ring_edge hN (s := s) (i := i) (by omega) hi
  have z1 : ¬ X (S (26 + 1 + s) i).toNat = -1 := z.1
  have z2 : zz_ln X Y s (S (26 + 1 + s) i).toNat < S 52 3 ∨ zz_dr X Y s (S (26 + 1 + s) i).toNat = -1 := z.2
  rcases hl with ⟨u, v⟩ | ⟨u, v⟩
  · have u2 : (S 22 e).toNat = s := by omega
    have v2 : (S 23 e).toNat = (S (26 + 1 + s) i).toNat := by omega
    obtain ⟨c3, c4⟩ := h.2.1 e he ⟨by rw [u2]; exact hp, by rw [v2]; exact z1⟩
    unfold zz_cr at c3
    unfold zz_sho at c4
    rw [u2, v2] at c3 c4
    exact z2.elim c4 c3
  · have u2 : (S 23 e).toNat = s := by omega
    have v2 : (S 22 e).toNat = (S (26 + 1 + s) i).toNat := by omega
    obtain ⟨c3, c4⟩ := h.2.1 e he ⟨by rw [v2]; exact z1, by rw [u2]; exact hp⟩
    unfold zz_cr at c3
    unfold zz_sho at c4
    rw [u2, v2] at c3 c4
    exact z2.elim (fun w => c4 (by rw [zz_len_sw]; exact w)) (fun w => c3 (zz_dr_sw.mp w))
theorem yy_pc_c {S : qq_S} (hN : zz_N S) {X Y A B : Nat → Int} (h : ∀ t : Nat, (t : Int) < S 4 0 → X t = A t ∧ Y t = B t) : zz_cst S X Y = zz_cst S A B := by
  have gn := zz_N_nb hN
  have e1 : zz_bds S X Y = zz_bds S A B := by
    unfold zz_bds
    refine zz_sum_c (fun l hl => ?_)
    have n1 := gn.2.2.2 l (by omega)
    show zz_bln _ _ _ _ = zz_bln _ _ _ _
    unfold zz_bln
    refine zz_sum_c (fun k hk => ?_)
    have r0 := n1.2.2.1 k (by omega)
    have r1 := n1.2.2.1 (k + 1) (by omega)
    have r2 := n1.2.2.1 (k + 2) (by omega)
    unfold zz_bnd
    rw [zz_dr_c (h _ (by omega)) (h _ (by omega)), zz_dr_c (h _ (by omega)) (h _ (by omega))]
  have e2 : zz_lns S X Y = zz_lns S A B := by
    unfold zz_lns
    refine zz_sum_c (fun e he => ?_)
    have q := gn.2.1 e (by omega)
    exact zz_ln_c (h _ (by omega)) (h _ (by omega))
  have e3 : zz_trs S X Y = zz_trs S A B := by
    unfold zz_trs
    refine zz_sum_c (fun e he => ?_)
    have q := gn.2.1 e (by omega)
    unfold zz_trn
    rw [zz_dr_c (h _ (by omega)) (h _ (by omega))]
  unfold zz_cst
  rw [e1, e2, e3]
/-- a whole drawing costs at least what is drawn and what must come -/
theorem yy_low {S : qq_S} (hN : zz_N S) (hO : yy_ord S) (hR : yy_rst S) (ht : 0 ≤ S 52 0 ∧ 0 ≤ S 52 1 ∧ 0 ≤ S 52 2 ∧ 0 ≤ S 52 3) {A B : Nat → Int} (hA : yy_pal S A B) (hf : ∀ a : Nat, (a : Int) < S 4 0 → ¬ A a = -1) : ∀ (m k : Nat) (X Y : Nat → Int), (k : Int) + m = S 4 0 → yy_plc S X k → yy_sub (S 4 0) X Y A B → yy_pc S X Y + S 91 k ≤ zz_cst S A B
  | 0, k, X, Y, hk, hp, hs => by
    have r0 := yy_rst0 hN hO hR
    have ek : k = (S 4 0).toNat := by omega
    have pX : ∀ t : Nat, (t : Int) < S 4 0 → ¬ X t = -1 := fun t h9 => (hp t h9).mpr (by
      obtain ⟨j, j1, j2⟩ := hO.2.2 t h9
      exact ⟨j, by omega, j2⟩)
    rw [ek, r0, yy_pc_all hN pX, yy_pc_c hN (fun t h9 => hs t h9 (pX t h9))]
    omega
  | m + 1, k, X, Y, hk, hp, hs => by
    have gb := hN.1.1
    have ok := hO.1 k (by omega)
    have fs := hf (S 89 k).toNat (by omega)
    have hu : X (S 89 k).toNat = -1 := Classical.not_not.mp (fun z => by
      obtain ⟨j, j1, j2⟩ := (hp _ (by omega)).mp z
      exact hO.2.1 j k j1 (by omega) (by omega))
    have hp2 : yy_plc S (fun t => if t = (S 89 k).toNat then A t else X t) (k + 1) := fun t h9 => by
      show (¬ (if t = (S 89 k).toNat then A t else X t) = -1) ↔ _
      by_cases c : t = (S 89 k).toNat
      · rw [if_pos c]
        exact ⟨fun _ => ⟨k, by omega, by omega⟩, fun _ => hf t h9⟩
      · rw [if_neg c, hp t h9]
        exact ⟨fun ⟨j, j1, j2⟩ => ⟨j, by omega, j2⟩, fun ⟨j, j1, j2⟩ => ⟨j, by
          by_cases e : j = k
          · subst e; omega
          · omega, j2⟩⟩
    have hs2 : yy_sub (S 4 0) (fun t => if t = (S 89 k).toNat then A t else X t) (fun t => if t = (S 89 k).toNat then B t else Y t) A B := fun t h8 h9 => by
      show (if t = (S 89 k).toNat then A t else X t) = A t ∧ (if t = (S 89 k).toNat then B t else Y t) = B t
      have h9 : ¬ (if t = (S 89 k).toNat then A t else X t) = -1 := h9
      by_cases c : t = (S 89 k).toNat
      · rw [if_pos c, if_pos c]; exact ⟨rfl, rfl⟩
      · rw [if_neg c] at h9
        rw [if_neg c, if_neg c]; exact hs t h8 h9
    have ih := yy_low hN hO hR ht hA hf m (k + 1) _ _ (by omega) hp2 hs2
    have p2 := yy_pal_res hN hA hs2
    have pp : ¬ (fun t => if t = (S 89 k).toNat then A t else X t) (S 89 k).toNat = -1 := by
      show ¬ (if (S 89 k).toNat = (S 89 k).toNat then A (S 89 k).toNat else X (S 89 k).toNat) = -1
      rw [if_pos rfl]; exact fs
    have st := yy_pc_mv hN (X := X) (Y := Y) (X' := fun t => if t = (S 89 k).toNat then A t else X t) (Y' := fun t => if t = (S 89 k).toNat then B t else Y t) (s := (S 89 k).toNat) (by omega) (fun t h9 => ⟨(if_neg h9).symm, (if_neg h9).symm⟩) hu pp
    have lo := yy_ar_low hN ht (s := (S 89 k).toNat) (by omega) (yy_dr_sub hN p2 (s := (S 89 k).toNat) (by omega) pp)
    rw [yy_plc_oc hN hO (by omega) hp2] at lo
    have hr := hR.2 k (by omega)
    omega
