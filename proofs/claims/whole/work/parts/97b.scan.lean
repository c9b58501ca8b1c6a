/-! The reference's best: what is behind, what is found. -/
def yy_sp (S : qq_S) (Q : Nat → Int) : qq_S := fun a => if a = 123 then Q else S a
theorem yy_sp1 {S : qq_S} {Q : Nat → Int} : yy_sp S Q 123 = Q := if_pos rfl
theorem yy_sp0 {S : qq_S} {Q : Nat → Int} {a : Nat} (h : ¬ a = 123) : yy_sp S Q a = S a := if_neg h
def yy_Dm (S : qq_S) (Q : Nat → Int) : Prop := (∀ t : Nat, (t : Int) < S 4 0 → 0 ≤ Q t ∧ Q t < S 115 12 * S 115 13 ∧ (S 124 t = 0 ∨ Q t = S 123 t)) ∧ (zz_vM (yy_sp S Q)).1 = 0
noncomputable def yy_cm (S : qq_S) (Q : Nat → Int) : Int := zz_mcst (yy_sp S Q)
def yy_fm (S T : qq_S) : Prop := (∀ a : Nat, ¬ a = 115 → ¬ a = 122 → ¬ a = 123 → ¬ a = 126 → ¬ a = 127 → ¬ a = 128 → T a = S a) ∧ (∀ j : Nat, (j ≤ 3 ∨ (12 ≤ j ∧ j ≤ 17) ∨ j = 26) → T 115 j = S 115 j)
theorem yy_sp_N {S : qq_S} (hN : zz_N S) (Q : Nat → Int) : zz_N (yy_sp S Q) := zz_N_c ⟨fun a ha => yy_sp0 (by omega), fun j _ _ => by rw [yy_sp0 (by decide)]⟩ hN
theorem yy_fm_N {S T : qq_S} (h : yy_fm S T) (hN : zz_N S) : zz_N T := zz_N_c ⟨fun a ha => h.1 a (by omega) (by omega) (by omega) (by omega) (by omega) (by omega), fun j h1 h2 => h.2 j (by omega)⟩ hN
theorem yy_fm_sp {S T : qq_S} (h : yy_fm S T) : zz_cM (yy_sp S (T 123)) T := by
  refine ⟨fun a ha => ?_, fun j hj => ?_⟩
  · by_cases e : a = 123
    · rw [e, yy_sp1]
    · rw [yy_sp0 e]; exact h.1 a (by omega) (by omega) e (by omega) (by omega) (by omega)
  · rw [yy_sp0 (by decide)]; exact h.2 j (by omega)
/-- cost and verdict look at the stations alone -/
theorem yy_cm_q {S : qq_S} (hN : zz_N S) {P Q : Nat → Int} (h : ∀ t : Nat, (t : Int) < S 4 0 → P t = Q t) : yy_cm S P = yy_cm S Q := by
  have gb := hN.1.1
  have gE := hN.2.2.1.1
  have c : ∀ a : Nat, (a : Int) < S 4 0 → zz_mx (yy_sp S P) a = zz_mx (yy_sp S Q) a ∧ zz_my (yy_sp S P) a = zz_my (yy_sp S Q) a := fun a ha => by
    unfold zz_mx zz_my
    rw [yy_sp1, yy_sp1, yy_sp0 (by decide), yy_sp0 (by decide), h a ha]
    exact ⟨rfl, rfl⟩
  have f115 : yy_sp S P 115 = yy_sp S Q 115 := by rw [yy_sp0 (by decide), yy_sp0 (by decide)]
  have f118 : yy_sp S P 118 = yy_sp S Q 118 := by rw [yy_sp0 (by decide), yy_sp0 (by decide)]
  have f119 : yy_sp S P 119 = yy_sp S Q 119 := by rw [yy_sp0 (by decide), yy_sp0 (by decide)]
  have f120 : yy_sp S P 120 = yy_sp S Q 120 := by rw [yy_sp0 (by decide), yy_sp0 (by decide)]
  have f121 : yy_sp S P 121 = yy_sp S Q 121 := by rw [yy_sp0 (by decide), yy_sp0 (by decide)]
  have f116 : yy_sp S P 116 = yy_sp S Q 116 := by rw [yy_sp0 (by decide), yy_sp0 (by decide)]
  have f117 : yy_sp S P 117 = yy_sp S Q 117 := by rw [yy_sp0 (by decide), yy_sp0 (by decide)]
  have a1 : zz_mbds (yy_sp S P) = zz_mbds (yy_sp S Q) := by
    unfold zz_mbds
    rw [f115, f118]
    refine zz_sum_c (fun l hl => zz_sum_c (fun i hi => ?_))
    rw [yy_sp0 (by decide)] at hl hi
    have q := hN.2.1.1 l (by omega)
    have r0 := q.2.2.2 i (by omega)
    have r1 := q.2.2.2 (i + 1) (by omega)
    have r2 := q.2.2.2 (i + 2) (by omega)
    unfold zz_mbnd
    rw [f119, yy_sp0 (show ¬ 119 = 123 by decide), r0.2.2.1, r1.2.2.1, r2.2.2.1, zz_mdr_c (c _ (by omega)) (c _ (by omega)), zz_mdr_c (c _ (by omega)) (c _ (by omega))]
  have a2 : zz_mlns (yy_sp S P) = zz_mlns (yy_sp S Q) := by
    unfold zz_mlns
    rw [f115, f120, f121]
    refine zz_sum_c (fun e he => ?_)
    rw [yy_sp0 (by decide)] at he
    have m := zz_N_me hN (e := e) (by omega)
    show zz_ln _ _ _ _ = zz_ln _ _ _ _
    rw [yy_sp0 (show ¬ 120 = 123 by decide), yy_sp0 (show ¬ 121 = 123 by decide)]
    exact zz_ln_c (c _ (by omega)) (c _ (by omega))
  have a3 : zz_mtrs (yy_sp S P) = zz_mtrs (yy_sp S Q) := by
    unfold zz_mtrs
    rw [f115]
    refine zz_sum_c (fun e he => ?_)
    rw [yy_sp0 (by decide)] at he
    have m := zz_N_me hN (e := e) (by omega)
    unfold zz_mtrn
    rw [f120, f121, f116, f117, yy_sp0 (show ¬ 120 = 123 by decide), yy_sp0 (show ¬ 121 = 123 by decide), zz_mdr_c (c _ (by omega)) (c _ (by omega))]
  unfold yy_cm zz_mcst
  rw [a1, a2, a3, f115]
/-- an allowed drawing has all that mayBe asks of its first ones -/
theorem yy_M1 {S T : qq_S} (hN : zz_N S) (h : yy_fm S T) {s : Int} (hs : 0 ≤ s ∧ s < S 4 0) {Q : Nat → Int} (hQ : yy_Dm S Q) (he : ∀ j : Nat, (j : Int) ≤ s → Q j = T 123 j) : yy_mb T s := by
  have gb := hN.1.1
  obtain ⟨a1, a2, a3, a4, a5, a6, a7⟩ := zz_vd_ok.mp hQ.2
  have f4 : T 4 = S 4 := h.1 4 (by omega) (by omega) (by omega) (by omega) (by omega) (by omega)
  have f120 : T 120 = S 120 := h.1 120 (by omega) (by omega) (by omega) (by omega) (by omega) (by omega)
  have f121 : T 121 = S 121 := h.1 121 (by omega) (by omega) (by omega) (by omega) (by omega) (by omega)
  have c : ∀ a : Nat, (a : Int) ≤ s → zz_mx (yy_sp S Q) a = zz_mx T a ∧ zz_my (yy_sp S Q) a = zz_my T a := fun a ha => by
    unfold zz_mx zz_my
    rw [yy_sp1, yy_sp0 (by decide), h.2 12 (by omega), he a ha]
    exact ⟨rfl, rfl⟩
  rw [yy_sp0 (show ¬ 4 = 123 by decide)] at a2 a3 a4 a5
  refine ⟨fun t ht z => ?_, fun e h9 h10 => ?_⟩
  · refine a2 t s.toNat (by omega) (by omega) ⟨by omega, ?_⟩
    rw [yy_sp1, he t (by omega), he s.toNat (by omega)]; exact z
  · rw [f4] at h9
    rw [f121] at h10
    have m := zz_N_me hN h9
    rw [f120, f121, h.2 14 (by omega)]
    have k3 := a3 e (by omega)
    have k4 := a4 e (by omega)
    unfold zz_mstr at k3
    unfold zz_sho at k4
    rw [yy_sp0 (show ¬ 120 = 123 by decide), yy_sp0 (show ¬ 121 = 123 by decide)] at k3 k4
    rw [(c _ (by omega)).1, (c _ (by omega)).2, (c _ (by omega)).1, (c _ (by omega)).2] at k3
    rw [zz_ln_c (c _ (by omega)) (c _ (by omega)), yy_sp0 (show ¬ 115 = 123 by decide)] at k4
    refine ⟨⟨Classical.not_not.mp k3, k4⟩, fun t ht n1 n2 z => ?_⟩
    refine a5 e t (by omega) (by omega) ⟨⟨?_, ?_⟩, ?_⟩
    · rw [yy_sp0 (show ¬ 120 = 123 by decide)]; exact n1
    · rw [yy_sp0 (show ¬ 121 = 123 by decide)]; exact n2
    · rw [yy_sp0 (show ¬ 120 = 123 by decide), yy_sp0 (show ¬ 121 = 123 by decide), zz_lies_c (c _ (by omega)) (c _ (by omega)) (c _ ht)]; exact z
theorem zz_sum_le {f g : Nat → Int} : ∀ n : Nat, (∀ j, j < n → f j ≤ g j) → zz_sum f n ≤ zz_sum g n
  | 0, _ => Int.le_refl _
  | n + 1, h => by
    show zz_sum f n + f n ≤ zz_sum g n + g n
    have := zz_sum_le n (fun j hj => h j (by omega))
    have := h n (by omega)
    omega
def yy_mt5 (S : qq_S) : Prop := (2 ≤ S 115 12 ∧ S 115 12 ≤ 8 ∧ 2 ≤ S 115 13 ∧ S 115 13 ≤ 8 ∧ S 115 12 * S 115 13 ≤ 25) ∧ (0 ≤ S 115 14 ∧ S 115 14 ≤ 100 ∧ 0 ≤ S 115 15 ∧ S 115 15 ≤ 100 ∧ 0 ≤ S 115 16 ∧ S 115 16 ≤ 100 ∧ 0 ≤ S 115 17 ∧ S 115 17 ≤ 100)
theorem yy_Dm_all {S : qq_S} (m5 : yy_mt5 S) {Q : Nat → Int} (hQ : yy_Dm S Q) : zz_mall (yy_sp S Q) := by
  unfold zz_mall
  rw [yy_sp1, yy_sp0 (show ¬ 115 = 123 by decide), yy_sp0 (show ¬ 4 = 123 by decide)]
  have w := m5.1
  refine ⟨by omega, fun i hi => ?_⟩
  have := hQ.1 i hi
  omega
theorem yy_cm_bd {S : qq_S} (hN : zz_N S) (m5 : yy_mt5 S) {Q : Nat → Int} (hQ : yy_Dm S Q) : 0 ≤ yy_cm S Q ∧ yy_cm S Q ≤ 1000000 := by
  have t := m5.2
  refine zz_mcst_bd (yy_sp_N hN Q) (yy_Dm_all m5 hQ) ?_ ?_ ?_
  · rw [yy_sp0 (by decide)]; omega
  · rw [yy_sp0 (by decide)]; omega
  · rw [yy_sp0 (by decide)]; omega
theorem yy_M2 {S T : qq_S} (hN : zz_N S) (m5 : yy_mt5 S) (h : yy_fm S T) {s : Int} (hs : 0 ≤ s ∧ s < S 4 0) {Q : Nat → Int} (hQ : yy_Dm S Q) (he : ∀ j : Nat, (j : Int) ≤ s → Q j = T 123 j) : zz_sum (yy_ct T s) (T 4 2).toNat ≤ yy_cm S Q := by
  have gb := hN.1.1
  have gE := hN.2.2.1.1
  have t5 := m5.2
  have uN := yy_sp_N hN Q
  have uA := yy_Dm_all m5 hQ
  obtain ⟨a1, a2, a3, a4, a5, a6, a7⟩ := zz_vd_ok.mp hQ.2
  have mb := zz_mc_bd uN uA
  have f4 : T 4 = S 4 := h.1 4 (by omega) (by omega) (by omega) (by omega) (by omega) (by omega)
  have f120 : T 120 = S 120 := h.1 120 (by omega) (by omega) (by omega) (by omega) (by omega) (by omega)
  have f121 : T 121 = S 121 := h.1 121 (by omega) (by omega) (by omega) (by omega) (by omega) (by omega)
  have f116 : T 116 = S 116 := h.1 116 (by omega) (by omega) (by omega) (by omega) (by omega) (by omega)
  have f117 : T 117 = S 117 := h.1 117 (by omega) (by omega) (by omega) (by omega) (by omega) (by omega)
  have c : ∀ a : Nat, (a : Int) ≤ s → zz_mx (yy_sp S Q) a = zz_mx T a ∧ zz_my (yy_sp S Q) a = zz_my T a := fun a ha => by
    unfold zz_mx zz_my
    rw [yy_sp1, yy_sp0 (by decide), h.2 12 (by omega), he a ha]
    exact ⟨rfl, rfl⟩
  have le := zz_sum_le (f := yy_ct T s) (g := fun e => zz_ln (zz_mx (yy_sp S Q)) (zz_my (yy_sp S Q)) (S 120 e).toNat (S 121 e).toNat * S 115 16 + zz_mtrn (yy_sp S Q) e * S 115 17) (T 4 2).toNat (fun e h9 => by
    rw [f4] at h9
    have m := zz_N_me hN (e := e) (by omega)
    have tb : 0 ≤ zz_mtrn (yy_sp S Q) e := by
      unfold zz_mtrn
      exact (zz_ap_bd (zz_mdr_bd _ _ _ _) (zz_td_bd _ _)).1
    show yy_ct T s e ≤ zz_ln (zz_mx (yy_sp S Q)) (zz_my (yy_sp S Q)) (S 120 e).toNat (S 121 e).toNat * S 115 16 + zz_mtrn (yy_sp S Q) e * S 115 17
    unfold yy_ct
    rw [f121, h.2 16 (by omega), h.2 14 (by omega), h.2 17 (by omega)]
    by_cases z : s < S 121 e
    · rw [if_pos z]
      have k4 := a4 e (by rw [yy_sp0 (by decide)]; omega)
      unfold zz_sho at k4
      rw [yy_sp0 (show ¬ 120 = 123 by decide), yy_sp0 (show ¬ 121 = 123 by decide), yy_sp0 (show ¬ 115 = 123 by decide)] at k4
      have m1 := Int.mul_le_mul_of_nonneg_right (show S 115 14 ≤ zz_ln (zz_mx (yy_sp S Q)) (zz_my (yy_sp S Q)) (S 120 e).toNat (S 121 e).toNat by omega) (show 0 ≤ S 115 16 by omega)
      have m2 := Int.mul_nonneg tb (show 0 ≤ S 115 17 by omega)
      rw [Int.mul_comm (S 115 16)]
      omega
    · rw [if_neg z, f120]
      have e1 := zz_ln_c (c (S 120 e).toNat (by omega)) (c (S 121 e).toNat (by omega))
      have e2 : zz_mtrn (yy_sp S Q) e = zz_mtrn T e := by
        unfold zz_mtrn
        rw [yy_sp0 (show ¬ 120 = 123 by decide), yy_sp0 (show ¬ 121 = 123 by decide), yy_sp0 (show ¬ 116 = 123 by decide), yy_sp0 (show ¬ 117 = 123 by decide), f120, f121, f116, f117, zz_mdr_c (c (S 120 e).toNat (by omega)) (c (S 121 e).toNat (by omega))]
      rw [e1, e2, Int.mul_comm (S 115 16), Int.mul_comm (S 115 17)]
      exact Int.le_refl _)
  rw [zz_sum_lin, f4] at le
  have e1 : zz_mlns (yy_sp S Q) = zz_sum (fun e => zz_ln (zz_mx (yy_sp S Q)) (zz_my (yy_sp S Q)) (S 120 e).toNat (S 121 e).toNat) (S 4 2).toNat := by
    unfold zz_mlns
    rw [yy_sp0 (show ¬ 120 = 123 by decide), yy_sp0 (show ¬ 121 = 123 by decide), yy_sp0 (show ¬ 115 = 123 by decide), show S 115 3 = S 4 2 by omega]
  have e2 : zz_mtrs (yy_sp S Q) = zz_sum (zz_mtrn (yy_sp S Q)) (S 4 2).toNat := by
    unfold zz_mtrs
    rw [yy_sp0 (show ¬ 115 = 123 by decide), show S 115 3 = S 4 2 by omega]
  rw [← e1] at le
  have le : zz_sum (yy_ct T s) (S 4 2).toNat ≤ zz_mlns (yy_sp S Q) * S 115 16 + zz_sum (zz_mtrn (yy_sp S Q)) (S 4 2).toNat * S 115 17 := le
  rw [← e2] at le
  have m3 := Int.mul_nonneg (show 0 ≤ S 115 15 by omega) mb.1.1
  unfold yy_cm zz_mcst
  rw [yy_sp0 (show ¬ 115 = 123 by decide), f4, Int.mul_comm (S 115 16), Int.mul_comm (S 115 17)]
  omega
def yy_tr (S T : qq_S) (j : Nat) : Prop := S 124 j = 0 ∨ T 128 j = 1
/-- Q is behind -/
def yy_dn9 (S T : qq_S) (s : Int) (Q : Nat → Int) : Prop := s = -1 ∨ ∃ j : Nat, (j : Int) ≤ s ∧ (∀ i : Nat, i < j → Q i = T 123 i) ∧ (Q j < T 123 j ∨ ((j : Int) = s ∧ Q j = T 123 j ∧ yy_tr S T j))
def yy_A (S T : qq_S) (c s : Int) : Prop := (c = -1 ∧ ∀ Q, yy_Dm S Q → ¬ yy_dn9 S T s Q) ∨ (0 ≤ c ∧ c ≤ 1000000 ∧ ∃ B, yy_Dm S B ∧ yy_cm S B = c ∧ (∀ t : Nat, (t : Int) < S 4 0 → T 127 t = B t) ∧ (∀ Q, yy_Dm S Q → yy_dn9 S T s Q → c < yy_cm S Q ∨ (c = yy_cm S Q ∧ ¬ yy_lt (S 4 0) Q B)) ∧ (∀ Q, yy_Dm S Q → ¬ yy_dn9 S T s Q → ¬ yy_lt (S 4 0) Q B))
/-- some more are behind, none of them better -/
theorem yy_A_more {S T U : qq_S} {c s s2 : Int} {N : (Nat → Int) → Prop} (a : yy_A S T c s) (h27 : ∀ t : Nat, (t : Int) < S 4 0 → U 127 t = T 127 t) (hd : ∀ Q, yy_Dm S Q → (yy_dn9 S U s2 Q ↔ yy_dn9 S T s Q ∨ N Q)) (hn : ∀ Q, yy_Dm S Q → N Q → ¬ c = -1 ∧ c ≤ yy_cm S Q) : yy_A S U c s2 := by
  rcases a with ⟨a1, a2⟩ | ⟨a1, a2, B, b1, b2, b3, b4, b5⟩
  · refine Or.inl ⟨a1, fun Q hQ z => ?_⟩
    rcases (hd Q hQ).mp z with z | z
    · exact a2 Q hQ z
    · exact (hn Q hQ z).1 a1
  · refine Or.inr ⟨a1, a2, B, b1, b2, fun t ht => by rw [h27 t ht]; exact b3 t ht, fun Q hQ z => ?_, fun Q hQ z => b5 Q hQ (fun y => z ((hd Q hQ).mpr (Or.inl y)))⟩
    by_cases y : yy_dn9 S T s Q
    · exact b4 Q hQ y
    · have k := hn Q hQ (((hd Q hQ).mp z).resolve_left y)
      have l := b5 Q hQ y
      by_cases e : c = yy_cm S Q
      · exact Or.inr ⟨e, l⟩
      · exact Or.inl (by omega)
theorem yy_A_same {S T U : qq_S} {c s s2 : Int} (a : yy_A S T c s) (h27 : ∀ t : Nat, (t : Int) < S 4 0 → U 127 t = T 127 t) (hd : ∀ Q, yy_Dm S Q → (yy_dn9 S U s2 Q ↔ yy_dn9 S T s Q)) : yy_A S U c s2 := yy_A_more (N := fun _ => False) a h27 (fun Q hQ => by rw [hd Q hQ]; exact ⟨Or.inl, fun z => z.resolve_right id⟩) (fun _ _ z => z.elim)
/-- a better one -/
theorem yy_A_new {S T U : qq_S} {c s s2 : Int} {B : Nat → Int} (hN : zz_N S) (m5 : yy_mt5 S) (a : yy_A S T c s) (hB : yy_Dm S B) (hc : c = -1 ∨ yy_cm S B < c) (h27 : ∀ t : Nat, (t : Int) < S 4 0 → U 127 t = B t) (hd : ∀ Q, yy_Dm S Q → (yy_dn9 S U s2 Q ↔ yy_dn9 S T s Q ∨ ∀ t : Nat, (t : Int) < S 4 0 → Q t = B t)) (hl : ∀ Q, yy_Dm S Q → ¬ yy_dn9 S U s2 Q → ¬ yy_lt (S 4 0) Q B) : yy_A S U (yy_cm S B) s2 := by
  have b := yy_cm_bd hN m5 hB
  refine Or.inr ⟨b.1, b.2, B, hB, rfl, h27, fun Q hQ z => ?_, hl⟩
  rcases (hd Q hQ).mp z with z | z
  · rcases a with ⟨a1, a2⟩ | ⟨a1, a2, B2, b1, b2, b3, b4, b5⟩
    · exact absurd z (a2 Q hQ)
    · have := b4 Q hQ z
      exact Or.inl (by omega)
  · refine Or.inr ⟨(yy_cm_q hN z).symm, fun ⟨k, k1, _, k3⟩ => ?_⟩
    rw [z k k1] at k3
    omega
/-- a step to the next point, all behind it looked at -/
theorem yy_d1 {S T U : qq_S} {s : Int} (hs : 0 ≤ s ∧ s < S 4 0) (h1 : ∀ j : Nat, (j : Int) < s → U 123 j = T 123 j) (h2 : (S 124 s.toNat = 0 ∧ U 123 s.toNat = T 123 s.toNat + 1) ∨ (¬ S 124 s.toNat = 0 ∧ U 123 s.toNat = T 123 s.toNat ∧ T 128 s.toNat = 0 ∧ U 128 s.toNat = 1)) {Q : Nat → Int} : yy_dn9 S U s Q ↔ yy_dn9 S T s Q ∨ ∀ j : Nat, (j : Int) ≤ s → Q j = U 123 j := by
  have s1 : ¬ s = -1 := by omega
  constructor
  · rintro (z | ⟨j, j1, j2, j3⟩)
    · exact absurd z s1
    · by_cases e : (j : Int) = s
      · have ej : j = s.toNat := by omega
        rw [ej] at j2 j3
        by_cases q : Q s.toNat = U 123 s.toNat
        · refine Or.inr (fun i hi => ?_)
          by_cases e2 : i = s.toNat
          · rw [e2]; exact q
          · exact j2 i (by omega)
        · refine Or.inl (Or.inr ⟨s.toNat, by omega, fun i hi => by rw [j2 i hi]; exact h1 i (by omega), ?_⟩)
          rcases j3 with j3 | j3
          · rcases h2 with ⟨u1, u2⟩ | ⟨u1, u2, _⟩
            · by_cases q2 : Q s.toNat = T 123 s.toNat
              · exact Or.inr ⟨by omega, q2, Or.inl u1⟩
              · exact Or.inl (by omega)
            · exact Or.inl (by omega)
          · exact absurd j3.2.1 q
      · refine Or.inl (Or.inr ⟨j, j1, fun i hi => by rw [j2 i hi]; exact h1 i (by omega), ?_⟩)
        rcases j3 with j3 | j3
        · rw [h1 j (by omega)] at j3; exact Or.inl j3
        · exact absurd j3.1 e
  · rintro ((z | ⟨j, j1, j2, j3⟩) | z)
    · exact absurd z s1
    · refine Or.inr ⟨j, j1, fun i hi => by rw [j2 i hi]; exact (h1 i (by omega)).symm, ?_⟩
      by_cases e : (j : Int) = s
      · have ej : j = s.toNat := by omega
        rw [ej] at j3 ⊢
        rcases h2 with ⟨u1, u2⟩ | ⟨u1, u2, u3, u4⟩
        · rcases j3 with j3 | j3
          · exact Or.inl (by omega)
          · exact Or.inl (by have := j3.2.1; omega)
        · rcases j3 with j3 | j3
          · exact Or.inl (by omega)
          · exfalso
            rcases j3.2.2 with y | y
            · exact u1 y
            · omega
      · rcases j3 with j3 | j3
        · rw [h1 j (by omega)]; exact Or.inl j3
        · exact absurd j3.1 e
    · refine Or.inr ⟨s.toNat, by omega, fun i hi => z i (by omega), Or.inr ⟨by omega, z _ (by omega), ?_⟩⟩
      rcases h2 with ⟨u1, _⟩ | ⟨_, _, _, u4⟩
      · exact Or.inl u1
      · exact Or.inr u4
/-- one level down -/
theorem yy_d2 {S T U : qq_S} {s : Int} (hs : 0 ≤ s ∧ s + 1 < S 4 0) (h1 : ∀ j : Nat, (j : Int) < s → U 123 j = T 123 j) (h2 : (S 124 s.toNat = 0 ∧ U 123 s.toNat = T 123 s.toNat + 1) ∨ (¬ S 124 s.toNat = 0 ∧ U 123 s.toNat = T 123 s.toNat ∧ T 128 s.toNat = 0)) (h3 : (S 124 (s + 1).toNat = 0 ∧ U 123 (s + 1).toNat = -1) ∨ (¬ S 124 (s + 1).toNat = 0 ∧ U 123 (s + 1).toNat = S 123 (s + 1).toNat ∧ U 128 (s + 1).toNat = 0)) {Q : Nat → Int} (hQ : yy_Dm S Q) : yy_dn9 S U (s + 1) Q ↔ yy_dn9 S T s Q := by
  have q1 := hQ.1 (s + 1).toNat (by omega)
  constructor
  · rintro (z | ⟨j, j1, j2, j3⟩)
    · omega
    · by_cases e : (j : Int) = s + 1
      · exfalso
        have ej : j = (s + 1).toNat := by omega
        rw [ej] at j3
        rcases h3 with ⟨u1, u2⟩ | ⟨u1, u2, u3⟩
        · rcases j3 with j3 | j3
          · omega
          · have := j3.2.1; omega
        · have q2 := q1.2.2.resolve_left u1
          rcases j3 with j3 | j3
          · omega
          · rcases j3.2.2 with y | y
            · exact u1 y
            · omega
      · have j3 : Q j < U 123 j := by
          rcases j3 with j3 | j3
          · exact j3
          · exact absurd j3.1 e
        refine Or.inr ⟨j, by omega, fun i hi => by rw [j2 i hi]; exact h1 i (by omega), ?_⟩
        by_cases e2 : (j : Int) = s
        · have ej : j = s.toNat := by omega
          rw [ej] at j3 ⊢
          rcases h2 with ⟨u1, u2⟩ | ⟨u1, u2, _⟩
          · by_cases q2 : Q s.toNat = T 123 s.toNat
            · exact Or.inr ⟨by omega, q2, Or.inl u1⟩
            · exact Or.inl (by omega)
          · exact Or.inl (by omega)
        · rw [h1 j (by omega)] at j3; exact Or.inl j3
  · rintro (z | ⟨j, j1, j2, j3⟩)
    · omega
    · refine Or.inr ⟨j, by omega, fun i hi => by rw [j2 i hi]; exact (h1 i (by omega)).symm, Or.inl ?_⟩
      by_cases e : (j : Int) = s
      · have ej : j = s.toNat := by omega
        rw [ej] at j3 ⊢
        rcases h2 with ⟨u1, u2⟩ | ⟨u1, u2, u3⟩
        · rcases j3 with j3 | j3
          · omega
          · have := j3.2.1; omega
        · rcases j3 with j3 | j3
          · omega
          · exfalso
            rcases j3.2.2 with y | y
            · exact u1 y
            · omega
      · rw [h1 j (by omega)]
        rcases j3 with j3 | j3
        · exact j3
        · exact absurd j3.1 e
/-- one level up -/
theorem yy_d3 {S T U : qq_S} {s : Int} (hs : 0 ≤ s ∧ s < S 4 0) (h1 : ∀ j : Nat, (j : Int) < s → U 123 j = T 123 j ∧ U 128 j = T 128 j) (h2 : (S 124 s.toNat = 0 ∧ T 123 s.toNat = S 115 12 * S 115 13 - 1) ∨ (¬ S 124 s.toNat = 0 ∧ T 123 s.toNat = S 123 s.toNat ∧ T 128 s.toNat = 1)) (h3 : 0 < s → yy_tr S T (s - 1).toNat) {Q : Nat → Int} (hQ : yy_Dm S Q) : yy_dn9 S U (s - 1) Q ↔ yy_dn9 S T s Q := by
  have q1 := hQ.1 s.toNat (by omega)
  -- with the first ones alike Q is behind
  have all : (∀ i : Nat, (i : Int) < s → Q i = T 123 i) → yy_dn9 S T s Q := fun z => by
    refine Or.inr ⟨s.toNat, by omega, fun i hi => z i (by omega), ?_⟩
    rcases h2 with ⟨u1, u2⟩ | ⟨u1, u2, u3⟩
    · by_cases e : Q s.toNat = T 123 s.toNat
      · exact Or.inr ⟨by omega, e, Or.inl u1⟩
      · exact Or.inl (by omega)
    · exact Or.inr ⟨by omega, by have := q1.2.2.resolve_left u1; omega, Or.inr u3⟩
  constructor
  · rintro (z | ⟨j, j1, j2, j3⟩)
    · exact all (fun i hi => by omega)
    · have j2 : ∀ i : Nat, i < j → Q i = T 123 i := fun i hi => by rw [j2 i hi]; exact (h1 i (by omega)).1
      rcases j3 with j3 | j3
      · rw [(h1 j (by omega)).1] at j3
        exact Or.inr ⟨j, by omega, j2, Or.inl j3⟩
      · refine all (fun i hi => ?_)
        by_cases e : i = j
        · rw [e, j3.2.1]; exact (h1 j (by omega)).1
        · exact j2 i (by omega)
  · rintro (z | ⟨j, j1, j2, j3⟩)
    · omega
    · by_cases s0 : s = 0
      · exact Or.inl (by omega)
      · by_cases e : (j : Int) = s
        · -- alike up to s - 1
          refine Or.inr ⟨(s - 1).toNat, by omega, fun i hi => by rw [(h1 i (by omega)).1]; exact j2 i (by omega), Or.inr ⟨by omega, by rw [(h1 _ (by omega)).1]; exact j2 _ (by omega), ?_⟩⟩
          have := h3 (by omega)
          unfold yy_tr at this ⊢
          rw [(h1 _ (by omega)).2]
          exact this
        · refine Or.inr ⟨j, by omega, fun i hi => by rw [(h1 i (by omega)).1]; exact j2 i hi, Or.inl ?_⟩
          rw [(h1 j (by omega)).1]
          rcases j3 with j3 | j3
          · exact j3
          · exact absurd j3.1 e
