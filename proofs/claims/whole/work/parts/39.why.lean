noncomputable def sp_15 : qq_P := fun y as S => match y, as with
  | 5, [.inr (53, none)] => some (zz_p (zz_nb S) = 1 ∧ zz_p (zz_pl (S 49) (S 50)) = 1, some (if zz_fst (fun a : Nat => ∃ j : Nat, j < (S 4 0).toNat ∧ zz_sm (S 49) (S 50) a j) (S 4 0).toNat = -1 then 0 else 1), if zz_fst (fun a : Nat => ∃ j : Nat, j < (S 4 0).toNat ∧ zz_sm (S 49) (S 50) a j) (S 4 0).toNat = -1 then S else zz_bl S 2 (zz_fst (fun a : Nat => ∃ j : Nat, j < (S 4 0).toNat ∧ zz_sm (S 49) (S 50) a j) (S 4 0).toNat) (zz_fst (fun j : Nat => zz_sm (S 49) (S 50) (zz_fst (fun a : Nat => ∃ j : Nat, j < (S 4 0).toNat ∧ zz_sm (S 49) (S 50) a j) (S 4 0).toNat).toNat j) (S 4 0).toNat))
  | 8, [.inr (53, none)] => some (zz_p (zz_nb S) = 1 ∧ zz_p (zz_pl (S 49) (S 50)) = 1, some (if zz_fst (fun a : Nat => ∃ j : Nat, j < (S 4 0).toNat ∧ zz_cov (S 49) (S 50) (S 22) (S 23) a j) (S 4 2).toNat = -1 then 0 else 1), if zz_fst (fun a : Nat => ∃ j : Nat, j < (S 4 0).toNat ∧ zz_cov (S 49) (S 50) (S 22) (S 23) a j) (S 4 2).toNat = -1 then S else zz_bl S 5 (zz_fst (fun a : Nat => ∃ j : Nat, j < (S 4 0).toNat ∧ zz_cov (S 49) (S 50) (S 22) (S 23) a j) (S 4 2).toNat) (zz_fst (fun j : Nat => zz_cov (S 49) (S 50) (S 22) (S 23) (zz_fst (fun a : Nat => ∃ j : Nat, j < (S 4 0).toNat ∧ zz_cov (S 49) (S 50) (S 22) (S 23) a j) (S 4 2).toNat).toNat j) (S 4 0).toNat))
  | 10, [.inr (53, none)] => some (zz_p (zz_nb S) = 1 ∧ zz_p (zz_pl (S 49) (S 50)) = 1, some (if zz_fst (fun a : Nat => ∃ j : Nat, j < (S 4 2).toNat ∧ zz_cx (S 49) (S 50) (S 22) (S 23) a j) (S 4 2).toNat = -1 then 0 else 1), if zz_fst (fun a : Nat => ∃ j : Nat, j < (S 4 2).toNat ∧ zz_cx (S 49) (S 50) (S 22) (S 23) a j) (S 4 2).toNat = -1 then S else zz_bl S 6 (zz_fst (fun a : Nat => ∃ j : Nat, j < (S 4 2).toNat ∧ zz_cx (S 49) (S 50) (S 22) (S 23) a j) (S 4 2).toNat) (zz_fst (fun j : Nat => zz_cx (S 49) (S 50) (S 22) (S 23) (zz_fst (fun a : Nat => ∃ j : Nat, j < (S 4 2).toNat ∧ zz_cx (S 49) (S 50) (S 22) (S 23) a j) (S 4 2).toNat).toNat j) (S 4 2).toNat))
  | 11, [.inr (53, none)] => some (zz_p (zz_nb S) = 1 ∧ zz_p (zz_pl (S 49) (S 50)) = 1 ∧ qq_in (S 52 3), some (if zz_fst (fun j : Nat => zz_tw (S 49) (S 50) (S 25) (fun s => S (26 + 1 + s)) j) (S 4 0).toNat = -1 then 0 else 1), if zz_fst (fun j : Nat => zz_tw (S 49) (S 50) (S 25) (fun s => S (26 + 1 + s)) j) (S 4 0).toNat = -1 then S else zz_bl S 7 (zz_fst (fun j : Nat => zz_tw (S 49) (S 50) (S 25) (fun s => S (26 + 1 + s)) j) (S 4 0).toNat) (-1))
  | _, _ => sp_14 y as S
theorem sp_15_ok {xs : List Int32} (hxs : xs.length ≤ 2048) (d : Nat) : qq_ok xs (d + 8) sp_15 := by
  intro y as S pre r S2 h hp
  unfold sp_15 at h
  split at h
  · cases h; exact f5 hxs (d + 0) S hp
  · cases h; exact f8 hxs (d + 0) S hp
  · cases h; exact f10 hxs (d + 0) S hp
  · cases h; exact f11 hxs (d + 0) S hp
  · exact sp_14_ok hxs (d + 1) y as S pre r S2 h hp
theorem qq_vcall {xs : List Int32} {d k a b c q pc len w k9 : Nat} {rt : Option FieldType} {code : List mm_E} {K : qq_K} {as st s2 : List qq_V} {ls : qq_L} {S S2 : qq_S} {r : Option Int} {fs : List (Option Nat)} (hat : mm_at code pc = some (pc, .invokevirtual k9, len, a, b, c, w)) (hE : qq_E xs k a (.inr (q, none) :: as) S r S2) (hk : k ≤ d) (hst : st = as.reverse ++ .inr (q, none) :: s2) (hb : as.length = b) (hq : qq_at q = some (.inl (c, fs))) (hs : s2.length ≤ 8) (hG : qq_p xs d rt code K (pc + 3) ls ((r.map Sum.inl).toList ++ s2) S2) : qq_p xs d rt code K pc ls st S := by
  obtain ⟨n, hn⟩ := hG
  obtain ⟨h3, hg9⟩ := qq_get S hq
  have hE9 := qq_up hk hE
  unfold qq_E at hE9
  refine ⟨n + 1, _, _, _, _, _, _, hat, as.map qq_v, q - 3, s2.map qq_v, _, c, r.map Int32.ofInt, qq_e S2, ?_, by rw [List.length_map]; exact hb, by rw [List.length_map]; exact hs, hg9, rfl, ?_, by rw [qq_len, qq_len]; omega, by rw [qq_size, qq_size]; omega, by rw [qq_len]; omega, by rw [qq_size]; omega, ?_⟩
  · rw [Nat.sub_add_cancel h3, hst, List.map_append, List.map_reverse]
    rfl
  · rw [Nat.sub_add_cancel h3]
    exact hE9
  · cases r <;> exact hn
/-- all that may be wrong with a drawing, in order; the first that is -/
noncomputable def zz_vd (n E : Nat) (p1 : Nat → Prop) (p2 : Nat → Nat → Prop) (p3 p4 : Nat → Prop) (p5 p6 : Nat → Nat → Prop) (p7 : Nat → Prop) : Int × Int × Int :=
  if ¬ zz_fst p1 n = -1 then (1, zz_fst p1 n, -1) else
  if ¬ zz_fst (fun a => ∃ j, j < n ∧ p2 a j) n = -1 then (2, zz_fst (fun a => ∃ j, j < n ∧ p2 a j) n, zz_fst (p2 (zz_fst (fun a => ∃ j, j < n ∧ p2 a j) n).toNat) n) else
  if ¬ zz_fst p3 E = -1 then (3, zz_fst p3 E, -1) else
  if ¬ zz_fst p4 E = -1 then (4, zz_fst p4 E, -1) else
  if ¬ zz_fst (fun a => ∃ j, j < n ∧ p5 a j) E = -1 then (5, zz_fst (fun a => ∃ j, j < n ∧ p5 a j) E, zz_fst (p5 (zz_fst (fun a => ∃ j, j < n ∧ p5 a j) E).toNat) n) else
  if ¬ zz_fst (fun a => ∃ j, j < E ∧ p6 a j) E = -1 then (6, zz_fst (fun a => ∃ j, j < E ∧ p6 a j) E, zz_fst (p6 (zz_fst (fun a => ∃ j, j < E ∧ p6 a j) E).toNat) E) else
  if ¬ zz_fst p7 n = -1 then (7, zz_fst p7 n, -1) else (0, -1, -1)
theorem zz_vd_bd {n E : Nat} {p1 : Nat → Prop} {p2 : Nat → Nat → Prop} {p3 p4 : Nat → Prop} {p5 p6 : Nat → Nat → Prop} {p7 : Nat → Prop} (hn : n ≤ 10) (hE : E ≤ 45) : (0 ≤ (zz_vd n E p1 p2 p3 p4 p5 p6 p7).1 ∧ (zz_vd n E p1 p2 p3 p4 p5 p6 p7).1 ≤ 7) ∧ (-1 ≤ (zz_vd n E p1 p2 p3 p4 p5 p6 p7).2.1 ∧ (zz_vd n E p1 p2 p3 p4 p5 p6 p7).2.1 ≤ 45) ∧ (-1 ≤ (zz_vd n E p1 p2 p3 p4 p5 p6 p7).2.2 ∧ (zz_vd n E p1 p2 p3 p4 p5 p6 p7).2.2 ≤ 45) := by
  unfold zz_vd
  have b := fun p m => zz_fst_bd p m
  have b1 := b p1 n
  have b2 := b (fun a => ∃ j, j < n ∧ p2 a j) n
  have b2' := b (p2 (zz_fst (fun a => ∃ j, j < n ∧ p2 a j) n).toNat) n
  have b3 := b p3 E
  have b4 := b p4 E
  have b5 := b (fun a => ∃ j, j < n ∧ p5 a j) E
  have b5' := b (p5 (zz_fst (fun a => ∃ j, j < n ∧ p5 a j) E).toNat) n
  have b6 := b (fun a => ∃ j, j < E ∧ p6 a j) E
  have b6' := b (p6 (zz_fst (fun a => ∃ j, j < E ∧ p6 a j) E).toNat) E
  have b7 := b p7 n
  repeat' split
  all_goals (dsimp only; omega)
theorem zz_vd_c {n E : Nat} {p1 q1 : Nat → Prop} {p2 q2 : Nat → Nat → Prop} {p3 q3 p4 q4 : Nat → Prop} {p5 q5 p6 q6 : Nat → Nat → Prop} {p7 q7 : Nat → Prop}
    (h1 : ∀ a, a < n → (p1 a ↔ q1 a))
    (h2 : (∀ a, a < n → ¬ p1 a) → ∀ a b, a < n → b < n → (p2 a b ↔ q2 a b))
    (h3 : (∀ a, a < n → ¬ p1 a) → (∀ a b, a < n → b < n → ¬ p2 a b) → ∀ e, e < E → (p3 e ↔ q3 e))
    (h4 : (∀ a, a < n → ¬ p1 a) → (∀ a b, a < n → b < n → ¬ p2 a b) → (∀ e, e < E → ¬ p3 e) → ∀ e, e < E → (p4 e ↔ q4 e))
    (h5 : (∀ a, a < n → ¬ p1 a) → (∀ a b, a < n → b < n → ¬ p2 a b) → (∀ e, e < E → ¬ p3 e) → ∀ e s, e < E → s < n → (p5 e s ↔ q5 e s))
    (h6 : (∀ a, a < n → ¬ p1 a) → (∀ a b, a < n → b < n → ¬ p2 a b) → (∀ e, e < E → ¬ p3 e) → (∀ e s, e < E → s < n → ¬ p5 e s) → ∀ e f, e < E → f < E → (p6 e f ↔ q6 e f))
    (h7 : (∀ a, a < n → ¬ p1 a) → (∀ a b, a < n → b < n → ¬ p2 a b) → (∀ e, e < E → ¬ p3 e) → (∀ e s, e < E → s < n → ¬ p5 e s) → ∀ s, s < n → (p7 s ↔ q7 s)) :
    zz_vd n E p1 p2 p3 p4 p5 p6 p7 = zz_vd n E q1 q2 q3 q4 q5 q6 q7 := by
  unfold zz_vd
  have e1 := zz_fst_c h1
  rw [← e1]
  by_cases c1 : zz_fst p1 n = -1
  case neg => rw [if_pos c1, if_pos c1]
  rw [if_neg (not_not_intro c1), if_neg (not_not_intro c1)]
  have k1 := zz_fst_no.mp c1
  have h2 := h2 k1
  have e2 : zz_fst (fun a => ∃ j, j < n ∧ p2 a j) n = zz_fst (fun a => ∃ j, j < n ∧ q2 a j) n := zz_fst_c (fun a ha => ⟨fun ⟨j, hj, z⟩ => ⟨j, hj, (h2 a j ha hj).mp z⟩, fun ⟨j, hj, z⟩ => ⟨j, hj, (h2 a j ha hj).mpr z⟩⟩)
  rw [← e2]
  by_cases c2 : zz_fst (fun a => ∃ j, j < n ∧ p2 a j) n = -1
  case neg =>
    have b := (zz_fst_is c2).2
    rw [if_pos c2, if_pos c2, zz_fst_c (fun j hj => h2 _ j b hj)]
  rw [if_neg (not_not_intro c2), if_neg (not_not_intro c2)]
  have k2 : ∀ a b, a < n → b < n → ¬ p2 a b := fun a b ha hb z => zz_fst_no.mp c2 a ha ⟨b, hb, z⟩
  have h3 := h3 k1 k2
  rw [← zz_fst_c h3]
  by_cases c3 : zz_fst p3 E = -1
  case neg => rw [if_pos c3, if_pos c3]
  rw [if_neg (not_not_intro c3), if_neg (not_not_intro c3)]
  have k3 := zz_fst_no.mp c3
  have h4 := h4 k1 k2 k3
  rw [← zz_fst_c h4]
  by_cases c4 : zz_fst p4 E = -1
  case neg => rw [if_pos c4, if_pos c4]
  rw [if_neg (not_not_intro c4), if_neg (not_not_intro c4)]
  have h5 := h5 k1 k2 k3
  have e5 : zz_fst (fun a => ∃ j, j < n ∧ p5 a j) E = zz_fst (fun a => ∃ j, j < n ∧ q5 a j) E := zz_fst_c (fun a ha => ⟨fun ⟨j, hj, z⟩ => ⟨j, hj, (h5 a j ha hj).mp z⟩, fun ⟨j, hj, z⟩ => ⟨j, hj, (h5 a j ha hj).mpr z⟩⟩)
  rw [← e5]
  by_cases c5 : zz_fst (fun a => ∃ j, j < n ∧ p5 a j) E = -1
  case neg =>
    have b := (zz_fst_is c5).2
    rw [if_pos c5, if_pos c5, zz_fst_c (fun j hj => h5 _ j b hj)]
  rw [if_neg (not_not_intro c5), if_neg (not_not_intro c5)]
  have k5 : ∀ a b, a < E → b < n → ¬ p5 a b := fun a b ha hb z => zz_fst_no.mp c5 a ha ⟨b, hb, z⟩
  have h6 := h6 k1 k2 k3 k5
  have e6 : zz_fst (fun a => ∃ j, j < E ∧ p6 a j) E = zz_fst (fun a => ∃ j, j < E ∧ q6 a j) E := zz_fst_c (fun a ha => ⟨fun ⟨j, hj, z⟩ => ⟨j, hj, (h6 a j ha hj).mp z⟩, fun ⟨j, hj, z⟩ => ⟨j, hj, (h6 a j ha hj).mpr z⟩⟩)
  rw [← e6]
  by_cases c6 : zz_fst (fun a => ∃ j, j < E ∧ p6 a j) E = -1
  case neg =>
    have b := (zz_fst_is c6).2
    rw [if_pos c6, if_pos c6, zz_fst_c (fun j hj => h6 _ j b hj)]
  rw [if_neg (not_not_intro c6), if_neg (not_not_intro c6)]
  rw [← zz_fst_c (h7 k1 k2 k3 k5)]
section
variable {n E : Nat} {p1 : Nat → Prop} {p2 : Nat → Nat → Prop} {p3 p4 : Nat → Prop} {p5 p6 : Nat → Nat → Prop} {p7 : Nat → Prop}
theorem zz_vd1 (h1 : ¬ zz_fst p1 n = -1) : zz_vd n E p1 p2 p3 p4 p5 p6 p7 = (1, zz_fst p1 n, -1) := by
  unfold zz_vd
  rw [if_pos h1]
theorem zz_vd2 (h1 : zz_fst p1 n = -1) (h2 : ¬ zz_fst (fun a => ∃ j, j < n ∧ p2 a j) n = -1) : zz_vd n E p1 p2 p3 p4 p5 p6 p7 = (2, zz_fst (fun a => ∃ j, j < n ∧ p2 a j) n, zz_fst (p2 (zz_fst (fun a => ∃ j, j < n ∧ p2 a j) n).toNat) n) := by
  unfold zz_vd
  rw [if_neg (not_not_intro h1), if_pos h2]
theorem zz_vd3 (h1 : zz_fst p1 n = -1) (h2 : zz_fst (fun a => ∃ j, j < n ∧ p2 a j) n = -1) (h3 : ¬ zz_fst p3 E = -1) : zz_vd n E p1 p2 p3 p4 p5 p6 p7 = (3, zz_fst p3 E, -1) := by
  unfold zz_vd
  rw [if_neg (not_not_intro h1), if_neg (not_not_intro h2), if_pos h3]
theorem zz_vd4 (h1 : zz_fst p1 n = -1) (h2 : zz_fst (fun a => ∃ j, j < n ∧ p2 a j) n = -1) (h3 : zz_fst p3 E = -1) (h4 : ¬ zz_fst p4 E = -1) : zz_vd n E p1 p2 p3 p4 p5 p6 p7 = (4, zz_fst p4 E, -1) := by
  unfold zz_vd
  rw [if_neg (not_not_intro h1), if_neg (not_not_intro h2), if_neg (not_not_intro h3), if_pos h4]
theorem zz_vd5 (h1 : zz_fst p1 n = -1) (h2 : zz_fst (fun a => ∃ j, j < n ∧ p2 a j) n = -1) (h3 : zz_fst p3 E = -1) (h4 : zz_fst p4 E = -1) (h5 : ¬ zz_fst (fun a => ∃ j, j < n ∧ p5 a j) E = -1) : zz_vd n E p1 p2 p3 p4 p5 p6 p7 = (5, zz_fst (fun a => ∃ j, j < n ∧ p5 a j) E, zz_fst (p5 (zz_fst (fun a => ∃ j, j < n ∧ p5 a j) E).toNat) n) := by
  unfold zz_vd
  rw [if_neg (not_not_intro h1), if_neg (not_not_intro h2), if_neg (not_not_intro h3), if_neg (not_not_intro h4), if_pos h5]
theorem zz_vd6 (h1 : zz_fst p1 n = -1) (h2 : zz_fst (fun a => ∃ j, j < n ∧ p2 a j) n = -1) (h3 : zz_fst p3 E = -1) (h4 : zz_fst p4 E = -1) (h5 : zz_fst (fun a => ∃ j, j < n ∧ p5 a j) E = -1) (h6 : ¬ zz_fst (fun a => ∃ j, j < E ∧ p6 a j) E = -1) : zz_vd n E p1 p2 p3 p4 p5 p6 p7 = (6, zz_fst (fun a => ∃ j, j < E ∧ p6 a j) E, zz_fst (p6 (zz_fst (fun a => ∃ j, j < E ∧ p6 a j) E).toNat) E) := by
  unfold zz_vd
  rw [if_neg (not_not_intro h1), if_neg (not_not_intro h2), if_neg (not_not_intro h3), if_neg (not_not_intro h4), if_neg (not_not_intro h5), if_pos h6]
theorem zz_vd7 (h1 : zz_fst p1 n = -1) (h2 : zz_fst (fun a => ∃ j, j < n ∧ p2 a j) n = -1) (h3 : zz_fst p3 E = -1) (h4 : zz_fst p4 E = -1) (h5 : zz_fst (fun a => ∃ j, j < n ∧ p5 a j) E = -1) (h6 : zz_fst (fun a => ∃ j, j < E ∧ p6 a j) E = -1) (h7 : ¬ zz_fst p7 n = -1) : zz_vd n E p1 p2 p3 p4 p5 p6 p7 = (7, zz_fst p7 n, -1) := by
  unfold zz_vd
  rw [if_neg (not_not_intro h1), if_neg (not_not_intro h2), if_neg (not_not_intro h3), if_neg (not_not_intro h4), if_neg (not_not_intro h5), if_neg (not_not_intro h6), if_pos h7]
theorem zz_vd0 (h1 : zz_fst p1 n = -1) (h2 : zz_fst (fun a => ∃ j, j < n ∧ p2 a j) n = -1) (h3 : zz_fst p3 E = -1) (h4 : zz_fst p4 E = -1) (h5 : zz_fst (fun a => ∃ j, j < n ∧ p5 a j) E = -1) (h6 : zz_fst (fun a => ∃ j, j < E ∧ p6 a j) E = -1) (h7 : zz_fst p7 n = -1) : zz_vd n E p1 p2 p3 p4 p5 p6 p7 = (0, -1, -1) := by
  unfold zz_vd
  rw [if_neg (not_not_intro h1), if_neg (not_not_intro h2), if_neg (not_not_intro h3), if_neg (not_not_intro h4), if_neg (not_not_intro h5), if_neg (not_not_intro h6), if_neg (not_not_intro h7)]
end
/-- the class's verdict over the plan x, y -/
noncomputable def zz_vC (S : qq_S) : Int × Int × Int := zz_vd (S 4 0).toNat (S 4 2).toNat (fun j : Nat => S 49 j = -1) (zz_sm (S 49) (S 50)) (zz_cr (S 49) (S 50) (S 22) (S 23)) (zz_sho (S 49) (S 50) (S 22) (S 23) (S 52 3)) (zz_cov (S 49) (S 50) (S 22) (S 23)) (zz_cx (S 49) (S 50) (S 22) (S 23)) (zz_tw (S 49) (S 50) (S 25) (fun s => S (26 + 1 + s)))
noncomputable def zz_eC (S : qq_S) : qq_S := zz_bl S (zz_vC S).1 (zz_vC S).2.1 (zz_vC S).2.2
theorem zz_bl3 (S : qq_S) (a b c : Int) : zz_bl S a b c 53 3 = a ∧ zz_bl S a b c 53 4 = b ∧ zz_bl S a b c 53 5 = c := by
  unfold zz_bl qq_u
  simp
set_option maxRecDepth 20000 in
theorem f2 {xs : List Int32} (hxs : xs.length ≤ 2048) (d : Nat) (S : qq_S) (hp : zz_p (zz_nb S) = 1 ∧ zz_p (zz_pl (S 49) (S 50)) = 1 ∧ qq_in (S 52 3)) : qq_E xs (d + 9) 2 [.inr (53, none)] S none (zz_eC S) := by
  have h : qq_p xs (d + 8) (mm_mr mm_m2) (mm_mk mm_m2) (fun r S' => r = none ∧ S' = zz_eC S) 0 (qq_ent mm_m2 [.inr (53, none)]) [] S := by
    refine qq_fsound hxs (sp_0_ok hxs (d + 8)) [1] 50 ?_
    refine qq_vcall rfl (f4 hxs (d + 1) S hp) (by omega) rfl rfl rfl (Nat.le_of_ble_eq_true rfl) ?_
    by_cases c1 : zz_fst (fun j : Nat => S 49 j = -1) (S 4 0).toNat = -1
    case neg =>
      rw [if_neg c1, if_neg c1]
      refine qq_fsound hxs (sp_0_ok hxs (d + 8)) [] 50 ?_
      repeat' first | apply And.intro | intro _
      all_goals first | omega | contradiction | rfl | (unfold zz_eC zz_vC; rw [zz_vd1 c1])
    rw [if_pos c1, if_pos c1]
    refine qq_fsound hxs (sp_0_ok hxs (d + 8)) [8] 50 ?_
    repeat' first | apply And.intro | intro _
    all_goals first | omega | contradiction | skip
    refine qq_vcall rfl (f5 hxs (d + 0) S ⟨hp.1, hp.2.1⟩) (by omega) rfl rfl rfl (Nat.le_of_ble_eq_true rfl) ?_
    by_cases c2 : zz_fst (fun a : Nat => ∃ j : Nat, j < (S 4 0).toNat ∧ zz_sm (S 49) (S 50) a j) (S 4 0).toNat = -1
    case neg =>
      rw [if_neg c2, if_neg c2]
      refine qq_fsound hxs (sp_0_ok hxs (d + 8)) [] 50 ?_
      repeat' first | apply And.intro | intro _
      all_goals first | omega | contradiction | rfl | (unfold zz_eC zz_vC; rw [zz_vd2 c1 c2])
    rw [if_pos c2, if_pos c2]
    refine qq_fsound hxs (sp_0_ok hxs (d + 8)) [15] 50 ?_
    repeat' first | apply And.intro | intro _
    all_goals first | omega | contradiction | skip
    refine qq_vcall rfl (f6 hxs (d + 1) S hp) (by omega) rfl rfl rfl (Nat.le_of_ble_eq_true rfl) ?_
    by_cases c3 : zz_fst (fun j : Nat => zz_cr (S 49) (S 50) (S 22) (S 23) j) (S 4 2).toNat = -1
    case neg =>
      rw [if_neg c3, if_neg c3]
      refine qq_fsound hxs (sp_0_ok hxs (d + 8)) [] 50 ?_
      repeat' first | apply And.intro | intro _
      all_goals first | omega | contradiction | rfl | (unfold zz_eC zz_vC; rw [zz_vd3 c1 c2 c3])
    rw [if_pos c3, if_pos c3]
    refine qq_fsound hxs (sp_0_ok hxs (d + 8)) [22] 50 ?_
    repeat' first | apply And.intro | intro _
    all_goals first | omega | contradiction | skip
    refine qq_vcall rfl (f7 hxs (d + 1) S hp) (by omega) rfl rfl rfl (Nat.le_of_ble_eq_true rfl) ?_
    by_cases c4 : zz_fst (fun j : Nat => zz_sho (S 49) (S 50) (S 22) (S 23) (S 52 3) j) (S 4 2).toNat = -1
    case neg =>
      rw [if_neg c4, if_neg c4]
      refine qq_fsound hxs (sp_0_ok hxs (d + 8)) [] 50 ?_
      repeat' first | apply And.intro | intro _
      all_goals first | omega | contradiction | rfl | (unfold zz_eC zz_vC; rw [zz_vd4 c1 c2 c3 c4])
    rw [if_pos c4, if_pos c4]
    refine qq_fsound hxs (sp_0_ok hxs (d + 8)) [29] 50 ?_
    repeat' first | apply And.intro | intro _
    all_goals first | omega | contradiction | skip
    refine qq_vcall rfl (f8 hxs (d + 0) S ⟨hp.1, hp.2.1⟩) (by omega) rfl rfl rfl (Nat.le_of_ble_eq_true rfl) ?_
    by_cases c5 : zz_fst (fun a : Nat => ∃ j : Nat, j < (S 4 0).toNat ∧ zz_cov (S 49) (S 50) (S 22) (S 23) a j) (S 4 2).toNat = -1
    case neg =>
      rw [if_neg c5, if_neg c5]
      refine qq_fsound hxs (sp_0_ok hxs (d + 8)) [] 50 ?_
      repeat' first | apply And.intro | intro _
      all_goals first | omega | contradiction | rfl | (unfold zz_eC zz_vC; rw [zz_vd5 c1 c2 c3 c4 c5])
    rw [if_pos c5, if_pos c5]
    refine qq_fsound hxs (sp_0_ok hxs (d + 8)) [36] 50 ?_
    repeat' first | apply And.intro | intro _
    all_goals first | omega | contradiction | skip
    refine qq_vcall rfl (f10 hxs (d + 0) S ⟨hp.1, hp.2.1⟩) (by omega) rfl rfl rfl (Nat.le_of_ble_eq_true rfl) ?_
    by_cases c6 : zz_fst (fun a : Nat => ∃ j : Nat, j < (S 4 2).toNat ∧ zz_cx (S 49) (S 50) (S 22) (S 23) a j) (S 4 2).toNat = -1
    case neg =>
      rw [if_neg c6, if_neg c6]
      refine qq_fsound hxs (sp_0_ok hxs (d + 8)) [] 50 ?_
      repeat' first | apply And.intro | intro _
      all_goals first | omega | contradiction | rfl | (unfold zz_eC zz_vC; rw [zz_vd6 c1 c2 c3 c4 c5 c6])
    rw [if_pos c6, if_pos c6]
    refine qq_fsound hxs (sp_0_ok hxs (d + 8)) [43] 50 ?_
    repeat' first | apply And.intro | intro _
    all_goals first | omega | contradiction | skip
    refine qq_vcall rfl (f11 hxs (d + 0) S hp) (by omega) rfl rfl rfl (Nat.le_of_ble_eq_true rfl) ?_
    by_cases c7 : zz_fst (fun j : Nat => zz_tw (S 49) (S 50) (S 25) (fun s => S (26 + 1 + s)) j) (S 4 0).toNat = -1
    case neg =>
      rw [if_neg c7, if_neg c7]
      refine qq_fsound hxs (sp_0_ok hxs (d + 8)) [] 50 ?_
      repeat' first | apply And.intro | intro _
      all_goals first | omega | contradiction | rfl | (unfold zz_eC zz_vC; rw [zz_vd7 c1 c2 c3 c4 c5 c6 c7])
    rw [if_pos c7, if_pos c7]
    refine qq_fsound hxs (sp_15_ok hxs (d + 0)) [] 50 ?_
    repeat' first | apply And.intro | intro _
    all_goals first | omega | contradiction | rfl | trivial | (unfold zz_eC zz_vC; rw [zz_vd0 c1 c2 c3 c4 c5 c6 c7])
  obtain ⟨r, S', hE, e1, e2⟩ := qq_call_of (y := 2) rfl (Nat.le_of_ble_eq_true rfl) h
  rw [e1, e2] at hE
  exact hE
noncomputable def sp_16 : qq_P := fun y as S => match y, as with
  | 2, [.inr (53, none)] => some (zz_p (zz_nb S) = 1 ∧ zz_p (zz_pl (S 49) (S 50)) = 1 ∧ qq_in (S 52 3), none, zz_eC S)
  | _, _ => sp_15 y as S
theorem sp_16_ok {xs : List Int32} (hxs : xs.length ≤ 2048) (d : Nat) : qq_ok xs (d + 9) sp_16 := by
  intro y as S pre r S2 h hp
  unfold sp_16 at h
  split at h
  · cases h; exact f2 hxs (d + 0) S hp
  · exact sp_15_ok hxs (d + 1) y as S pre r S2 h hp
set_option maxRecDepth 20000 in
theorem f1 {xs : List Int32} (hxs : xs.length ≤ 2048) (d : Nat) (S : qq_S) (hp : zz_p (zz_nb S) = 1 ∧ zz_p (zz_pl (S 49) (S 50)) = 1 ∧ qq_in (S 52 3)) : qq_E xs (d + 10) 1 [.inr (53, none)] S (some (zz_p ((zz_vC S).1 = 0))) (zz_eC S) := by
  have h : qq_p xs (d + 9) (mm_mr mm_m1) (mm_mk mm_m1) (fun r S' => r = some (zz_p ((zz_vC S).1 = 0)) ∧ S' = zz_eC S) 0 (qq_ent mm_m1 [.inr (53, none)]) [] S := by
    refine qq_fsound hxs (sp_16_ok hxs (d + 0)) [] 300 ?_
    repeat' first | apply And.intro | intro _ | (simp only [qq_tab]) | (simp only [qq_pl])
    all_goals (first | rfl | exact hp.1 | exact hp.2.1 | exact hp.2.2.1 | exact hp.2.2.2 | exact Or.inl trivial | exact Or.inr trivial | (have n0 := (zz_pi1.mp hp.1).1; have k := zz_vd_bd (n := (S 4 0).toNat) (E := (S 4 2).toNat) (p1 := (fun j : Nat => S 49 j = -1)) (p2 := (zz_sm (S 49) (S 50))) (p3 := (zz_cr (S 49) (S 50) (S 22) (S 23))) (p4 := (zz_sho (S 49) (S 50) (S 22) (S 23) (S 52 3))) (p5 := (zz_cov (S 49) (S 50) (S 22) (S 23))) (p6 := (zz_cx (S 49) (S 50) (S 22) (S 23))) (p7 := (zz_tw (S 49) (S 50) (S 25) (fun s => S (26 + 1 + s)))) (by omega) (by omega); have k2 := zz_bl3 S (zz_vC S).1 (zz_vC S).2.1 (zz_vC S).2.2; change (0 ≤ (zz_vC S).1 ∧ (zz_vC S).1 ≤ 7) ∧ _ at k; have k3 : zz_eC S 53 3 = (zz_vC S).1 := k2.1; first | omega | exact congrArg some (zz_p1 (by omega)).symm | exact congrArg some (zz_p0 (by omega)).symm))
  obtain ⟨r, S', hE, e1, e2⟩ := qq_call_of (y := 1) rfl (Nat.le_of_ble_eq_true rfl) h
  rw [e1, e2] at hE
  exact hE
set_option maxRecDepth 20000 in
theorem f97 {xs : List Int32} (hxs : xs.length ≤ 2048) (d : Nat) (S : qq_S) (a : Int) (hp : qq_in a ∧ zz_p (zz_nb S) = 1 ∧ zz_p (zz_pl (S 49) (S 50)) = 1 ∧ qq_in (S 52 3)) : qq_E xs (d + 10) 97 [.inr (3, none), .inl a] S (some (if 0 ≤ a ∧ a ≤ 2 then (if a = 0 then (zz_vC S).1 else if a = 1 then (zz_vC S).2.1 else (zz_vC S).2.2) else -1)) (if 0 ≤ a ∧ a ≤ 2 then zz_eC S else S) := by
  have h : qq_p xs (d + 9) (mm_mr mm_m97) (mm_mk mm_m97) (fun r S' => r = some (if 0 ≤ a ∧ a ≤ 2 then (if a = 0 then (zz_vC S).1 else if a = 1 then (zz_vC S).2.1 else (zz_vC S).2.2) else -1) ∧ S' = if 0 ≤ a ∧ a ≤ 2 then zz_eC S else S) 0 (qq_ent mm_m97 [.inr (3, none), .inl a]) [] S := by
    refine qq_fsound hxs (sp_16_ok hxs (d + 0)) [] 300 ?_
    repeat' first | apply And.intro | intro _ | (simp only [qq_tab]) | (simp only [qq_pl])
    all_goals (first | rfl | omega | exact hp.2.1 | exact hp.2.2.1 | exact hp.2.2.2.1 | exact hp.2.2.2.2 | (have k2 := zz_bl3 S (zz_vC S).1 (zz_vC S).2.1 (zz_vC S).2.2; unfold zz_eC at *; grind [zz_b]) | grind [qq_in, zz_b])
  obtain ⟨r, S', hE, e1, e2⟩ := qq_call_of (y := 97) rfl (Nat.le_of_ble_eq_true rfl) h
  rw [e1, e2] at hE
  exact hE
noncomputable def sp_17 : qq_P := fun y as S => match y, as with
  | 1, [.inr (53, none)] => some (zz_p (zz_nb S) = 1 ∧ zz_p (zz_pl (S 49) (S 50)) = 1 ∧ qq_in (S 52 3), some (zz_p ((zz_vC S).1 = 0)), zz_eC S)
  | 97, [.inr (3, none), .inl a] => some (qq_in a ∧ zz_p (zz_nb S) = 1 ∧ zz_p (zz_pl (S 49) (S 50)) = 1 ∧ qq_in (S 52 3), some (if 0 ≤ a ∧ a ≤ 2 then (if a = 0 then (zz_vC S).1 else if a = 1 then (zz_vC S).2.1 else (zz_vC S).2.2) else -1), if 0 ≤ a ∧ a ≤ 2 then zz_eC S else S)
  | _, _ => sp_16 y as S
theorem sp_17_ok {xs : List Int32} (hxs : xs.length ≤ 2048) (d : Nat) : qq_ok xs (d + 10) sp_17 := by
  intro y as S pre r S2 h hp
  unfold sp_17 at h
  split at h
  · cases h; exact f1 hxs (d + 0) S hp
  · cases h; exact f97 hxs (d + 0) S _ hp
  · exact sp_16_ok hxs (d + 1) y as S pre r S2 h hp
