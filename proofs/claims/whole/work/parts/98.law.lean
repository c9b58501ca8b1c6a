theorem qq_virt {xs : List Int32} {d k a b c q pc len w k9 : Nat} {rt : Option FieldType} {code : List mm_E} {K : qq_K} {as st s' : List qq_V} {ls : qq_L} {S S' : qq_S} {r : Option Int} {fs : List (Option Nat)} (hat : mm_at code pc = some (pc, .invokevirtual k9, len, a, b, c, w)) (hE : qq_E xs k a (.inr (q, none) :: as) S r S') (hk : k ≤ d) (hst : st = as.reverse ++ .inr (q, none) :: s') (hb : as.length = b) (hq : qq_at q = some (.inl (c, fs))) (hs : s'.length ≤ 8) (hG : qq_p xs d rt code K (pc + 3) ls ((r.map Sum.inl).toList ++ s') S') : qq_p xs d rt code K pc ls st S := by
  obtain ⟨n, hn⟩ := hG
  obtain ⟨h3, hg9⟩ := qq_get S hq
  have hE9 := qq_up hk hE
  unfold qq_E at hE9
  refine ⟨n + 1, _, _, _, _, _, _, hat, as.map qq_v, q - 3, s'.map qq_v, _, c, r.map Int32.ofInt, qq_e S', ?_, by rw [List.length_map]; exact hb, by rw [List.length_map]; exact hs, hg9, rfl, ?_, by rw [qq_len, qq_len]; omega, by rw [qq_size, qq_size]; omega, by rw [qq_len]; omega, by rw [qq_size]; omega, ?_⟩
  · rw [Nat.sub_add_cancel h3, hst, List.map_append, List.map_reverse]
    rfl
  · rw [Nat.sub_add_cancel h3]
    exact hE9
  · cases r <;> exact hn
/-- the operations that are still to be tied -/
def qq_Rest (xs : List Int32) : Prop :=
  True
set_option maxRecDepth 20000 in
theorem lw_station {xs : List Int32} (hxs : xs.length ≤ 2048) (R : qq_Rest xs) (S : qq_S) (i : Int) (h0 : 0 ≤ i) (hl : i + 4 ≤ (mm_ro xs 0).length) (hI : inv S) (kk : ∀ S', inv S' → qq_p xs 30 (some .boolean) mm_kl (fun r _ => r = some 1) 18 [some (.inr (0, none)), some (.inr (3, none)), some (.inr (115, none)), some (.inl (i + 4))] [] S') : qq_p xs 30 (some .boolean) mm_kl (fun r _ => r = some 1) 140 [some (.inr (0, none)), some (.inr (3, none)), some (.inr (115, none)), some (.inl i)] [] S := by
  refine qq_fsound hxs (sp_0_ok hxs 30) [18] 100 ?_
  repeat' first | apply And.intro | intro _
  all_goals first | omega | skip
  obtain ⟨r, S1, S2, e1, e2, hr, hI2⟩ := o_station hxs S _ _ (qq_inT _) (qq_inT _) hI
  refine qq_virt rfl e1 (by decide) rfl rfl rfl (Nat.le_of_ble_eq_true rfl) ?_
  refine qq_fsound hxs (sp_0_ok hxs 30) [18] 100 ?_
  repeat' first | apply And.intro | intro _
  all_goals first | omega | skip
  refine qq_virt rfl e2 (by decide) rfl rfl rfl (Nat.le_of_ble_eq_true rfl) ?_
  refine qq_fsound hxs (sp_0_ok hxs 30) [18] 100 ?_
  repeat' first | apply And.intro | intro _
  all_goals first | exact kk _ hI2 | exact hr.1 | exact hr.2 | contradiction | omega
set_option maxRecDepth 20000 in
theorem lw_line {xs : List Int32} (hxs : xs.length ≤ 2048) (R : qq_Rest xs) (S : qq_S) (i : Int) (h0 : 0 ≤ i) (hl : i + 4 ≤ (mm_ro xs 0).length) (hI : inv S) (kk : ∀ S', inv S' → qq_p xs 30 (some .boolean) mm_kl (fun r _ => r = some 1) 18 [some (.inr (0, none)), some (.inr (3, none)), some (.inr (115, none)), some (.inl (i + 4))] [] S') : qq_p xs 30 (some .boolean) mm_kl (fun r _ => r = some 1) 173 [some (.inr (0, none)), some (.inr (3, none)), some (.inr (115, none)), some (.inl i)] [] S := by
  refine qq_fsound hxs (sp_0_ok hxs 30) [18] 100 ?_
  repeat' first | apply And.intro | intro _
  all_goals first | omega | skip
  obtain ⟨r, S1, S2, e1, e2, hr, hI2⟩ := o_line hxs S  hI
  refine qq_virt rfl e1 (by decide) rfl rfl rfl (Nat.le_of_ble_eq_true rfl) ?_
  refine qq_fsound hxs (sp_0_ok hxs 30) [18] 100 ?_
  repeat' first | apply And.intro | intro _
  all_goals first | omega | skip
  refine qq_virt rfl e2 (by decide) rfl rfl rfl (Nat.le_of_ble_eq_true rfl) ?_
  refine qq_fsound hxs (sp_0_ok hxs 30) [18] 100 ?_
  repeat' first | apply And.intro | intro _
  all_goals first | exact kk _ hI2 | exact hr.1 | exact hr.2 | contradiction | omega
set_option maxRecDepth 20000 in
theorem lw_lead {xs : List Int32} (hxs : xs.length ≤ 2048) (R : qq_Rest xs) (S : qq_S) (i : Int) (h0 : 0 ≤ i) (hl : i + 4 ≤ (mm_ro xs 0).length) (hI : inv S) (kk : ∀ S', inv S' → qq_p xs 30 (some .boolean) mm_kl (fun r _ => r = some 1) 18 [some (.inr (0, none)), some (.inr (3, none)), some (.inr (115, none)), some (.inl (i + 4))] [] S') : qq_p xs 30 (some .boolean) mm_kl (fun r _ => r = some 1) 186 [some (.inr (0, none)), some (.inr (3, none)), some (.inr (115, none)), some (.inl i)] [] S := by
  refine qq_fsound hxs (sp_0_ok hxs 30) [18] 100 ?_
  repeat' first | apply And.intro | intro _
  all_goals first | omega | skip
  obtain ⟨r, S1, S2, e1, e2, hr, hI2⟩ := o_lead hxs S _ _ (qq_inT _) (qq_inT _) hI
  refine qq_virt rfl e1 (by decide) rfl rfl rfl (Nat.le_of_ble_eq_true rfl) ?_
  refine qq_fsound hxs (sp_0_ok hxs 30) [18] 100 ?_
  repeat' first | apply And.intro | intro _
  all_goals first | omega | skip
  refine qq_virt rfl e2 (by decide) rfl rfl rfl (Nat.le_of_ble_eq_true rfl) ?_
  refine qq_fsound hxs (sp_0_ok hxs 30) [18] 100 ?_
  repeat' first | apply And.intro | intro _
  all_goals first | exact kk _ hI2 | exact hr.1 | exact hr.2 | contradiction | omega
set_option maxRecDepth 20000 in
theorem lw_of {xs : List Int32} (hxs : xs.length ≤ 2048) (R : qq_Rest xs) (S : qq_S) (i : Int) (h0 : 0 ≤ i) (hl : i + 4 ≤ (mm_ro xs 0).length) (hI : inv S) (kk : ∀ S', inv S' → qq_p xs 30 (some .boolean) mm_kl (fun r _ => r = some 1) 18 [some (.inr (0, none)), some (.inr (3, none)), some (.inr (115, none)), some (.inl (i + 4))] [] S') : qq_p xs 30 (some .boolean) mm_kl (fun r _ => r = some 1) 219 [some (.inr (0, none)), some (.inr (3, none)), some (.inr (115, none)), some (.inl i)] [] S := by
  refine qq_fsound hxs (sp_0_ok hxs 30) [18] 100 ?_
  repeat' first | apply And.intro | intro _
  all_goals first | omega | skip
  obtain ⟨r, S1, S2, e1, e2, hr, hI2⟩ := o_of hxs S _ _ (qq_inT _) (qq_inT _) hI
  refine qq_virt rfl e1 (by decide) rfl rfl rfl (Nat.le_of_ble_eq_true rfl) ?_
  refine qq_fsound hxs (sp_0_ok hxs 30) [18] 100 ?_
  repeat' first | apply And.intro | intro _
  all_goals first | omega | skip
  refine qq_virt rfl e2 (by decide) rfl rfl rfl (Nat.le_of_ble_eq_true rfl) ?_
  refine qq_fsound hxs (sp_0_ok hxs 30) [18] 100 ?_
  repeat' first | apply And.intro | intro _
  all_goals first | exact kk _ hI2 | exact hr.1 | exact hr.2 | contradiction | omega
set_option maxRecDepth 20000 in
theorem lw_edge {xs : List Int32} (hxs : xs.length ≤ 2048) (R : qq_Rest xs) (S : qq_S) (i : Int) (h0 : 0 ≤ i) (hl : i + 4 ≤ (mm_ro xs 0).length) (hI : inv S) (kk : ∀ S', inv S' → qq_p xs 30 (some .boolean) mm_kl (fun r _ => r = some 1) 18 [some (.inr (0, none)), some (.inr (3, none)), some (.inr (115, none)), some (.inl (i + 4))] [] S') : qq_p xs 30 (some .boolean) mm_kl (fun r _ => r = some 1) 252 [some (.inr (0, none)), some (.inr (3, none)), some (.inr (115, none)), some (.inl i)] [] S := by
  refine qq_fsound hxs (sp_0_ok hxs 30) [18] 100 ?_
  repeat' first | apply And.intro | intro _
  all_goals first | omega | skip
  obtain ⟨r, S1, S2, e1, e2, hr, hI2⟩ := o_edge hxs S _ _ (qq_inT _) (qq_inT _) hI
  refine qq_virt rfl e1 (by decide) rfl rfl rfl (Nat.le_of_ble_eq_true rfl) ?_
  refine qq_fsound hxs (sp_0_ok hxs 30) [18] 100 ?_
  repeat' first | apply And.intro | intro _
  all_goals first | omega | skip
  refine qq_virt rfl e2 (by decide) rfl rfl rfl (Nat.le_of_ble_eq_true rfl) ?_
  refine qq_fsound hxs (sp_0_ok hxs 30) [18] 100 ?_
  repeat' first | apply And.intro | intro _
  all_goals first | exact kk _ hI2 | exact hr.1 | exact hr.2 | contradiction | omega
set_option maxRecDepth 20000 in
theorem lw_round {xs : List Int32} (hxs : xs.length ≤ 2048) (R : qq_Rest xs) (S : qq_S) (i : Int) (h0 : 0 ≤ i) (hl : i + 4 ≤ (mm_ro xs 0).length) (hI : inv S) (kk : ∀ S', inv S' → qq_p xs 30 (some .boolean) mm_kl (fun r _ => r = some 1) 18 [some (.inr (0, none)), some (.inr (3, none)), some (.inr (115, none)), some (.inl (i + 4))] [] S') : qq_p xs 30 (some .boolean) mm_kl (fun r _ => r = some 1) 285 [some (.inr (0, none)), some (.inr (3, none)), some (.inr (115, none)), some (.inl i)] [] S := by
  refine qq_fsound hxs (sp_0_ok hxs 30) [18] 100 ?_
  repeat' first | apply And.intro | intro _
  all_goals first | omega | skip
  obtain ⟨r, S1, S2, e1, e2, hr, hI2⟩ := o_round hxs S _ _ (qq_inT _) (qq_inT _) hI
  refine qq_virt rfl e1 (by decide) rfl rfl rfl (Nat.le_of_ble_eq_true rfl) ?_
  refine qq_fsound hxs (sp_0_ok hxs 30) [18] 100 ?_
  repeat' first | apply And.intro | intro _
  all_goals first | omega | skip
  refine qq_virt rfl e2 (by decide) rfl rfl rfl (Nat.le_of_ble_eq_true rfl) ?_
  refine qq_fsound hxs (sp_0_ok hxs 30) [18] 100 ?_
  repeat' first | apply And.intro | intro _
  all_goals first | exact kk _ hI2 | exact hr.1 | exact hr.2 | contradiction | omega
set_option maxRecDepth 20000 in
theorem lw_grid {xs : List Int32} (hxs : xs.length ≤ 2048) (R : qq_Rest xs) (S : qq_S) (i : Int) (h0 : 0 ≤ i) (hl : i + 4 ≤ (mm_ro xs 0).length) (hI : inv S) (kk : ∀ S', inv S' → qq_p xs 30 (some .boolean) mm_kl (fun r _ => r = some 1) 18 [some (.inr (0, none)), some (.inr (3, none)), some (.inr (115, none)), some (.inl (i + 4))] [] S') : qq_p xs 30 (some .boolean) mm_kl (fun r _ => r = some 1) 318 [some (.inr (0, none)), some (.inr (3, none)), some (.inr (115, none)), some (.inl i)] [] S := by
  refine qq_fsound hxs (sp_0_ok hxs 30) [18] 100 ?_
  repeat' first | apply And.intro | intro _
  all_goals first | omega | skip
  obtain ⟨r, S1, S2, e1, e2, hr, hI2⟩ := o_grid hxs S _ _ (qq_inT _) (qq_inT _) hI
  refine qq_virt rfl e1 (by decide) rfl rfl rfl (Nat.le_of_ble_eq_true rfl) ?_
  refine qq_fsound hxs (sp_0_ok hxs 30) [18] 100 ?_
  repeat' first | apply And.intro | intro _
  all_goals first | omega | skip
  refine qq_virt rfl e2 (by decide) rfl rfl rfl (Nat.le_of_ble_eq_true rfl) ?_
  refine qq_fsound hxs (sp_0_ok hxs 30) [18] 100 ?_
  repeat' first | apply And.intro | intro _
  all_goals first | exact kk _ hI2 | exact hr.1 | exact hr.2 | contradiction | omega
set_option maxRecDepth 20000 in
theorem lw_span {xs : List Int32} (hxs : xs.length ≤ 2048) (R : qq_Rest xs) (S : qq_S) (i : Int) (h0 : 0 ≤ i) (hl : i + 4 ≤ (mm_ro xs 0).length) (hI : inv S) (kk : ∀ S', inv S' → qq_p xs 30 (some .boolean) mm_kl (fun r _ => r = some 1) 18 [some (.inr (0, none)), some (.inr (3, none)), some (.inr (115, none)), some (.inl (i + 4))] [] S') : qq_p xs 30 (some .boolean) mm_kl (fun r _ => r = some 1) 351 [some (.inr (0, none)), some (.inr (3, none)), some (.inr (115, none)), some (.inl i)] [] S := by
  refine qq_fsound hxs (sp_0_ok hxs 30) [18] 100 ?_
  repeat' first | apply And.intro | intro _
  all_goals first | omega | skip
  obtain ⟨r, S1, S2, e1, e2, hr, hI2⟩ := o_span hxs S _ (qq_inT _) hI
  refine qq_virt rfl e1 (by decide) rfl rfl rfl (Nat.le_of_ble_eq_true rfl) ?_
  refine qq_fsound hxs (sp_0_ok hxs 30) [18] 100 ?_
  repeat' first | apply And.intro | intro _
  all_goals first | omega | skip
  refine qq_virt rfl e2 (by decide) rfl rfl rfl (Nat.le_of_ble_eq_true rfl) ?_
  refine qq_fsound hxs (sp_0_ok hxs 30) [18] 100 ?_
  repeat' first | apply And.intro | intro _
  all_goals first | exact kk _ hI2 | exact hr.1 | exact hr.2 | contradiction | omega
set_option maxRecDepth 20000 in
theorem lw_terms {xs : List Int32} (hxs : xs.length ≤ 2048) (R : qq_Rest xs) (S : qq_S) (i : Int) (h0 : 0 ≤ i) (hl : i + 4 ≤ (mm_ro xs 0).length) (hI : inv S) (kk : ∀ S', inv S' → qq_p xs 30 (some .boolean) mm_kl (fun r _ => r = some 1) 18 [some (.inr (0, none)), some (.inr (3, none)), some (.inr (115, none)), some (.inl (i + 4))] [] S') : qq_p xs 30 (some .boolean) mm_kl (fun r _ => r = some 1) 374 [some (.inr (0, none)), some (.inr (3, none)), some (.inr (115, none)), some (.inl i)] [] S := by
  refine qq_fsound hxs (sp_0_ok hxs 30) [18] 100 ?_
  repeat' first | apply And.intro | intro _
  all_goals first | omega | skip
  obtain ⟨r, S1, S2, e1, e2, hr, hI2⟩ := o_terms hxs S _ _ _ (qq_inT _) (qq_inT _) (qq_inT _) hI
  refine qq_virt rfl e1 (by decide) rfl rfl rfl (Nat.le_of_ble_eq_true rfl) ?_
  refine qq_fsound hxs (sp_0_ok hxs 30) [18] 100 ?_
  repeat' first | apply And.intro | intro _
  all_goals first | omega | skip
  refine qq_virt rfl e2 (by decide) rfl rfl rfl (Nat.le_of_ble_eq_true rfl) ?_
  refine qq_fsound hxs (sp_0_ok hxs 30) [18] 100 ?_
  repeat' first | apply And.intro | intro _
  all_goals first | exact kk _ hI2 | exact hr.1 | exact hr.2 | contradiction | omega
set_option maxRecDepth 20000 in
theorem lw_place {xs : List Int32} (hxs : xs.length ≤ 2048) (R : qq_Rest xs) (S : qq_S) (i : Int) (h0 : 0 ≤ i) (hl : i + 4 ≤ (mm_ro xs 0).length) (hI : inv S) (kk : ∀ S', inv S' → qq_p xs 30 (some .boolean) mm_kl (fun r _ => r = some 1) 18 [some (.inr (0, none)), some (.inr (3, none)), some (.inr (115, none)), some (.inl (i + 4))] [] S') : qq_p xs 30 (some .boolean) mm_kl (fun r _ => r = some 1) 417 [some (.inr (0, none)), some (.inr (3, none)), some (.inr (115, none)), some (.inl i)] [] S := by
  refine qq_fsound hxs (sp_0_ok hxs 30) [18] 100 ?_
  repeat' first | apply And.intro | intro _
  all_goals first | omega | skip
  obtain ⟨r, S1, S2, e1, e2, hr, hI2⟩ := o_place hxs S _ _ _ (qq_inT _) (qq_inT _) (qq_inT _) hI
  refine qq_virt rfl e1 (by decide) rfl rfl rfl (Nat.le_of_ble_eq_true rfl) ?_
  refine qq_fsound hxs (sp_0_ok hxs 30) [18] 100 ?_
  repeat' first | apply And.intro | intro _
  all_goals first | omega | skip
  refine qq_virt rfl e2 (by decide) rfl rfl rfl (Nat.le_of_ble_eq_true rfl) ?_
  refine qq_fsound hxs (sp_0_ok hxs 30) [18] 100 ?_
  repeat' first | apply And.intro | intro _
  all_goals first | exact kk _ hI2 | exact hr.1 | exact hr.2 | contradiction | omega
set_option maxRecDepth 20000 in
theorem lw_point {xs : List Int32} (hxs : xs.length ≤ 2048) (R : qq_Rest xs) (S : qq_S) (i : Int) (h0 : 0 ≤ i) (hl : i + 4 ≤ (mm_ro xs 0).length) (hI : inv S) (kk : ∀ S', inv S' → qq_p xs 30 (some .boolean) mm_kl (fun r _ => r = some 1) 18 [some (.inr (0, none)), some (.inr (3, none)), some (.inr (115, none)), some (.inl (i + 4))] [] S') : qq_p xs 30 (some .boolean) mm_kl (fun r _ => r = some 1) 460 [some (.inr (0, none)), some (.inr (3, none)), some (.inr (115, none)), some (.inl i)] [] S := by
  refine qq_fsound hxs (sp_0_ok hxs 30) [18] 100 ?_
  repeat' first | apply And.intro | intro _
  all_goals first | omega | skip
  obtain ⟨r, S1, S2, e1, e2, hr, hI2⟩ := o_point hxs S _ (qq_inT _) hI
  refine qq_virt rfl e1 (by decide) rfl rfl rfl (Nat.le_of_ble_eq_true rfl) ?_
  refine qq_fsound hxs (sp_0_ok hxs 30) [18] 100 ?_
  repeat' first | apply And.intro | intro _
  all_goals first | omega | skip
  refine qq_virt rfl e2 (by decide) rfl rfl rfl (Nat.le_of_ble_eq_true rfl) ?_
  refine qq_fsound hxs (sp_0_ok hxs 30) [18] 100 ?_
  repeat' first | apply And.intro | intro _
  all_goals first | exact kk _ hI2 | exact hr.1 | exact hr.2 | contradiction | omega
set_option maxRecDepth 20000 in
theorem lw_hold {xs : List Int32} (hxs : xs.length ≤ 2048) (R : qq_Rest xs) (S : qq_S) (i : Int) (h0 : 0 ≤ i) (hl : i + 4 ≤ (mm_ro xs 0).length) (hI : inv S) (kk : ∀ S', inv S' → qq_p xs 30 (some .boolean) mm_kl (fun r _ => r = some 1) 18 [some (.inr (0, none)), some (.inr (3, none)), some (.inr (115, none)), some (.inl (i + 4))] [] S') : qq_p xs 30 (some .boolean) mm_kl (fun r _ => r = some 1) 483 [some (.inr (0, none)), some (.inr (3, none)), some (.inr (115, none)), some (.inl i)] [] S := by
  have hq := qq_inT ((mm_ro xs 0).getD (i + 2).toNat 0)
  unfold qq_in at hq
  refine qq_fsound hxs (sp_0_ok hxs 30) [18] 100 ?_
  repeat' first | apply And.intro | intro _
  all_goals first | omega | exact qq_inT _ | skip
  · obtain ⟨r, S1, S2, e1, e2, hr, hI2⟩ := o_hold hxs S _ _ (qq_inT ((mm_ro xs 0).getD (i + 1).toNat 0)) (show (0 : Int) = 0 ∨ (0 : Int) = 1 from Or.inl rfl) hI
    show qq_p xs 30 (some .boolean) mm_kl (fun r _ => r = some 1) 502 [some (.inr (0, none)), some (.inr (3, none)), some (.inr (115, none)), some (.inl i)] [.inl 0, .inl ((mm_ro xs 0).getD (i + 1).toNat 0).toInt, .inr (3, none)] S
    refine qq_virt rfl e1 (by decide) rfl rfl rfl (Nat.le_of_ble_eq_true rfl) ?_
    refine qq_fsound hxs (sp_0_ok hxs 30) [18] 100 ?_
    repeat' first | apply And.intro | intro _
    all_goals first | omega | exact qq_inT _ | contradiction | skip
    show qq_p xs 30 (some .boolean) mm_kl (fun r _ => r = some 1) 524 [some (.inr (0, none)), some (.inr (3, none)), some (.inr (115, none)), some (.inl i)] [.inl 0, .inl ((mm_ro xs 0).getD (i + 1).toNat 0).toInt, .inr (115, none), .inl r] S1
    refine qq_virt rfl e2 (by decide) rfl rfl rfl (Nat.le_of_ble_eq_true rfl) ?_
    refine qq_fsound hxs (sp_0_ok hxs 30) [18] 100 ?_
    repeat' first | apply And.intro | intro _
    all_goals first | exact kk _ hI2 | exact hr.1 | exact hr.2 | contradiction | omega
  · obtain ⟨r, S1, S2, e1, e2, hr, hI2⟩ := o_hold hxs S _ _ (qq_inT ((mm_ro xs 0).getD (i + 1).toNat 0)) (show (1 : Int) = 0 ∨ (1 : Int) = 1 from Or.inr rfl) hI
    show qq_p xs 30 (some .boolean) mm_kl (fun r _ => r = some 1) 502 [some (.inr (0, none)), some (.inr (3, none)), some (.inr (115, none)), some (.inl i)] [.inl 1, .inl ((mm_ro xs 0).getD (i + 1).toNat 0).toInt, .inr (3, none)] S
    refine qq_virt rfl e1 (by decide) rfl rfl rfl (Nat.le_of_ble_eq_true rfl) ?_
    refine qq_fsound hxs (sp_0_ok hxs 30) [18] 100 ?_
    repeat' first | apply And.intro | intro _
    all_goals first | omega | exact qq_inT _ | contradiction | skip
    show qq_p xs 30 (some .boolean) mm_kl (fun r _ => r = some 1) 524 [some (.inr (0, none)), some (.inr (3, none)), some (.inr (115, none)), some (.inl i)] [.inl 1, .inl ((mm_ro xs 0).getD (i + 1).toNat 0).toInt, .inr (115, none), .inl r] S1
    refine qq_virt rfl e2 (by decide) rfl rfl rfl (Nat.le_of_ble_eq_true rfl) ?_
    refine qq_fsound hxs (sp_0_ok hxs 30) [18] 100 ?_
    repeat' first | apply And.intro | intro _
    all_goals first | exact kk _ hI2 | exact hr.1 | exact hr.2 | contradiction | omega
set_option maxRecDepth 20000 in
theorem lw_why {xs : List Int32} (hxs : xs.length ≤ 2048) (R : qq_Rest xs) (S : qq_S) (i : Int) (h0 : 0 ≤ i) (hl : i + 4 ≤ (mm_ro xs 0).length) (hI : inv S) (kk : ∀ S', inv S' → qq_p xs 30 (some .boolean) mm_kl (fun r _ => r = some 1) 18 [some (.inr (0, none)), some (.inr (3, none)), some (.inr (115, none)), some (.inl (i + 4))] [] S') : qq_p xs 30 (some .boolean) mm_kl (fun r _ => r = some 1) 532 [some (.inr (0, none)), some (.inr (3, none)), some (.inr (115, none)), some (.inl i)] [] S := by
  refine qq_fsound hxs (sp_0_ok hxs 30) [18] 100 ?_
  repeat' first | apply And.intro | intro _
  all_goals first | omega | skip
  obtain ⟨r, S1, S2, e1, e2, hr, hI2⟩ := o_why hxs S _ (qq_inT _) hI
  refine qq_virt rfl e1 (by decide) rfl rfl rfl (Nat.le_of_ble_eq_true rfl) ?_
  refine qq_fsound hxs (sp_0_ok hxs 30) [18] 100 ?_
  repeat' first | apply And.intro | intro _
  all_goals first | omega | skip
  refine qq_virt rfl e2 (by decide) rfl rfl rfl (Nat.le_of_ble_eq_true rfl) ?_
  refine qq_fsound hxs (sp_0_ok hxs 30) [18] 100 ?_
  repeat' first | apply And.intro | intro _
  all_goals first | exact kk _ hI2 | exact hr.1 | exact hr.2 | contradiction | omega
set_option maxRecDepth 20000 in
theorem lw_cost {xs : List Int32} (hxs : xs.length ≤ 2048) (R : qq_Rest xs) (S : qq_S) (i : Int) (h0 : 0 ≤ i) (hl : i + 4 ≤ (mm_ro xs 0).length) (hI : inv S) (kk : ∀ S', inv S' → qq_p xs 30 (some .boolean) mm_kl (fun r _ => r = some 1) 18 [some (.inr (0, none)), some (.inr (3, none)), some (.inr (115, none)), some (.inl (i + 4))] [] S') : qq_p xs 30 (some .boolean) mm_kl (fun r _ => r = some 1) 555 [some (.inr (0, none)), some (.inr (3, none)), some (.inr (115, none)), some (.inl i)] [] S := by
  refine qq_fsound hxs (sp_0_ok hxs 30) [18] 100 ?_
  repeat' first | apply And.intro | intro _
  all_goals first | omega | skip
  obtain ⟨r, S1, S2, e1, e2, hr, hI2⟩ := o_cost hxs S _ (qq_inT _) hI
  refine qq_virt rfl e1 (by decide) rfl rfl rfl (Nat.le_of_ble_eq_true rfl) ?_
  refine qq_fsound hxs (sp_0_ok hxs 30) [18] 100 ?_
  repeat' first | apply And.intro | intro _
  all_goals first | omega | skip
  refine qq_virt rfl e2 (by decide) rfl rfl rfl (Nat.le_of_ble_eq_true rfl) ?_
  refine qq_fsound hxs (sp_0_ok hxs 30) [18] 100 ?_
  repeat' first | apply And.intro | intro _
  all_goals first | exact kk _ hI2 | exact hr.1 | exact hr.2 | contradiction | omega
set_option maxRecDepth 20000 in
theorem lw_best {xs : List Int32} (hxs : xs.length ≤ 2048) (R : qq_Rest xs) (S : qq_S) (i : Int) (h0 : 0 ≤ i) (hl : i + 4 ≤ (mm_ro xs 0).length) (hI : inv S) (kk : ∀ S', inv S' → qq_p xs 30 (some .boolean) mm_kl (fun r _ => r = some 1) 18 [some (.inr (0, none)), some (.inr (3, none)), some (.inr (115, none)), some (.inl (i + 4))] [] S') : qq_p xs 30 (some .boolean) mm_kl (fun r _ => r = some 1) 578 [some (.inr (0, none)), some (.inr (3, none)), some (.inr (115, none)), some (.inl i)] [] S := by
  refine qq_fsound hxs (sp_0_ok hxs 30) [18] 100 ?_
  repeat' first | apply And.intro | intro _
  all_goals first | omega | skip
  obtain ⟨r, S1, S2, e1, e2, hr, hI2⟩ := o_best hxs S  hI
  refine qq_virt rfl e1 (by decide) rfl rfl rfl (Nat.le_of_ble_eq_true rfl) ?_
  refine qq_fsound hxs (sp_0_ok hxs 30) [18] 100 ?_
  repeat' first | apply And.intro | intro _
  all_goals first | omega | skip
  refine qq_virt rfl e2 (by decide) rfl rfl rfl (Nat.le_of_ble_eq_true rfl) ?_
  refine qq_fsound hxs (sp_0_ok hxs 30) [18] 100 ?_
  repeat' first | apply And.intro | intro _
  all_goals first | exact kk _ hI2 | exact hr.1 | exact hr.2 | contradiction | omega
set_option maxRecDepth 20000 in
theorem lw_better {xs : List Int32} (hxs : xs.length ≤ 2048) (R : qq_Rest xs) (S : qq_S) (i : Int) (h0 : 0 ≤ i) (hl : i + 4 ≤ (mm_ro xs 0).length) (hI : inv S) (kk : ∀ S', inv S' → qq_p xs 30 (some .boolean) mm_kl (fun r _ => r = some 1) 18 [some (.inr (0, none)), some (.inr (3, none)), some (.inr (115, none)), some (.inl (i + 4))] [] S') : qq_p xs 30 (some .boolean) mm_kl (fun r _ => r = some 1) 591 [some (.inr (0, none)), some (.inr (3, none)), some (.inr (115, none)), some (.inl i)] [] S := by
  refine qq_fsound hxs (sp_0_ok hxs 30) [18] 100 ?_
  repeat' first | apply And.intro | intro _
  all_goals first | omega | skip
  obtain ⟨r, S1, S2, e1, e2, hr, hI2⟩ := o_better hxs S  hI
  refine qq_virt rfl e1 (by decide) rfl rfl rfl (Nat.le_of_ble_eq_true rfl) ?_
  refine qq_fsound hxs (sp_0_ok hxs 30) [18] 100 ?_
  repeat' first | apply And.intro | intro _
  all_goals first | omega | skip
  refine qq_virt rfl e2 (by decide) rfl rfl rfl (Nat.le_of_ble_eq_true rfl) ?_
  refine qq_fsound hxs (sp_0_ok hxs 30) [18] 100 ?_
  repeat' first | apply And.intro | intro _
  all_goals first | exact kk _ hI2 | exact hr.1 | exact hr.2 | contradiction | omega
set_option maxRecDepth 20000 in
theorem lw_name {xs : List Int32} (hxs : xs.length ≤ 2048) (R : qq_Rest xs) (S : qq_S) (i : Int) (h0 : 0 ≤ i) (hl : i + 4 ≤ (mm_ro xs 0).length) (hI : inv S) (kk : ∀ S', inv S' → qq_p xs 30 (some .boolean) mm_kl (fun r _ => r = some 1) 18 [some (.inr (0, none)), some (.inr (3, none)), some (.inr (115, none)), some (.inl (i + 4))] [] S') : qq_p xs 30 (some .boolean) mm_kl (fun r _ => r = some 1) 604 [some (.inr (0, none)), some (.inr (3, none)), some (.inr (115, none)), some (.inl i)] [] S := by
  refine qq_fsound hxs (sp_0_ok hxs 30) [18] 100 ?_
  repeat' first | apply And.intro | intro _
  all_goals first | omega | skip
  obtain ⟨r, S1, S2, e1, e2, hr, hI2⟩ := o_name hxs S _ _ (qq_inT _) (qq_inT _) hI
  refine qq_virt rfl e1 (by decide) rfl rfl rfl (Nat.le_of_ble_eq_true rfl) ?_
  refine qq_fsound hxs (sp_0_ok hxs 30) [18] 100 ?_
  repeat' first | apply And.intro | intro _
  all_goals first | omega | skip
  refine qq_virt rfl e2 (by decide) rfl rfl rfl (Nat.le_of_ble_eq_true rfl) ?_
  refine qq_fsound hxs (sp_0_ok hxs 30) [18] 100 ?_
  repeat' first | apply And.intro | intro _
  all_goals first | exact kk _ hI2 | exact hr.1 | exact hr.2 | contradiction | omega
set_option maxRecDepth 20000 in
theorem lw_put {xs : List Int32} (hxs : xs.length ≤ 2048) (R : qq_Rest xs) (S : qq_S) (i : Int) (h0 : 0 ≤ i) (hl : i + 4 ≤ (mm_ro xs 0).length) (hI : inv S) (kk : ∀ S', inv S' → qq_p xs 30 (some .boolean) mm_kl (fun r _ => r = some 1) 18 [some (.inr (0, none)), some (.inr (3, none)), some (.inr (115, none)), some (.inl (i + 4))] [] S') : qq_p xs 30 (some .boolean) mm_kl (fun r _ => r = some 1) 637 [some (.inr (0, none)), some (.inr (3, none)), some (.inr (115, none)), some (.inl i)] [] S := by
  refine qq_fsound hxs (sp_0_ok hxs 30) [18] 100 ?_
  repeat' first | apply And.intro | intro _
  all_goals first | omega | skip
  obtain ⟨r, S1, S2, e1, e2, hr, hI2⟩ := o_put hxs S  hI
  refine qq_virt rfl e1 (by decide) rfl rfl rfl (Nat.le_of_ble_eq_true rfl) ?_
  refine qq_fsound hxs (sp_0_ok hxs 30) [18] 100 ?_
  repeat' first | apply And.intro | intro _
  all_goals first | omega | skip
  refine qq_virt rfl e2 (by decide) rfl rfl rfl (Nat.le_of_ble_eq_true rfl) ?_
  refine qq_fsound hxs (sp_0_ok hxs 30) [18] 100 ?_
  repeat' first | apply And.intro | intro _
  all_goals first | exact kk _ hI2 | exact hr.1 | exact hr.2 | contradiction | omega
set_option maxRecDepth 20000 in
theorem lw_named {xs : List Int32} (hxs : xs.length ≤ 2048) (R : qq_Rest xs) (S : qq_S) (i : Int) (h0 : 0 ≤ i) (hl : i + 4 ≤ (mm_ro xs 0).length) (hI : inv S) (kk : ∀ S', inv S' → qq_p xs 30 (some .boolean) mm_kl (fun r _ => r = some 1) 18 [some (.inr (0, none)), some (.inr (3, none)), some (.inr (115, none)), some (.inl (i + 4))] [] S') : qq_p xs 30 (some .boolean) mm_kl (fun r _ => r = some 1) 650 [some (.inr (0, none)), some (.inr (3, none)), some (.inr (115, none)), some (.inl i)] [] S := by
  refine qq_fsound hxs (sp_0_ok hxs 30) [18] 100 ?_
  repeat' first | apply And.intro | intro _
  all_goals first | omega | skip
  obtain ⟨r, S1, S2, e1, e2, hr, hI2⟩ := o_named hxs S _ _ (qq_inT _) (qq_inT _) hI
  refine qq_virt rfl e1 (by decide) rfl rfl rfl (Nat.le_of_ble_eq_true rfl) ?_
  refine qq_fsound hxs (sp_0_ok hxs 30) [18] 100 ?_
  repeat' first | apply And.intro | intro _
  all_goals first | omega | skip
  refine qq_virt rfl e2 (by decide) rfl rfl rfl (Nat.le_of_ble_eq_true rfl) ?_
  refine qq_fsound hxs (sp_0_ok hxs 30) [18] 100 ?_
  repeat' first | apply And.intro | intro _
  all_goals first | exact kk _ hI2 | exact hr.1 | exact hr.2 | contradiction | omega
set_option maxRecDepth 20000 in
theorem lw_image {xs : List Int32} (hxs : xs.length ≤ 2048) (R : qq_Rest xs) (S : qq_S) (i : Int) (h0 : 0 ≤ i) (hl : i + 4 ≤ (mm_ro xs 0).length) (hI : inv S) (kk : ∀ S', inv S' → qq_p xs 30 (some .boolean) mm_kl (fun r _ => r = some 1) 18 [some (.inr (0, none)), some (.inr (3, none)), some (.inr (115, none)), some (.inl (i + 4))] [] S') : qq_p xs 30 (some .boolean) mm_kl (fun r _ => r = some 1) 683 [some (.inr (0, none)), some (.inr (3, none)), some (.inr (115, none)), some (.inl i)] [] S := by
  refine qq_fsound hxs (sp_0_ok hxs 30) [18] 100 ?_
  repeat' first | apply And.intro | intro _
  all_goals first | omega | skip
  obtain ⟨r, S1, S2, e1, e2, hr, hI2⟩ := o_image hxs S _ (qq_inT _) hI
  refine qq_virt rfl e1 (by decide) rfl rfl rfl (Nat.le_of_ble_eq_true rfl) ?_
  refine qq_fsound hxs (sp_0_ok hxs 30) [18] 100 ?_
  repeat' first | apply And.intro | intro _
  all_goals first | omega | skip
  refine qq_virt rfl e2 (by decide) rfl rfl rfl (Nat.le_of_ble_eq_true rfl) ?_
  refine qq_fsound hxs (sp_0_ok hxs 30) [18] 100 ?_
  repeat' first | apply And.intro | intro _
  all_goals first | exact kk _ hI2 | exact hr.1 | exact hr.2 | contradiction | omega
set_option maxRecDepth 20000 in
theorem lw_back {xs : List Int32} (hxs : xs.length ≤ 2048) (R : qq_Rest xs) (S : qq_S) (i : Int) (h0 : 0 ≤ i) (hl : i + 4 ≤ (mm_ro xs 0).length) (hI : inv S) (kk : ∀ S', inv S' → qq_p xs 30 (some .boolean) mm_kl (fun r _ => r = some 1) 18 [some (.inr (0, none)), some (.inr (3, none)), some (.inr (115, none)), some (.inl (i + 4))] [] S') : qq_p xs 30 (some .boolean) mm_kl (fun r _ => r = some 1) 706 [some (.inr (0, none)), some (.inr (3, none)), some (.inr (115, none)), some (.inl i)] [] S := by
  refine qq_fsound hxs (sp_0_ok hxs 30) [18] 100 ?_
  repeat' first | apply And.intro | intro _
  all_goals first | omega | skip
  obtain ⟨r, S1, S2, e1, e2, hr, hI2⟩ := o_back hxs S _ (qq_inT _) hI
  refine qq_virt rfl e1 (by decide) rfl rfl rfl (Nat.le_of_ble_eq_true rfl) ?_
  refine qq_fsound hxs (sp_0_ok hxs 30) [18] 100 ?_
  repeat' first | apply And.intro | intro _
  all_goals first | omega | skip
  refine qq_virt rfl e2 (by decide) rfl rfl rfl (Nat.le_of_ble_eq_true rfl) ?_
  refine qq_fsound hxs (sp_0_ok hxs 30) [18] 100 ?_
  repeat' first | apply And.intro | intro _
  all_goals first | exact kk _ hI2 | exact hr.1 | exact hr.2 | contradiction | omega
set_option maxRecDepth 20000 in
theorem lw_count {xs : List Int32} (hxs : xs.length ≤ 2048) (R : qq_Rest xs) (S : qq_S) (i : Int) (h0 : 0 ≤ i) (hl : i + 4 ≤ (mm_ro xs 0).length) (hI : inv S) (kk : ∀ S', inv S' → qq_p xs 30 (some .boolean) mm_kl (fun r _ => r = some 1) 18 [some (.inr (0, none)), some (.inr (3, none)), some (.inr (115, none)), some (.inl (i + 4))] [] S') : qq_p xs 30 (some .boolean) mm_kl (fun r _ => r = some 1) 729 [some (.inr (0, none)), some (.inr (3, none)), some (.inr (115, none)), some (.inl i)] [] S := by
  refine qq_fsound hxs (sp_0_ok hxs 30) [18] 100 ?_
  repeat' first | apply And.intro | intro _
  all_goals first | omega | skip
  obtain ⟨r, S1, S2, e1, e2, hr, hI2⟩ := o_count hxs S _ (qq_inT _) hI
  refine qq_virt rfl e1 (by decide) rfl rfl rfl (Nat.le_of_ble_eq_true rfl) ?_
  refine qq_fsound hxs (sp_0_ok hxs 30) [18] 100 ?_
  repeat' first | apply And.intro | intro _
  all_goals first | omega | skip
  refine qq_virt rfl e2 (by decide) rfl rfl rfl (Nat.le_of_ble_eq_true rfl) ?_
  refine qq_fsound hxs (sp_0_ok hxs 30) [18] 100 ?_
  repeat' first | apply And.intro | intro _
  all_goals first | exact kk _ hI2 | exact hr.1 | exact hr.2 | contradiction | omega
set_option maxRecDepth 20000 in
theorem lw_status {xs : List Int32} (hxs : xs.length ≤ 2048) (R : qq_Rest xs) (S : qq_S) (i : Int) (h0 : 0 ≤ i) (hl : i + 4 ≤ (mm_ro xs 0).length) (hI : inv S) (kk : ∀ S', inv S' → qq_p xs 30 (some .boolean) mm_kl (fun r _ => r = some 1) 18 [some (.inr (0, none)), some (.inr (3, none)), some (.inr (115, none)), some (.inl (i + 4))] [] S') : qq_p xs 30 (some .boolean) mm_kl (fun r _ => r = some 1) 752 [some (.inr (0, none)), some (.inr (3, none)), some (.inr (115, none)), some (.inl i)] [] S := by
  refine qq_fsound hxs (sp_0_ok hxs 30) [18] 100 ?_
  repeat' first | apply And.intro | intro _
  all_goals first | omega | skip
  obtain ⟨r, S1, S2, e1, e2, hr, hI2⟩ := o_status hxs S  hI
  refine qq_virt rfl e1 (by decide) rfl rfl rfl (Nat.le_of_ble_eq_true rfl) ?_
  refine qq_fsound hxs (sp_0_ok hxs 30) [18] 100 ?_
  repeat' first | apply And.intro | intro _
  all_goals first | omega | skip
  refine qq_virt rfl e2 (by decide) rfl rfl rfl (Nat.le_of_ble_eq_true rfl) ?_
  refine qq_fsound hxs (sp_0_ok hxs 30) [18] 100 ?_
  repeat' first | apply And.intro | intro _
  all_goals first | exact kk _ hI2 | exact hr.1 | exact hr.2 | contradiction | omega
theorem qq_and31 (x : Int32) : ∃ n : Nat, n < 32 ∧ qq_and x.toInt 31 = n := by
  obtain ⟨j, h1, h2⟩ := pk_andE x (m := 31) 5 (by decide)
  refine ⟨j, h1, ?_⟩
  unfold qq_and
  rw [qq_ofT, show Int32.ofInt 31 = 31 from rfl, h2]
  exact nI_toInt (by omega)
set_option maxRecDepth 20000 in
theorem lw_loop {xs : List Int32} (hxs : xs.length ≤ 2048) (R : qq_Rest xs) : ∀ (k : Nat) (S : qq_S) (i : Int), 0 ≤ i → xs.length < i + 4 * k → i ≤ xs.length → inv S → qq_p xs 30 (some .boolean) mm_kl (fun r _ => r = some 1) 18 [some (.inr (0, none)), some (.inr (3, none)), some (.inr (115, none)), some (.inl i)] [] S := by
  intro k
  have hlen : ((mm_ro xs 0).length : Int) = xs.length := rfl
  induction k with
  | zero => intro S i h0 hk hle hI; omega
  | succ k ih =>
    intro S i h0 hk hle hI
    have KK : i + 4 ≤ xs.length → ∀ S', inv S' → qq_p xs 30 (some .boolean) mm_kl (fun r _ => r = some 1) 18 [some (.inr (0, none)), some (.inr (3, none)), some (.inr (115, none)), some (.inl (i + 4))] [] S' := fun hq S' hS' => ih S' (i + 4) (by omega) (by omega) (by omega) hS'
    obtain ⟨n9, n1, n2⟩ := qq_and31 ((mm_ro xs 0).getD i.toNat 0)
    refine qq_fsound hxs (sp_0_ok hxs 30) [18, 140, 173, 186, 219, 252, 285, 318, 351, 374, 417, 460, 483, 532, 555, 578, 591, 604, 637, 650, 683, 706, 729, 752] 100 ?_
    repeat' first | apply And.intro | intro _ | (simp only [qq_tab])
    all_goals first | (unfold qq_in; omega) | omega | rfl | exact Or.inr rfl | exact Or.inr trivial | exact And.intro (Or.inr rfl) rfl | exact (rfl : (some (1 : Int)) = some 1) | skip
    all_goals first | exact KK (by omega) S hI | exact lw_station hxs R S i h0 (by omega) hI (KK (by omega)) | exact lw_line hxs R S i h0 (by omega) hI (KK (by omega)) | exact lw_lead hxs R S i h0 (by omega) hI (KK (by omega)) | exact lw_of hxs R S i h0 (by omega) hI (KK (by omega)) | exact lw_edge hxs R S i h0 (by omega) hI (KK (by omega)) | exact lw_round hxs R S i h0 (by omega) hI (KK (by omega)) | exact lw_grid hxs R S i h0 (by omega) hI (KK (by omega)) | exact lw_span hxs R S i h0 (by omega) hI (KK (by omega)) | exact lw_terms hxs R S i h0 (by omega) hI (KK (by omega)) | exact lw_place hxs R S i h0 (by omega) hI (KK (by omega)) | exact lw_point hxs R S i h0 (by omega) hI (KK (by omega)) | exact lw_hold hxs R S i h0 (by omega) hI (KK (by omega)) | exact lw_why hxs R S i h0 (by omega) hI (KK (by omega)) | exact lw_cost hxs R S i h0 (by omega) hI (KK (by omega)) | exact lw_best hxs R S i h0 (by omega) hI (KK (by omega)) | exact lw_better hxs R S i h0 (by omega) hI (KK (by omega)) | exact lw_name hxs R S i h0 (by omega) hI (KK (by omega)) | exact lw_put hxs R S i h0 (by omega) hI (KK (by omega)) | exact lw_named hxs R S i h0 (by omega) hI (KK (by omega)) | exact lw_image hxs R S i h0 (by omega) hI (KK (by omega)) | exact lw_back hxs R S i h0 (by omega) hI (KK (by omega)) | exact lw_count hxs R S i h0 (by omega) hI (KK (by omega)) | exact lw_status hxs R S i h0 (by omega) hI (KK (by omega)) | skip
    done
theorem qq_goal_of (R : ∀ xs : List Int32, xs.length ≤ 2048 → qq_Rest xs) : qq_Goal := fun xs hxs => lw_loop hxs (R xs hxs) (xs.length + 1) qq_0 0 (by omega) (by omega) (by omega) inv_start
