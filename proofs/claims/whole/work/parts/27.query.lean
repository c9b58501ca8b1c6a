set_option maxRecDepth 20000 in
theorem f106 {xs : List Int32} (hxs : xs.length ≤ 2048) (d : Nat) (S : qq_S) (a : Int) (hp : qq_in a ∧ (∀ i : Nat, i < 10 → qq_in (S 49 i)) ∧ (∀ i : Nat, i < 10 → qq_in (S 51 i))) : qq_E xs (d + 4) 106 [.inr (3, none), .inl a] S (some (if a = 0 then S 4 0 else if a = 1 then S 4 1 else if a = 2 then zz_cnt (S 49) (-1) 10 else if a = 3 then zz_cnt (S 51) 0 10 else if a = 4 then S 48 0 else if a = 5 then S 48 1 else if a = 6 then S 52 3 else -1)) (S) := by
  have h : qq_p xs (d + 3) (mm_mr mm_m106) (mm_mk mm_m106) (fun r S' => r = some (if a = 0 then S 4 0 else if a = 1 then S 4 1 else if a = 2 then zz_cnt (S 49) (-1) 10 else if a = 3 then zz_cnt (S 51) 0 10 else if a = 4 then S 48 0 else if a = 5 then S 48 1 else if a = 6 then S 52 3 else -1) ∧ S' = S) 0 (qq_ent mm_m106 [.inr (3, none), .inl a]) [] S := by
    refine qq_fsound hxs (sp_6_ok hxs (d + 0)) [] 200 ?_
    repeat' first | apply And.intro | intro _ | (simp only [qq_tab])
    all_goals (first | rfl | omega | exact hp.2.1 | exact hp.2.2 | grind [qq_in])
  obtain ⟨r, S', hE, e1, e2⟩ := qq_call_of (y := 106) rfl (Nat.le_of_ble_eq_true rfl) h
  rw [e1, e2] at hE
  exact hE
set_option maxRecDepth 20000 in
theorem f176 {xs : List Int32} (hxs : xs.length ≤ 2048) (d : Nat) (S : qq_S) (a : Int) (hp : qq_in a ∧ (0 ≤ S 115 1 ∧ S 115 1 ≤ 10) ∧ (∀ i : Nat, (i : Int) < S 115 1 → qq_in (S 123 i)) ∧ (∀ i : Nat, (i : Int) < S 115 1 → qq_in (S 124 i))) : qq_E xs (d + 4) 176 [.inr (115, none), .inl a] S (some (if a = 0 then S 115 1 else if a = 1 then S 115 2 else if a = 2 then zz_cnt (S 123) (-1) (S 115 1).toNat else if a = 3 then zz_cnt (S 124) 0 (S 115 1).toNat else if a = 4 then S 115 12 else if a = 5 then S 115 13 else if a = 6 then S 115 14 else -1)) (S) := by
  have L2 : ∀ (k9 : Nat) (i c : Int), 0 ≤ i ∧ i + k9 = S 115 1 → c = zz_cnt (S 123) (-1) i.toNat ∧ a = 2 → qq_p xs (d + 3) (mm_mr mm_m176) (mm_mk mm_m176) (fun r S' => r = some (if a = 0 then S 115 1 else if a = 1 then S 115 2 else if a = 2 then zz_cnt (S 123) (-1) (S 115 1).toNat else if a = 3 then zz_cnt (S 124) 0 (S 115 1).toNat else if a = 4 then S 115 12 else if a = 5 then S 115 13 else if a = 6 then S 115 14 else -1) ∧ S' = S) 56 [some (.inr (115, none)), some (.inl a), some (.inl c), some (.inl i)] [] (S) := by
    intro k9
    induction k9 with
    | zero =>
      intro i c hm hv
      refine qq_fsound hxs (sp_6_ok hxs (d + 0)) [56, 92] 300 ?_
      repeat' first | apply And.intro | intro _
      all_goals (first | omega | (refine ih _ _ ?_ ?_ <;> first | omega | (refine ⟨?_, hv.2⟩; grind [zz_cnt_s])) | (have hi9 : i = S 115 1 := (by omega); grind) | (have q9 := hp.2.2.1 i.toNat (by omega); grind [qq_in]))
    | succ k9 ih =>
      intro i c hm hv
      refine qq_fsound hxs (sp_6_ok hxs (d + 0)) [56, 92] 300 ?_
      repeat' first | apply And.intro | intro _
      all_goals (first | omega | (refine ih _ _ ?_ ?_ <;> first | omega | (refine ⟨?_, hv.2⟩; grind [zz_cnt_s])) | (have hi9 : i = S 115 1 := (by omega); grind) | (have q9 := hp.2.2.1 i.toNat (by omega); grind [qq_in]))
  have L3 : ∀ (k9 : Nat) (i c : Int), 0 ≤ i ∧ i + k9 = S 115 1 → c = zz_cnt (S 124) 0 i.toNat ∧ a = 3 → qq_p xs (d + 3) (mm_mr mm_m176) (mm_mk mm_m176) (fun r S' => r = some (if a = 0 then S 115 1 else if a = 1 then S 115 2 else if a = 2 then zz_cnt (S 123) (-1) (S 115 1).toNat else if a = 3 then zz_cnt (S 124) 0 (S 115 1).toNat else if a = 4 then S 115 12 else if a = 5 then S 115 13 else if a = 6 then S 115 14 else -1) ∧ S' = S) 92 [some (.inr (115, none)), some (.inl a), some (.inl c), some (.inl i)] [] (S) := by
    intro k9
    induction k9 with
    | zero =>
      intro i c hm hv
      refine qq_fsound hxs (sp_6_ok hxs (d + 0)) [56, 92] 300 ?_
      repeat' first | apply And.intro | intro _
      all_goals (first | omega | (refine ih _ _ ?_ ?_ <;> first | omega | (refine ⟨?_, hv.2⟩; grind [zz_cnt_s])) | (have hi9 : i = S 115 1 := (by omega); grind) | (have q9 := hp.2.2.2 i.toNat (by omega); grind [qq_in]))
    | succ k9 ih =>
      intro i c hm hv
      refine qq_fsound hxs (sp_6_ok hxs (d + 0)) [56, 92] 300 ?_
      repeat' first | apply And.intro | intro _
      all_goals (first | omega | (refine ih _ _ ?_ ?_ <;> first | omega | (refine ⟨?_, hv.2⟩; grind [zz_cnt_s])) | (have hi9 : i = S 115 1 := (by omega); grind) | (have q9 := hp.2.2.2 i.toNat (by omega); grind [qq_in]))
  have h : qq_p xs (d + 3) (mm_mr mm_m176) (mm_mk mm_m176) (fun r S' => r = some (if a = 0 then S 115 1 else if a = 1 then S 115 2 else if a = 2 then zz_cnt (S 123) (-1) (S 115 1).toNat else if a = 3 then zz_cnt (S 124) 0 (S 115 1).toNat else if a = 4 then S 115 12 else if a = 5 then S 115 13 else if a = 6 then S 115 14 else -1) ∧ S' = S) 0 (qq_ent mm_m176 [.inr (115, none), .inl a]) [] S := by
    refine qq_fsound hxs (sp_6_ok hxs (d + 0)) [56, 92] 300 ?_
    repeat' first | apply And.intro | intro _ | (simp only [qq_tab])
    all_goals (first | omega | (refine L2 (S 115 1).toNat _ _ ?_ ?_ <;> first | omega | exact ⟨rfl, by omega⟩) | (refine L3 (S 115 1).toNat _ _ ?_ ?_ <;> first | omega | exact ⟨rfl, by omega⟩) | grind [qq_in])
  obtain ⟨r, S', hE, e1, e2⟩ := qq_call_of (y := 176) rfl (Nat.le_of_ble_eq_true rfl) h
  rw [e1, e2] at hE
  exact hE
theorem o_count {xs : List Int32} (hxs : xs.length ≤ 2048) (S : qq_S) (a : Int) (ha : qq_in a) (hI : inv S) : qq_op xs 29 106 176 [.inl a] S := by
  have hI0 := hI
  obtain ⟨h1, h2, h3, h4, h5, h6, h7, h8, h9, h10, h11⟩ := hI
  have g1 := h1
  have g5 := h5
  have g6 := h6
  unfold i_net at g1
  unfold i_plan at g5
  unfold i_terms at g6
  have e1 := f106 hxs 0 S a ⟨ha, fun i hi => by have := pl_bd h5 hi; unfold qq_in; omega, fun i hi => by have := pl_bd h5 hi; unfold qq_in; omega⟩
  have e2 := f176 hxs 0 S a ⟨ha, by omega, fun i hi => by have := pl_bd h5 (show i < 10 by omega); have := g5.2.2 i (by omega); unfold qq_in; omega, fun i hi => by have := pl_bd h5 (show i < 10 by omega); have := g5.2.2 i (by omega); unfold qq_in; omega⟩
  have c2 : zz_cnt (S 49) (-1) 10 = zz_cnt (S 123) (-1) (S 4 0).toNat := zz_cnt_eq _ _ _ _ _ (by omega) (fun i hi => by have := pl_bd h5 (show i < 10 by omega); have := g5.2.2 i (by omega); omega) (fun i hi hk => (g5.2.1 i hk).2.2.2 (by omega))
  have c3 : zz_cnt (S 51) 0 10 = zz_cnt (S 124) 0 (S 4 0).toNat := zz_cnt_eq _ _ _ _ _ (by omega) (fun i hi => by have := g5.2.2 i (by omega); omega) (fun i hi hk => (g5.2.1 i hk).2.2.1 ((g5.2.1 i hk).2.2.2 (by omega)))
  have b2 := zz_cnt_bd (S 123) (-1) (S 4 0).toNat
  have b3 := zz_cnt_bd (S 124) 0 (S 4 0).toNat
  rw [c2, c3] at e1
  rw [show S 115 1 = S 4 0 by omega, show S 115 2 = S 4 1 by omega, show S 115 12 = S 48 0 by omega, show S 115 13 = S 48 1 by omega, show S 115 14 = S 52 3 by omega] at e2
  exact qq_op_of e1 e2 (by decide) (by decide) rfl (by unfold qq_in; repeat' split <;> omega) hI0
theorem o_named {xs : List Int32} (hxs : xs.length ≤ 2048) (S : qq_S) (a b : Int) (ha : qq_in a) (hb : qq_in b) (hI : inv S) : qq_op xs 29 103 173 [.inl a, .inl b] S := by
  have hI0 := hI
  obtain ⟨h1, h2, h3, h4, h5, h6, h7, h8, h9, h10, h11⟩ := hI
  have g1 := h1
  have g7 := h7
  unfold i_net at g1
  unfold i_names at g7
  have e1 := f103 hxs 0 S a b ⟨ha, hb, by omega⟩
  have e2 := f173 hxs 0 S a b ⟨ha, hb, by omega⟩
  have k7 := g7.2 a.toNat
  refine qq_op_of e1 e2 (by decide) (by decide) ?_ ?_ hI0
  · by_cases c1 : 0 ≤ a ∧ a < S 4 0
    · by_cases c2 : a < S 115 26
      · rw [if_neg (show ¬ ¬ (0 ≤ a ∧ a < S 115 26) by omega), if_neg (show ¬ ¬ (0 ≤ a ∧ a < S 4 0) by omega)]
        have := k7 (by omega)
        split
        · omega
        · split <;> omega
      · rw [if_pos (show ¬ (0 ≤ a ∧ a < S 115 26) by omega), if_neg (show ¬ ¬ (0 ≤ a ∧ a < S 4 0) by omega)]
        have := k7 (by omega)
        split
        · omega
        · split <;> omega
    · rw [if_pos (show ¬ (0 ≤ a ∧ a < S 115 26) by omega), if_pos (show ¬ (0 ≤ a ∧ a < S 4 0) by omega)]
  · unfold qq_in
    by_cases c1 : 0 ≤ a ∧ a < S 4 0
    · rw [if_neg (by omega)]
      have := k7 (by omega)
      split
      · omega
      · split <;> omega
    · rw [if_pos (by omega)]
      omega
theorem o_of {xs : List Int32} (hxs : xs.length ≤ 2048) (S : qq_S) (a b : Int) (ha : qq_in a) (hb : qq_in b) (hI : inv S) : qq_op xs 29 88 120 [.inl a, .inl b] S := by
  have hI0 := hI
  obtain ⟨h1, h2, h3, h4, h5, h6, h7, h8, h9, h10, h11⟩ := hI
  have g1 := h1
  unfold i_net at g1
  have e1 := f88 hxs 0 S a b ⟨ha, hb, by omega, fun z => by have := h2.1 a.toNat (by omega); omega⟩
  have e2 := f120 hxs 0 S a b ⟨ha, hb, by omega, fun z => by have := h2.1 a.toNat (by omega); omega⟩
  rw [show S 115 2 = S 4 1 by omega] at e2
  by_cases c1 : 0 ≤ a ∧ a < S 4 1
  · have q := h2.1 a.toNat (by omega)
    rw [if_neg (by omega)] at e1 e2
    rw [q.2.2.1] at e2
    by_cases c2 : b = -1
    · rw [if_pos c2] at e1 e2
      exact qq_op_of e1 e2 (by decide) (by decide) rfl (by unfold qq_in; omega) hI0
    · rw [if_neg c2] at e1 e2
      by_cases c3 : 0 ≤ b ∧ b < S 7 a.toNat
      · rw [if_pos c3] at e1 e2
        have q2 := q.2.2.2 b.toNat (by omega)
        have er : qq_R S 9 6 a.toNat b.toNat = S (8 + 1 + a.toNat) b.toNat := by
          unfold qq_R
          rw [if_pos (by omega)]
        rw [er] at q2
        have ei : (10 * a + b).toNat = 10 * a.toNat + b.toNat := by omega
        rw [ei] at e2
        exact qq_op_of e1 e2 (by decide) (by decide) (by omega) (by unfold qq_in; omega) hI0
      · rw [if_neg c3] at e1 e2
        exact qq_op_of e1 e2 (by decide) (by decide) rfl (by unfold qq_in; omega) hI0
  · rw [if_pos (by omega)] at e1 e2
    exact qq_op_of e1 e2 (by decide) (by decide) rfl (by unfold qq_in; omega) hI0
theorem inv_start : inv qq_0 := by
  have r9 : ∀ l i, qq_R qq_0 9 6 l i = 0 := fun l i => by
    unfold qq_R
    split
    · rename_i h
      unfold qq_0
      repeat rw [if_neg (by omega)]
    · rfl
  have r16 : ∀ l i, l < 6 → qq_R qq_0 16 6 l i = -1 := fun l i h => by
    unfold qq_R
    rw [if_pos h]
    unfold qq_0
    rw [if_pos (by omega)]
  have r38 : ∀ l i, l < 10 → qq_R qq_0 38 10 l i = -1 := fun l i h => by
    unfold qq_R
    rw [if_pos h]
    unfold qq_0
    rw [if_pos (by omega)]
  have n0 : qq_0 4 0 = 0 := by decide
  have z7 : ∀ i, qq_0 7 i = 0 := fun i => by simp [qq_0]
  have z25 : ∀ i, qq_0 25 i = 0 := fun i => by simp [qq_0]
  have z114 : ∀ i, qq_0 114 i = 0 := fun i => by simp [qq_0]
  have z132 : ∀ i, qq_0 132 i = 0 := fun i => by simp [qq_0]
  have m49 : ∀ i, qq_0 49 i = -1 := fun i => by simp [qq_0]
  have m50 : ∀ i, qq_0 50 i = -1 := fun i => by simp [qq_0]
  have z51 : ∀ i, qq_0 51 i = 0 := fun i => by simp [qq_0]
  have z95 : ∀ i, qq_0 95 i = 0 := fun i => by simp [qq_0]
  have m96 : ∀ i, qq_0 96 i = -1 := fun i => by simp [qq_0]
  have m97 : ∀ i, qq_0 97 i = -1 := fun i => by simp [qq_0]
  have L0 : qq_0 4 1 = 0 := by decide
  have E0 : qq_0 4 2 = 0 := by decide
  have a1 : qq_0 115 1 = 0 := by decide
  have a2 : qq_0 115 2 = 0 := by decide
  have a3 : qq_0 115 3 = 0 := by decide
  have a26 : qq_0 115 26 = 0 := by decide
  unfold inv
  rw [n0, L0, E0, a1, a2, a3, a26]
  refine ⟨⟨by omega, fun i hi => by omega, fun i j hi => by omega⟩, ⟨fun l hl => by omega, fun l h6 hl => z7 l, fun l s hl hs => Or.inl (r16 l s hl)⟩, ⟨by omega, fun e he => by omega, fun a b ha hb => Or.inl (r38 a b ha), fun e f hef hf => by omega, fun a b ha hb => ⟨fun z => absurd (r38 a b ha) z, fun z => by obtain ⟨l, i, hl, -⟩ := z; omega⟩⟩, fun s hs => ⟨by rw [z25]; omega, fun i hi => by rw [z25] at hi; omega, fun t ht z => absurd (r38 s t hs) z, fun i j hij hj => by rw [z25] at hj; omega⟩, ⟨by decide, fun s hs => ⟨Or.inl ⟨m49 s, m50 s⟩, Or.inl (z51 s), fun _ => z51 s, fun _ => m49 s⟩, fun s hs => by omega⟩, by unfold i_terms; decide, ⟨by omega, fun s hs => ⟨by rw [z95]; omega, by rw [z95]; omega, fun z => by omega, fun _ => z95 s, by rw [m96, m97]; omega, fun z => by omega, fun _ => ⟨m96 s, m97 s⟩⟩⟩, ?_, ?_, ?_, by decide, by unfold qq_in; decide⟩
  · exact ⟨Or.inl (z114 0), by rw [z114, z132], fun z => by rw [z114] at z; omega⟩
  · exact ⟨Or.inl (z114 1), by rw [z114, z132], fun z => by rw [z114] at z; omega⟩
  · exact ⟨Or.inl (z114 2), by rw [z114, z132], fun z => by rw [z114] at z; omega⟩
