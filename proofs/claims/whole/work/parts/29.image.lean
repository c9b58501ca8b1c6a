def zz_v1 (S : qq_S) (t : Int) : Int := if t < S 115 1 then S 123 t.toNat else -1
def zz_v2 (S : qq_S) (t : Int) : Int := if t < S 115 1 ∧ ¬ S 124 t.toNat = 0 then 1 else 0
/-- an image as far as i -/
def zz_im (S : qq_S) (a i : Int) : qq_S := fun c j => if c = 133 ∧ 23 * a ≤ j ∧ (j : Int) < 23 * a + i then zz_v1 S (j - 23 * a) else if c = 133 ∧ 23 * a + 10 ≤ j ∧ (j : Int) < 23 * a + 10 + i then zz_v2 S (j - (23 * a + 10)) else S c j
theorem zz_im0 (S : qq_S) (a : Int) : zz_im S a 0 = S := by
  funext c j
  unfold zz_im
  rw [if_neg (by omega), if_neg (by omega)]
theorem zz_im_ne {S : qq_S} {a i : Int} {c : Nat} (h : c ≠ 133) : zz_im S a i c = S c := by
  funext j
  unfold zz_im
  rw [if_neg (fun z => h z.1), if_neg (fun z => h z.1)]
theorem zz_im_s (S : qq_S) (a i v1 v2 : Int) (ha : 0 ≤ a) (hi : 0 ≤ i ∧ i < 10) (h1 : v1 = zz_v1 S i) (h2 : v2 = zz_v2 S i) : qq_u (qq_u (zz_im S a i) 133 (23 * a + i).toNat v1) 133 (23 * a + 10 + i).toNat v2 = zz_im S a (i + 1) := by
  funext c j
  by_cases hc : c = 133
  · subst hc
    unfold qq_u zz_im
    simp only [true_and]
    by_cases e2 : j = (23 * a + 10 + i).toNat
    · rw [if_pos e2, if_neg (by omega), if_pos (by omega), h2]
      congr 1
      omega
    · rw [if_neg e2]
      by_cases e1 : j = (23 * a + i).toNat
      · rw [if_pos e1, if_pos (by omega), h1]
        congr 1
        omega
      · rw [if_neg e1]
        by_cases c1 : 23 * a ≤ j ∧ (j : Int) < 23 * a + i
        · rw [if_pos c1, if_pos (by omega)]
        · rw [if_neg c1]
          rw [if_neg (show ¬ (23 * a ≤ (j : Int) ∧ (j : Int) < 23 * a + (i + 1)) by omega)]
          by_cases c2 : 23 * a + 10 ≤ j ∧ (j : Int) < 23 * a + 10 + i
          · rw [if_pos c2, if_pos (by omega)]
          · rw [if_neg c2, if_neg (by omega)]
  · rw [qq_un' hc, qq_un' hc, zz_im_ne hc, zz_im_ne hc]
/-- the points of an image, given back as far as i -/
def zz_bk (S : qq_S) (a i : Int) : qq_S := fun c j => if c = 123 ∧ (j : Int) < i then S 133 (23 * a + j).toNat else if c = 124 ∧ (j : Int) < i then (if S 133 (23 * a + 10 + j).toNat = 1 then 1 else 0) else S c j
theorem zz_bk0 (S : qq_S) (a : Int) : zz_bk S a 0 = S := by
  funext c j
  unfold zz_bk
  rw [if_neg (by omega), if_neg (by omega)]
theorem zz_bk_ne {S : qq_S} {a i : Int} {c : Nat} (h : c ≠ 123) (h' : c ≠ 124) : zz_bk S a i c = S c := by
  funext j
  unfold zz_bk
  rw [if_neg (fun z => h z.1), if_neg (fun z => h' z.1)]
theorem zz_bk_s (S : qq_S) (a i v1 v2 : Int) (hi : 0 ≤ i) (h1 : v1 = S 133 (23 * a + i).toNat) (h2 : v2 = if S 133 (23 * a + 10 + i).toNat = 1 then 1 else 0) : qq_u (qq_u (zz_bk S a i) 123 i.toNat v1) 124 i.toNat v2 = zz_bk S a (i + 1) := by
  have ei : ((i.toNat : Nat) : Int) = i := by omega
  funext c j
  by_cases hj : j = i.toNat
  · subst hj
    unfold qq_u zz_bk
    by_cases c1 : c = 124
    · subst c1
      rw [if_pos ⟨rfl, rfl⟩, if_neg (by omega), if_pos ⟨rfl, by omega⟩, h2, ei]
    · rw [if_neg (fun z => c1 z.1)]
      by_cases c2 : c = 123
      · subst c2
        rw [if_pos ⟨rfl, rfl⟩, if_pos ⟨rfl, by omega⟩, h1, ei]
      · rw [if_neg (fun z => c2 z.1), if_neg (fun z => c2 z.1), if_neg (fun z => c1 z.1), if_neg (fun z => c2 z.1), if_neg (fun z => c1 z.1)]
  · rw [qq_un (Or.inr hj), qq_un (Or.inr hj)]
    unfold zz_bk
    have e : ((j : Int) < i + 1) ↔ (j : Int) < i := by omega
    simp only [e]
set_option maxRecDepth 20000 in
theorem f174 {xs : List Int32} (hxs : xs.length ≤ 2048) (d : Nat) (S : qq_S) (a : Int) (hp : qq_in a ∧ (0 ≤ S 115 1 ∧ S 115 1 ≤ 10) ∧ (∀ i : Nat, (i : Int) < S 115 1 → S 124 i = 0 ∨ S 124 i = 1)) : qq_E xs (d + 4) 174 [.inr (115, none), .inl a] S (some (if 0 ≤ a ∧ a ≤ 2 then 0 else -1)) (if 0 ≤ a ∧ a ≤ 2 then qq_u (qq_u (qq_u (zz_im (qq_u S 132 a.toNat 1) a 10) 133 (23 * a + 20).toNat (S 115 12)) 133 (23 * a + 21).toNat (S 115 13)) 115 0 0 else qq_u S 115 0 (-1)) := by
  have L : ∀ (k9 : Nat) (i : Int) (T : qq_S), 0 ≤ i ∧ i + k9 = 10 → (T = zz_im (qq_u S 132 a.toNat 1) a i ∧ 0 ≤ a ∧ a ≤ 2) → qq_p xs (d + 3) (mm_mr mm_m174) (mm_mk mm_m174) (fun r S' => r = some (if 0 ≤ a ∧ a ≤ 2 then 0 else -1) ∧ S' = if 0 ≤ a ∧ a ≤ 2 then qq_u (qq_u (qq_u (zz_im (qq_u S 132 a.toNat 1) a 10) 133 (23 * a + 20).toNat (S 115 12)) 133 (23 * a + 21).toNat (S 115 13)) 115 0 0 else qq_u S 115 0 (-1)) 24 [some (.inr (115, none)), some (.inl a), some (.inl i)] [] (T) := by
    intro k9
    induction k9 with
    | zero =>
      intro i T hm hv
      refine qq_fsound hxs (sp_7_ok hxs (d + 0)) [24] 300 ?_
      repeat' first | apply And.intro | intro _
      all_goals (first | omega | (refine ih _ _ ?_ ?_ <;> first | omega | (refine ⟨?_, hv.2⟩; rw [hv.1] at *; refine zz_im_s _ _ _ _ _ (by omega) (by omega) ?_ ?_ <;> simp (decide := true) only [zz_v1, zz_v2, zz_im_ne, qq_un', qq_ueq] at * <;> grind)) | (have hi10 : i = 10 := (by omega); rw [if_pos hv.2]; try (rw [hv.1, hi10]; simp (decide := true) only [zz_im_ne, qq_un', qq_ueq, ite_self])) | (rw [hv.1] at *; simp (decide := true) only [zz_im_ne, qq_un', qq_ueq] at *; have q9 := hp.2.2 i.toNat (by omega); omega) | (rw [hv.1] at *; simp (decide := true) only [zz_im_ne, qq_un', qq_ueq] at *; omega))
    | succ k9 ih =>
      intro i T hm hv
      refine qq_fsound hxs (sp_7_ok hxs (d + 0)) [24] 300 ?_
      repeat' first | apply And.intro | intro _
      all_goals (first | omega | (refine ih _ _ ?_ ?_ <;> first | omega | (refine ⟨?_, hv.2⟩; rw [hv.1] at *; refine zz_im_s _ _ _ _ _ (by omega) (by omega) ?_ ?_ <;> simp (decide := true) only [zz_v1, zz_v2, zz_im_ne, qq_un', qq_ueq] at * <;> grind)) | (have hi10 : i = 10 := (by omega); rw [if_pos hv.2]; try (rw [hv.1, hi10]; simp (decide := true) only [zz_im_ne, qq_un', qq_ueq, ite_self])) | (rw [hv.1] at *; simp (decide := true) only [zz_im_ne, qq_un', qq_ueq] at *; have q9 := hp.2.2 i.toNat (by omega); omega) | (rw [hv.1] at *; simp (decide := true) only [zz_im_ne, qq_un', qq_ueq] at *; omega))
  have h : qq_p xs (d + 3) (mm_mr mm_m174) (mm_mk mm_m174) (fun r S' => r = some (if 0 ≤ a ∧ a ≤ 2 then 0 else -1) ∧ S' = if 0 ≤ a ∧ a ≤ 2 then qq_u (qq_u (qq_u (zz_im (qq_u S 132 a.toNat 1) a 10) 133 (23 * a + 20).toNat (S 115 12)) 133 (23 * a + 21).toNat (S 115 13)) 115 0 0 else qq_u S 115 0 (-1)) 0 (qq_ent mm_m174 [.inr (115, none), .inl a]) [] S := by
    refine qq_fsound hxs (sp_7_ok hxs (d + 0)) [24] 300 ?_
    repeat' first | apply And.intro | intro _ | (simp only [qq_tab])
    all_goals (first | omega | (refine L 10 _ _ ?_ ?_ <;> first | omega | exact ⟨(zz_im0 _ _).symm, by grind [zz_b]⟩) | grind [qq_in, zz_b])
  obtain ⟨r, S', hE, e1, e2⟩ := qq_call_of (y := 174) rfl (Nat.le_of_ble_eq_true rfl) h
  rw [e1, e2] at hE
  exact hE
set_option maxRecDepth 20000 in
theorem f175 {xs : List Int32} (hxs : xs.length ≤ 2048) (d : Nat) (S : qq_S) (a : Int) (hp : qq_in a ∧ (0 ≤ a ∧ a ≤ 2 → S 132 a.toNat = 0 ∨ S 132 a.toNat = 1) ∧ (0 ≤ a ∧ a ≤ 2 → ¬ S 132 a.toNat = 0 → ∀ i : Int, 0 ≤ i → i < 10 → qq_in (S 133 (23 * a + 10 + i).toNat))) : qq_E xs (d + 4) 175 [.inr (115, none), .inl a] S (some (if 0 ≤ a ∧ a ≤ 2 then (if S 132 a.toNat = 0 then -6 else 0) else -1)) (if 0 ≤ a ∧ a ≤ 2 then (if S 132 a.toNat = 0 then qq_u S 115 0 (-6) else qq_u (qq_u (qq_u (zz_bk S a 10) 115 12 (S 133 (23 * a + 20).toNat)) 115 13 (S 133 (23 * a + 21).toNat)) 115 0 0) else qq_u S 115 0 (-1)) := by
  have L : ∀ (k9 : Nat) (i : Int) (T : qq_S), 0 ≤ i ∧ i + k9 = 10 → (T = zz_bk S a i ∧ (0 ≤ a ∧ a ≤ 2) ∧ ¬ S 132 a.toNat = 0) → qq_p xs (d + 3) (mm_mr mm_m175) (mm_mk mm_m175) (fun r S' => r = some (if 0 ≤ a ∧ a ≤ 2 then (if S 132 a.toNat = 0 then -6 else 0) else -1) ∧ S' = if 0 ≤ a ∧ a ≤ 2 then (if S 132 a.toNat = 0 then qq_u S 115 0 (-6) else qq_u (qq_u (qq_u (zz_bk S a 10) 115 12 (S 133 (23 * a + 20).toNat)) 115 13 (S 133 (23 * a + 21).toNat)) 115 0 0) else qq_u S 115 0 (-1)) 33 [some (.inr (115, none)), some (.inl a), some (.inl i)] [] (T) := by
    intro k9
    induction k9 with
    | zero =>
      intro i T hm hv
      refine qq_fsound hxs (sp_7_ok hxs (d + 0)) [33] 300 ?_
      repeat' first | apply And.intro | intro _
      all_goals (first | omega | (refine ih _ _ ?_ ?_ <;> first | omega | (refine ⟨?_, hv.2⟩; rw [hv.1] at *; refine zz_bk_s _ _ _ _ _ (by omega) ?_ ?_ <;> simp (decide := true) only [zz_bk_ne, qq_un', qq_ueq] at * <;> grind)) | (have hi10 : i = 10 := (by omega); rw [if_pos hv.2.1, if_neg hv.2.2]; try (rw [hv.1, hi10]; simp (decide := true) only [zz_bk_ne, qq_un', qq_ueq, ite_self])) | (rw [hv.1] at *; simp (decide := true) only [zz_bk_ne, qq_un', qq_ueq] at *; have q9 := hp.2.2 hv.2.1 hv.2.2 i (by omega) (by omega); unfold qq_in at q9; omega))
    | succ k9 ih =>
      intro i T hm hv
      refine qq_fsound hxs (sp_7_ok hxs (d + 0)) [33] 300 ?_
      repeat' first | apply And.intro | intro _
      all_goals (first | omega | (refine ih _ _ ?_ ?_ <;> first | omega | (refine ⟨?_, hv.2⟩; rw [hv.1] at *; refine zz_bk_s _ _ _ _ _ (by omega) ?_ ?_ <;> simp (decide := true) only [zz_bk_ne, qq_un', qq_ueq] at * <;> grind)) | (have hi10 : i = 10 := (by omega); rw [if_pos hv.2.1, if_neg hv.2.2]; try (rw [hv.1, hi10]; simp (decide := true) only [zz_bk_ne, qq_un', qq_ueq, ite_self])) | (rw [hv.1] at *; simp (decide := true) only [zz_bk_ne, qq_un', qq_ueq] at *; have q9 := hp.2.2 hv.2.1 hv.2.2 i (by omega) (by omega); unfold qq_in at q9; omega))
  have h : qq_p xs (d + 3) (mm_mr mm_m175) (mm_mk mm_m175) (fun r S' => r = some (if 0 ≤ a ∧ a ≤ 2 then (if S 132 a.toNat = 0 then -6 else 0) else -1) ∧ S' = if 0 ≤ a ∧ a ≤ 2 then (if S 132 a.toNat = 0 then qq_u S 115 0 (-6) else qq_u (qq_u (qq_u (zz_bk S a 10) 115 12 (S 133 (23 * a + 20).toNat)) 115 13 (S 133 (23 * a + 21).toNat)) 115 0 0) else qq_u S 115 0 (-1)) 0 (qq_ent mm_m175 [.inr (115, none), .inl a]) [] S := by
    refine qq_fsound hxs (sp_7_ok hxs (d + 0)) [33] 300 ?_
    repeat' first | apply And.intro | intro _ | (simp only [qq_tab])
    all_goals (first | omega | (refine L 10 _ _ ?_ ?_ <;> first | omega | (refine ⟨(zz_bk0 _ _).symm, ?_, ?_⟩ <;> grind [zz_b])) | grind [qq_in, zz_b])
  obtain ⟨r, S', hE, e1, e2⟩ := qq_call_of (y := 175) rfl (Nat.le_of_ble_eq_true rfl) h
  rw [e1, e2] at hE
  exact hE
