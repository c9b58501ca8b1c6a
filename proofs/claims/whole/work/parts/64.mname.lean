def zz_fi (a b : Int) : Int := if a = -1 ∨ b < a then b else a
theorem zz_fst_add {P : Nat → Prop} {c m : Nat} (hc : c < m) : zz_fst (fun k => P k ∨ k = c) m = zz_fi (zz_fst P m) c := by
  have bd := zz_fst_bd P m
  unfold zz_fi
  by_cases z : zz_fst P m = -1
  · rw [if_pos (Or.inl z)]
    have no := zz_fst_no.mp z
    exact zz_fst_at (p := fun k => P k ∨ k = c) (Or.inr rfl) (fun j hj w => w.elim (no j (by omega)) (fun e => by omega)) hc
  · have is := zz_fst_is z
    have before : ∀ j : Nat, (j : Int) < zz_fst P m → ¬ P j := fun j hj w => by
      obtain ⟨j0, h0⟩ : ∃ j0 : Nat, P j0 ∧ j0 < m ∧ ∀ i, i < j0 → ¬ P i := by
        have ex : ∃ k, P k := ⟨j, w⟩
        have wf : ∀ k, P k → ∃ j0, P j0 ∧ j0 ≤ k ∧ ∀ i, i < j0 → ¬ P i := by
          intro k
          induction k using Nat.strongRecOn with
          | ind k ih =>
            intro hk
            by_cases q : ∃ i, i < k ∧ P i
            · obtain ⟨i, hi, hp⟩ := q
              obtain ⟨j0, a1, a2, a3⟩ := ih i hi hp
              exact ⟨j0, a1, by omega, a3⟩
            · exact ⟨k, hk, Nat.le_refl k, fun i hi hp => q ⟨i, hi, hp⟩⟩
        obtain ⟨j0, a1, a2, a3⟩ := wf j w
        exact ⟨j0, a1, by omega, a3⟩
      have e := zz_fst_at (p := P) h0.1 h0.2.2 h0.2.1
      have : ¬ P (zz_fst P m).toNat ∨ True := Or.inr trivial
      have hj0 : j0 ≤ j := by
        rcases Nat.lt_or_ge j j0 with q | q
        · exact absurd w (h0.2.2 j q)
        · exact q
      omega
    by_cases d : (c : Int) < zz_fst P m
    · rw [if_pos (Or.inr d)]
      exact zz_fst_at (p := fun k => P k ∨ k = c) (Or.inr rfl) (fun j hj w => w.elim (before j (by omega)) (fun e => by omega)) hc
    · rw [if_neg (by omega)]
      have e := zz_fst_at (p := fun k => P k ∨ k = c) (i := (zz_fst P m).toNat) (Or.inl is.1) (fun j hj w => w.elim (before j (by omega)) (fun e => by omega)) is.2
      rw [e]
      omega
def zz_me (cx cy ax ay bx by9 : Int) : Prop := (bx - ax) * (cy - ay) = (by9 - ay) * (cx - ax) ∧ zz_in cx ax bx ∧ zz_in cy ay by9
def zz_hA (S : qq_S) (cx cy : Int) (t : Nat) : Prop := cx = 4 * zz_mx S t ∧ cy = 4 * zz_my S t
def zz_hB (S : qq_S) (cx cy : Int) (e : Nat) : Prop := zz_me cx cy (4 * zz_mx S (S 120 e).toNat) (4 * zz_my S (S 120 e).toNat) (4 * zz_mx S (S 121 e).toNat) (4 * zz_my S (S 121 e).toNat)
def zz_hC (S : qq_S) (cx cy : Int) (t : Nat) : Prop := ¬ S 129 t = -1 ∧ cy = zz_ny (zz_my S t) (S 129 t) ∧ zz_nx (zz_mx S t) (S 125 t) (S 129 t) ≤ cx ∧ cx ≤ zz_nx (zz_mx S t) (S 125 t) (S 129 t) + S 125 t - 1
def zz_mq (S : qq_S) (s p : Int) : Prop := (0 ≤ p ∧ p ≤ 7) ∧ (0 ≤ S 125 s.toNat ∧ S 125 s.toNat ≤ 12)
set_option maxRecDepth 20000 in
theorem f165 {xs : List Int32} (hxs : xs.length ≤ 2048) (d : Nat) (S : qq_S) (s : Int) (p : Int) (hp : zz_p (zz_mok S s) = 1 ∧ ((0 ≤ p ∧ p ≤ 7) ∧ (0 ≤ S 125 s.toNat ∧ S 125 s.toNat ≤ 12))) : qq_E xs (d + 11) 165 [.inr (115, none), .inl s, .inl p] S (some (zz_nx (zz_mx S s.toNat) (S 125 s.toNat) p)) (S) := by
  have h : qq_p xs (d + 10) (mm_mr mm_m165) (mm_mk mm_m165) (fun r S' => r = some (zz_nx (zz_mx S s.toNat) (S 125 s.toNat) p) ∧ S' = S) 0 (qq_ent mm_m165 [.inr (115, none), .inl s, .inl p]) [] S := by
    refine qq_fsound hxs (sp_18_ok hxs (d + 0)) [] 300 ?_
    repeat' first | apply And.intro | intro _ | (simp only [qq_tab]) | (simp only [qq_pl])
    all_goals (first | exact hp.1 | omega | (have b := zz_mbd hp.1; omega) | (refine congrArg some ?_; unfold zz_nx; first | (rw [if_pos (by omega)]; done) | (rw [if_pos (by omega)]; omega) | (rw [if_neg (by omega), if_pos (by omega)]; done) | (rw [if_neg (by omega), if_pos (by omega)]; omega) | (rw [if_neg (by omega), if_neg (by omega)])))
  obtain ⟨r, S', hE, e1, e2⟩ := qq_call_of (y := 165) rfl (Nat.le_of_ble_eq_true rfl) h
  rw [e1, e2] at hE
  exact hE
set_option maxRecDepth 20000 in
theorem f166 {xs : List Int32} (hxs : xs.length ≤ 2048) (d : Nat) (S : qq_S) (s : Int) (p : Int) (hp : zz_p (zz_mok S s) = 1 ∧ (0 ≤ p ∧ p ≤ 7)) : qq_E xs (d + 11) 166 [.inr (115, none), .inl s, .inl p] S (some (zz_ny (zz_my S s.toNat) p)) (S) := by
  have h : qq_p xs (d + 10) (mm_mr mm_m166) (mm_mk mm_m166) (fun r S' => r = some (zz_ny (zz_my S s.toNat) p) ∧ S' = S) 0 (qq_ent mm_m166 [.inr (115, none), .inl s, .inl p]) [] S := by
    refine qq_fsound hxs (sp_18_ok hxs (d + 0)) [] 300 ?_
    repeat' first | apply And.intro | intro _ | (simp only [qq_tab]) | (simp only [qq_pl])
    all_goals (first | exact hp.1 | omega | (have b := zz_mbd hp.1; omega) | (unfold zz_ny; grind))
  obtain ⟨r, S', hE, e1, e2⟩ := qq_call_of (y := 166) rfl (Nat.le_of_ble_eq_true rfl) h
  rw [e1, e2] at hE
  exact hE
set_option maxRecDepth 20000 in
theorem f167 {xs : List Int32} (hxs : xs.length ≤ 2048) (d : Nat) (S : qq_S) (cx : Int) (cy : Int) (t : Int) (hp : (-1000 ≤ cx ∧ cx ≤ 1000 ∧ -1000 ≤ cy ∧ cy ≤ 1000) ∧ zz_p (zz_mok S t) = 1) : qq_E xs (d + 11) 167 [.inr (115, none), .inl cx, .inl cy, .inl t] S (some (zz_p (zz_hA S cx cy t.toNat))) (S) := by
  have h : qq_p xs (d + 10) (mm_mr mm_m167) (mm_mk mm_m167) (fun r S' => r = some (zz_p (zz_hA S cx cy t.toNat)) ∧ S' = S) 0 (qq_ent mm_m167 [.inr (115, none), .inl cx, .inl cy, .inl t]) [] S := by
    refine qq_fsound hxs (sp_18_ok hxs (d + 0)) [] 300 ?_
    repeat' first | apply And.intro | intro _ | (simp only [qq_tab]) | (simp only [qq_pl])
    all_goals (first | exact hp.2 | omega | exact Or.inl trivial | exact Or.inr trivial | (have b := zz_mbd hp.2; first | omega | exact congrArg some (zz_p1 (by unfold zz_hA; omega)).symm | exact congrArg some (zz_p0 (by unfold zz_hA; omega)).symm))
  obtain ⟨r, S', hE, e1, e2⟩ := qq_call_of (y := 167) rfl (Nat.le_of_ble_eq_true rfl) h
  rw [e1, e2] at hE
  exact hE
set_option maxRecDepth 20000 in
theorem f171 {xs : List Int32} (hxs : xs.length ≤ 2048) (d : Nat) (S : qq_S) (a : Int) (b : Int) (hp : qq_in a ∧ qq_in b) : qq_E xs (d + 1) 171 [.inl a, .inl b] S (some (zz_fi a b)) (S) := by
  have h : qq_p xs (d + 0) (mm_mr mm_m171) (mm_mk mm_m171) (fun r S' => r = some (zz_fi a b) ∧ S' = S) 0 (qq_ent mm_m171 [.inl a, .inl b]) [] S := by
    refine qq_fsound hxs (sp_0_ok hxs (d + 0)) [] 300 ?_
    repeat' first | apply And.intro | intro _ | (simp only [qq_tab]) | (simp only [qq_pl])
    all_goals (first | rfl | omega | exact hp.1.1 | exact hp.1.2 | exact hp.2.1 | exact hp.2.2 | (unfold zz_fi; grind))
  obtain ⟨r, S', hE, e1, e2⟩ := qq_call_of (y := 171) rfl (Nat.le_of_ble_eq_true rfl) h
  rw [e1, e2] at hE
  exact hE
set_option maxRecDepth 20000 in
theorem f168 {xs : List Int32} (hxs : xs.length ≤ 2048) (d : Nat) (S : qq_S) (cx : Int) (cy : Int) (e : Int) (hp : (-200 ≤ cx ∧ cx ≤ 200 ∧ -200 ≤ cy ∧ cy ≤ 200) ∧ (0 ≤ e ∧ e < 45) ∧ zz_p (zz_mok S (S 120 e.toNat)) = 1 ∧ zz_p (zz_mok S (S 121 e.toNat)) = 1) : qq_E xs (d + 11) 168 [.inr (115, none), .inl cx, .inl cy, .inl e] S (some (zz_p (zz_hB S cx cy e.toNat))) (S) := by
  have b1 := zz_mbd hp.2.2.1
  have b2 := zz_mbd hp.2.2.2
  have m1 := zz_mb (x := (4 * zz_mx S (S 121 e.toNat).toNat) - (4 * zz_mx S (S 120 e.toNat).toNat)) (y := cy - (4 * zz_my S (S 120 e.toNat).toNat)) (by omega) (by omega)
  have m2 := zz_mb (x := (4 * zz_my S (S 121 e.toNat).toNat) - (4 * zz_my S (S 120 e.toNat).toNat)) (y := cx - (4 * zz_mx S (S 120 e.toNat).toNat)) (by omega) (by omega)
  have h : qq_p xs (d + 10) (mm_mr mm_m168) (mm_mk mm_m168) (fun r S' => r = some (zz_p (zz_hB S cx cy e.toNat)) ∧ S' = S) 0 (qq_ent mm_m168 [.inr (115, none), .inl cx, .inl cy, .inl e]) [] S := by
    refine qq_fsound hxs (sp_18_ok hxs (d + 0)) [] 300 ?_
    repeat' first | apply And.intro | intro _ | (simp only [qq_tab]) | (simp only [qq_pl])
    all_goals (
      first
      | exact hp.2.2.1
      | exact hp.2.2.2
      | omega
      | exact (zz_pin _).1
      | exact (zz_pin _).2
      | exact Or.inl trivial
      | exact Or.inr trivial
      | ((try simp only [zz_pi0, Classical.not_not] at *)
         first
         | exact congrArg some (zz_p1 ⟨by assumption, by assumption, by assumption⟩).symm
         | exact congrArg some (zz_p0 (fun z => absurd z.1 (by assumption))).symm
         | exact congrArg some (zz_p0 (fun z => absurd z.2.1 (by assumption))).symm
         | exact congrArg some (zz_p0 (fun z => absurd z.2.2 (by assumption))).symm))
  obtain ⟨r, S', hE, e1, e2⟩ := qq_call_of (y := 168) rfl (Nat.le_of_ble_eq_true rfl) h
  rw [e1, e2] at hE
  exact hE
noncomputable def sp_40 : qq_P := fun y as S => match y, as with
  | 165, [.inr (115, none), .inl s, .inl p] => some (zz_p (zz_mok S s) = 1 ∧ ((0 ≤ p ∧ p ≤ 7) ∧ (0 ≤ S 125 s.toNat ∧ S 125 s.toNat ≤ 12)), some (zz_nx (zz_mx S s.toNat) (S 125 s.toNat) p), S)
  | 166, [.inr (115, none), .inl s, .inl p] => some (zz_p (zz_mok S s) = 1 ∧ (0 ≤ p ∧ p ≤ 7), some (zz_ny (zz_my S s.toNat) p), S)
  | 167, [.inr (115, none), .inl cx, .inl cy, .inl t] => some ((-1000 ≤ cx ∧ cx ≤ 1000 ∧ -1000 ≤ cy ∧ cy ≤ 1000) ∧ zz_p (zz_mok S t) = 1, some (zz_p (zz_hA S cx cy t.toNat)), S)
  | 171, [.inl a, .inl b] => some (qq_in a ∧ qq_in b, some (zz_fi a b), S)
  | 168, [.inr (115, none), .inl cx, .inl cy, .inl e] => some ((-200 ≤ cx ∧ cx ≤ 200 ∧ -200 ≤ cy ∧ cy ≤ 200) ∧ (0 ≤ e ∧ e < 45) ∧ zz_p (zz_mok S (S 120 e.toNat)) = 1 ∧ zz_p (zz_mok S (S 121 e.toNat)) = 1, some (zz_p (zz_hB S cx cy e.toNat)), S)
  | _, _ => sp_18 y as S
theorem sp_40_ok {xs : List Int32} (hxs : xs.length ≤ 2048) (d : Nat) : qq_ok xs (d + 11) sp_40 := by
  intro y as S pre r S2 h hp
  unfold sp_40 at h
  split at h
  · cases h; exact f165 hxs (d + 0) S _ _ hp
  · cases h; exact f166 hxs (d + 0) S _ _ hp
  · cases h; exact f167 hxs (d + 0) S _ _ _ hp
  · cases h; exact f171 hxs (d + 10) S _ _ hp
  · cases h; exact f168 hxs (d + 0) S _ _ _ hp
  · exact sp_18_ok hxs (d + 1) y as S pre r S2 h hp
set_option maxRecDepth 20000 in
theorem f169 {xs : List Int32} (hxs : xs.length ≤ 2048) (d : Nat) (S : qq_S) (cx : Int) (cy : Int) (t : Int) (hp : (-1000 ≤ cx ∧ cx ≤ 1000 ∧ -1000 ≤ cy ∧ cy ≤ 1000) ∧ zz_p (zz_mok S t) = 1 ∧ (-1 ≤ S 129 t.toNat ∧ S 129 t.toNat ≤ 7) ∧ (0 ≤ S 125 t.toNat ∧ S 125 t.toNat ≤ 12)) : qq_E xs (d + 12) 169 [.inr (115, none), .inl cx, .inl cy, .inl t] S (some (zz_p (zz_hC S cx cy t.toNat))) (S) := by
  have b1 := zz_mbd hp.2.1
  have x1 : -1000 ≤ zz_nx (zz_mx S t.toNat) (S 125 t.toNat) (S 129 t.toNat) ∧ zz_nx (zz_mx S t.toNat) (S 125 t.toNat) (S 129 t.toNat) ≤ 1000 := by
    unfold zz_nx
    repeat' split
    all_goals omega
  have y1 : -1000 ≤ zz_ny (zz_my S t.toNat) (S 129 t.toNat) ∧ zz_ny (zz_my S t.toNat) (S 129 t.toNat) ≤ 1000 := by
    unfold zz_ny
    repeat' split
    all_goals omega
  have h : qq_p xs (d + 11) (mm_mr mm_m169) (mm_mk mm_m169) (fun r S' => r = some (zz_p (zz_hC S cx cy t.toNat)) ∧ S' = S) 0 (qq_ent mm_m169 [.inr (115, none), .inl cx, .inl cy, .inl t]) [] S := by
    refine qq_fsound hxs (sp_40_ok hxs (d + 0)) [] 300 ?_
    repeat' first | apply And.intro | intro _ | (simp only [qq_tab]) | (simp only [qq_pl])
    all_goals (
      first
      | exact hp.2.1
      | omega
      | exact (zz_bin _).1
      | exact (zz_bin _).2
      | exact Or.inl trivial
      | exact Or.inr trivial
      | exact congrArg some (zz_p0 (fun z => absurd (by assumption) z.1)).symm
      | exact congrArg some (zz_p0 (fun z => absurd z.2.1 (by assumption))).symm
      | (have c0 := zz_bi0.mp (by assumption)
         exact congrArg some (zz_p0 (fun z => c0 ⟨z.2.2.1, z.2.2.2⟩)).symm)
      | (have c0 := Classical.not_not.mp (fun z => absurd (zz_bi0.mpr z) (by assumption))
         exact congrArg some (zz_p1 ⟨by assumption, by assumption, c0⟩).symm)
      | ((try simp only [zz_bi0, Classical.not_not] at *)
         first
         | exact congrArg some (zz_p1 (by unfold zz_hC; omega)).symm
         | exact congrArg some (zz_p0 (by unfold zz_hC; omega)).symm))
  obtain ⟨r, S', hE, e1, e2⟩ := qq_call_of (y := 169) rfl (Nat.le_of_ble_eq_true rfl) h
  rw [e1, e2] at hE
  exact hE
noncomputable def sp_41 : qq_P := fun y as S => match y, as with
  | 169, [.inr (115, none), .inl cx, .inl cy, .inl t] => some ((-1000 ≤ cx ∧ cx ≤ 1000 ∧ -1000 ≤ cy ∧ cy ≤ 1000) ∧ zz_p (zz_mok S t) = 1 ∧ (-1 ≤ S 129 t.toNat ∧ S 129 t.toNat ≤ 7) ∧ (0 ≤ S 125 t.toNat ∧ S 125 t.toNat ≤ 12), some (zz_p (zz_hC S cx cy t.toNat)), S)
  | _, _ => sp_40 y as S
theorem sp_41_ok {xs : List Int32} (hxs : xs.length ≤ 2048) (d : Nat) : qq_ok xs (d + 12) sp_41 := by
  intro y as S pre r S2 h hp
  unfold sp_41 at h
  split at h
  · cases h; exact f169 hxs (d + 0) S _ _ _ hp
  · exact sp_40_ok hxs (d + 1) y as S pre r S2 h hp
