/-! Names: where they are laid, what is in the way. -/
def zz_fl (S : qq_S) (q : Nat) (v i : Int) : qq_S := fun a j => if a = q ∧ (j : Int) < i then v else S a j
theorem zz_fl0 (S : qq_S) (q : Nat) (v : Int) : zz_fl S q v 0 = S := by
  funext a j
  unfold zz_fl
  rw [if_neg (by omega)]
theorem zz_fl_s (S : qq_S) (q : Nat) (v i : Int) (hi : 0 ≤ i) : qq_u (zz_fl S q v i) q i.toNat v = zz_fl S q v (i + 1) := by
  funext a j
  unfold qq_u zz_fl
  by_cases c : a = q
  · subst c
    by_cases d : j = i.toNat
    · rw [if_pos ⟨rfl, d⟩, if_pos ⟨rfl, by omega⟩]
    · rw [if_neg (fun z => d z.2)]
      by_cases e : (j : Int) < i
      · rw [if_pos ⟨rfl, e⟩, if_pos ⟨rfl, by omega⟩]
      · rw [if_neg (fun z => e z.2), if_neg (fun z => by omega)]
  · rw [if_neg (fun z => c z.1), if_neg (fun z => c z.1), if_neg (fun z => c z.1)]
def zz_nx (x n k : Int) : Int := if k = 2 ∨ k = 6 then 4 * x - n / 2 else if 2 < k ∧ k < 6 then 4 * x - n else 4 * x + 1
def zz_ny (y k : Int) : Int := 4 * y + (if k = 0 ∨ k = 4 then 0 else if k < 4 then 1 else -1)
def zz_lay (S : qq_S) (s : Nat) (k : Int) : qq_S := qq_u (qq_u (qq_u S 98 s (zz_nx (S 49 s) (S 95 s) k)) 99 s (zz_nx (S 49 s) (S 95 s) k + S 95 s - 1)) 100 s (zz_ny (S 50 s) k)
/-- the name from bg to en on level lv touches the edge -/
def zz_ox (lv ax ay bx : Int) : Int := if bx = ax then ax else if ax < bx then ax + zz_abs (lv - ay) else ax - zz_abs (lv - ay)
def zz_oe (bg en lv ax ay bx cy : Int) : Prop := zz_in lv ay cy ∧ (if ay = cy then (bg ≤ (if ax < bx then bx else ax) ∧ (if bx < ax then bx else ax) ≤ en) else (bg ≤ zz_ox lv ax ay bx ∧ zz_ox lv ax ay bx ≤ en))
/-- the least in the way: stations, then edges, then names -/
noncomputable def zz_ob (n E s : Nat) (A B C : Nat → Prop) : Int := if ¬ zz_fst A n = -1 then zz_fst A n else if ¬ zz_fst B E = -1 then 100 + zz_fst B E else if ¬ zz_fst C s = -1 then 200 + zz_fst C s else -1
def zz_cA (S : qq_S) (s t : Nat) : Prop := S 100 s = 4 * S 50 t ∧ S 98 s ≤ 4 * S 49 t ∧ 4 * S 49 t ≤ S 99 s
def zz_cB (S : qq_S) (s e : Nat) : Prop := zz_oe (S 98 s) (S 99 s) (S 100 s) (4 * S 49 (S 22 e).toNat) (4 * S 50 (S 22 e).toNat) (4 * S 49 (S 23 e).toNat) (4 * S 50 (S 23 e).toNat)
def zz_cC (S : qq_S) (s t : Nat) : Prop := ¬ S 96 t = -1 ∧ S 100 t = S 100 s ∧ S 98 s ≤ S 99 t ∧ S 98 t ≤ S 99 s
noncomputable def zz_cO (S : qq_S) (s : Nat) : Int := zz_ob (S 4 0).toNat (S 4 2).toNat s (zz_cA S s) (zz_cB S s) (zz_cC S s)
def zz_bn (S : qq_S) (t : Nat) : Prop := (-1000 ≤ S 98 t ∧ S 98 t ≤ 1000) ∧ (-1000 ≤ S 99 t ∧ S 99 t ≤ 1000) ∧ (-1000 ≤ S 100 t ∧ S 100 t ≤ 1000)
def zz_nm (S : qq_S) (s : Nat) : Prop := zz_bn S s ∧ ∀ t : Nat, t < s → (-1 ≤ S 96 t ∧ S 96 t ≤ 7) ∧ (¬ S 96 t = -1 → zz_bn S t)
set_option maxRecDepth 20000 in
theorem f178_96 {xs : List Int32} (hxs : xs.length ≤ 2048) (d : Nat) (S : qq_S) (v : Int) (hp : True) : qq_E xs (d + 1) 178 [.inr (96, none), .inl v] S (none) (zz_fl S 96 v 10) := by
  have L : ∀ (k9 : Nat) (i : Int) (T : qq_S), 10 - i < (k9 : Int) → (0 ≤ i ∧ i ≤ 10) → (T = zz_fl S 96 v i) → qq_p xs (d + 0) (mm_mr mm_m178) (mm_mk mm_m178) (fun r S' => r = none ∧ S' = zz_fl S 96 v 10) 5 [some (.inr (96, none)), some (.inl v), some (.inl i), some (.inl 10)] [] (T) := by
    intro k9
    induction k9 with
    | zero =>
      intro i T hm h1 h2
      exfalso
      omega
    | succ k9 ih =>
      intro i T hm h1 h2
      refine qq_fsound hxs (sp_0_ok hxs (d + 0)) [5] 300 ?_
      repeat' first | apply And.intro | intro _ | (simp only [qq_tab]) | (simp only [qq_pl])
      all_goals (
        (first
         | omega
         | (have ei : i = 10 := by omega
            rw [h2, ei]; done)
         | (refine ih _ _ (by omega) (by omega) ?_
            rw [h2]
            exact zz_fl_s _ _ _ _ (by omega))))
  have h : qq_p xs (d + 0) (mm_mr mm_m178) (mm_mk mm_m178) (fun r S' => r = none ∧ S' = zz_fl S 96 v 10) 0 (qq_ent mm_m178 [.inr (96, none), .inl v]) [] S := by
    refine qq_fsound hxs (sp_0_ok hxs (d + 0)) [5] 300 ?_
    repeat' first | apply And.intro | intro _ | (simp only [qq_tab]) | (simp only [qq_pl])
    all_goals (first | omega | exact L 11 0 S (by omega) (by omega) (zz_fl0 _ _ _).symm)
  obtain ⟨r, S', hE, e1, e2⟩ := qq_call_of (y := 178) rfl (Nat.le_of_ble_eq_true rfl) h
  rw [e1, e2] at hE
  exact hE
set_option maxRecDepth 20000 in
theorem f178_97 {xs : List Int32} (hxs : xs.length ≤ 2048) (d : Nat) (S : qq_S) (v : Int) (hp : True) : qq_E xs (d + 1) 178 [.inr (97, none), .inl v] S (none) (zz_fl S 97 v 10) := by
  have L : ∀ (k9 : Nat) (i : Int) (T : qq_S), 10 - i < (k9 : Int) → (0 ≤ i ∧ i ≤ 10) → (T = zz_fl S 97 v i) → qq_p xs (d + 0) (mm_mr mm_m178) (mm_mk mm_m178) (fun r S' => r = none ∧ S' = zz_fl S 97 v 10) 5 [some (.inr (97, none)), some (.inl v), some (.inl i), some (.inl 10)] [] (T) := by
    intro k9
    induction k9 with
    | zero =>
      intro i T hm h1 h2
      exfalso
      omega
    | succ k9 ih =>
      intro i T hm h1 h2
      refine qq_fsound hxs (sp_0_ok hxs (d + 0)) [5] 300 ?_
      repeat' first | apply And.intro | intro _ | (simp only [qq_tab]) | (simp only [qq_pl])
      all_goals (
        (first
         | omega
         | (have ei : i = 10 := by omega
            rw [h2, ei]; done)
         | (refine ih _ _ (by omega) (by omega) ?_
            rw [h2]
            exact zz_fl_s _ _ _ _ (by omega))))
  have h : qq_p xs (d + 0) (mm_mr mm_m178) (mm_mk mm_m178) (fun r S' => r = none ∧ S' = zz_fl S 97 v 10) 0 (qq_ent mm_m178 [.inr (97, none), .inl v]) [] S := by
    refine qq_fsound hxs (sp_0_ok hxs (d + 0)) [5] 300 ?_
    repeat' first | apply And.intro | intro _ | (simp only [qq_tab]) | (simp only [qq_pl])
    all_goals (first | omega | exact L 11 0 S (by omega) (by omega) (zz_fl0 _ _ _).symm)
  obtain ⟨r, S', hE, e1, e2⟩ := qq_call_of (y := 178) rfl (Nat.le_of_ble_eq_true rfl) h
  rw [e1, e2] at hE
  exact hE
noncomputable def sp_34 : qq_P := fun y as S => match y, as with
  | 178, [.inr (96, none), .inl v] => some (True, none, zz_fl S 96 v 10)
  | 178, [.inr (97, none), .inl v] => some (True, none, zz_fl S 97 v 10)
  | _, _ => sp_33 y as S
theorem sp_34_ok {xs : List Int32} (hxs : xs.length ≤ 2048) (d : Nat) : qq_ok xs (d + 22) sp_34 := by
  intro y as S pre r S2 h hp
  unfold sp_34 at h
  split at h
  · cases h; exact f178_96 hxs (d + 21) S _ hp
  · cases h; exact f178_97 hxs (d + 21) S _ hp
  · exact sp_33_ok hxs (d + 0) y as S pre r S2 h hp
set_option maxRecDepth 20000 in
theorem f23 {xs : List Int32} (hxs : xs.length ≤ 2048) (d : Nat) (S : qq_S) (hp : True) : qq_E xs (d + 23) 23 [.inr (94, none)] S (none) (zz_fl (zz_fl S 96 (-1) 10) 97 (-1) 10) := by
  have h : qq_p xs (d + 22) (mm_mr mm_m23) (mm_mk mm_m23) (fun r S' => r = none ∧ S' = zz_fl (zz_fl S 96 (-1) 10) 97 (-1) 10) 0 (qq_ent mm_m23 [.inr (94, none)]) [] S := by
    refine qq_fsound hxs (sp_34_ok hxs (d + 0)) [] 300 ?_
    repeat' first | apply And.intro | intro _ | (simp only [qq_tab]) | (simp only [qq_pl])
    all_goals (first | rfl | trivial)
  obtain ⟨r, S', hE, e1, e2⟩ := qq_call_of (y := 23) rfl (Nat.le_of_ble_eq_true rfl) h
  rw [e1, e2] at hE
  exact hE
set_option maxRecDepth 20000 in
theorem f28 {xs : List Int32} (hxs : xs.length ≤ 2048) (d : Nat) (S : qq_S) (s : Int) (a : Int) (b : Int) (hp : (0 ≤ s ∧ s < 10 ∧ -10000 ≤ a ∧ a ≤ 10000 ∧ -10000 ≤ b ∧ b ≤ 10000) ∧ (-1000 ≤ S 98 s.toNat ∧ S 98 s.toNat ≤ 1000) ∧ (-1000 ≤ S 99 s.toNat ∧ S 99 s.toNat ≤ 1000)) : qq_E xs (d + 1) 28 [.inr (94, none), .inl s, .inl a, .inl b] S (some (zz_p (S 98 s.toNat ≤ b ∧ a ≤ S 99 s.toNat))) (S) := by
  have h : qq_p xs (d + 0) (mm_mr mm_m28) (mm_mk mm_m28) (fun r S' => r = some (zz_p (S 98 s.toNat ≤ b ∧ a ≤ S 99 s.toNat)) ∧ S' = S) 0 (qq_ent mm_m28 [.inr (94, none), .inl s, .inl a, .inl b]) [] S := by
    refine qq_fsound hxs (sp_0_ok hxs (d + 0)) [] 300 ?_
    repeat' first | apply And.intro | intro _ | (simp only [qq_tab]) | (simp only [qq_pl])
    all_goals (first | rfl | omega | exact Or.inl trivial | exact Or.inr trivial | exact congrArg some (zz_p1 (by omega)).symm | exact congrArg some (zz_p0 (by omega)).symm)
  obtain ⟨r, S', hE, e1, e2⟩ := qq_call_of (y := 28) rfl (Nat.le_of_ble_eq_true rfl) h
  rw [e1, e2] at hE
  exact hE
noncomputable def sp_35 : qq_P := fun y as S => match y, as with
  | 23, [.inr (94, none)] => some (True, none, zz_fl (zz_fl S 96 (-1) 10) 97 (-1) 10)
  | 28, [.inr (94, none), .inl s, .inl a, .inl b] => some ((0 ≤ s ∧ s < 10 ∧ -10000 ≤ a ∧ a ≤ 10000 ∧ -10000 ≤ b ∧ b ≤ 10000) ∧ (-1000 ≤ S 98 s.toNat ∧ S 98 s.toNat ≤ 1000) ∧ (-1000 ≤ S 99 s.toNat ∧ S 99 s.toNat ≤ 1000), some (zz_p (S 98 s.toNat ≤ b ∧ a ≤ S 99 s.toNat)), S)
  | _, _ => sp_34 y as S
theorem sp_35_ok {xs : List Int32} (hxs : xs.length ≤ 2048) (d : Nat) : qq_ok xs (d + 23) sp_35 := by
  intro y as S pre r S2 h hp
  unfold sp_35 at h
  split at h
  · cases h; exact f23 hxs (d + 0) S hp
  · cases h; exact f28 hxs (d + 22) S _ _ _ hp
  · exact sp_34_ok hxs (d + 1) y as S pre r S2 h hp
set_option maxRecDepth 20000 in
theorem f29 {xs : List Int32} (hxs : xs.length ≤ 2048) (d : Nat) (S : qq_S) (s : Int) (a : Int) (b : Int) (hp : (0 ≤ s ∧ s < 10 ∧ 0 ≤ a ∧ a < 10 ∧ 0 ≤ b ∧ b < 10) ∧ zz_p (zz_pl (S 49) (S 50)) = 1 ∧ zz_p (zz_bn S s.toNat) = 1) : qq_E xs (d + 24) 29 [.inr (94, none), .inl s, .inl a, .inl b] S (some (zz_p (zz_oe (S 98 s.toNat) (S 99 s.toNat) (S 100 s.toNat) (4 * S 49 a.toNat) (4 * S 50 a.toNat) (4 * S 49 b.toNat) (4 * S 50 b.toNat)))) (S) := by
  have g2 := zz_pi1.mp hp.2.1
  have g3 := zz_pi1.mp hp.2.2
  unfold zz_bn at g3
  have q1 := g2 a.toNat (by omega)
  have q2 := g2 b.toNat (by omega)
  have h : qq_p xs (d + 23) (mm_mr mm_m29) (mm_mk mm_m29) (fun r S' => r = some (zz_p (zz_oe (S 98 s.toNat) (S 99 s.toNat) (S 100 s.toNat) (4 * S 49 a.toNat) (4 * S 50 a.toNat) (4 * S 49 b.toNat) (4 * S 50 b.toNat))) ∧ S' = S) 0 (qq_ent mm_m29 [.inr (94, none), .inl s, .inl a, .inl b]) [] S := by
    refine qq_fsound hxs (sp_35_ok hxs (d + 0)) [] 300 ?_
    repeat' first | apply And.intro | intro _ | (simp only [qq_tab]) | (simp only [qq_pl])
    all_goals (
      (generalize S 49 a.toNat = xa at *
       generalize S 50 a.toNat = ya at *
       generalize S 49 b.toNat = xb at *
       generalize S 50 b.toNat = yb at *
       first
       | rfl
       | omega
       | exact zz_p01 _
       | exact Or.inl trivial
       | exact Or.inr trivial
       | (split <;> omega)
       | (have z : (if 0 ≤ S 100 s.toNat - 4 * ya then S 100 s.toNat - 4 * ya else -(S 100 s.toNat - 4 * ya)) = zz_abs (S 100 s.toNat - 4 * ya) := rfl
          have zb : 0 ≤ zz_abs (S 100 s.toNat - 4 * ya) ∧ zz_abs (S 100 s.toNat - 4 * ya) ≤ 2000 := by unfold zz_abs; split <;> omega
          (try simp only [z])
          first
          | omega
          | (refine congrArg some (zz_p0 (fun w => ?_)).symm
             have := w.1
             unfold zz_in at this
             split at * <;> omega)
          | (refine congrArg some (zz_pc ?_)
             unfold zz_oe zz_in zz_ox
             grind)
          | (refine congrArg some (zz_pc ?_)
             unfold zz_oe zz_in zz_ox
             repeat' split
             all_goals omega))))
  obtain ⟨r, S', hE, e1, e2⟩ := qq_call_of (y := 29) rfl (Nat.le_of_ble_eq_true rfl) h
  rw [e1, e2] at hE
  exact hE
