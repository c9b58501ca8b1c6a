theorem zz_lay_ne {S : qq_S} {s : Nat} {k : Int} {a : Nat} (h : ¬ (98 ≤ a ∧ a ≤ 100)) : zz_lay S s k a = S a := by
  unfold zz_lay
  rw [qq_ueq (by omega), qq_ueq (by omega), qq_ueq (by omega)]
theorem zz_lay_at {S : qq_S} {s : Nat} {k : Int} {t : Nat} : zz_lay S s k 98 t = (if t = s then zz_nx (S 49 s) (S 95 s) k else S 98 t) ∧ zz_lay S s k 99 t = (if t = s then zz_nx (S 49 s) (S 95 s) k + S 95 s - 1 else S 99 t) ∧ zz_lay S s k 100 t = (if t = s then zz_ny (S 50 s) k else S 100 t) := by
  unfold zz_lay
  refine ⟨?_, ?_, ?_⟩
  · rw [qq_ueq (by decide), qq_ueq (by decide), qq_uat]
  · rw [qq_ueq (by decide), qq_uat, qq_ueq (by decide)]
  · rw [qq_uat, qq_ueq (by decide), qq_ueq (by decide)]
theorem zz_lay_lay (S : qq_S) (s : Nat) (k j : Int) : zz_lay (zz_lay S s j) s k = zz_lay S s k := by
  funext a t
  by_cases c : 98 ≤ a ∧ a ≤ 100
  · have l1 := zz_lay_at (S := zz_lay S s j) (s := s) (k := k) (t := t)
    have l2 := zz_lay_at (S := S) (s := s) (k := k) (t := t)
    have l3 := zz_lay_at (S := S) (s := s) (k := j) (t := t)
    rw [zz_lay_ne (a := 49) (by omega), zz_lay_ne (a := 50) (by omega), zz_lay_ne (a := 95) (by omega), l3.1, l3.2.1, l3.2.2] at l1
    have : a = 98 ∨ a = 99 ∨ a = 100 := by omega
    rcases this with e | e | e <;> subst e
    · rw [l1.1, l2.1]; split <;> rfl
    · rw [l1.2.1, l2.2.1]; split <;> rfl
    · rw [l1.2.2, l2.2.2]; split <;> rfl
  · rw [zz_lay_ne c, zz_lay_ne c, zz_lay_ne c]
theorem zz_nx_bd {x n k : Int} (hx : -1 ≤ x ∧ x ≤ 8) (hn : 0 ≤ n ∧ n ≤ 12) : -100 ≤ zz_nx x n k ∧ zz_nx x n k ≤ 100 := by
  unfold zz_nx
  repeat' split
  all_goals omega
theorem zz_ny_bd {y k : Int} (hy : -1 ≤ y ∧ y ≤ 8) : -100 ≤ zz_ny y k ∧ zz_ny y k ≤ 100 := by
  unfold zz_ny
  repeat' split
  all_goals omega
theorem zz_lay_nm {S : qq_S} {s : Nat} {k : Int} (hl : zz_pl (S 49) (S 50)) (hn : 0 ≤ S 95 s ∧ S 95 s ≤ 12) (hs : s < 10) (h : ∀ t : Nat, t < s → (-1 ≤ S 96 t ∧ S 96 t ≤ 7) ∧ (¬ S 96 t = -1 → zz_bn S t)) : zz_nm (zz_lay S s k) s := by
  have q := hl s hs
  have b1 := zz_nx_bd (k := k) ⟨q.1, q.2.1⟩ hn
  have b2 := zz_ny_bd (k := k) q.2.2
  refine ⟨?_, fun t ht => ?_⟩
  · have l := zz_lay_at (S := S) (s := s) (k := k) (t := s)
    unfold zz_bn
    rw [l.1, l.2.1, l.2.2, if_pos rfl, if_pos rfl, if_pos rfl]
    omega
  · have l := zz_lay_at (S := S) (s := s) (k := k) (t := t)
    unfold zz_bn
    rw [zz_lay_ne (by omega), l.1, l.2.1, l.2.2, if_neg (by omega), if_neg (by omega), if_neg (by omega)]
    exact h t ht
theorem zz_lay_nb {S : qq_S} {s : Nat} {k : Int} (h : zz_nb S) : zz_nb (zz_lay S s k) := by
  have r : ∀ b : Nat, b ≤ 38 → ∀ t : Nat, t < 10 → zz_lay S s k (b + t) = S (b + t) := fun b hb t ht => zz_lay_ne (by omega)
  unfold zz_nb at *
  obtain ⟨h1, h2, h3, h4⟩ := h
  rw [zz_lay_ne (a := 4) (by omega), zz_lay_ne (a := 22) (by omega), zz_lay_ne (a := 23) (by omega), zz_lay_ne (a := 24) (by omega), zz_lay_ne (a := 25) (by omega), zz_lay_ne (a := 7) (by omega)]
  refine ⟨h1, h2, fun t ht => ?_, fun l hl => ?_⟩
  · rw [r (26 + 1) (by omega) t ht, r (37 + 1) (by omega) t ht]
    exact h3 t ht
  · rw [r (8 + 1) (by omega) l (by omega), r (15 + 1) (by omega) l (by omega)]
    exact h4 l hl
/-- what is in the way of the name of s at side k -/
noncomputable def zz_oc (S : qq_S) (s : Nat) (k : Int) : Int := zz_cO (zz_lay S s k) s
noncomputable def zz_ks (S : qq_S) (s : Nat) : Int := zz_fst (fun k : Nat => zz_oc S s k = -1) 8
noncomputable def zz_lf (S : qq_S) (s : Nat) : qq_S := if zz_ks S s = -1 then qq_u (zz_lay S s 0) 97 s (zz_oc S s 0) else qq_u (zz_lay S s (zz_ks S s)) 96 s (zz_ks S s)
def zz_tn (S : qq_S) (s : Nat) : Prop := (0 ≤ S 95 s ∧ S 95 s ≤ 12) ∧ ∀ t : Nat, t < s → (-1 ≤ S 96 t ∧ S 96 t ≤ 7) ∧ (¬ S 96 t = -1 → zz_bn S t)
set_option maxRecDepth 20000 in
theorem f25 {xs : List Int32} (hxs : xs.length ≤ 2048) (d : Nat) (S : qq_S) (s : Int) (hp : (0 ≤ s ∧ s < S 4 0) ∧ zz_p (zz_nb S) = 1 ∧ zz_p (zz_pl (S 49) (S 50)) = 1 ∧ zz_p (zz_tn S s.toNat) = 1) : qq_E xs (d + 26) 25 [.inr (94, none), .inl s] S (some (if zz_ks S s.toNat = -1 then 0 else 1)) (zz_lf S s.toNat) := by
  have g1 := zz_pi1.mp hp.2.1
  have g2 := zz_pi1.mp hp.2.2.1
  have g3 := zz_pi1.mp hp.2.2.2
  have n0 := g1.1
  have gt := g3.1
  have ob : ∀ k : Int, -1 ≤ zz_oc S s.toNat k ∧ zz_oc S s.toNat k ≤ 300 := fun k => zz_ob_bd (by rw [zz_lay_ne (a := 4) (by omega)]; omega) (by rw [zz_lay_ne (a := 4) (by omega)]; omega) (by omega)
  have L : ∀ (k9 : Nat) (k : Int) (T : qq_S), 8 - k < (k9 : Int) → (0 ≤ k ∧ k ≤ 8) → (T = S ∨ ∃ j, T = zz_lay S s.toNat j) → (∀ j : Nat, (j : Int) < k → ¬ zz_oc S s.toNat j = -1) → qq_p xs (d + 25) (mm_mr mm_m25) (mm_mk mm_m25) (fun r S' => r = some (if zz_ks S s.toNat = -1 then 0 else 1) ∧ S' = zz_lf S s.toNat) 2 [some (.inr (94, none)), some (.inl s), some (.inl k)] [] (T) := by
    intro k9
    induction k9 with
    | zero =>
      intro k T hm h1 h3 h2
      exfalso
      omega
    | succ k9 ih =>
      intro k T hm h1 h3 h2
      refine qq_fsound hxs (sp_37_ok hxs (d + 0)) [2] 300 ?_
      repeat' first | apply And.intro | intro _ | (simp only [qq_tab]) | (simp only [qq_pl])
      all_goals (
        (have tl : ∀ k2 : Int, zz_lay T s.toNat k2 = zz_lay S s.toNat k2 := fun k2 => by
           rcases h3 with e | ⟨j, e⟩
           · rw [e]
           · rw [e, zz_lay_lay]
         have t95 : T 95 = S 95 := by
           rcases h3 with e | ⟨j, e⟩
           · rw [e]
           · rw [e]; exact zz_lay_ne (by omega)
         (try simp only [tl, t95] at *)
         have ob1 : -1 ≤ zz_cO (zz_lay S s.toNat k) s.toNat ∧ zz_cO (zz_lay S s.toNat k) s.toNat ≤ 300 := ob k
         have ob0 : -1 ≤ zz_cO (zz_lay S s.toNat 0) s.toNat ∧ zz_cO (zz_lay S s.toNat 0) s.toNat ≤ 300 := ob 0
         first
         | omega
         | exact Or.inl trivial
         | exact Or.inr trivial
         | exact zz_p1 (zz_lay_nb g1)
         | (rw [zz_lay_ne (a := 49) (by omega), zz_lay_ne (a := 50) (by omega)]; exact hp.2.2.1)
         | exact zz_p1 (zz_lay_nm g2 g3.1 (by omega) g3.2)
         | (rw [zz_lay_ne (a := 4) (by omega)]; omega)
         | (have kl : k < 8 := by omega
            have ek : ((k.toNat : Nat) : Int) = k := by omega
            first
            | (have z9 : zz_oc S s.toNat k = -1 := by assumption
               have e : zz_ks S s.toNat = (k.toNat : Nat) := zz_fst_at (p := fun k : Nat => zz_oc S s.toNat k = -1) (by rw [ek]; exact z9) (fun j hj => h2 j (by omega)) (by omega)
               first
               | (rw [if_neg (by rw [e]; omega)]; done)
               | (unfold zz_lf; rw [if_neg (by rw [e]; omega), e, ek]; done))
            | (have z9 : ¬ zz_oc S s.toNat k = -1 := by assumption
               exact ih _ _ (by omega) (by omega) (Or.inr ⟨k, rfl⟩) (zz_ext (P := fun j : Nat => zz_oc S s.toNat j = -1) h2 (by rw [ek]; exact z9) (by omega))))
         | (have ek : k = 8 := by omega
            have e : zz_ks S s.toNat = -1 := zz_fst_no.mpr (fun j hj => h2 j (by omega))
            first
            | (rw [if_pos e]; done)
            | (unfold zz_lf; rw [if_pos e]; first | done | rfl))))
  have h : qq_p xs (d + 25) (mm_mr mm_m25) (mm_mk mm_m25) (fun r S' => r = some (if zz_ks S s.toNat = -1 then 0 else 1) ∧ S' = zz_lf S s.toNat) 0 (qq_ent mm_m25 [.inr (94, none), .inl s]) [] S := by
    refine qq_fsound hxs (sp_37_ok hxs (d + 0)) [2] 300 ?_
    repeat' first | apply And.intro | intro _ | (simp only [qq_tab]) | (simp only [qq_pl])
    all_goals (first | omega | exact L 9 0 S (by omega) (by omega) (Or.inl rfl) (fun j hj => by omega))
  obtain ⟨r, S', hE, e1, e2⟩ := qq_call_of (y := 25) rfl (Nat.le_of_ble_eq_true rfl) h
  rw [e1, e2] at hE
  exact hE
noncomputable def sp_38 : qq_P := fun y as S => match y, as with
  | 25, [.inr (94, none), .inl s] => some ((0 ≤ s ∧ s < S 4 0) ∧ zz_p (zz_nb S) = 1 ∧ zz_p (zz_pl (S 49) (S 50)) = 1 ∧ zz_p (zz_tn S s.toNat) = 1, some (if zz_ks S s.toNat = -1 then 0 else 1), zz_lf S s.toNat)
  | _, _ => sp_37 y as S
theorem sp_38_ok {xs : List Int32} (hxs : xs.length ≤ 2048) (d : Nat) : qq_ok xs (d + 26) sp_38 := by
  intro y as S pre r S2 h hp
  unfold sp_38 at h
  split at h
  · cases h; exact f25 hxs (d + 0) S _ hp
  · exact sp_37_ok hxs (d + 1) y as S pre r S2 h hp
/-- all names put, as far as s -/
noncomputable def zz_pa (S : qq_S) : Nat → qq_S × Int
  | 0 => (S, 0)
  | s + 1 => if 0 < S 95 s then (zz_lf (zz_pa S s).1 s, (zz_pa S s).2 + (if zz_ks (zz_pa S s).1 s = -1 then 0 else 1)) else zz_pa S s
theorem zz_lf_ne {S : qq_S} {s a : Nat} (h : ¬ (96 ≤ a ∧ a ≤ 100)) : zz_lf S s a = S a := by
  unfold zz_lf
  split
  · rw [qq_ueq (by omega), zz_lay_ne (by omega)]
  · rw [qq_ueq (by omega), zz_lay_ne (by omega)]
theorem zz_lf_other {S : qq_S} {s a t : Nat} (h : ¬ t = s) : zz_lf S s a t = S a t := by
  unfold zz_lf
  have l : ∀ k, zz_lay S s k a t = S a t := fun k => by
    unfold zz_lay
    rw [qq_un (Or.inr h), qq_un (Or.inr h), qq_un (Or.inr h)]
  split
  · rw [qq_un (Or.inr h), l]
  · rw [qq_un (Or.inr h), l]
theorem zz_pa_ne (S : qq_S) {a : Nat} (h : ¬ (96 ≤ a ∧ a ≤ 100)) : ∀ s, (zz_pa S s).1 a = S a
  | 0 => rfl
  | s + 1 => by
    unfold zz_pa
    split
    · show zz_lf _ _ a = _
      rw [zz_lf_ne h]
      exact zz_pa_ne S h s
    · exact zz_pa_ne S h s
theorem zz_pa_oth (S : qq_S) {a t : Nat} : ∀ s, s ≤ t → (zz_pa S s).1 a t = S a t
  | 0, _ => rfl
  | s + 1, h => by
    unfold zz_pa
    split
    · show zz_lf _ _ a t = _
      rw [zz_lf_other (by omega)]
      exact zz_pa_oth S s (by omega)
    · exact zz_pa_oth S s (by omega)
theorem zz_ks_bd (S : qq_S) (s : Nat) : -1 ≤ zz_ks S s ∧ zz_ks S s ≤ 7 := by
  have := zz_fst_bd (fun k : Nat => zz_oc S s k = -1) 8
  unfold zz_ks
  omega
/-- what the sides are as far as s: those that were laid are in their bounds -/
theorem zz_pa_tn {S : qq_S} (hl : zz_pl (S 49) (S 50)) (hn : ∀ t : Nat, t < 10 → 0 ≤ S 95 t ∧ S 95 t ≤ 12) (hs : ∀ t : Nat, t < 10 → S 96 t = -1) : ∀ s, s ≤ 10 → ∀ t : Nat, t < s → (-1 ≤ (zz_pa S s).1 96 t ∧ (zz_pa S s).1 96 t ≤ 7) ∧ (¬ (zz_pa S s).1 96 t = -1 → zz_bn (zz_pa S s).1 t)
  | 0, _, t, ht => by omega
  | s + 1, h10, t, ht => by
    have ih := zz_pa_tn hl hn hs s (by omega)
    unfold zz_pa
    by_cases c : 0 < S 95 s
    · rw [if_pos c]
      show (-1 ≤ zz_lf (zz_pa S s).1 s 96 t ∧ zz_lf (zz_pa S s).1 s 96 t ≤ 7) ∧ (¬ zz_lf (zz_pa S s).1 s 96 t = -1 → zz_bn (zz_lf (zz_pa S s).1 s) t)
      by_cases e : t = s
      · subst e
        have k := zz_ks_bd (zz_pa S t).1 t
        have q := hl t (by omega)
        have o96 : (zz_pa S t).1 96 t = -1 := by rw [zz_pa_oth S t (Nat.le_refl t)]; exact hs t (by omega)
        unfold zz_bn zz_lf
        by_cases z : zz_ks (zz_pa S t).1 t = -1
        · rw [if_pos z]
          have e96 : qq_u (zz_lay (zz_pa S t).1 t 0) 97 t (zz_oc (zz_pa S t).1 t 0) 96 t = -1 := by rw [qq_un' (by decide), zz_lay_ne (by omega)]; exact o96
          rw [e96]
          exact ⟨by omega, fun w => absurd rfl w⟩
        · rw [if_neg z]
          have l := zz_lay_at (S := (zz_pa S t).1) (s := t) (k := zz_ks (zz_pa S t).1 t) (t := t)
          rw [qq_us, qq_un' (by decide), qq_un' (by decide), qq_un' (by decide), l.1, l.2.1, l.2.2, if_pos rfl, if_pos rfl, if_pos rfl, zz_pa_ne S (by omega), zz_pa_ne S (by omega), zz_pa_ne S (by omega)]
          have b1 := zz_nx_bd (k := zz_ks (zz_pa S t).1 t) ⟨q.1, q.2.1⟩ (hn t (by omega))
          have b2 := zz_ny_bd (k := zz_ks (zz_pa S t).1 t) q.2.2
          have := hn t (by omega)
          exact ⟨by omega, fun _ => by omega⟩
      · unfold zz_bn
        rw [zz_lf_other e, zz_lf_other e, zz_lf_other e, zz_lf_other e]
        exact ih t (by omega)
    · rw [if_neg c]
      by_cases e : t = s
      · subst e
        have o96 : (zz_pa S t).1 96 t = -1 := by rw [zz_pa_oth S t (Nat.le_refl t)]; exact hs t (by omega)
        rw [o96]
        exact ⟨by omega, fun w => absurd rfl w⟩
      · exact ih t (by omega)
def zz_f0 (S : qq_S) : qq_S := zz_fl (zz_fl S 96 (-1) 10) 97 (-1) 10
theorem zz_f0_ne {S : qq_S} {a : Nat} (h : ¬ (a = 96 ∨ a = 97)) : zz_f0 S a = S a := by
  funext j
  unfold zz_f0 zz_fl
  rw [if_neg (by omega), if_neg (by omega)]
theorem zz_f0_at {S : qq_S} {t : Nat} (ht : t < 10) : zz_f0 S 96 t = -1 ∧ zz_f0 S 97 t = -1 := by
  unfold zz_f0 zz_fl
  rw [if_neg (by omega), if_pos ⟨rfl, by omega⟩, if_pos ⟨rfl, by omega⟩]
  exact ⟨rfl, rfl⟩
theorem zz_nb_of {S T : qq_S} (h : zz_nb S) (hf : ∀ c : Nat, 4 ≤ c → c < 48 → T c = S c) : zz_nb T := by
  unfold zz_nb at *
  obtain ⟨h1, h2, h3, h4⟩ := h
  rw [hf 4 (by omega) (by omega), hf 22 (by omega) (by omega), hf 23 (by omega) (by omega), hf 24 (by omega) (by omega), hf 25 (by omega) (by omega), hf 7 (by omega) (by omega)]
  refine ⟨h1, h2, fun t ht => ?_, fun l hl => ?_⟩
  · rw [hf (26 + 1 + t) (by omega) (by omega), hf (37 + 1 + t) (by omega) (by omega)]
    exact h3 t ht
  · rw [hf (8 + 1 + l) (by omega) (by omega), hf (15 + 1 + l) (by omega) (by omega)]
    exact h4 l hl
set_option maxRecDepth 20000 in
theorem f24 {xs : List Int32} (hxs : xs.length ≤ 2048) (d : Nat) (S : qq_S) (hp : zz_p (zz_nb S) = 1 ∧ zz_p (zz_pl (S 49) (S 50)) = 1 ∧ zz_p (∀ t : Nat, t < 10 → 0 ≤ S 95 t ∧ S 95 t ≤ 12) = 1) : qq_E xs (d + 27) 24 [.inr (94, none)] S (some ((zz_pa (zz_f0 S) (S 4 0).toNat).2)) ((zz_pa (zz_f0 S) (S 4 0).toNat).1) := by
  have g1 := zz_pi1.mp hp.1
  have g2 := zz_pi1.mp hp.2.1
  have g3 := zz_pi1.mp hp.2.2
  have n0 := g1.1
  have z49 : zz_f0 S 49 = S 49 := zz_f0_ne (by omega)
  have z50 : zz_f0 S 50 = S 50 := zz_f0_ne (by omega)
  have z95 : zz_f0 S 95 = S 95 := zz_f0_ne (by omega)
  have z4 : zz_f0 S 4 = S 4 := zz_f0_ne (by omega)
  have tn := zz_pa_tn (S := zz_f0 S) (by rw [z49, z50]; exact g2) (by rw [z95]; exact g3) (fun t ht => (zz_f0_at ht).1)
  have L : ∀ (k9 : Nat) (s c : Int) (T : qq_S), S 4 0 - s < (k9 : Int) → (0 ≤ s ∧ s ≤ S 4 0) → (T = (zz_pa (zz_f0 S) s.toNat).1) → (c = (zz_pa (zz_f0 S) s.toNat).2) → qq_p xs (d + 26) (mm_mr mm_m24) (mm_mk mm_m24) (fun r S' => r = some ((zz_pa (zz_f0 S) (S 4 0).toNat).2) ∧ S' = (zz_pa (zz_f0 S) (S 4 0).toNat).1) 8 [some (.inr (94, none)), some (.inl c), some (.inl s)] [] (T) := by
    intro k9
    induction k9 with
    | zero =>
      intro s c T hm h1 h2 h3
      exfalso
      omega
    | succ k9 ih =>
      intro s c T hm h1 h2 h3
      refine qq_fsound hxs (sp_38_ok hxs (d + 0)) [8] 300 ?_
      repeat' first | apply And.intro | intro _ | (simp only [qq_tab]) | (simp only [qq_pl])
      all_goals (
        (have t4 : T 4 = S 4 := by rw [h2, zz_pa_ne _ (by omega), z4]
         have t95 : T 95 = S 95 := by rw [h2, zz_pa_ne _ (by omega), z95]
         have t49 : T 49 = S 49 := by rw [h2, zz_pa_ne _ (by omega), z49]
         have t50 : T 50 = S 50 := by rw [h2, zz_pa_ne _ (by omega), z50]
         have e1 : (s + 1).toNat = s.toNat + 1 := by omega
         have kb := zz_ks_bd T s.toNat
         have t40 : T 4 0 = S 4 0 := by rw [t4]
         have t9s : T 95 s.toNat = S 95 s.toNat := by rw [t95]
         first
         | omega
         | (have es : s = S 4 0 := by omega
            subst es
            first | (rw [h3]; done) | exact h2)
         | (have sl : s < S 4 0 := by omega
            have q := g3 s.toNat (by omega)
            first
            | omega
            | exact zz_p1 (zz_nb_of g1 (fun c c1 c2 => by rw [h2, zz_pa_ne _ (by omega)]; exact zz_f0_ne (by omega)))
            | (rw [t49, t50]; exact hp.2.1)
            | (refine zz_p1 ⟨by rw [t95]; exact q, fun t ht => ?_⟩
               rw [h2]
               exact tn s.toNat (by omega) t ht)
            | (split <;> omega)
            | (have c0 : T 95 s.toNat ≤ 0 := by assumption
               refine ih _ _ _ (by omega) (by omega) ?_ ?_
               · rw [e1]; conv => rhs; unfold zz_pa
                 rw [z95, if_neg (by omega)]; exact h2
               · rw [e1]; conv => rhs; unfold zz_pa
                 rw [z95, if_neg (by omega)]; exact h3)
            | (have c0 : 0 < S 95 s.toNat := by omega
               by_cases kz : zz_ks T s.toNat = -1
               · (try rw [if_pos kz] at *)
                 first
                 | omega
                 | (refine ih _ _ _ (by omega) (by omega) ?_ ?_
                    · rw [e1]; conv => rhs; unfold zz_pa
                      rw [z95, if_pos c0, ← h2]
                    · rw [e1]; conv => rhs; unfold zz_pa
                      rw [z95, if_pos c0, ← h2, ← h3, if_pos kz]
                      omega)
               · (try rw [if_neg kz] at *)
                 first
                 | omega
                 | (refine ih _ _ _ (by omega) (by omega) ?_ ?_
                    · rw [e1]; conv => rhs; unfold zz_pa
                      rw [z95, if_pos c0, ← h2]
                    · rw [e1]; conv => rhs; unfold zz_pa
                      rw [z95, if_pos c0, ← h2, ← h3, if_neg kz])))))
  have h : qq_p xs (d + 26) (mm_mr mm_m24) (mm_mk mm_m24) (fun r S' => r = some ((zz_pa (zz_f0 S) (S 4 0).toNat).2) ∧ S' = (zz_pa (zz_f0 S) (S 4 0).toNat).1) 0 (qq_ent mm_m24 [.inr (94, none)]) [] S := by
    refine qq_fsound hxs (sp_38_ok hxs (d + 0)) [8] 300 ?_
    repeat' first | apply And.intro | intro _ | (simp only [qq_tab]) | (simp only [qq_pl])
    all_goals (first | omega | trivial | exact L (S 4 0 + 1).toNat 0 0 (zz_f0 S) (by omega) (by omega) rfl rfl)
  obtain ⟨r, S', hE, e1, e2⟩ := qq_call_of (y := 24) rfl (Nat.le_of_ble_eq_true rfl) h
  rw [e1, e2] at hE
  exact hE
noncomputable def sp_39 : qq_P := fun y as S => match y, as with
  | 24, [.inr (94, none)] => some (zz_p (zz_nb S) = 1 ∧ zz_p (zz_pl (S 49) (S 50)) = 1 ∧ zz_p (∀ t : Nat, t < 10 → 0 ≤ S 95 t ∧ S 95 t ≤ 12) = 1, some ((zz_pa (zz_f0 S) (S 4 0).toNat).2), (zz_pa (zz_f0 S) (S 4 0).toNat).1)
  | _, _ => sp_38 y as S
theorem sp_39_ok {xs : List Int32} (hxs : xs.length ≤ 2048) (d : Nat) : qq_ok xs (d + 27) sp_39 := by
  intro y as S pre r S2 h hp
  unfold sp_39 at h
  split at h
  · cases h; exact f24 hxs (d + 0) S hp
  · exact sp_38_ok hxs (d + 1) y as S pre r S2 h hp
