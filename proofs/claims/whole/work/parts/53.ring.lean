set_option maxRecDepth 20000 in
theorem f39 {xs : List Int32} (hxs : xs.length ≤ 2048) (d : Nat) (S : qq_S) (a : Int) (b : Int) (hp : (-1000 ≤ a ∧ a ≤ 1000 ∧ -1000 ≤ b ∧ b ≤ 1000) ∧ zz_p (¬ (a = 0 ∧ b = 0)) = 1) : qq_E xs (d + 1) 39 [.inl a, .inl b] S (some (zz_td a b)) (S) := by
  have hz := zz_pi1.mp hp.2
  have h : qq_p xs (d + 0) (mm_mr mm_m39) (mm_mk mm_m39) (fun r S' => r = some (zz_td a b) ∧ S' = S) 0 (qq_ent mm_m39 [.inl a, .inl b]) [] S := by
    refine qq_fsound hxs (sp_0_ok hxs (d + 0)) [] 300 ?_
    repeat' first | apply And.intro | intro _ | (simp only [qq_tab]) | (simp only [qq_pl])
    all_goals (first | rfl | omega | (unfold zz_td zz_abs; generalize hA : (if 0 ≤ a then a else -a) = A at *; generalize hB : (if 0 ≤ b then b else -b) = B at *; have h1 : (0 ≤ a ∧ A = a) ∨ (a < 0 ∧ A = -a) := (by rw [← hA]; split <;> omega); have h2 : (0 ≤ b ∧ B = b) ∨ (b < 0 ∧ B = -b) := (by rw [← hB]; split <;> omega); clear hA hB; (repeat' split) <;> first | rfl | (exfalso; omega)) | (repeat' split <;> omega))
  obtain ⟨r, S', hE, e1, e2⟩ := qq_call_of (y := 39) rfl (Nat.le_of_ble_eq_true rfl) h
  rw [e1, e2] at hE
  exact hE
noncomputable def sp_32 : qq_P := fun y as S => match y, as with
  | 39, [.inl a, .inl b] => some ((-1000 ≤ a ∧ a ≤ 1000 ∧ -1000 ≤ b ∧ b ≤ 1000) ∧ zz_p (¬ (a = 0 ∧ b = 0)) = 1, some (zz_td a b), S)
  | _, _ => sp_31 y as S
theorem sp_32_ok {xs : List Int32} (hxs : xs.length ≤ 2048) (d : Nat) : qq_ok xs (d + 21) sp_32 := by
  intro y as S pre r S2 h hp
  unfold sp_32 at h
  split at h
  · cases h; exact f39 hxs (d + 20) S _ _ hp
  · exact sp_31_ok hxs (d + 0) y as S pre r S2 h hp
/-- the round R with n put in where it belongs -/
def zz_ri (X Y : Nat → Int) (s : Nat) (R R2 : Nat → Int) (dg n t : Nat) : Prop := t ≤ dg ∧ (∀ k, k < t → R2 k = R k) ∧ R2 t = n ∧ (∀ k, t < k → k ≤ dg → R2 k = R (k - 1)) ∧ (∀ i j, i < j → j < dg + 1 → zz_ahead X Y s (R2 i).toNat (R2 j).toNat)
theorem zz_ri_of {X Y : Nat → Int} {s : Nat} {R R2 : Nat → Int} {dg n t : Nat} (ht : t ≤ dg) (h1 : ∀ k, k < t → R2 k = R k) (h2 : R2 t = n) (h3 : ∀ k, t < k → k ≤ dg → R2 k = R (k - 1))
    (hs : ∀ i j, i < j → j < dg → zz_ahead X Y s (R i).toNat (R j).toNat) (hd : ∀ i, i < dg → 0 ≤ R i ∧ ¬ R i = n ∧ ¬ (X (R i).toNat - X s = 0 ∧ Y (R i).toNat - Y s = 0)) (hn : ¬ (X n - X s = 0 ∧ Y n - Y s = 0))
    (a1 : ∀ k, t ≤ k → k < dg → zz_ahead X Y s n (R k).toNat) (a2 : 0 < t → ¬ zz_ahead X Y s n (R (t - 1)).toNat) : zz_ri X Y s R R2 dg n t := by
  have lo : ∀ k, k < t → zz_ahead X Y s (R k).toNat n := by
    intro k hk
    have d1 := hd (t - 1) (by omega)
    have last : zz_ahead X Y s (R (t - 1)).toNat n := zz_ahead_tot (fun z => d1.2.1 (by omega)) (a2 (by omega))
    by_cases e : k = t - 1
    · rw [e]; exact last
    · exact zz_ahead_tr (hd k (by omega)).2.2 d1.2.2 hn (hs k (t - 1) (by omega) (by omega)) last
  refine ⟨ht, h1, h2, h3, fun i j hij hj => ?_⟩
  rcases Nat.lt_trichotomy i t with zi | zi | zi
  · rw [h1 i zi]
    rcases Nat.lt_trichotomy j t with zj | zj | zj
    · rw [h1 j zj]
      exact hs i j hij (by omega)
    · rw [zj, h2, Int.toNat_natCast]
      exact lo i zi
    · rw [h3 j zj (by omega)]
      exact hs i (j - 1) (by omega) (by omega)
  · rw [zi, h2, Int.toNat_natCast, h3 j (by omega) (by omega)]
    exact a1 (j - 1) (by omega) (by omega)
  · rw [h3 i zi (by omega), h3 j (by omega) (by omega)]
    exact hs (i - 1) (j - 1) (by omega) (by omega)
set_option maxRecDepth 20000 in
theorem f40 {xs : List Int32} (hxs : xs.length ≤ 2048) (d : Nat) (S : qq_S) (s : Int) (n : Int) (hp : (0 ≤ s ∧ s < S 4 0 ∧ 0 ≤ n ∧ n < S 4 0 ∧ ¬ s = n ∧ S 4 0 ≤ 10) ∧ (0 ≤ S 25 s.toNat ∧ S 25 s.toNat ≤ 8) ∧ (∀ i : Nat, (i : Int) < S 4 0 → 0 ≤ S 5 i ∧ S 5 i ≤ 1000 ∧ 0 ≤ S 6 i ∧ S 6 i ≤ 1000) ∧ (∀ i j : Nat, (i : Int) < S 4 0 → (j : Int) < S 4 0 → S 5 i = S 5 j → S 6 i = S 6 j → i = j) ∧ (∀ i : Nat, (i : Int) < S 25 s.toNat → 0 ≤ (S (26 + 1 + s.toNat)) i ∧ (S (26 + 1 + s.toNat)) i < S 4 0 ∧ ¬ (S (26 + 1 + s.toNat)) i = s ∧ ¬ (S (26 + 1 + s.toNat)) i = n) ∧ (∀ i j : Nat, i < j → (j : Int) < S 25 s.toNat → zz_ahead (S 5) (S 6) s.toNat ((S (26 + 1 + s.toNat)) i).toNat ((S (26 + 1 + s.toNat)) j).toNat)) : ∃ S2, qq_E xs (d + 22) 40 [.inr (4, none), .inl s, .inl n] S (none) S2 ∧ ((∀ a : Nat, ¬ a = 25 → ¬ a = 26 + 1 + s.toNat → S2 a = S a) ∧ S2 25 s.toNat = S 25 s.toNat + 1 ∧ (∀ j : Nat, ¬ j = s.toNat → S2 25 j = S 25 j) ∧ ∃ t, zz_ri (S 5) (S 6) s.toNat (S (26 + 1 + s.toNat)) (S2 (26 + 1 + s.toNat)) (S 25 s.toNat).toNat n.toNat t) := by
  obtain ⟨g1, g2, g3, g4, g5, g6⟩ := hp
  have L : ∀ (k9 : Nat) (t : Int) (T : qq_S), t < (k9 : Int) → (0 ≤ t ∧ t ≤ S 25 s.toNat) → (∀ a : Nat, ¬ a = 26 + 1 + s.toNat → T a = S a) → ((∀ k : Nat, (k : Int) < t → T (26 + 1 + s.toNat) k = (S (26 + 1 + s.toNat)) k) ∧ (∀ k : Nat, t < k → (k : Int) ≤ S 25 s.toNat → T (26 + 1 + s.toNat) k = (S (26 + 1 + s.toNat)) (k - 1))) → (∀ k : Nat, t ≤ k → (k : Int) < S 25 s.toNat → zz_ahead (S 5) (S 6) s.toNat n.toNat ((S (26 + 1 + s.toNat)) k).toNat) → qq_p xs (d + 21) (mm_mr mm_m40) (mm_mk mm_m40) (fun r S2 => r = none ∧ zz_p (((∀ a : Nat, ¬ a = 25 → ¬ a = 26 + 1 + s.toNat → S2 a = S a) ∧ S2 25 s.toNat = S 25 s.toNat + 1 ∧ (∀ j : Nat, ¬ j = s.toNat → S2 25 j = S 25 j) ∧ ∃ t, zz_ri (S 5) (S 6) s.toNat (S (26 + 1 + s.toNat)) (S2 (26 + 1 + s.toNat)) (S 25 s.toNat).toNat n.toNat t)) = 1) 7 [some (.inr (4, none)), some (.inl s), some (.inl n), some (.inl t)] [] (T) := by
    intro k9
    induction k9 with
    | zero =>
      intro t T hm h1 h5 h6 h7
      exfalso
      omega
    | succ k9 ih =>
      intro t T hm h1 h5 h6 h7
      refine qq_fsound hxs (sp_32_ok hxs (d + 0)) [7] 300 ?_
      repeat' first | apply And.intro | intro _ | (simp only [qq_tab]) | (simp only [qq_pl])
      all_goals (
        (first
         | omega
         | rfl
         | (have t0 : t = 0 := by omega
            (have qa : ∀ a : Nat, ¬ a = 25 → ¬ a = 26 + 1 + s.toNat → (qq_u (qq_u T (26 + 1 + s.toNat) t.toNat n) 25 s.toNat (qq_u T (26 + 1 + s.toNat) t.toNat n 25 s.toNat + 1)) a = S a := fun a n1 n2 => by
               rw [qq_ueq n1, qq_ueq n2]
               exact h5 a n2
             have q25 : qq_u T (26 + 1 + s.toNat) t.toNat n 25 = S 25 := by
               rw [qq_ueq (show 25 ≠ 26 + 1 + s.toNat by omega)]
               exact h5 25 (by omega)
             have qr : (qq_u (qq_u T (26 + 1 + s.toNat) t.toNat n) 25 s.toNat (qq_u T (26 + 1 + s.toNat) t.toNat n 25 s.toNat + 1)) (26 + 1 + s.toNat) = qq_u T (26 + 1 + s.toNat) t.toNat n (26 + 1 + s.toNat) := qq_ueq (by omega)
             refine zz_p1 ⟨qa, ?_, fun j hj => ?_, t.toNat, ?_⟩
             · rw [qq_us, q25]
             · rw [qq_un (Or.inr hj), q25]
             · rw [qr]
               refine zz_ri_of (by omega) (fun k hk => ?_) (by rw [qq_us]; omega) (fun k hk hc => ?_) (fun i j hij hj => g6 i j hij (by omega)) (fun i hi => ?_) (fun z => ?_) (fun k hk hc => h7 k (by omega) (by omega)) (fun z => by omega)
               · rw [qq_un (Or.inr (by omega))]
                 exact h6.1 k (by omega)
               · rw [qq_un (Or.inr (by omega))]
                 exact h6.2 k (by omega) (by omega)
               · have r := g5 i (by omega)
                 refine ⟨r.1, by omega, fun z => ?_⟩
                 have := g4 (S (26 + 1 + s.toNat) i).toNat s.toNat (by omega) (by omega) (by omega) (by omega)
                 omega
               · have := g4 n.toNat s.toNat (by omega) (by omega) (by omega) (by omega)
                 omega))
         | (have tp : 0 < t := by omega
            have r := g5 (t - 1).toNat (by omega)
            have ev : T (26 + 1 + s.toNat) (t - 1).toNat = S (26 + 1 + s.toNat) (t - 1).toNat := h6.1 (t - 1).toNat (by omega)
            have x5 : T 5 = S 5 := h5 5 (by omega)
            have x6 : T 6 = S 6 := h5 6 (by omega)
            have x1 := g3 n.toNat (by omega)
            have x2 := g3 s.toNat (by omega)
            have x3 := g3 (S (26 + 1 + s.toNat) (t - 1).toNat).toNat (by omega)
            have ai := zz_ah_iff (X := S 5) (Y := S 6) (s := s.toNat) (a := n.toNat) (b := (S (26 + 1 + s.toNat) (t - 1).toNat).toNat)
            rw [show ((n.toNat : Nat) : Int) = n by omega, show (((S (26 + 1 + s.toNat) (t - 1).toNat).toNat : Nat) : Int) = S (26 + 1 + s.toNat) (t - 1).toNat by omega] at ai
            have a01 := zz_ah01 (S 5 n.toNat - S 5 s.toNat) (S 6 n.toNat - S 6 s.toNat) (S 5 (S (26 + 1 + s.toNat) (t - 1).toNat).toNat - S 5 s.toNat) (S 6 (S (26 + 1 + s.toNat) (t - 1).toNat).toNat - S 6 s.toNat) n (S (26 + 1 + s.toNat) (t - 1).toNat)
            (try simp only [x5, x6, ev] at *)
            first
            | omega
            | (have nz : ¬ zz_ah (S 5 n.toNat - S 5 s.toNat) (S 6 n.toNat - S 6 s.toNat) (S 5 (S (26 + 1 + s.toNat) (t - 1).toNat).toNat - S 5 s.toNat) (S 6 (S (26 + 1 + s.toNat) (t - 1).toNat).toNat - S 6 s.toNat) n (S (26 + 1 + s.toNat) (t - 1).toNat) = 0 := by assumption
               have ah := ai.mp (by omega)
               refine ih _ _ ?_ ?_ ?_ ?_ ?_
               · omega
               · omega
               · intro a ha
                 rw [qq_ueq ha]
                 exact h5 a ha
               · refine ⟨fun k hk => ?_, fun k hk hc => ?_⟩
                 · rw [qq_un (Or.inr (by omega))]
                   exact h6.1 k (by omega)
                 · by_cases ek : k = t.toNat
                   · subst ek
                     rw [qq_us]
                     congr 1
                     omega
                   · rw [qq_un (Or.inr ek)]
                     exact h6.2 k (by omega) hc
               · intro k hk hc
                 by_cases ek : k = (t - 1).toNat
                 · rw [ek]; exact ah
                 · exact h7 k (by omega) hc)
            | (have z0 : zz_ah (S 5 n.toNat - S 5 s.toNat) (S 6 n.toNat - S 6 s.toNat) (S 5 (S (26 + 1 + s.toNat) (t - 1).toNat).toNat - S 5 s.toNat) (S 6 (S (26 + 1 + s.toNat) (t - 1).toNat).toNat - S 6 s.toNat) n (S (26 + 1 + s.toNat) (t - 1).toNat) = 0 := by assumption
               have nah : ¬ zz_ahead (S 5) (S 6) s.toNat n.toNat (S (26 + 1 + s.toNat) (t - 1).toNat).toNat := fun w => by have := ai.mpr w; omega
               (have qa : ∀ a : Nat, ¬ a = 25 → ¬ a = 26 + 1 + s.toNat → (qq_u (qq_u T (26 + 1 + s.toNat) t.toNat n) 25 s.toNat (qq_u T (26 + 1 + s.toNat) t.toNat n 25 s.toNat + 1)) a = S a := fun a n1 n2 => by
                  rw [qq_ueq n1, qq_ueq n2]
                  exact h5 a n2
                have q25 : qq_u T (26 + 1 + s.toNat) t.toNat n 25 = S 25 := by
                  rw [qq_ueq (show 25 ≠ 26 + 1 + s.toNat by omega)]
                  exact h5 25 (by omega)
                have qr : (qq_u (qq_u T (26 + 1 + s.toNat) t.toNat n) 25 s.toNat (qq_u T (26 + 1 + s.toNat) t.toNat n 25 s.toNat + 1)) (26 + 1 + s.toNat) = qq_u T (26 + 1 + s.toNat) t.toNat n (26 + 1 + s.toNat) := qq_ueq (by omega)
                refine zz_p1 ⟨qa, ?_, fun j hj => ?_, t.toNat, ?_⟩
                · rw [qq_us, q25]
                · rw [qq_un (Or.inr hj), q25]
                · rw [qr]
                  refine zz_ri_of (by omega) (fun k hk => ?_) (by rw [qq_us]; omega) (fun k hk hc => ?_) (fun i j hij hj => g6 i j hij (by omega)) (fun i hi => ?_) (fun z => ?_) (fun k hk hc => h7 k (by omega) (by omega)) (fun z => by rw [show t.toNat - 1 = (t - 1).toNat by omega]; exact nah)
                  · rw [qq_un (Or.inr (by omega))]
                    exact h6.1 k (by omega)
                  · rw [qq_un (Or.inr (by omega))]
                    exact h6.2 k (by omega) (by omega)
                  · have r := g5 i (by omega)
                    refine ⟨r.1, by omega, fun z => ?_⟩
                    have := g4 (S (26 + 1 + s.toNat) i).toNat s.toNat (by omega) (by omega) (by omega) (by omega)
                    omega
                  · have := g4 n.toNat s.toNat (by omega) (by omega) (by omega) (by omega)
                    omega)))))
  have h : qq_p xs (d + 21) (mm_mr mm_m40) (mm_mk mm_m40) (fun r S2 => r = none ∧ zz_p (((∀ a : Nat, ¬ a = 25 → ¬ a = 26 + 1 + s.toNat → S2 a = S a) ∧ S2 25 s.toNat = S 25 s.toNat + 1 ∧ (∀ j : Nat, ¬ j = s.toNat → S2 25 j = S 25 j) ∧ ∃ t, zz_ri (S 5) (S 6) s.toNat (S (26 + 1 + s.toNat)) (S2 (26 + 1 + s.toNat)) (S 25 s.toNat).toNat n.toNat t)) = 1) 0 (qq_ent mm_m40 [.inr (4, none), .inl s, .inl n]) [] S := by
    refine qq_fsound hxs (sp_32_ok hxs (d + 0)) [7] 300 ?_
    repeat' first | apply And.intro | intro _ | (simp only [qq_tab]) | (simp only [qq_pl])
    all_goals (first | omega | exact L (S 25 s.toNat + 1).toNat _ S (by omega) (by omega) (fun _ _ => rfl) ⟨fun _ _ => rfl, fun k a1 a2 => by omega⟩ (fun k a1 a2 => by omega))
  obtain ⟨r, S2, hE, e1, e2⟩ := qq_call_of (y := 40) rfl (Nat.le_of_ble_eq_true rfl) h
  rw [e1] at hE
  exact ⟨S2, hE, zz_pi1.mp e2⟩
