theorem zz_vM_c {S T : qq_S} (hN : zz_N S) (hf : ∀ a : Nat, ((4 ≤ a ∧ a < 48) ∨ a = 120 ∨ a = 121 ∨ a = 123) → T a = S a) (h12 : T 115 12 = S 115 12) (h14 : T 115 14 = S 115 14) : zz_vM T = zz_vM S := by
  have gb := hN.1.1
  have mx : zz_mx T = zz_mx S := by funext s; unfold zz_mx; rw [hf 123 (by omega), h12]
  have my : zz_my T = zz_my S := by funext s; unfold zz_my; rw [hf 123 (by omega), h12]
  unfold zz_vM
  have e2 : zz_msm T = zz_msm S := by funext a b; unfold zz_msm; rw [hf 123 (by omega)]
  have e3 : zz_mstr T = zz_mstr S := by funext a; unfold zz_mstr; rw [mx, my, hf 120 (by omega), hf 121 (by omega)]
  have e6 : zz_mmt T = zz_mmt S := by funext a b; unfold zz_mmt; rw [mx, my, hf 120 (by omega), hf 121 (by omega)]
  rw [e2, e3, e6, mx, my, hf 4 (by omega), hf 120 (by omega), hf 121 (by omega), hf 123 (by omega), h14]
  refine zz_vd_c (fun _ _ => Iff.rfl) (fun _ _ _ _ _ => Iff.rfl) (fun _ _ _ _ => Iff.rfl) (fun _ _ _ _ _ => Iff.rfl) (fun _ _ _ _ _ _ _ => Iff.rfl) (fun _ _ _ _ _ _ _ _ => Iff.rfl) (fun _ _ _ _ s hs => ?_)
  unfold zz_mtr
  rw [mx, my, hf 25 (by omega), hf (26 + 1 + s) (by omega)]
/-- class state T and reference state U speak of one drawing and of the same names as far as s -/
def zz_tp (S T U : qq_S) (s : Nat) : Prop :=
  (∀ a : Nat, ¬ (a = 3 ∨ a = 53 ∨ (96 ≤ a ∧ a ≤ 100)) → T a = S a) ∧ (∀ a : Nat, ((4 ≤ a ∧ a < 48) ∨ a = 120 ∨ a = 121 ∨ a = 123 ∨ a = 125) → U a = S a) ∧ U 115 12 = S 115 12 ∧
  (∀ t : Nat, t < s → T 96 t = U 129 t ∧ T 97 t = U 130 t ∧ (¬ T 96 t = -1 → T 98 t = zz_nx (S 49 t) (S 95 t) (T 96 t) ∧ T 99 t = zz_nx (S 49 t) (S 95 t) (T 96 t) + S 95 t - 1 ∧ T 100 t = zz_ny (S 50 t) (T 96 t) ∧ 0 < S 95 t))
theorem zz_oc_mO {S T U : qq_S} {s : Nat} (hI : inv S) (hv : (zz_vC S).1 = 0) (h : zz_tp S T U s) (hs : (s : Int) < S 4 0) (hN : 0 < S 95 s) (k : Int) : zz_oc T s k = zz_mO (zz_m1 U s) s k := by
  have gN := inv_N hI
  have hP := inv_PL hI
  have gb := gN.1.1
  have gE := gN.2.2.1.1
  have al := zz_allow gN hv
  obtain ⟨h1, h2, h3, h4⟩ := h
  have nm := hI.2.2.2.2.2.2.1
  have n125 : ∀ t : Nat, (t : Int) < S 4 0 → S 125 t = S 95 t := fun t ht => ((nm.2 t (by omega)).2.2.1) ht
  have u : ∀ a : Nat, ¬ (a = 129 ∨ a = 130) → zz_m1 U s a = U a := fun a ha => zz_m1_ne ha
  have mx : zz_mx (zz_m1 U s) = zz_mx S := by
    funext t
    unfold zz_mx
    rw [u 123 (by omega), u 115 (by omega), h2 123 (by omega), h3]
  have my : zz_my (zz_m1 U s) = zz_my S := by
    funext t
    unfold zz_my
    rw [u 123 (by omega), u 115 (by omega), h2 123 (by omega), h3]
  have pz : ∀ a : Nat, (a : Int) < S 4 0 → zz_mx S a = S 49 a ∧ zz_my S a = S 50 a := fun a ha => zz_PL_at hP ha (by omega) (al.1 a (by omega))
  have u125 : ∀ t : Nat, (t : Int) < S 4 0 → zz_m1 U s 125 t = S 95 t := fun t ht => by rw [u 125 (by omega), h2 125 (by omega)]; exact n125 t ht
  have lT : ∀ a : Nat, ¬ (98 ≤ a ∧ a ≤ 100) → zz_lay T s k a = T a := fun a ha => zz_lay_ne ha
  have t49 : T 49 = S 49 := h1 49 (by omega)
  have t50 : T 50 = S 50 := h1 50 (by omega)
  have t95 : T 95 = S 95 := h1 95 (by omega)
  have la := zz_lay_at (S := T) (s := s) (k := k) (t := s)
  rw [if_pos rfl, if_pos rfl, if_pos rfl, t49, t50, t95] at la
  have ps := pz s hs
  have eN : zz_m1 U s 125 s = S 95 s := u125 s hs
  unfold zz_oc zz_cO zz_mO
  rw [lT 4 (by omega), h1 4 (by omega)]
  have step : zz_fst (zz_Hs (zz_m1 U s) s k (zz_m1 U s 125 s).toNat) 300 = zz_fst (fun j => (j < (S 4 0).toNat ∧ (∃ i : Nat, (i : Int) < S 95 s ∧ zz_hA (zz_m1 U s) (zz_nx (S 49 s) (S 95 s) k + i) (zz_ny (S 50 s) k) j)) ∨ (200 ≤ j ∧ j < 200 + s ∧ (∃ i : Nat, (i : Int) < S 95 s ∧ zz_hC (zz_m1 U s) (zz_nx (S 49 s) (S 95 s) k + i) (zz_ny (S 50 s) k) (j - 200))) ∨ (100 ≤ j ∧ j < 100 + (S 4 2).toNat ∧ (∃ i : Nat, (i : Int) < S 95 s ∧ zz_hB (zz_m1 U s) (zz_nx (S 49 s) (S 95 s) k + i) (zz_ny (S 50 s) k) (j - 100)))) 300 := by
    refine zz_fst_c (fun j hj => ?_)
    unfold zz_Hs zz_H
    rw [eN, mx, my, ps.1, ps.2, u 4 (by omega), h2 4 (by omega)]
    constructor
    · rintro ⟨i, hi, z | z | z⟩
      · exact Or.inl ⟨z.1, i, by omega, z.2⟩
      · exact Or.inr (Or.inl ⟨z.1, z.2.1, i, by omega, z.2.2⟩)
      · exact Or.inr (Or.inr ⟨z.1, z.2.1, i, by omega, z.2.2⟩)
    · rintro (⟨z1, i, hi, z⟩ | ⟨z1, z2, i, hi, z⟩ | ⟨z1, z2, i, hi, z⟩)
      · exact ⟨i, by omega, Or.inl ⟨z1, z⟩⟩
      · exact ⟨i, by omega, Or.inr (Or.inl ⟨z1, z2, z⟩)⟩
      · exact ⟨i, by omega, Or.inr (Or.inr ⟨z1, z2, z⟩)⟩
  rw [step, zz_fst_ob (A := fun j => ∃ i : Nat, (i : Int) < S 95 s ∧ zz_hA (zz_m1 U s) (zz_nx (S 49 s) (S 95 s) k + i) (zz_ny (S 50 s) k) j) (B := fun j => ∃ i : Nat, (i : Int) < S 95 s ∧ zz_hB (zz_m1 U s) (zz_nx (S 49 s) (S 95 s) k + i) (zz_ny (S 50 s) k) j) (C := fun j => ∃ i : Nat, (i : Int) < S 95 s ∧ zz_hC (zz_m1 U s) (zz_nx (S 49 s) (S 95 s) k + i) (zz_ny (S 50 s) k) j) (by omega) (by omega) (by omega)]
  refine zz_ob_c (fun t ht => ?_) (fun e he => ?_) (fun t ht => ?_)
  · have pt := pz t (by omega)
    unfold zz_cA zz_hA
    rw [la.1, la.2.1, la.2.2, lT 49 (by omega), lT 50 (by omega), t49, t50, mx, my, pt.1, pt.2]
    constructor
    · rintro ⟨z1, z2, z3⟩
      exact ⟨(4 * S 49 t - zz_nx (S 49 s) (S 95 s) k).toNat, by omega, by omega, z1⟩
    · rintro ⟨i, hi, z1, z2⟩
      exact ⟨z2, by omega, by omega⟩
  · have m := zz_N_me gN (e := e) (by omega)
    have p1 := pz (S 22 e).toNat (by omega)
    have p2 := pz (S 23 e).toNat (by omega)
    have d := (al.2 e he).1
    have key := zz_oe_me (xa := S 49 (S 22 e).toNat) (ya := S 50 (S 22 e).toNat) (dx := S 49 (S 23 e).toNat - S 49 (S 22 e).toNat) (dy := S 50 (S 23 e).toNat - S 50 (S 22 e).toNat) (nx := zz_nx (S 49 s) (S 95 s) k) (ny := zz_ny (S 50 s) k) hN d
    rw [show S 49 (S 22 e).toNat + (S 49 (S 23 e).toNat - S 49 (S 22 e).toNat) = S 49 (S 23 e).toNat by omega, show S 50 (S 22 e).toNat + (S 50 (S 23 e).toNat - S 50 (S 22 e).toNat) = S 50 (S 23 e).toNat by omega] at key
    unfold zz_cB zz_hB
    rw [la.1, la.2.1, la.2.2, lT 49 (by omega), lT 50 (by omega), lT 22 (by omega), lT 23 (by omega), t49, t50, h1 22 (by omega), h1 23 (by omega), mx, my, u 120 (by omega), u 121 (by omega), h2 120 (by omega), h2 121 (by omega), m.2.2.2.1, m.2.2.2.2, p1.1, p1.2, p2.1, p2.2]
    exact key
  · have q := h4 t ht
    have pt := pz t (by omega)
    have lt := zz_lay_at (S := T) (s := s) (k := k) (t := t)
    rw [if_neg (by omega), if_neg (by omega), if_neg (by omega)] at lt
    unfold zz_cC zz_hC
    rw [la.1, la.2.1, la.2.2, lT 96 (by omega), lt.1, lt.2.1, lt.2.2, zz_m1_oth (show ¬ t = s by omega), mx, my, pt.1, pt.2, u125 t (by omega), ← q.1]
    constructor
    · rintro ⟨z1, z2, z3, z4⟩
      have w := q.2.2 z1
      refine ⟨(if zz_nx (S 49 s) (S 95 s) k < T 98 t then T 98 t - zz_nx (S 49 s) (S 95 s) k else 0).toNat, ?_, z1, ?_, ?_, ?_⟩
      · split <;> omega
      · omega
      · split <;> omega
      · split <;> omega
    · rintro ⟨i, hi, z1, z2, z3, z4⟩
      have w := q.2.2 z1
      exact ⟨z1, by omega, by omega, by omega⟩
theorem zz_tp_step {S T U : qq_S} {s : Nat} (hI : inv S) (hv : (zz_vC S).1 = 0) (h : zz_tp S T U s) (hs : (s : Int) < S 4 0) (t96 : T 96 s = -1) (t97 : T 97 s = -1) : zz_mk U s = (if 0 < S 95 s then zz_ks T s else -1) ∧ zz_tp S (if 0 < S 95 s then zz_lf T s else T) (zz_ms U s) (s + 1) := by
  have gN := inv_N hI
  have gb := gN.1.1
  have nm := hI.2.2.2.2.2.2.1
  have n125 : U 125 s = S 95 s := by
    rw [h.2.1 125 (by omega)]
    exact (nm.2 s (by omega)).2.2.1 hs
  have e49 : T 49 s = S 49 s := by rw [h.1 49 (by omega)]
  have e50 : T 50 s = S 50 s := by rw [h.1 50 (by omega)]
  have e95 : T 95 s = S 95 s := by rw [h.1 95 (by omega)]
  have mk : zz_mk U s = (if 0 < S 95 s then zz_ks T s else -1) := by
    unfold zz_mk
    rw [n125]
    by_cases c : 0 < S 95 s
    · rw [if_pos c, if_pos c]
      unfold zz_ks
      exact (zz_fst_c (fun j _ => by rw [zz_oc_mO hI hv h hs c])).symm
    · rw [if_neg c, if_neg c]
  refine ⟨mk, ?_⟩
  obtain ⟨h1, h2, h3, h4⟩ := h
  have hh : zz_tp S T U s := ⟨h1, h2, h3, h4⟩
  by_cases c : 0 < S 95 s
  · rw [if_pos c] at mk ⊢
    refine ⟨fun a ha => by rw [zz_lf_ne (by omega)]; exact h1 a ha, fun a ha => by rw [zz_ms_ne (by omega)]; exact h2 a ha, by rw [zz_ms_ne (by omega)]; exact h3, fun t ht => ?_⟩
    by_cases e : t = s
    · subst e
      rw [zz_ms_at, mk]
      unfold zz_lf zz_ms
      by_cases z : zz_ks T t = -1
      · rw [if_pos z, mk, if_pos z, if_pos (by omega), z]
        have a1 : qq_u (zz_lay T t 0) 97 t (zz_oc T t 0) 96 t = -1 := by rw [qq_un' (by decide), zz_lay_ne (by omega)]; exact t96
        rw [a1, qq_us, qq_us]
        refine ⟨rfl, zz_oc_mO hI hv hh hs c 0, fun w => absurd rfl w⟩
      · rw [if_neg z, mk, if_neg z]
        have l := zz_lay_at (S := T) (s := t) (k := zz_ks T t) (t := t)
        rw [if_pos rfl, if_pos rfl, if_pos rfl, e49, e50, e95] at l
        have a2 : qq_u (zz_lay T t (zz_ks T t)) 96 t (zz_ks T t) 97 t = -1 := by rw [qq_un' (by decide), zz_lay_ne (by omega)]; exact t97
        rw [qq_us, a2, qq_un' (show (98 : Nat) ≠ 96 by decide), qq_un' (show (99 : Nat) ≠ 96 by decide), qq_un' (show (100 : Nat) ≠ 96 by decide), l.1, l.2.1, l.2.2, qq_un' (show (130 : Nat) ≠ 129 by decide)]
        exact ⟨rfl, (zz_m1_at (T := U) (s := t)).2.symm, fun _ => ⟨rfl, rfl, rfl, c⟩⟩
    · rw [zz_lf_other e, zz_lf_other e, zz_lf_other e, zz_lf_other e, zz_lf_other e, zz_ms_oth e, zz_ms_oth e]
      exact h4 t (by omega)
  · rw [if_neg c] at mk ⊢
    refine ⟨h1, fun a ha => by rw [zz_ms_ne (by omega)]; exact h2 a ha, by rw [zz_ms_ne (by omega)]; exact h3, fun t ht => ?_⟩
    by_cases e : t = s
    · subst e
      have a3 : zz_ms U t 130 t = -1 := by
        unfold zz_ms
        rw [if_pos mk, if_neg (by omega)]
        exact (zz_m1_at (T := U) (s := t)).2
      rw [zz_ms_at, mk, t96, t97, a3]
      exact ⟨rfl, rfl, fun w => absurd rfl w⟩
    · rw [zz_ms_oth e, zz_ms_oth e]
      exact h4 t (by omega)
theorem zz_tp_all {S F W : qq_S} (hI : inv S) (hv : (zz_vC S).1 = 0) (hF : ∀ a : Nat, ¬ (a = 3 ∨ a = 53 ∨ (96 ≤ a ∧ a ≤ 100)) → F a = S a) (hF2 : ∀ t : Nat, t < 10 → F 96 t = -1 ∧ F 97 t = -1) (hW : ∀ a : Nat, ((4 ≤ a ∧ a < 48) ∨ a = 120 ∨ a = 121 ∨ a = 123 ∨ a = 125) → W a = S a) (hW2 : W 115 12 = S 115 12) : ∀ s : Nat, (s : Int) ≤ S 4 0 → zz_tp S (zz_pa F s).1 (zz_mpa W s).1 s ∧ (zz_pa F s).2 = (zz_mpa W s).2
  | 0, _ => ⟨⟨hF, hW, hW2, fun t ht => by omega⟩, rfl⟩
  | s + 1, h => by
    have gb := (inv_N hI).1.1
    obtain ⟨ih, ic⟩ := zz_tp_all hI hv hF hF2 hW hW2 s (by omega)
    have o := zz_pa_oth F (a := 96) (t := s) s (Nat.le_refl s)
    have o2 := zz_pa_oth F (a := 97) (t := s) s (Nat.le_refl s)
    have f := hF2 s (by omega)
    have st := zz_tp_step hI hv ih (by omega) (by rw [o]; exact f.1) (by rw [o2]; exact f.2)
    have f95 : F 95 s = S 95 s := by rw [hF 95 (by omega)]
    unfold zz_pa zz_mpa
    rw [f95]
    by_cases c : 0 < S 95 s
    · rw [if_pos c] at st ⊢
      rw [if_pos c] at st
      exact ⟨st.2, by show _ + _ = _ + _; rw [ic, st.1]⟩
    · rw [if_neg c] at st ⊢
      rw [if_neg c] at st
      refine ⟨st.2, ?_⟩
      show _ = _ + _
      rw [ic, st.1, if_pos rfl]
      omega
theorem o_put {xs : List Int32} (hxs : xs.length ≤ 2048) (S : qq_S) (hI : inv S) : qq_op xs 29 102 172 [] S := by
  have hN := inv_N hI
  have hP := inv_PL hI
  have gb := hN.1.1
  have gE := hN.2.2.1.1
  have ve := zz_v_eq hN hP (inv_sp hI).1
  have nm := hI.2.2.2.2.2.2.1
  have pre := inv_pre hI
  have e1 := f102 hxs 0 S ⟨pre.1, pre.2.1, pre.2.2, zz_p1 (fun t ht => by have := nm.2 t ht; omega)⟩
  have p3 := zz_pi1.mp (inv_prm hI).2
  by_cases cv : (zz_vC S).1 = 0
  · have es : zz_cts S = qq_u (zz_pa (zz_f0 (zz_eC S)) (S 4 0).toNat).1 3 9 0 := if_pos cv
    have er : zz_ctr S = (zz_pa (zz_f0 (zz_eC S)) (S 4 0).toNat).2 := if_pos cv
    rw [es, er] at e1
    -- the class's end state, cell by cell
    have hF : ∀ a : Nat, ¬ (a = 3 ∨ a = 53 ∨ (96 ≤ a ∧ a ≤ 100)) → zz_f0 (zz_eC S) a = S a := fun a ha => by rw [zz_f0_ne (by omega)]; exact zz_eC_ne S (by omega)
    have c1 : ∀ a : Nat, ¬ (a = 3 ∨ a = 53 ∨ (96 ≤ a ∧ a ≤ 100)) → qq_u (zz_pa (zz_f0 (zz_eC S)) (S 4 0).toNat).1 3 9 0 a = S a := fun a ha => by rw [qq_ueq (by omega), zz_pa_ne _ (by omega)]; exact hF a ha
    have vM1 : zz_vM (qq_u (zz_pa (zz_f0 (zz_eC S)) (S 4 0).toNat).1 3 9 0) = zz_vM S := zz_vM_c hN (fun a ha => c1 a (by omega)) (by rw [c1 115 (by omega)]) (by rw [c1 115 (by omega)])
    have cN : zz_cN S (qq_u (zz_pa (zz_f0 (zz_eC S)) (S 4 0).toNat).1 3 9 0) := ⟨fun a ha => c1 a (by omega), fun j _ _ => by rw [c1 115 (by omega)]⟩
    have mpt1 : zz_mpt (qq_u (zz_pa (zz_f0 (zz_eC S)) (S 4 0).toNat).1 3 9 0) := by
      unfold zz_mpt at *
      rw [c1 115 (by omega), c1 4 (by omega), c1 123 (by omega)]
      exact p3
    have e2 := f172 hxs 0 (qq_u (zz_pa (zz_f0 (zz_eC S)) (S 4 0).toNat).1 3 9 0) ⟨zz_p1 (zz_N_c cN hN), zz_p1 mpt1, zz_p1 (fun t ht => by
      rw [c1 4 (by omega)] at ht
      rw [c1 125 (by omega)]
      have := nm.2 t (by omega)
      omega)⟩
    generalize hS1 : qq_u (zz_pa (zz_f0 (zz_eC S)) (S 4 0).toNat).1 3 9 0 = S1 at *
    have v0 : (zz_vM S1).1 = 0 := by rw [vM1, ← ve]; exact cv
    have s40 : S1 4 0 = S 4 0 := by rw [c1 4 (by omega)]
    have er2 : zz_ptr S1 = (zz_mpa (zz_wS S1) (S 4 0).toNat).2 := by unfold zz_ptr; rw [if_pos v0, s40]
    have es2 : zz_pts S1 = qq_u (qq_u (zz_told (zz_mpa (zz_wS S1) (S 4 0).toNat).1 (S 4 0)) 115 26 (S 4 0)) 115 0 0 := by unfold zz_pts; rw [if_pos v0, s40]
    have cI := zz_cI_wS S1
    have hW : ∀ a : Nat, ((4 ≤ a ∧ a < 48) ∨ a = 120 ∨ a = 121 ∨ a = 123 ∨ a = 125) → zz_wS S1 a = S a := fun a ha => by rw [cI.1 a (by omega)]; exact c1 a (by omega)
    have all := zz_tp_all hI cv hF (fun t ht => zz_f0_at ht) hW (by rw [cI.2 12 (by omega), c1 115 (by omega)]) (S 4 0).toNat (by omega)
    obtain ⟨tp, tc⟩ := all
    have cb := zz_mpa_c (zz_wS S1) (S 4 0).toNat
    rw [er2, es2] at e2
    refine qq_op_of e1 e2 (by decide) (by decide) tc.symm (by unfold qq_in; omega) ?_
    -- the end
    have f1 : ∀ a : Nat, ¬ (a = 115 ∨ a = 129 ∨ a = 130 ∨ a = 131) → qq_u (qq_u (zz_told (zz_mpa (zz_wS S1) (S 4 0).toNat).1 (S 4 0)) 115 26 (S 4 0)) 115 0 0 a = zz_wS S1 a := fun a ha => by
      rw [qq_ueq (by omega), qq_ueq (by omega)]
      funext j
      unfold zz_told
      rw [if_neg (by omega), zz_mpa_ne _ (by omega)]
    have f2 : ∀ j : Nat, ¬ (j = 0 ∨ j = 26) → qq_u (qq_u (zz_told (zz_mpa (zz_wS S1) (S 4 0).toNat).1 (S 4 0)) 115 26 (S 4 0)) 115 0 0 115 j = zz_wS S1 115 j := fun j hj => by
      rw [qq_un (Or.inr (by omega)), qq_un (Or.inr (by omega))]
      unfold zz_told
      rw [if_neg (by omega), zz_mpa_ne _ (by omega)]
    have f3 : qq_u (qq_u (zz_told (zz_mpa (zz_wS S1) (S 4 0).toNat).1 (S 4 0)) 115 26 (S 4 0)) 115 0 0 115 26 = S 4 0 := by rw [qq_un (Or.inr (by decide)), qq_us]
    have f4 : qq_u (qq_u (zz_told (zz_mpa (zz_wS S1) (S 4 0).toNat).1 (S 4 0)) 115 26 (S 4 0)) 115 0 0 115 0 = 0 := qq_us
    have f5 : ∀ t : Nat, (t : Int) < S 4 0 → qq_u (qq_u (zz_told (zz_mpa (zz_wS S1) (S 4 0).toNat).1 (S 4 0)) 115 26 (S 4 0)) 115 0 0 131 t = (zz_mpa (zz_wS S1) (S 4 0).toNat).1 129 t ∧ qq_u (qq_u (zz_told (zz_mpa (zz_wS S1) (S 4 0).toNat).1 (S 4 0)) 115 26 (S 4 0)) 115 0 0 130 t = (zz_mpa (zz_wS S1) (S 4 0).toNat).1 130 t := fun t ht => by
      rw [qq_un' (by decide), qq_un' (by decide), qq_un' (by decide), qq_un' (by decide)]
      unfold zz_told
      rw [if_pos ⟨rfl, ht⟩, if_neg (by omega)]
      exact ⟨rfl, rfl⟩
    generalize qq_u (qq_u (zz_told (zz_mpa (zz_wS S1) (S 4 0).toNat).1 (S 4 0)) 115 26 (S 4 0)) 115 0 0 = V at *
    have v1 : ∀ a : Nat, ((4 ≤ a ∧ a ≤ 52) ∨ a = 95 ∨ (102 ≤ a ∧ a ≤ 114) ∨ (116 ≤ a ∧ a ≤ 121) ∨ (123 ≤ a ∧ a ≤ 125) ∨ (132 ≤ a ∧ a ≤ 133)) → V a = S a := fun a ha => by
      rw [f1 a (by omega), cI.1 a (by omega)]
      exact c1 a (by omega)
    have v2 : ∀ j : Nat, ((1 ≤ j ∧ j ≤ 3) ∨ (12 ≤ j ∧ j ≤ 17)) → V 115 j = S 115 j := fun j hj => by
      rw [f2 j (by omega), cI.2 j (by omega), c1 115 (by omega)]
    have v3 : V 3 9 = 0 := by rw [f1 3 (by omega), cI.1 3 (by omega), ← hS1, qq_us]
    have v96 : ∀ a : Nat, a = 96 ∨ a = 97 → V a = (zz_pa (zz_f0 (zz_eC S)) (S 4 0).toNat).1 a := fun a ha => by rw [f1 a (by omega), cI.1 a (by omega), ← hS1, qq_ueq (by omega)]
    have rR : ∀ b0 n0 : Nat, 5 ≤ b0 ∧ b0 + n0 ≤ 48 → qq_R V b0 n0 = qq_R S b0 n0 := fun b0 n0 hb0 => by
      funext l
      unfold qq_R
      split
      · rw [v1 _ (by omega)]
      · rfl
    obtain ⟨h1, h2, h3, h4, h5, h6, h7, h8, h9, h10, h11⟩ := hI
    unfold inv
    rw [v3, f4, f3, v1 4 (by omega), v2 1 (by omega), v2 2 (by omega), v2 3 (by omega), v2 12 (by omega), v2 13 (by omega), v2 14 (by omega), v2 15 (by omega), v2 16 (by omega), v2 17 (by omega), rR 9 6 (by omega), rR 16 6 (by omega), rR 38 10 (by omega), rR 27 10 (by omega), v1 5 (by omega), v1 6 (by omega), v1 7 (by omega), v1 22 (by omega), v1 23 (by omega), v1 24 (by omega), v1 25 (by omega), v1 48 (by omega), v1 49 (by omega), v1 50 (by omega), v1 51 (by omega), v1 52 (by omega), v1 95 (by omega), v1 102 (by omega), v1 103 (by omega), v1 104 (by omega), v1 105 (by omega), v1 106 (by omega), v1 107 (by omega), v1 108 (by omega), v1 109 (by omega), v1 110 (by omega), v1 111 (by omega), v1 112 (by omega), v1 113 (by omega), v1 114 (by omega), v1 116 (by omega), v1 117 (by omega), v1 118 (by omega), v1 119 (by omega), v1 120 (by omega), v1 121 (by omega), v1 123 (by omega), v1 124 (by omega), v1 125 (by omega), v1 132 (by omega), v1 133 (by omega)]
    refine ⟨h1, h2, h3, h4, h5, h6, ⟨by omega, fun t ht => ?_⟩, h8, h9, h10, rfl, by unfold qq_in; omega⟩
    have q := h7.2 t ht
    refine ⟨q.1, q.2.1, q.2.2.1, q.2.2.2.1, ?_, fun hl => ?_, fun hg => ?_⟩
    · rw [v96 96 (by omega), v96 97 (by omega)]
      by_cases c : t < (S 4 0).toNat
      · have k := tp.2.2.2 t c
        have b1 := zz_mpa_bd (zz_wS S1) (S 4 0).toNat t c
        -- what hinders is in its bounds
        have b2 : -1 ≤ (zz_pa (zz_f0 (zz_eC S)) (S 4 0).toNat).1 97 t ∧ (zz_pa (zz_f0 (zz_eC S)) (S 4 0).toNat).1 97 t ≤ 300 := by
          have gen : ∀ s : Nat, (s : Int) ≤ S 4 0 → ∀ t : Nat, t < 10 → -1 ≤ (zz_pa (zz_f0 (zz_eC S)) s).1 97 t ∧ (zz_pa (zz_f0 (zz_eC S)) s).1 97 t ≤ 300 := by
            intro s
            induction s with
            | zero =>
              intro _ t ht
              show -1 ≤ zz_f0 (zz_eC S) 97 t ∧ zz_f0 (zz_eC S) 97 t ≤ 300
              rw [(zz_f0_at ht).2]
              omega
            | succ s ihs =>
              intro hs t ht
              have ih := ihs (by omega) t ht
              unfold zz_pa
              split
              · show -1 ≤ zz_lf (zz_pa (zz_f0 (zz_eC S)) s).1 s 97 t ∧ zz_lf (zz_pa (zz_f0 (zz_eC S)) s).1 s 97 t ≤ 300
                by_cases e : t = s
                · subst e
                  unfold zz_lf
                  split
                  · rw [qq_us]
                    exact zz_ob_bd (by rw [zz_lay_ne (by omega), zz_pa_ne _ (by omega), hF 4 (by omega)]; omega) (by rw [zz_lay_ne (by omega), zz_pa_ne _ (by omega), hF 4 (by omega)]; omega) (by omega)
                  · rw [qq_un' (by decide), zz_lay_ne (by omega)]
                    exact ih
                · rw [zz_lf_other e]
                  exact ih
              · exact ih
          exact gen (S 4 0).toNat (by omega) t ht
        omega
      · rw [zz_pa_oth _ _ (by omega), zz_pa_oth _ _ (by omega), (zz_f0_at ht).1, (zz_f0_at ht).2]
        omega
    · have k := tp.2.2.2 t (by omega)
      have w := f5 t hl
      rw [w.1, w.2, v96 96 (by omega), v96 97 (by omega), k.1, k.2.1]
      exact ⟨rfl, rfl⟩
    · rw [v96 96 (by omega), v96 97 (by omega), zz_pa_oth _ _ (by omega), zz_pa_oth _ _ (by omega)]
      exact zz_f0_at ht
  · have es : zz_cts S = qq_u (zz_eC S) 3 9 (-6) := if_neg cv
    have er : zz_ctr S = -6 := if_neg cv
    rw [es, er] at e1
    have c1 : ∀ a : Nat, ¬ (a = 3 ∨ a = 53) → qq_u (zz_eC S) 3 9 (-6) a = S a := fun a ha => by rw [qq_ueq (by omega)]; exact zz_eC_ne S (by omega)
    have vM1 : zz_vM (qq_u (zz_eC S) 3 9 (-6)) = zz_vM S := zz_vM_c hN (fun a ha => c1 a (by omega)) (by rw [c1 115 (by omega)]) (by rw [c1 115 (by omega)])
    have cN : zz_cN S (qq_u (zz_eC S) 3 9 (-6)) := ⟨fun a ha => c1 a (by omega), fun j _ _ => by rw [c1 115 (by omega)]⟩
    have mpt1 : zz_mpt (qq_u (zz_eC S) 3 9 (-6)) := by
      unfold zz_mpt at *
      rw [c1 115 (by omega), c1 4 (by omega), c1 123 (by omega)]
      exact p3
    have e2 := f172 hxs 0 (qq_u (zz_eC S) 3 9 (-6)) ⟨zz_p1 (zz_N_c cN hN), zz_p1 mpt1, zz_p1 (fun t ht => by
      rw [c1 4 (by omega)] at ht
      rw [c1 125 (by omega)]
      have := nm.2 t (by omega)
      omega)⟩
    have v0 : ¬ (zz_vM (qq_u (zz_eC S) 3 9 (-6))).1 = 0 := by rw [vM1, ← ve]; exact cv
    have er2 : zz_ptr (qq_u (zz_eC S) 3 9 (-6)) = -6 := if_neg v0
    have es2 : zz_pts (qq_u (zz_eC S) 3 9 (-6)) = qq_u (zz_wS (qq_u (zz_eC S) 3 9 (-6))) 115 0 (-6) := if_neg v0
    rw [er2, es2] at e2
    refine qq_op_of e1 e2 (by decide) (by decide) rfl (by unfold qq_in; omega) ?_
    have cI := zz_cI_wS (qq_u (zz_eC S) 3 9 (-6))
    generalize zz_wS (qq_u (zz_eC S) 3 9 (-6)) = W at *
    have v1 : ∀ a : Nat, ((4 ≤ a ∧ a ≤ 52) ∨ (95 ≤ a ∧ a ≤ 97) ∨ (102 ≤ a ∧ a ≤ 114) ∨ (116 ≤ a ∧ a ≤ 121) ∨ (123 ≤ a ∧ a ≤ 125) ∨ (130 ≤ a ∧ a ≤ 133)) → qq_u W 115 0 (-6) a = S a := fun a ha => by
      rw [qq_ueq (by omega), cI.1 a (by omega)]
      exact c1 a (by omega)
    have v2 : ∀ j : Nat, ((1 ≤ j ∧ j ≤ 3) ∨ (12 ≤ j ∧ j ≤ 17) ∨ j = 26) → qq_u W 115 0 (-6) 115 j = S 115 j := fun j hj => by
      rw [qq_un (Or.inr (by omega)), cI.2 j (by omega), c1 115 (by omega)]
    have v3 : qq_u W 115 0 (-6) 3 9 = -6 := by rw [qq_un' (by decide), cI.1 3 (by omega), qq_us]
    have f4 : qq_u W 115 0 (-6) 115 0 = -6 := qq_us
    generalize qq_u W 115 0 (-6) = V at *
    have rR : ∀ b0 n0 : Nat, 5 ≤ b0 ∧ b0 + n0 ≤ 48 → qq_R V b0 n0 = qq_R S b0 n0 := fun b0 n0 hb0 => by
      funext l
      unfold qq_R
      split
      · rw [v1 _ (by omega)]
      · rfl
    obtain ⟨h1, h2, h3, h4, h5, h6, h7, h8, h9, h10, h11⟩ := hI
    unfold inv
    rw [v3, f4, v2 26 (by omega), v1 4 (by omega), v2 1 (by omega), v2 2 (by omega), v2 3 (by omega), v2 12 (by omega), v2 13 (by omega), v2 14 (by omega), v2 15 (by omega), v2 16 (by omega), v2 17 (by omega), rR 9 6 (by omega), rR 16 6 (by omega), rR 38 10 (by omega), rR 27 10 (by omega), v1 5 (by omega), v1 6 (by omega), v1 7 (by omega), v1 22 (by omega), v1 23 (by omega), v1 24 (by omega), v1 25 (by omega), v1 48 (by omega), v1 49 (by omega), v1 50 (by omega), v1 51 (by omega), v1 52 (by omega), v1 95 (by omega), v1 96 (by omega), v1 97 (by omega), v1 102 (by omega), v1 103 (by omega), v1 104 (by omega), v1 105 (by omega), v1 106 (by omega), v1 107 (by omega), v1 108 (by omega), v1 109 (by omega), v1 110 (by omega), v1 111 (by omega), v1 112 (by omega), v1 113 (by omega), v1 114 (by omega), v1 116 (by omega), v1 117 (by omega), v1 118 (by omega), v1 119 (by omega), v1 120 (by omega), v1 121 (by omega), v1 123 (by omega), v1 124 (by omega), v1 125 (by omega), v1 130 (by omega), v1 131 (by omega), v1 132 (by omega), v1 133 (by omega)]
    exact ⟨h1, h2, h3, h4, h5, h6, h7, h8, h9, h10, rfl, by unfold qq_in; omega⟩
