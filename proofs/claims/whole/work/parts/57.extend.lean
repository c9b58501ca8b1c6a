/-- line l goes on to s -/
def zz_ex (S T : qq_S) (l s : Nat) : Prop := zz_CE T ∧ (∀ c : Nat, ¬ (c = 4 ∨ c = 7 ∨ c = 8 + 1 + l ∨ c = 15 + 1 + l ∨ (22 ≤ c ∧ c ≤ 25) ∨ (27 ≤ c ∧ c < 37) ∨ (38 ≤ c ∧ c < 48)) → T c = S c) ∧ (∀ j : Nat, ¬ j = 2 → T 4 j = S 4 j) ∧
  (∀ j : Nat, T 7 j = if j = l then S 7 l + 1 else S 7 j) ∧ (∀ j : Nat, T (8 + 1 + l) j = if j = (S 7 l).toNat then (s : Int) else S (8 + 1 + l) j) ∧ (∀ j : Nat, T (15 + 1 + l) j = if j = s then S 7 l else S (15 + 1 + l) j) ∧
  (∀ x y : Nat, x < 10 → y < 10 → (¬ T (37 + 1 + x) y = -1 ↔ ¬ S (37 + 1 + x) y = -1 ∨ (0 < S 7 l ∧ (((x : Int) = S (8 + 1 + l) (S 7 l - 1).toNat ∧ y = s) ∨ (x = s ∧ (y : Int) = S (8 + 1 + l) (S 7 l - 1).toNat)))))
theorem zz_CE_c {S T : qq_S} (h : zz_CE S) (hf : ∀ c : Nat, (4 ≤ c ∧ c ≤ 6) ∨ (22 ≤ c ∧ c < 48) → T c = S c) : zz_CE T := by
  unfold zz_CE at *
  obtain ⟨h1, h2, h3, h4, h5, h6, h7, h8⟩ := h
  rw [hf 4 (by omega), hf 5 (by omega), hf 6 (by omega), hf 22 (by omega), hf 23 (by omega), hf 24 (by omega), hf 25 (by omega)]
  refine ⟨h1, h2, h3, h4, fun e he => ?_, fun a b ha hb => ?_, h7, fun s hs => ?_⟩
  · have q := h5 e he
    rw [hf _ (by omega), hf _ (by omega)]
    exact q
  · rw [hf _ (by omega)]
    exact h6 a b ha hb
  · rw [hf _ (by omega), hf (37 + 1 + s) (by omega)]
    exact h8 s hs
set_option maxRecDepth 20000 in
theorem f36 {xs : List Int32} (hxs : xs.length ≤ 2048) (d : Nat) (S : qq_S) (l s : Int) (hl : 0 ≤ l ∧ l < 6) (hs : 0 ≤ s ∧ s < S 4 0) (hz : 0 ≤ S 7 l.toNat ∧ S 7 l.toNat ≤ 9) (hr : 0 < S 7 l.toNat → 0 ≤ S (8 + 1 + l.toNat) (S 7 l.toNat - 1).toNat ∧ S (8 + 1 + l.toNat) (S 7 l.toNat - 1).toNat < S 4 0 ∧ ¬ S (8 + 1 + l.toNat) (S 7 l.toNat - 1).toNat = s) (hC : zz_CE S) : ∃ S2, qq_E xs (d + 24) 36 [.inr (4, none), .inl l, .inl s] S (some (S 7 l.toNat + 1)) S2 ∧ zz_ex S S2 l.toNat s.toNat := by
  have b1 := hC.1
  have h : qq_p xs (d + 23) (mm_mr mm_m36) (mm_mk mm_m36) (fun r S2 => r = some (S 7 l.toNat + 1) ∧ zz_p (zz_ex S S2 l.toNat s.toNat) = 1) 0 (qq_ent mm_m36 [.inr (4, none), .inl l, .inl s]) [] S := by
    let S0 := qq_u (qq_u (qq_u S (8 + 1 + l.toNat) (S 7 l.toNat).toNat s) (15 + 1 + l.toNat) s.toNat (S 7 l.toNat)) 7 l.toNat (S 7 l.toNat + 1)
    have es : ((s.toNat : Nat) : Int) = s := by omega
    have o1 : ∀ c : Nat, ¬ (c = 7 ∨ c = 8 + 1 + l.toNat ∨ c = 15 + 1 + l.toNat) → S0 c = S c := fun c hc => by
      show qq_u (qq_u (qq_u S (8 + 1 + l.toNat) (S 7 l.toNat).toNat s) (15 + 1 + l.toNat) s.toNat (S 7 l.toNat)) 7 l.toNat (S 7 l.toNat + 1) c = S c
      rw [qq_ueq (by omega), qq_ueq (by omega), qq_ueq (by omega)]
    have o7 : ∀ j : Nat, S0 7 j = if j = l.toNat then S 7 l.toNat + 1 else S 7 j := fun j => by
      show qq_u (qq_u (qq_u S (8 + 1 + l.toNat) (S 7 l.toNat).toNat s) (15 + 1 + l.toNat) s.toNat (S 7 l.toNat)) 7 l.toNat (S 7 l.toNat + 1) 7 j = _
      rw [qq_uat, qq_ueq (by omega), qq_ueq (by omega)]
    have o9 : ∀ j : Nat, S0 (8 + 1 + l.toNat) j = if j = (S 7 l.toNat).toNat then ((s.toNat : Nat) : Int) else S (8 + 1 + l.toNat) j := fun j => by
      show qq_u (qq_u (qq_u S (8 + 1 + l.toNat) (S 7 l.toNat).toNat s) (15 + 1 + l.toNat) s.toNat (S 7 l.toNat)) 7 l.toNat (S 7 l.toNat + 1) (8 + 1 + l.toNat) j = _
      rw [qq_ueq (by omega), qq_ueq (by omega), qq_uat, es]
    have o16 : ∀ j : Nat, S0 (15 + 1 + l.toNat) j = if j = s.toNat then S 7 l.toNat else S (15 + 1 + l.toNat) j := fun j => by
      show qq_u (qq_u (qq_u S (8 + 1 + l.toNat) (S 7 l.toNat).toNat s) (15 + 1 + l.toNat) s.toNat (S 7 l.toNat)) 7 l.toNat (S 7 l.toNat + 1) (15 + 1 + l.toNat) j = _
      rw [qq_ueq (by omega), qq_uat, qq_ueq (by omega)]
    have oe : ∀ x : Nat, x < 10 → S0 (37 + 1 + x) = S (37 + 1 + x) := fun x hx => o1 _ (by omega)
    have C0 : zz_CE S0 := zz_CE_c hC (fun c hc => o1 c (by omega))
    have p9 : S0 (8 + 1 + l.toNat) (S 7 l.toNat - 1).toNat = S (8 + 1 + l.toNat) (S 7 l.toNat - 1).toNat ∨ ¬ 0 < S 7 l.toNat := by
      by_cases z : 0 < S 7 l.toNat
      · left
        rw [o9, if_neg (by omega)]
      · exact Or.inr z
    have z4 : S0 4 = S 4 := o1 4 (by omega)
    refine qq_fsound hxs (sp_0_ok hxs (d + 23)) [71] 100 ?_
    repeat' first | apply And.intro | intro _
    all_goals first
      | omega
      | rfl
      | ((try rw [show qq_u (qq_u (qq_u S (8 + 1 + l.toNat) (S 7 l.toNat).toNat s) (15 + 1 + l.toNat) s.toNat (S 7 l.toNat)) 7 l.toNat (S 7 l.toNat + 1) = S0 from rfl] at *)
         first
         | rfl
         | (have := hr (by omega); omega)
         | (have q := C0.2.2.2.2.2.1 (S0 (8 + 1 + l.toNat) (S 7 l.toNat - 1).toNat).toNat s.toNat (by have := hr (by omega); omega) (by omega)
            have := C0.2.2.2.1
            omega)
         | (have nl : S 7 l.toNat ≤ 0 := by assumption
            refine zz_p1 ⟨C0, fun c hc => o1 c (by omega), fun j _ => by rw [z4], o7, o9, o16, fun x y hx hy => ?_⟩
            rw [oe x hx]
            exact ⟨Or.inl, fun z => z.elim id (fun w => absurd w.1 (by omega))⟩)
         | (have pl : 0 < S 7 l.toNat := by omega
            have pr := hr pl
            have pe := p9.elim id (fun z => absurd pl z)
            have ne : ¬ S0 (37 + 1 + (S0 (8 + 1 + l.toNat) (S 7 l.toNat - 1).toNat).toNat) s.toNat = -1 := by assumption
            refine zz_p1 ⟨C0, fun c hc => o1 c (by omega), fun j _ => by rw [z4], o7, o9, o16, fun x y hx hy => ?_⟩
            rw [pe] at ne
            have n1 : ¬ S (37 + 1 + (S (8 + 1 + l.toNat) (S 7 l.toNat - 1).toNat).toNat) s.toNat = -1 := by rw [← oe _ (by omega)]; exact ne
            have n2 := zz_CE_sy hC (by omega) (by omega) n1
            rw [oe x hx]
            refine ⟨Or.inl, fun z => z.elim id (fun w => ?_)⟩
            rcases w.2 with ⟨c1, c2⟩ | ⟨c1, c2⟩
            · rw [show x = (S (8 + 1 + l.toNat) (S 7 l.toNat - 1).toNat).toNat by omega, c2]; exact n1
            · rw [show y = (S (8 + 1 + l.toNat) (S 7 l.toNat - 1).toNat).toNat by omega, c1]; exact n2.1)
         | (have pl : 0 < S 7 l.toNat := by omega
            have pr := hr pl
            have pe := p9.elim id (fun z => absurd pl z)
            have eq0 : S0 (37 + 1 + (S0 (8 + 1 + l.toNat) (S 7 l.toNat - 1).toNat).toNat) s.toNat = -1 := by assumption
            rw [pe] at eq0
            obtain ⟨T, E, J1, J2, J3, J4⟩ := f37 hxs (d + 0) S0 (S (8 + 1 + l.toNat) (S 7 l.toNat - 1).toNat) s pr.2.2 (by rw [z4]; omega) (by rw [z4]; omega) C0 eq0
            have E2 : qq_E xs (d + 23) 37 [.inr (4, none), .inl (S0 (8 + 1 + l.toNat) (S 7 l.toNat - 1).toNat), .inl s] S0 none T := by rw [pe]; exact E
            refine qq_vcall (S := S0) (as := [.inl (S0 (8 + 1 + l.toNat) (S 7 l.toNat - 1).toNat), .inl s]) rfl E2 (by omega) rfl rfl rfl (Nat.le_of_ble_eq_true rfl) ?_
            refine qq_fsound hxs (sp_0_ok hxs (d + 23)) [] 100 ?_
            refine ⟨rfl, zz_p1 ⟨J1, fun c hc => by rw [J2 c (by omega)]; exact o1 c (by omega), fun j hj => by rw [J3 j hj, z4], fun j => by rw [J2 7 (by omega)]; exact o7 j, fun j => by rw [J2 (8 + 1 + l.toNat) (by omega)]; exact o9 j, fun j => by rw [J2 (15 + 1 + l.toNat) (by omega)]; exact o16 j, fun x y hx hy => ?_⟩⟩
            rw [J4 x y hx hy, oe x hx]
            constructor
            · rintro (z | ⟨c1, c2⟩ | ⟨c1, c2⟩)
              · exact Or.inl z
              · exact Or.inr ⟨pl, Or.inl ⟨by omega, c2⟩⟩
              · exact Or.inr ⟨pl, Or.inr ⟨c1, by omega⟩⟩
            · rintro (z | ⟨-, ⟨c1, c2⟩ | ⟨c1, c2⟩⟩)
              · exact Or.inl z
              · exact Or.inr (Or.inl ⟨by omega, c2⟩)
              · exact Or.inr (Or.inr ⟨c1, by omega⟩)))
  obtain ⟨r, S2, hE, e1, e2⟩ := qq_call_of (y := 36) rfl (Nat.le_of_ble_eq_true rfl) h
  rw [e1] at hE
  exact ⟨S2, hE, zz_pi1.mp e2⟩
