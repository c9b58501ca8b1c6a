/-! Both find one best drawing. -/
/-- a drawing laid on both sides -/
def yy_both (S : qq_S) (Q : Nat → Int) : qq_S := fun a => if a = 49 then (fun t : Nat => if (t : Int) < S 4 0 then Q t % S 48 0 else S 49 t) else if a = 50 then (fun t : Nat => if (t : Int) < S 4 0 then Q t / S 48 0 else S 50 t) else if a = 123 then Q else S a
theorem yy_both49 {S : qq_S} {Q : Nat → Int} (t : Nat) : yy_both S Q 49 t = if (t : Int) < S 4 0 then Q t % S 48 0 else S 49 t := rfl
theorem yy_both50 {S : qq_S} {Q : Nat → Int} (t : Nat) : yy_both S Q 50 t = if (t : Int) < S 4 0 then Q t / S 48 0 else S 50 t := rfl
theorem yy_both1 {S : qq_S} {Q : Nat → Int} : yy_both S Q 123 = Q := rfl
theorem yy_both0 {S : qq_S} {Q : Nat → Int} {a : Nat} (h1 : ¬ a = 49) (h2 : ¬ a = 50) (h3 : ¬ a = 123) : yy_both S Q a = S a := by
  unfold yy_both
  rw [if_neg h1, if_neg h2, if_neg h3]
theorem yy_both_N {S : qq_S} (hN : zz_N S) (Q : Nat → Int) : zz_N (yy_both S Q) := zz_N_c ⟨fun a ha => yy_both0 (by omega) (by omega) (by omega), fun j _ _ => by rw [yy_both0 (by decide) (by decide) (by decide)]⟩ hN
theorem yy_both_PL {S : qq_S} (hP : zz_PL S) {Q : Nat → Int} (hQ : ∀ t : Nat, (t : Int) < S 4 0 → 0 ≤ Q t ∧ Q t < S 48 0 * S 48 1) : zz_PL (yy_both S Q) := by
  obtain ⟨p1, p2, p3⟩ := hP
  unfold zz_PL
  rw [yy_both0 (show ¬ 4 = 49 by decide) (by decide) (by decide), yy_both0 (show ¬ 48 = 49 by decide) (by decide) (by decide), yy_both0 (show ¬ 51 = 49 by decide) (by decide) (by decide), yy_both0 (show ¬ 115 = 49 by decide) (by decide) (by decide), yy_both0 (show ¬ 124 = 49 by decide) (by decide) (by decide), yy_both1]
  have q : ∀ t : Nat, (t : Int) < S 4 0 → 0 ≤ Q t % S 48 0 ∧ Q t % S 48 0 < S 48 0 ∧ 0 ≤ Q t / S 48 0 ∧ Q t / S 48 0 < S 48 1 ∧ Q t / S 48 0 * S 48 0 + Q t % S 48 0 = Q t := fun t ht => ⟨Int.emod_nonneg (Q t) (by omega), Int.emod_lt_of_pos (Q t) (by omega), Int.ediv_nonneg (hQ t ht).1 (by omega), Int.ediv_lt_of_lt_mul (by omega) (by rw [Int.mul_comm]; exact (hQ t ht).2), Int.ediv_mul_add_emod (Q t) (S 48 0)⟩
  refine ⟨p1, fun t ht => ?_, fun t ht => ?_⟩
  · have k := p2 t ht
    rw [yy_both49, yy_both50]
    by_cases c : (t : Int) < S 4 0
    · have k2 := q t c
      rw [if_pos c, if_pos c]
      exact ⟨Or.inr ⟨k2.1, k2.2.1, k2.2.2.1, k2.2.2.2.1⟩, k.2.1, fun z => by omega, fun z => by omega⟩
    · rw [if_neg c, if_neg c]; exact k
  · have k := p3 t ht
    have k2 := q t ht
    rw [yy_both49, yy_both50, if_pos ht, if_pos ht]
    refine ⟨k.1, ?_⟩
    unfold zz_pt
    rw [if_neg (by omega)]
    omega
theorem yy_both_cM {S : qq_S} (Q : Nat → Int) : zz_cM (yy_sp S Q) (yy_both S Q) := by
  refine ⟨fun a ha => ?_, fun j hj => ?_⟩
  · by_cases e : a = 123
    · rw [e, yy_sp1, yy_both1]
    · rw [yy_sp0 e, yy_both0 (by omega) (by omega) e]
  · rw [yy_sp0 (by decide), yy_both0 (by decide) (by decide) (by decide)]
/-- allowed and cost: the same on both sides -/
theorem yy_both_eq {S : qq_S} (hN : zz_N S) (hP : zz_PL S) (tm : zz_tm S) {Q : Nat → Int} (hQ : ∀ t : Nat, (t : Int) < S 4 0 → 0 ≤ Q t ∧ Q t < S 48 0 * S 48 1) : ((zz_vM (yy_sp S Q)).1 = 0 ↔ zz_al S (fun t => Q t % S 48 0) (fun t => Q t / S 48 0)) ∧ (zz_al S (fun t => Q t % S 48 0) (fun t => Q t / S 48 0) → yy_cm S Q = yy_cD S Q) := by
  have gb := hN.1.1
  have bN := yy_both_N hN Q
  have bP := yy_both_PL hP hQ
  have bt : zz_tm (yy_both S Q) := by
    unfold zz_tm
    rw [yy_both0 (show ¬ 115 = 49 by decide) (by decide) (by decide), yy_both0 (show ¬ 52 = 49 by decide) (by decide) (by decide)]
    exact tm
  have ve := zz_v_eq bN bP bt.1
  have vm := zz_cM_vM (yy_both_cM (S := S) Q) (yy_sp_N hN Q)
  have al : zz_al (yy_both S Q) (yy_both S Q 49) (yy_both S Q 50) ↔ zz_al S (fun t => Q t % S 48 0) (fun t => Q t / S 48 0) := by
    rw [zz_al_c (S := S) (T := yy_both S Q) (fun a h1 h2 => yy_both0 (by omega) (by omega) (by omega)) (by rw [yy_both0 (show ¬ 52 = 49 by decide) (by decide) (by decide)]) (by omega)]
    constructor
    · exact yy_al_q hN (fun t ht => by rw [yy_both49, yy_both50, if_pos ht, if_pos ht]; exact ⟨rfl, rfl⟩)
    · exact yy_al_q hN (fun t ht => by rw [yy_both49, yy_both50, if_pos ht, if_pos ht]; exact ⟨rfl, rfl⟩)
  refine ⟨?_, fun z => ?_⟩
  · rw [← vm, ← ve, ← al]
    exact zz_al_vC
  · have c := zz_cst_eq bN bP bt (al.mpr z)
    rw [zz_cst_c (S := S) (T := yy_both S Q) (fun a h1 h2 => yy_both0 (by omega) (by omega) (by omega)) (yy_both0 (by decide) (by decide) (by decide)) (by omega), zz_cM_mc (yy_both_cM (S := S) Q)] at c
    have e : zz_cst S (yy_both S Q 49) (yy_both S Q 50) = yy_cD S Q := yy_pc_c hN (fun t ht => by rw [yy_both49, yy_both50, if_pos ht, if_pos ht]; exact ⟨rfl, rfl⟩)
    rw [e] at c
    exact c.symm
theorem yy_DDm {S : qq_S} (hN : zz_N S) (hP : zz_PL S) (tm : zz_tm S) {Q : Nat → Int} : (yy_Dm S Q ↔ yy_D S Q) ∧ (yy_D S Q → yy_cm S Q = yy_cD S Q) := by
  have gb := hN.1.1
  have p1 := hP.1
  have held : ∀ t : Nat, (t : Int) < S 4 0 → ((S 124 t = 0 ∨ Q t = S 123 t) ↔ (S 51 t = 0 ∨ Q t = S 50 t * S 48 0 + S 49 t)) := fun t ht => by
    have k := hP.2.1 t (by omega)
    have k3 := hP.2.2 t ht
    rw [k3.1, k3.2]
    by_cases c : S 51 t = 0
    · exact ⟨fun _ => Or.inl c, fun _ => Or.inl c⟩
    · have np : ¬ S 49 t = -1 := fun z => c (k.2.2.1 z)
      unfold zz_pt
      rw [if_neg np]
  constructor
  · unfold yy_Dm yy_D
    rw [p1.2.2.2.2.1, p1.2.2.2.2.2]
    constructor
    · rintro ⟨a, b⟩
      exact ⟨fun t ht => ⟨(a t ht).1, (a t ht).2.1, (held t ht).mp (a t ht).2.2⟩, (yy_both_eq hN hP tm (fun t ht => ⟨(a t ht).1, (a t ht).2.1⟩)).1.mp b⟩
    · rintro ⟨a, b⟩
      exact ⟨fun t ht => ⟨(a t ht).1, (a t ht).2.1, (held t ht).mpr (a t ht).2.2⟩, (yy_both_eq hN hP tm (fun t ht => ⟨(a t ht).1, (a t ht).2.1⟩)).1.mpr b⟩
  · intro h
    exact (yy_both_eq hN hP tm (fun t ht => ⟨(h.1 t ht).1, (h.1 t ht).2.1⟩)).2 h.2
theorem yy_BBm {S : qq_S} (hN : zz_N S) (hP : zz_PL S) (tm : zz_tm S) {B : Nat → Int} (h : yy_Bm S B) : yy_B S B := by
  have d := fun Q => yy_DDm hN hP tm (Q := Q)
  have b0 := (d B).1.mp h.1
  refine ⟨b0, fun Q hQ => ?_⟩
  have k := h.2 Q ((d Q).1.mpr hQ)
  rw [(d B).2 b0, (d Q).2 hQ] at k
  exact k
/-- the reference looks at its own rows -/
theorem yy_Dm_c {S T : qq_S} (h : zz_cM S T) (h123 : T 123 = S 123) (hN : zz_N S) {Q : Nat → Int} : (yy_Dm T Q ↔ yy_Dm S Q) ∧ yy_cm T Q = yy_cm S Q := by
  have c : zz_cM (yy_sp S Q) (yy_sp T Q) := by
    refine ⟨fun a ha => ?_, fun j hj => ?_⟩
    · by_cases e : a = 123
      · rw [e, yy_sp1, yy_sp1]
      · rw [yy_sp0 e, yy_sp0 e]; exact h.1 a (by omega)
    · rw [yy_sp0 (by decide), yy_sp0 (by decide)]; exact h.2 j hj
  refine ⟨?_, zz_cM_mc c⟩
  unfold yy_Dm
  rw [zz_cM_vM c (yy_sp_N hN Q), h.1 4 (by omega), h.1 124 (by omega), h123, h.2 12 (by omega), h.2 13 (by omega)]
theorem yy_Bm_c {S T : qq_S} (h : zz_cM S T) (h123 : T 123 = S 123) (hN : zz_N S) {B : Nat → Int} (hB : yy_Bm T B) : yy_Bm S B := by
  have d := fun Q => yy_Dm_c h h123 hN (Q := Q)
  refine ⟨(d B).1.mp hB.1, fun Q hQ => ?_⟩
  have k := hB.2 Q ((d Q).1.mpr hQ)
  rw [(d B).2, (d Q).2, h.1 4 (by omega)] at k
  exact k
theorem o_best1 {xs : List Int32} (hxs : xs.length ≤ 2048) (S : qq_S) (hI : inv S) (h124 : qq_in (S 124 0)) : qq_op xs 29 99 159 [] S := by
  have hN := inv_N hI
  have hP := inv_PL hI
  have gb := hN.1.1
  have tm := inv_tm hI
  have sp := inv_sp hI
  have tmt : zz_tm S := by unfold zz_tm; omega
  have p1 := hP.1
  have s0 : S 4 0 ≤ 5 → S 48 0 * S 48 1 ≤ 25 → yy_S0 S := fun c5 c25 => ⟨hN, c5, by omega, fun t ht => hP.2.1 t ht, by omega⟩
  obtain ⟨r, T1, E1, R1⟩ := f99 hxs S ⟨by omega, by omega⟩ s0
  -- the reference begins where the class ended
  have key : (∀ a : Nat, ¬ (55 ≤ a ∧ a ≤ 91) → ¬ a = 49 → ¬ a = 50 → ¬ a = 3 → T1 a = S a) → ∃ r2 T2, qq_E xs 29 159 [.inr (115, none)] T1 (some r2) T2 ∧ yy_Rm T1 T2 r2 := fun fr => by
    have cM : zz_cM S T1 := ⟨fun a ha => fr a (by omega) (by omega) (by omega) (by omega), fun j _ => by rw [fr 115 (by omega) (by omega) (by omega) (by omega)]⟩
    have f4 : T1 4 = S 4 := fr 4 (by omega) (by omega) (by omega) (by omega)
    have f115 : T1 115 = S 115 := fr 115 (by omega) (by omega) (by omega) (by omega)
    have f123 : T1 123 = S 123 := fr 123 (by omega) (by omega) (by omega) (by omega)
    have f124 : T1 124 = S 124 := fr 124 (by omega) (by omega) (by omega) (by omega)
    refine f159 hxs T1 (zz_N_c (zz_cM_N cM) hN) (by rw [f115]; omega) (by rw [f124]; exact h124) (fun c5 c25 => ⟨zz_N_c (zz_cM_N cM) hN, c5, ⟨⟨by rw [f115]; omega, by rw [f115]; omega, by rw [f115]; omega, by rw [f115]; omega, c25⟩, by rw [f115]; omega⟩, fun t ht => ?_⟩)
    rw [f4] at ht c5
    rw [f123, f124, f115]
    have k := hP.2.1 t (by omega)
    have k3 := hP.2.2 t ht
    rw [k3.1, k3.2, p1.2.2.2.2.1, p1.2.2.2.2.2]
    have ptb : S 49 t = -1 ∨ (0 ≤ S 50 t * S 48 0 + S 49 t ∧ S 50 t * S 48 0 + S 49 t < S 48 0 * S 48 1) := by
      rcases k.1 with x | x
      · exact Or.inl x.1
      · exact Or.inr (yy_mlt (x := S 49 t) (y := S 50 t) (w := S 48 0) (h := S 48 1) (by omega) (by omega))
    have wb := zz_mb2 (show 0 ≤ S 48 0 ∧ S 48 0 ≤ 8 by omega) (show 0 ≤ S 48 1 ∧ S 48 1 ≤ 8 by omega)
    unfold zz_pt
    refine ⟨k.2.1, fun e => ?_, ?_⟩
    · have np : ¬ S 49 t = -1 := fun y => by have := k.2.2.1 y; omega
      rw [if_neg np]
      exact ptb.resolve_left np
    · by_cases np : S 49 t = -1
      · rw [if_pos np]; omega
      · rw [if_neg np]
        have := ptb.resolve_left np
        omega
  -- the end
  have fin : ∀ (T2 : qq_S) (b : Int), qq_in b → (∀ a : Nat, ¬ (55 ≤ a ∧ a ≤ 91) → ¬ a = 49 → ¬ a = 50 → ¬ a = 3 → T1 a = S a) → T1 3 9 = b → (∃ U, yy_fm T1 U ∧ T2 = qq_u U 115 0 b) → zz_PL T2 → inv T2 := fun T2 b hb fr h3 ⟨U, fm, e2⟩ pl => by
    refine inv_pl (S := S) (fun a ha h1 h2 h4 => ?_) (fun j hj => ?_) ?_ pl hI
    · rw [e2, qq_ueq (by omega), fm.1 a (by omega) (by omega) (by omega) (by omega) (by omega) (by omega)]
      exact fr a (by omega) h1 h2 (by omega)
    · rw [e2, qq_un (by omega), fm.2 j (by omega), fr 115 (by omega) (by omega) (by omega) (by omega)]
    · have w3 : T2 3 9 = b := by rw [e2, qq_ueq (by decide), fm.1 3 (by omega) (by omega) (by omega) (by omega) (by omega) (by omega)]; exact h3
      rw [w3, e2, qq_uat, if_pos rfl]
      exact ⟨rfl, hb⟩
  rcases R1 with ⟨ns, er, eT⟩ | ⟨sm, v, U1, R, cases9⟩
  · have fr : ∀ a : Nat, ¬ (55 ≤ a ∧ a ≤ 91) → ¬ a = 49 → ¬ a = 50 → ¬ a = 3 → T1 a = S a := fun a _ _ _ h3 => by rw [eT, qq_ueq h3]
    obtain ⟨r2, T2, E2, R2⟩ := key fr
    have f4 : T1 4 = S 4 := fr 4 (by omega) (by omega) (by omega) (by omega)
    have f115 : T1 115 = S 115 := fr 115 (by omega) (by omega) (by omega) (by omega)
    have ns2 : ¬ (T1 4 0 ≤ 5 ∧ T1 115 12 * T1 115 13 ≤ 25) := by rw [f4, f115, p1.2.2.2.2.1, p1.2.2.2.2.2]; exact ns
    rcases R2 with ⟨_, er2, eT2⟩ | ⟨sm2, _⟩
    · refine qq_op_of E1 E2 (by decide) (by decide) (by rw [er, er2]) (by rw [er]; unfold qq_in; omega) ?_
      refine fin T2 (-5) (by unfold qq_in; omega) fr (by rw [eT, qq_uat, if_pos rfl]) ⟨T1, ⟨fun _ _ _ _ _ _ _ => rfl, fun _ _ => rfl⟩, eT2⟩ ?_
      have g : ∀ a : Nat, ¬ a = 115 → ¬ a = 3 → T2 a = S a := fun a h1 h2 => by rw [eT2, qq_ueq h1, eT, qq_ueq h2]
      have g2 : T2 115 12 = S 115 12 ∧ T2 115 13 = S 115 13 := by rw [eT2, qq_un (by omega), qq_un (by omega), f115]; exact ⟨rfl, rfl⟩
      unfold zz_PL at hP ⊢
      rw [g 4 (by decide) (by decide), g 48 (by decide) (by decide), g 49 (by decide) (by decide), g 50 (by decide) (by decide), g 51 (by decide) (by decide), g 123 (by decide) (by decide), g 124 (by decide) (by decide), g2.1, g2.2]
      exact hP
    · exact absurd sm2 ns2
  · have d := fun Q => yy_DDm hN hP tmt (Q := Q)
    rcases cases9 with ⟨ev, er, eT⟩ | ⟨ev, er, eT⟩
    · -- there is none
      rcases R with ⟨_, noD, frU⟩ | ⟨v0, _⟩
      · have fr : ∀ a : Nat, ¬ (55 ≤ a ∧ a ≤ 91) → ¬ a = 49 → ¬ a = 50 → ¬ a = 3 → T1 a = S a := fun a h1 _ _ h3 => by rw [eT, qq_ueq h3]; exact frU a h1
        have cM : zz_cM S T1 := ⟨fun a ha => fr a (by omega) (by omega) (by omega) (by omega), fun j _ => by rw [fr 115 (by omega) (by omega) (by omega) (by omega)]⟩
        have f123 : T1 123 = S 123 := fr 123 (by omega) (by omega) (by omega) (by omega)
        have f4 : T1 4 = S 4 := fr 4 (by omega) (by omega) (by omega) (by omega)
        have f115 : T1 115 = S 115 := fr 115 (by omega) (by omega) (by omega) (by omega)
        have dm := fun Q => yy_Dm_c cM f123 hN (Q := Q)
        obtain ⟨r2, T2, E2, R2⟩ := key fr
        rcases R2 with ⟨ns2, _⟩ | ⟨_, U2, fm2, ⟨er2, eT2, _, h123⟩ | ⟨_, _, _, B, hB, _⟩⟩
        · exact absurd (by rw [f4, f115, p1.2.2.2.2.1, p1.2.2.2.2.2]; exact sm) ns2
        · refine qq_op_of E1 E2 (by decide) (by decide) (by rw [er, er2]) (by rw [er]; unfold qq_in; omega) ?_
          refine fin T2 (-6) (by unfold qq_in; omega) fr (by rw [eT, qq_uat, if_pos rfl]) ⟨U2, fm2, eT2⟩ ?_
          have g : ∀ a : Nat, (a = 4 ∨ a = 48 ∨ a = 49 ∨ a = 50 ∨ a = 51 ∨ a = 124) → T2 a = S a := fun a ha => by rw [eT2, qq_ueq (by omega), fm2.1 a (by omega) (by omega) (by omega) (by omega) (by omega) (by omega), eT, qq_ueq (by omega)]; exact frU a (by omega)
          have g2 : T2 115 12 = S 115 12 ∧ T2 115 13 = S 115 13 := by rw [eT2, qq_un (by omega), qq_un (by omega), fm2.2 12 (by omega), fm2.2 13 (by omega), f115]; exact ⟨rfl, rfl⟩
          unfold zz_PL
          rw [g 4 (by omega), g 48 (by omega), g 49 (by omega), g 50 (by omega), g 51 (by omega), g 124 (by omega), g2.1, g2.2]
          refine ⟨hP.1, hP.2.1, fun t ht => ?_⟩
          have e : T2 123 t = S 123 t := by rw [eT2, qq_ueq (by decide), h123 t (by rw [f4]; exact ht), f123]
          rw [e]; exact hP.2.2 t ht
        · exact absurd ((d B).1.mp ((dm B).1.mp hB.1)) (noD B)
      · omega
    · -- the best
      rcases R with ⟨v1, _⟩ | ⟨v0, vb, P, hPB, hc, frU, f49⟩
      · exact absurd v1 ev
      · have fr : ∀ a : Nat, ¬ (55 ≤ a ∧ a ≤ 91) → ¬ a = 49 → ¬ a = 50 → ¬ a = 3 → T1 a = S a := fun a h1 h2 h2b h3 => by rw [eT, qq_ueq h3]; exact frU a h1 h2 h2b
        have cM : zz_cM S T1 := ⟨fun a ha => fr a (by omega) (by omega) (by omega) (by omega), fun j _ => by rw [fr 115 (by omega) (by omega) (by omega) (by omega)]⟩
        have f123 : T1 123 = S 123 := fr 123 (by omega) (by omega) (by omega) (by omega)
        have f4 : T1 4 = S 4 := fr 4 (by omega) (by omega) (by omega) (by omega)
        have f115 : T1 115 = S 115 := fr 115 (by omega) (by omega) (by omega) (by omega)
        have dm := fun Q => yy_Dm_c cM f123 hN (Q := Q)
        obtain ⟨r2, T2, E2, R2⟩ := key fr
        rcases R2 with ⟨ns2, _⟩ | ⟨_, U2, fm2, ⟨_, _, noB, _⟩ | ⟨r0, rb, eT2, B, hB, hcB, h123⟩⟩
        · exact absurd (by rw [f4, f115, p1.2.2.2.2.1, p1.2.2.2.2.2]; exact sm) ns2
        · exact absurd ((dm P).1.mpr ((d P).1.mpr hPB.1)) (noB P)
        · have hBm := yy_Bm_c cM f123 hN hB
          have hBB := yy_BBm hN hP tmt hBm
          have uq := yy_B_uq hPB hBB
          have ecm : r2 = r := by
            rw [← hcB, (dm B).2, (d B).2 hBB.1, ← uq.1, hc, er]
          refine qq_op_of E1 E2 (by decide) (by decide) ecm (by rw [er]; unfold qq_in; omega) ?_
          refine fin T2 0 (by unfold qq_in; omega) fr (by rw [eT, qq_uat, if_pos rfl]) ⟨U2, fm2, eT2⟩ ?_
          have g : ∀ a : Nat, (a = 4 ∨ a = 48 ∨ a = 51 ∨ a = 124) → T2 a = S a := fun a ha => by rw [eT2, qq_ueq (by omega), fm2.1 a (by omega) (by omega) (by omega) (by omega) (by omega) (by omega)]; exact fr a (by omega) (by omega) (by omega) (by omega)
          have g2 : T2 115 12 = S 115 12 ∧ T2 115 13 = S 115 13 := by rw [eT2, qq_un (by omega), qq_un (by omega), fm2.2 12 (by omega), fm2.2 13 (by omega), f115]; exact ⟨rfl, rfl⟩
          have g49 : ∀ t : Nat, T2 49 t = (if (t : Int) < S 4 0 then P t % S 48 0 else S 49 t) ∧ T2 50 t = (if (t : Int) < S 4 0 then P t / S 48 0 else S 50 t) := fun t => by rw [eT2, qq_ueq (by decide), qq_ueq (by decide), fm2.1 49 (by omega) (by omega) (by omega) (by omega) (by omega) (by omega), fm2.1 50 (by omega) (by omega) (by omega) (by omega) (by omega) (by omega), eT, qq_ueq (by decide), qq_ueq (by decide)]; exact f49 t
          have g123 : ∀ t : Nat, (t : Int) < S 4 0 → T2 123 t = P t := fun t ht => by rw [eT2, qq_ueq (by decide), h123 t (by rw [f4]; exact ht)]; exact (uq.2 t ht).symm
          have bp := yy_both_PL hP (Q := P) (fun t ht => ⟨(hPB.1.1 t ht).1, (hPB.1.1 t ht).2.1⟩)
          unfold zz_PL at bp ⊢
          rw [yy_both0 (show ¬ 4 = 49 by decide) (by decide) (by decide), yy_both0 (show ¬ 48 = 49 by decide) (by decide) (by decide), yy_both0 (show ¬ 51 = 49 by decide) (by decide) (by decide), yy_both0 (show ¬ 115 = 49 by decide) (by decide) (by decide), yy_both0 (show ¬ 124 = 49 by decide) (by decide) (by decide), yy_both1] at bp
          rw [g 4 (by omega), g 48 (by omega), g 51 (by omega), g 124 (by omega), g2.1, g2.2]
          refine ⟨bp.1, fun t ht => ?_, fun t ht => ?_⟩
          · have k := bp.2.1 t ht
            rw [yy_both49, yy_both50] at k
            rw [(g49 t).1, (g49 t).2]
            exact k
          · have k := bp.2.2 t ht
            rw [yy_both49, yy_both50] at k
            rw [(g49 t).1, (g49 t).2, g123 t ht]
            exact k
/-- a number and its 32 bits are one -/
theorem yy_fill {f g : Nat → Int} (h : ∀ k : Nat, Int32.ofInt (f k) = Int32.ofInt (g k)) (c : qq_C) : qq_fill f c = qq_fill g c := by
  have e : qq_fv f = qq_fv g := by
    funext k o
    unfold qq_fv
    cases o with
    | none => show Sum.inl (Int32.ofInt (f k)) = Sum.inl (Int32.ofInt (g k)); rw [h k]
    | some q => rfl
  have e2 : (fun k => Int32.ofInt (f k)) = fun k => Int32.ofInt (g k) := funext h
  unfold qq_fill
  rw [e, e2]
theorem yy_norm (S : qq_S) (q k : Nat) : qq_e (qq_u S q k (Int32.ofInt (S q k)).toInt) = qq_e S := by
  unfold qq_e
  congr 1
  funext i c
  refine yy_fill (fun j => ?_) c
  unfold qq_u
  split
  · rename_i z
    rw [z.1, z.2, Int32.ofInt_toInt]
  · rfl
theorem o_best {xs : List Int32} (hxs : xs.length ≤ 2048) (S : qq_S) (hI : inv S) : qq_op xs 29 99 159 [] S := by
  have hN := inv_N hI
  have hP := inv_PL hI
  have gb := hN.1.1
  by_cases c : 0 < S 4 0
  · refine o_best1 hxs S hI ?_
    have k := hP.2.1 0 (by omega)
    have k3 := (hP.2.2 0 (by omega)).1
    unfold qq_in
    omega
  · have e := yy_norm S 124 0
    have f : ∀ a : Nat, ¬ a = 124 → qq_u S 124 0 (Int32.ofInt (S 124 0)).toInt a = S a := fun a ha => qq_ueq ha
    have hI2 : inv (qq_u S 124 0 (Int32.ofInt (S 124 0)).toInt) := by
      obtain ⟨q1, q2, q3, q4, q5, q6, q7, q8, q9, q10, q11⟩ := hI
      have r : ∀ b n : Nat, b + n ≤ 48 → qq_R (qq_u S 124 0 (Int32.ofInt (S 124 0)).toInt) b n = qq_R S b n := fun b n h => qq_R_u (by omega)
      unfold inv
      rw [f 3 (by decide), f 4 (by decide), f 5 (by decide), f 6 (by decide), f 7 (by decide), f 22 (by decide), f 23 (by decide), f 24 (by decide), f 25 (by decide), f 48 (by decide), f 49 (by decide), f 50 (by decide), f 51 (by decide), f 52 (by decide), f 95 (by decide), f 96 (by decide), f 97 (by decide), f 102 (by decide), f 103 (by decide), f 104 (by decide), f 105 (by decide), f 106 (by decide), f 107 (by decide), f 108 (by decide), f 109 (by decide), f 110 (by decide), f 111 (by decide), f 112 (by decide), f 113 (by decide), f 114 (by decide), f 115 (by decide), f 116 (by decide), f 117 (by decide), f 118 (by decide), f 119 (by decide), f 120 (by decide), f 121 (by decide), f 123 (by decide), f 125 (by decide), f 130 (by decide), f 131 (by decide), f 132 (by decide), f 133 (by decide), r 9 6 (by decide), r 16 6 (by decide), r 38 10 (by decide), r 27 10 (by decide)]
      exact ⟨q1, q2, q3, q4, ⟨q5.1, q5.2.1, fun t ht => by omega⟩, q6, q7, q8, q9, q10, q11⟩
    have h2 := o_best1 hxs _ hI2 (by
      rw [qq_uat, if_pos rfl]
      have h1 : -2147483648 ≤ (Int32.ofInt (S 124 0)).toInt := Int32.le_toInt _
      have h2 : (Int32.ofInt (S 124 0)).toInt ≤ 2147483647 := Int32.toInt_le _
      exact ⟨h1, h2⟩)
    obtain ⟨r, S1, S2, e1, e2, e3, e4⟩ := h2
    refine ⟨r, S1, S2, ?_, e2, e3, e4⟩
    unfold qq_E at e1 ⊢
    rw [e] at e1
    exact e1
