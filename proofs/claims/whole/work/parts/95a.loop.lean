/-! descend: what it leaves. -/
theorem yy_al_q {S : qq_S} (hN : zz_N S) {X Y A B : Nat → Int} (h : ∀ t : Nat, (t : Int) < S 4 0 → A t = X t ∧ B t = Y t) (ha : zz_al S X Y) : zz_al S A B := by
  have gb := hN.1.1
  have p1 : ∀ t : Nat, (t : Int) < S 4 0 → ¬ X t = -1 := fun t ht => ha.1 t (by omega)
  have p2 : ∀ t : Nat, (t : Int) < S 4 0 → ¬ A t = -1 := fun t ht => by rw [(h t ht).1]; exact p1 t ht
  exact (yy_pal_al hN p2).mp (yy_pal_res hN ((yy_pal_al hN p1).mpr ha) (fun t ht _ => h t ht))
theorem yy_Cd_q {S : qq_S} (hN : zz_N S) {Q P : Nat → Int} (h : ∀ t : Nat, (t : Int) < S 4 0 → P t = Q t) (hc : yy_Cd S Q) : yy_Cd S P := by
  refine ⟨fun t ht => by rw [h t ht]; exact hc.1 t ht, yy_al_q hN (fun t ht => by rw [h t ht]; exact ⟨rfl, rfl⟩) hc.2.1, fun e1 e2 => ?_⟩
  obtain ⟨⟨t, t1, t2⟩, ⟨u, u1, u2⟩⟩ := hc.2.2 e1 e2
  exact ⟨⟨t, t1, by show P t % S 56 0 = 0; rw [h t t1]; exact t2⟩, ⟨u, u1, by show P u / S 56 0 = 0; rw [h u u1]; exact u2⟩⟩
theorem yy_cq_q {S : qq_S} (hN : zz_N S) {Q P : Nat → Int} (h : ∀ t : Nat, (t : Int) < S 4 0 → P t = Q t) : yy_cq S P = yy_cq S Q := yy_pc_c hN (fun t ht => by rw [h t ht]; exact ⟨rfl, rfl⟩)
theorem yy_ex_q {S : qq_S} {Q P : Nat → Int} (h : ∀ t : Nat, (t : Int) < S 4 0 → P t = Q t) (he : yy_ex S Q) : yy_ex S P := fun t ht pt => by rw [h t ht]; exact he t ht pt
/-- the latest found is none, or a better one -/
def yy_fd (S T : qq_S) : Prop := (T 55 13 = S 55 13 ∧ (∀ t : Nat, (t : Int) < S 4 0 → T 88 t = S 88 t)) ∨ (T 55 13 < S 55 13 ∧ yy_Cd S (T 88) ∧ yy_ex S (T 88) ∧ yy_cq S (T 88) = T 55 13)
def yy_Po (S T : qq_S) (r : Int) : Prop := yy_fx S T ∧ T 57 = S 57 ∧ T 58 = S 58 ∧ (0 ≤ T 55 13 ∧ T 55 13 ≤ S 55 13) ∧ yy_fd S T ∧ (r = 1 → T 55 13 < S 55 13 ∧ T 55 13 ≤ S 55 14) ∧ (r = 0 → (∀ Q, yy_Cd S Q → yy_ex S Q → T 55 13 ≤ yy_cq S Q) ∧ (T 55 13 = S 55 13 ∨ S 55 14 < T 55 13))
def yy_L (S T : qq_S) (s : Nat) (p r : Int) : Prop := (0 ≤ T 55 13 ∧ T 55 13 ≤ S 55 13) ∧ yy_fd S T ∧ (r = 1 → T 55 13 < S 55 13 ∧ T 55 13 ≤ S 55 14) ∧ (r = 0 → (∀ Q, yy_Cd S Q → yy_ex S Q → Q s < p → T 55 13 ≤ yy_cq S Q) ∧ (T 55 13 = S 55 13 ∨ S 55 14 < T 55 13))
theorem yy_cq0 {S : qq_S} (c : yy_C S) {Q : Nat → Int} (h : yy_Cd S Q) : 0 ≤ yy_cq S Q ∧ yy_cq S Q ≤ 200000 := by
  have gb := c.1.1.1
  have w := c.2.2.1
  have full : ∀ t : Nat, (t : Int) < S 4 0 → ¬ (fun t : Nat => if (t : Int) < S 4 0 then Q t % S 56 0 else 0) t = -1 := fun t ht => by
    have m1 := Int.emod_nonneg (Q t) (show S 56 0 ≠ 0 by omega)
    show ¬ (if (t : Int) < S 4 0 then Q t % S 56 0 else 0) = -1
    rw [if_pos ht]
    omega
  have e := yy_pc_all c.1 (X := fun t : Nat => if (t : Int) < S 4 0 then Q t % S 56 0 else 0) (Y := fun t : Nat => if (t : Int) < S 4 0 then Q t / S 56 0 else 0) full
  have e2 : yy_cq S Q = zz_cst S (fun t : Nat => if (t : Int) < S 4 0 then Q t % S 56 0 else 0) (fun t : Nat => if (t : Int) < S 4 0 then Q t / S 56 0 else 0) := yy_pc_c c.1 (fun t ht => ⟨(if_pos ht).symm, (if_pos ht).symm⟩)
  have hb := yy_pc_bd c.1 (by have := c.2.2.2.2.2.2.2.2.1; omega) (X := fun t : Nat => if (t : Int) < S 4 0 then Q t % S 56 0 else 0) (Y := fun t : Nat => if (t : Int) < S 4 0 then Q t / S 56 0 else 0) (fun t ht => by
    show -1 ≤ (if (t : Int) < S 4 0 then Q t % S 56 0 else 0) ∧ (if (t : Int) < S 4 0 then Q t % S 56 0 else 0) ≤ 8 ∧ -1 ≤ (if (t : Int) < S 4 0 then Q t / S 56 0 else 0) ∧ (if (t : Int) < S 4 0 then Q t / S 56 0 else 0) ≤ 8
    by_cases c9 : (t : Int) < S 4 0
    · rw [if_pos c9, if_pos c9]
      have q := h.1 t c9
      have m1 := Int.emod_nonneg (Q t) (show S 56 0 ≠ 0 by omega)
      have m2 := Int.emod_lt_of_pos (Q t) (show 0 < S 56 0 by omega)
      have d1 := Int.ediv_nonneg q.1 (show 0 ≤ S 56 0 by omega)
      have d2 : Q t / S 56 0 < S 56 1 := Int.ediv_lt_of_lt_mul (by omega) (by rw [Int.mul_comm]; exact q.2.1)
      omega
    · rw [if_neg c9, if_neg c9]; omega)
  rw [e2, ← e]
  exact hb
/-- the point p is looked at -/
theorem yy_L_no {S T U : qq_S} {s : Nat} {p : Int} (h : yy_L S T s p 0) (h13 : U 55 13 = T 55 13) (h88 : U 88 = T 88) (hq : ∀ Q, yy_Cd S Q → yy_ex S Q → Q s = p → T 55 13 ≤ yy_cq S Q) : yy_L S U s (p + 1) 0 := by
  obtain ⟨l1, l2, l3, l4⟩ := h
  unfold yy_L yy_fd
  rw [h13, h88]
  refine ⟨l1, l2, l3, fun _ => ⟨fun Q a b c => ?_, (l4 rfl).2⟩⟩
  by_cases e : Q s = p
  · exact hq Q a b e
  · exact (l4 rfl).1 Q a b (by omega)
theorem yy_ex_Mv {S M : qq_S} {k : Nat} {p sp tk : Int} (c : yy_C S) (i : yy_I S k sp tk) (hk : (k : Int) < S 4 0) (m : yy_Mv S M k p) {Q : Nat → Int} : (yy_ex M Q → yy_ex S Q) ∧ (yy_ex S Q → Q (S 89 k).toNat = p → yy_ex M Q) := by
  have st := yy_step c i hk m
  have f4 : M 4 = S 4 := m.1.1 4 (by omega) (by omega) (by omega) (by omega)
  have f56 : M 56 = S 56 := m.1.1 56 (by omega) (by omega) (by omega) (by omega)
  unfold yy_ex
  rw [f4, f56]
  refine ⟨fun h t ht pt => ?_, fun h hq t ht pt => ?_⟩
  · have ts : ¬ t = (S 89 k).toNat := fun z => by rw [z] at pt; exact pt st.2.1
    rw [(m.2.2.1 t ts).1] at pt ⊢
    rw [(m.2.2.1 t ts).2]
    exact h t ht pt
  · by_cases ts : t = (S 89 k).toNat
    · rw [ts, m.2.2.2.1, m.2.2.2.2, hq]; exact ⟨rfl, rfl⟩
    · rw [← (m.2.2.1 t ts).1] at pt ⊢
      rw [← (m.2.2.1 t ts).2]
      exact h t ht pt
theorem yy_L_go {S T M U : qq_S} {k : Nat} {p sp tk r : Int} (c : yy_C S) (i : yy_I S k sp tk) (hk : (k : Int) < S 4 0) (m : yy_Mv S M k p) (h : yy_L S T (S 89 k).toNat p 0) (h13 : M 55 13 = T 55 13) (h88 : M 88 = T 88) (g : yy_Po M U r) : yy_L S U (S 89 k).toNat (p + 1) r := by
  have hN := c.1
  have mN := yy_Mv_N hN m
  have f4 : M 4 = S 4 := m.1.1 4 (by omega) (by omega) (by omega) (by omega)
  have f14 : M 55 14 = S 55 14 := m.1.2 14 (by omega)
  obtain ⟨l1, l2, l3, l4⟩ := h
  obtain ⟨g1, g2, g3, g4, g5, g6, g7⟩ := g
  have ex := fun Q => yy_ex_Mv c i hk m (Q := Q)
  rw [h13] at g4 g6 g7
  rw [f14] at g6 g7
  refine ⟨by omega, ?_, fun e => ?_, fun e => ⟨fun Q a b d => ?_, ?_⟩⟩
  · unfold yy_fd at g5
    rw [h13, h88, f4] at g5
    rcases g5 with ⟨e1, e2⟩ | ⟨e1, e2, e3, e4⟩
    · rcases l2 with ⟨u1, u2⟩ | ⟨u1, u2, u3, u4⟩
      · exact Or.inl ⟨by omega, fun t ht => by rw [e2 t ht, u2 t ht]⟩
      · exact Or.inr ⟨by omega, yy_Cd_q hN e2 u2, yy_ex_q e2 u3, by rw [yy_cq_q hN e2, u4, e1]⟩
    · exact Or.inr ⟨by omega, (yy_Cd_fx m.1 hN).mp e2, (ex _).1 e3, by rw [← yy_cq_fx m.1 hN]; exact e4⟩
  · have := g6 e
    omega
  · have l5 := (l4 rfl).1 Q a b
    by_cases e9 : Q (S 89 k).toNat = p
    · have := (g7 e).1 Q ((yy_Cd_fx m.1 hN).mpr a) ((ex Q).2 b e9)
      rw [yy_cq_fx m.1 hN] at this
      exact this
    · have := l5 (by omega)
      omega
  · have := (g7 e).2
    have := (l4 rfl).2
    omega
/-- the end of the loop: s is taken back -/
theorem yy_L_end {S T : qq_S} {s : Nat} {p r : Int} (c : yy_C S) (h : yy_L S T s p r) (hf : yy_fx S T) (ho : ∀ t : Nat, ¬ t = s → T 57 t = S 57 t ∧ T 58 t = S 58 t) (hu : S 57 s = -1 ∧ S 58 s = -1) (hs : (s : Int) < S 4 0) (hr : r = 0 → p = S 56 0 * S 56 1) : yy_Po S (yy_mvt T s (-1)) r := by
  obtain ⟨l1, l2, l3, l4⟩ := h
  have n13 : yy_mvt T s (-1) 55 = T 55 := yy_mvt_ne (by decide) (by decide)
  have n88 : yy_mvt T s (-1) 88 = T 88 := yy_mvt_ne (by decide) (by decide)
  have l := fun t => yy_mvt_un (S := T) (s := s) (t := t)
  refine ⟨yy_mvt_fx hf, ?_, ?_, by rw [n13]; exact l1, by unfold yy_fd; rw [n13, n88]; exact l2, by rw [n13]; exact l3, fun e => ?_⟩
  · funext t
    rw [(l t).1]
    by_cases e : t = s
    · rw [if_pos e, e, hu.1]
    · rw [if_neg e, (ho t e).1]
  · funext t
    rw [(l t).2]
    by_cases e : t = s
    · rw [if_pos e, e, hu.2]
    · rw [if_neg e, (ho t e).2]
  · rw [n13]
    refine ⟨fun Q a b => (l4 e).1 Q a b ?_, (l4 e).2⟩
    have := (a.1 s hs).2.1
    rw [hr e]; exact this
/-- all stations stand: the drawing is kept -/
theorem yy_Po_kp {S T : qq_S} {k : Nat} {sp tk : Int} (c : yy_C S) (i : yy_I S k sp tk) (hk : (k : Int) = S 4 0) (hl : sp < S 55 13) (g : yy_kp S sp T) : yy_Po S T (if sp ≤ S 55 14 then 1 else 0) := by
  obtain ⟨g1, g2, g3, g4⟩ := g
  obtain ⟨i1, i2, i3, i4, i5, i6, i7⟩ := i
  have hN := c.1
  have gb := hN.1.1
  have w := c.2.2.1
  have pX : ∀ t : Nat, (t : Int) < S 4 0 → ¬ S 57 t = -1 := fun t h9 => (i2 t h9).mpr (by
    obtain ⟨j, j1, j2⟩ := c.2.2.2.2.1.2.2 t h9
    exact ⟨j, by omega, j2⟩)
  have wh : ∀ t : Nat, (t : Int) < S 4 0 → T 88 t = S 58 t * S 56 0 + S 57 t ∧ T 88 t % S 56 0 = S 57 t ∧ T 88 t / S 56 0 = S 58 t ∧ 0 ≤ T 88 t ∧ T 88 t < S 56 0 * S 56 1 := fun t ht => by
    have k1 := yy_tp_wh i1 (t := t) (by omega) (pX t ht)
    have q := i1.2 t (by omega)
    have p := pX t ht
    have m := yy_xy (x := S 57 t) (y := S 58 t) (w := S 56 0) (h := S 56 1) (by omega) (by omega)
    rw [g4 t ht, k1.1]
    exact ⟨rfl, m.1, m.2, by omega, by omega⟩
  have fx : yy_fx S T := ⟨fun a h1 h2 h3 h4 => g1 a h1 h4, g2⟩
  have co : yy_cq S (T 88) = sp := by
    have e1 : yy_cq S (T 88) = zz_cst S (S 57) (S 58) := yy_pc_c hN (fun t ht => ⟨(wh t ht).2.1, (wh t ht).2.2.1⟩)
    rw [e1, i5, yy_pc_all hN pX]
  have cd : yy_Cd S (T 88) := by
    refine ⟨fun t ht => ⟨(wh t ht).2.2.2.1, (wh t ht).2.2.2.2, ?_⟩, yy_al_q hN (fun t ht => ⟨(wh t ht).2.1, (wh t ht).2.2.1⟩) ((yy_pal_al hN pX).mp i4), fun e1 e2 => ?_⟩
    · rw [(wh t ht).1]; exact i3 t ht (pX t ht)
    · obtain ⟨⟨t, t1, t2⟩, ⟨u, u1, u2⟩⟩ := i7 hk e2 e1
      exact ⟨⟨t, t1, by rw [← t2]; exact (wh t t1).2.1⟩, ⟨u, u1, by rw [← u2]; exact (wh u u1).2.2.1⟩⟩
  have c0 := yy_cq0 c cd
  refine ⟨fx, g1 57 (by decide) (by decide), g1 58 (by decide) (by decide), by omega, Or.inr ⟨by omega, cd, fun t ht _ => ⟨(wh t ht).2.1.symm, (wh t ht).2.2.1.symm⟩, by rw [co, g3]⟩, fun e => ?_, fun e => ⟨fun Q a b => ?_, ?_⟩⟩
  · by_cases z : sp ≤ S 55 14
    · omega
    · rw [if_neg z] at e; omega
  · have e1 : yy_cq S Q = yy_cq S (T 88) := yy_pc_c hN (fun t ht => by
      have k := b t ht (pX t ht)
      rw [← k.1, ← k.2, (wh t ht).2.1, (wh t ht).2.2.1]
      exact ⟨rfl, rfl⟩)
    rw [e1, co, g3]
    omega
  · by_cases z : sp ≤ S 55 14
    · rw [if_pos z] at e; omega
    · omega
