/-! A run of the little machine has one outcome, and wants no more room than its outcome has. -/
section MO
variable {ro : Nat → List Int32} {Ca : mm_R} {rt : Option FieldType} {code : List mm_E}
def mm_pin (r : Option Int32) (h' : mm_H) : Option Int32 → mm_H → Prop := fun r2 h2 => r2 = r ∧ h2 = h'
set_option maxHeartbeats 2000000 in
theorem mm_out {hl hs : Nat} {K : Option Int32 → mm_H → Prop} : ∀ (n pc : Nat) (ls : mm_L) (st : List mm_V) (h : mm_H), mm_wp ro Ca rt code hl hs K n pc ls st h → ∃ r h', K r h' ∧ h.length ≤ h'.length ∧ mm_sz h ≤ mm_sz h' ∧ mm_wp ro Ca rt code h'.length (mm_sz h') (mm_pin r h') n pc ls st h
  | 0, _, _, _, _, hw => False.elim hw
  | n + 1, pc, ls, st, h, hw => by
    have ih := fun pc ls st h hh => mm_out (hl := hl) (hs := hs) (K := K) n pc ls st h hh
    obtain ⟨i, len, a, b, c, w, hat, hw⟩ := hw
    suffices hgo : ∃ r h', K r h' ∧ h.length ≤ h'.length ∧ mm_sz h ≤ mm_sz h' ∧ mm_one ro Ca rt h'.length (mm_sz h') (mm_pin r h') (mm_wp ro Ca rt code h'.length (mm_sz h') (mm_pin r h') n) pc i a b c ls st h by
      obtain ⟨r, h', k, l1, l2, hg⟩ := hgo
      exact ⟨r, h', k, l1, l2, i, len, a, b, c, w, hat, hg⟩
    clear hat
    cases i with
    | iconst v =>
      obtain ⟨r9, h9, k, l1, l2, hg⟩ := ih _ _ _ _ hw
      exact ⟨r9, h9, k, l1, l2, hg⟩
    | bipush v =>
      obtain ⟨r9, h9, k, l1, l2, hg⟩ := ih _ _ _ _ hw
      exact ⟨r9, h9, k, l1, l2, hg⟩
    | sipush v =>
      obtain ⟨r9, h9, k, l1, l2, hg⟩ := ih _ _ _ _ hw
      exact ⟨r9, h9, k, l1, l2, hg⟩
    | ldc v =>
      obtain ⟨r9, h9, k, l1, l2, hg⟩ := ih _ _ _ _ hw
      exact ⟨r9, h9, k, l1, l2, hg⟩
    | goto v =>
      obtain ⟨r9, h9, k, l1, l2, hg⟩ := ih _ _ _ _ hw
      exact ⟨r9, h9, k, l1, l2, hg⟩
    | iload_n v =>
      obtain ⟨x, e1, hg⟩ := hw
      obtain ⟨r9, h9, k, l1, l2, hg⟩ := ih _ _ _ _ hg
      refine ⟨r9, h9, k, l1, l2, ?_⟩
      dsimp only [mm_one]
      exact ⟨x, e1, hg⟩
    | iload v =>
      obtain ⟨x, e1, hg⟩ := hw
      obtain ⟨r9, h9, k, l1, l2, hg⟩ := ih _ _ _ _ hg
      refine ⟨r9, h9, k, l1, l2, ?_⟩
      dsimp only [mm_one]
      exact ⟨x, e1, hg⟩
    | aload_n v =>
      obtain ⟨x, e1, hg⟩ := hw
      obtain ⟨r9, h9, k, l1, l2, hg⟩ := ih _ _ _ _ hg
      refine ⟨r9, h9, k, l1, l2, ?_⟩
      dsimp only [mm_one]
      exact ⟨x, e1, hg⟩
    | iinc v w =>
      obtain ⟨x, e1, hg⟩ := hw
      obtain ⟨r9, h9, k, l1, l2, hg⟩ := ih _ _ _ _ hg
      refine ⟨r9, h9, k, l1, l2, ?_⟩
      dsimp only [mm_one]
      exact ⟨x, e1, hg⟩
    | istore_n v =>
      obtain ⟨x, s1, e1, e2, hg⟩ := hw
      obtain ⟨r9, h9, k, l1, l2, hg⟩ := ih _ _ _ _ hg
      refine ⟨r9, h9, k, l1, l2, ?_⟩
      dsimp only [mm_one]
      exact ⟨x, s1, e1, e2, hg⟩
    | istore v =>
      obtain ⟨x, s1, e1, e2, hg⟩ := hw
      obtain ⟨r9, h9, k, l1, l2, hg⟩ := ih _ _ _ _ hg
      refine ⟨r9, h9, k, l1, l2, ?_⟩
      dsimp only [mm_one]
      exact ⟨x, s1, e1, e2, hg⟩
    | astore_n v =>
      obtain ⟨x, s1, e1, e2, hg⟩ := hw
      obtain ⟨r9, h9, k, l1, l2, hg⟩ := ih _ _ _ _ hg
      refine ⟨r9, h9, k, l1, l2, ?_⟩
      dsimp only [mm_one]
      exact ⟨x, s1, e1, e2, hg⟩
    | iadd =>
      obtain ⟨x, y, s1, e1, hg⟩ := hw
      obtain ⟨r9, h9, k, l1, l2, hg⟩ := ih _ _ _ _ hg
      refine ⟨r9, h9, k, l1, l2, ?_⟩
      dsimp only [mm_one]
      exact ⟨x, y, s1, e1, hg⟩
    | isub =>
      obtain ⟨x, y, s1, e1, hg⟩ := hw
      obtain ⟨r9, h9, k, l1, l2, hg⟩ := ih _ _ _ _ hg
      refine ⟨r9, h9, k, l1, l2, ?_⟩
      dsimp only [mm_one]
      exact ⟨x, y, s1, e1, hg⟩
    | imul =>
      obtain ⟨x, y, s1, e1, hg⟩ := hw
      obtain ⟨r9, h9, k, l1, l2, hg⟩ := ih _ _ _ _ hg
      refine ⟨r9, h9, k, l1, l2, ?_⟩
      dsimp only [mm_one]
      exact ⟨x, y, s1, e1, hg⟩
    | iand =>
      obtain ⟨x, y, s1, e1, hg⟩ := hw
      obtain ⟨r9, h9, k, l1, l2, hg⟩ := ih _ _ _ _ hg
      refine ⟨r9, h9, k, l1, l2, ?_⟩
      dsimp only [mm_one]
      exact ⟨x, y, s1, e1, hg⟩
    | ior =>
      obtain ⟨x, y, s1, e1, hg⟩ := hw
      obtain ⟨r9, h9, k, l1, l2, hg⟩ := ih _ _ _ _ hg
      refine ⟨r9, h9, k, l1, l2, ?_⟩
      dsimp only [mm_one]
      exact ⟨x, y, s1, e1, hg⟩
    | ixor =>
      obtain ⟨x, y, s1, e1, hg⟩ := hw
      obtain ⟨r9, h9, k, l1, l2, hg⟩ := ih _ _ _ _ hg
      refine ⟨r9, h9, k, l1, l2, ?_⟩
      dsimp only [mm_one]
      exact ⟨x, y, s1, e1, hg⟩
    | ishl =>
      obtain ⟨x, y, s1, e1, hg⟩ := hw
      obtain ⟨r9, h9, k, l1, l2, hg⟩ := ih _ _ _ _ hg
      refine ⟨r9, h9, k, l1, l2, ?_⟩
      dsimp only [mm_one]
      exact ⟨x, y, s1, e1, hg⟩
    | ishr =>
      obtain ⟨x, y, s1, e1, hg⟩ := hw
      obtain ⟨r9, h9, k, l1, l2, hg⟩ := ih _ _ _ _ hg
      refine ⟨r9, h9, k, l1, l2, ?_⟩
      dsimp only [mm_one]
      exact ⟨x, y, s1, e1, hg⟩
    | idiv =>
      obtain ⟨x, y, s1, e1, e2, hg⟩ := hw
      obtain ⟨r9, h9, k, l1, l2, hg⟩ := ih _ _ _ _ hg
      refine ⟨r9, h9, k, l1, l2, ?_⟩
      dsimp only [mm_one]
      exact ⟨x, y, s1, e1, e2, hg⟩
    | irem =>
      obtain ⟨x, y, s1, e1, e2, hg⟩ := hw
      obtain ⟨r9, h9, k, l1, l2, hg⟩ := ih _ _ _ _ hg
      refine ⟨r9, h9, k, l1, l2, ?_⟩
      dsimp only [mm_one]
      exact ⟨x, y, s1, e1, e2, hg⟩
    | ineg =>
      obtain ⟨x, s1, e1, hg⟩ := hw
      obtain ⟨r9, h9, k, l1, l2, hg⟩ := ih _ _ _ _ hg
      refine ⟨r9, h9, k, l1, l2, ?_⟩
      dsimp only [mm_one]
      exact ⟨x, s1, e1, hg⟩
    | dup =>
      obtain ⟨x, s1, e1, hg⟩ := hw
      obtain ⟨r9, h9, k, l1, l2, hg⟩ := ih _ _ _ _ hg
      refine ⟨r9, h9, k, l1, l2, ?_⟩
      dsimp only [mm_one]
      exact ⟨x, s1, e1, hg⟩
    | pop =>
      obtain ⟨x, s1, e1, hg⟩ := hw
      obtain ⟨r9, h9, k, l1, l2, hg⟩ := ih _ _ _ _ hg
      refine ⟨r9, h9, k, l1, l2, ?_⟩
      dsimp only [mm_one]
      exact ⟨x, s1, e1, hg⟩
    | dup2 =>
      obtain ⟨x, y, s1, e1, hg⟩ := hw
      obtain ⟨r9, h9, k, l1, l2, hg⟩ := ih _ _ _ _ hg
      refine ⟨r9, h9, k, l1, l2, ?_⟩
      dsimp only [mm_one]
      exact ⟨x, y, s1, e1, hg⟩
    | getstatic v =>
      obtain ⟨e1, hg⟩ := hw
      obtain ⟨r9, h9, k, l1, l2, hg⟩ := ih _ _ _ _ hg
      refine ⟨r9, h9, k, l1, l2, ?_⟩
      dsimp only [mm_one]
      exact ⟨e1, hg⟩
    | getfield v =>
      obtain ⟨x1, x2, x3, s1, e1, e2, e3, hg⟩ := hw
      obtain ⟨r9, h9, k, l1, l2, hg⟩ := ih _ _ _ _ hg
      refine ⟨r9, h9, k, l1, l2, ?_⟩
      dsimp only [mm_one]
      exact ⟨x1, x2, x3, s1, e1, e2, e3, hg⟩
    | baload =>
      obtain ⟨x1, x2, s1, x3, e1, e2, e3, hg⟩ := hw
      obtain ⟨r9, h9, k, l1, l2, hg⟩ := ih _ _ _ _ hg
      refine ⟨r9, h9, k, l1, l2, ?_⟩
      dsimp only [mm_one]
      exact ⟨x1, x2, s1, x3, e1, e2, e3, hg⟩
    | aaload =>
      obtain ⟨x1, x2, s1, x3, x4, e1, e2, e3, hg⟩ := hw
      obtain ⟨r9, h9, k, l1, l2, hg⟩ := ih _ _ _ _ hg
      refine ⟨r9, h9, k, l1, l2, ?_⟩
      dsimp only [mm_one]
      exact ⟨x1, x2, s1, x3, x4, e1, e2, e3, hg⟩
    | ifCond q v =>
      obtain ⟨x, s1, e1, g1, g2⟩ := hw
      by_cases hq : mm_if q x
      · obtain ⟨r9, h9, k, l1, l2, hg⟩ := ih _ _ _ _ (g1 hq)
        refine ⟨r9, h9, k, l1, l2, ?_⟩
        dsimp only [mm_one]
        exact ⟨x, s1, e1, fun _ => hg, fun z => absurd hq z⟩
      · obtain ⟨r9, h9, k, l1, l2, hg⟩ := ih _ _ _ _ (g2 hq)
        refine ⟨r9, h9, k, l1, l2, ?_⟩
        dsimp only [mm_one]
        exact ⟨x, s1, e1, fun z => absurd z hq, fun _ => hg⟩
    | if_icmp q v =>
      obtain ⟨x, y, s1, e1, g1, g2⟩ := hw
      by_cases hq : mm_ic q x y
      · obtain ⟨r9, h9, k, l1, l2, hg⟩ := ih _ _ _ _ (g1 hq)
        refine ⟨r9, h9, k, l1, l2, ?_⟩
        dsimp only [mm_one]
        exact ⟨x, y, s1, e1, fun _ => hg, fun z => absurd hq z⟩
      · obtain ⟨r9, h9, k, l1, l2, hg⟩ := ih _ _ _ _ (g2 hq)
        refine ⟨r9, h9, k, l1, l2, ?_⟩
        dsimp only [mm_one]
        exact ⟨x, y, s1, e1, fun z => absurd z hq, fun _ => hg⟩
    | tableswitch dd lo hi offs =>
      obtain ⟨x, s1, e1, g1, g2⟩ := hw
      by_cases hq : x.toInt < lo ∨ hi < x.toInt
      · obtain ⟨t, e2, g⟩ := g1 hq
        obtain ⟨r9, h9, k, l1, l2, hg⟩ := ih _ _ _ _ g
        refine ⟨r9, h9, k, l1, l2, ?_⟩
        dsimp only [mm_one]
        exact ⟨x, s1, e1, fun _ => ⟨t, e2, hg⟩, fun z => absurd hq z⟩
      · obtain ⟨o, t, e2, e3, g⟩ := g2 hq
        obtain ⟨r9, h9, k, l1, l2, hg⟩ := ih _ _ _ _ g
        refine ⟨r9, h9, k, l1, l2, ?_⟩
        dsimp only [mm_one]
        exact ⟨x, s1, e1, fun z => absurd z hq, fun _ => ⟨o, t, e2, e3, hg⟩⟩
    | iaload =>
      obtain ⟨i, r, s1, e1, ⟨e2, e3, g⟩ | ⟨q, xs, e2, e3, e4, g⟩⟩ := hw
      · obtain ⟨r9, h9, k, l1, l2, hg⟩ := ih _ _ _ _ g
        refine ⟨r9, h9, k, l1, l2, ?_⟩
        dsimp only [mm_one]
        exact ⟨i, r, s1, e1, Or.inl ⟨e2, e3, hg⟩⟩
      · obtain ⟨r9, h9, k, l1, l2, hg⟩ := ih _ _ _ _ g
        refine ⟨r9, h9, k, l1, l2, ?_⟩
        dsimp only [mm_one]
        exact ⟨i, r, s1, e1, Or.inr ⟨q, xs, e2, e3, e4, hg⟩⟩
    | arraylength =>
      obtain ⟨r, s1, e1, ⟨e2, g⟩ | ⟨q, xs, e2, e3, g⟩⟩ := hw
      · obtain ⟨r9, h9, k, l1, l2, hg⟩ := ih _ _ _ _ g
        refine ⟨r9, h9, k, l1, l2, ?_⟩
        dsimp only [mm_one]
        exact ⟨r, s1, e1, Or.inl ⟨e2, hg⟩⟩
      · obtain ⟨r9, h9, k, l1, l2, hg⟩ := ih _ _ _ _ g
        refine ⟨r9, h9, k, l1, l2, ?_⟩
        dsimp only [mm_one]
        exact ⟨r, s1, e1, Or.inr ⟨q, xs, e2, e3, hg⟩⟩
    | putfield v =>
      obtain ⟨x1, x2, x3, s1, e1, e2, e3, e4, hg⟩ := hw
      obtain ⟨r9, h9, k, l1, l2, hg⟩ := ih _ _ _ _ hg
      rw [List.length_set] at l1
      rw [mm_sset e2 (by simp [mm_csz])] at l2
      refine ⟨r9, h9, k, l1, l2, ?_⟩
      dsimp only [mm_one]
      exact ⟨x1, x2, x3, s1, e1, e2, e3, e4, hg⟩
    | iastore =>
      obtain ⟨x1, x2, x3, s1, x4, e1, e2, e3, hg⟩ := hw
      obtain ⟨r9, h9, k, l1, l2, hg⟩ := ih _ _ _ _ hg
      rw [List.length_set] at l1
      rw [mm_sset e2 (by simp [mm_csz])] at l2
      refine ⟨r9, h9, k, l1, l2, ?_⟩
      dsimp only [mm_one]
      exact ⟨x1, x2, x3, s1, x4, e1, e2, e3, hg⟩
    | bastore =>
      obtain ⟨x1, x2, x3, s1, x4, e1, e2, e3, hg⟩ := hw
      obtain ⟨r9, h9, k, l1, l2, hg⟩ := ih _ _ _ _ hg
      rw [List.length_set] at l1
      rw [mm_sset e2 (by simp [mm_csz])] at l2
      refine ⟨r9, h9, k, l1, l2, ?_⟩
      dsimp only [mm_one]
      exact ⟨x1, x2, x3, s1, x4, e1, e2, e3, hg⟩
    | aastore =>
      obtain ⟨x1, x2, x3, s1, x4, x5, e1, e2, e3, e4, hg⟩ := hw
      obtain ⟨r9, h9, k, l1, l2, hg⟩ := ih _ _ _ _ hg
      rw [List.length_set] at l1
      rw [mm_sset e2 (by simp [mm_csz])] at l2
      refine ⟨r9, h9, k, l1, l2, ?_⟩
      dsimp only [mm_one]
      exact ⟨x1, x2, x3, s1, x4, x5, e1, e2, e3, e4, hg⟩
    | new v =>
      obtain ⟨e1, e2, hg⟩ := hw
      obtain ⟨r9, h9, k, l1, l2, hg⟩ := ih _ _ _ _ hg
      rw [List.length_append, List.length_singleton] at l1
      rw [mm_spush] at l2
      simp only [mm_csz, List.length_replicate] at l2
      refine ⟨r9, h9, k, by omega, by omega, ?_⟩
      dsimp only [mm_one]
      exact ⟨by omega, by omega, hg⟩
    | newarray v =>
      obtain ⟨x, s1, e1, e2, e3, e4, e5, e6, hg⟩ := hw
      obtain ⟨r9, h9, k, l1, l2, hg⟩ := ih _ _ _ _ hg
      rw [List.length_append, List.length_singleton] at l1
      rw [mm_spush] at l2
      simp only [mm_csz, List.length_replicate] at l2
      refine ⟨r9, h9, k, by omega, by omega, ?_⟩
      dsimp only [mm_one]
      exact ⟨x, s1, e1, e2, e3, e4, by omega, by omega, hg⟩
    | anewarray v =>
      obtain ⟨x, s1, e1, e3, e4, e5, e6, hg⟩ := hw
      obtain ⟨r9, h9, k, l1, l2, hg⟩ := ih _ _ _ _ hg
      rw [List.length_append, List.length_singleton] at l1
      rw [mm_spush] at l2
      simp only [mm_csz, List.length_replicate] at l2
      refine ⟨r9, h9, k, by omega, by omega, ?_⟩
      dsimp only [mm_one]
      exact ⟨x, s1, e1, e3, e4, by omega, by omega, hg⟩
    | multianewarray v w =>
      obtain ⟨x, y, s1, e1, e2, e3, e4, e5, e6, e7, hg⟩ := hw
      obtain ⟨r9, h9, k, l1, l2, hg⟩ := ih _ _ _ _ hg
      rw [List.length_append] at l1
      rw [mm_srows] at l2
      simp [mm_rows] at l1
      refine ⟨r9, h9, k, by omega, by omega, ?_⟩
      dsimp only [mm_one]
      exact ⟨x, y, s1, e1, e2, e3, e4, e5, by omega, by omega, hg⟩
    | invokevirtual v =>
      obtain ⟨as, r, s1, fs, ci, rv, h1, e1, e2, e3, e4, e5, e6, e7, e8, e9, e10, hg⟩ := hw
      obtain ⟨r9, h9, k, l1, l2, hg⟩ := ih _ _ _ _ hg
      refine ⟨r9, h9, k, by omega, by omega, ?_⟩
      dsimp only [mm_one]
      exact ⟨as, r, s1, fs, ci, rv, h1, e1, e2, e3, e4, e5, e6, e7, e8, l1, l2, hg⟩
    | invokestatic v =>
      dsimp only [mm_one] at hw ⊢
      split at hw
      · obtain ⟨x, s1, e1, e2, e3, e4, hg⟩ := hw
        obtain ⟨r9, h9, k, l1, l2, hg⟩ := ih _ _ _ _ hg
        exact ⟨r9, h9, k, l1, l2, x, s1, e1, e2, l1, l2, hg⟩
      · obtain ⟨x, y, s1, e1, e2, e3, e4, hg⟩ := hw
        obtain ⟨r9, h9, k, l1, l2, hg⟩ := ih _ _ _ _ hg
        exact ⟨r9, h9, k, l1, l2, x, y, s1, e1, e2, l1, l2, hg⟩
      · obtain ⟨x, y, s1, e1, e2, e3, e4, hg⟩ := hw
        obtain ⟨r9, h9, k, l1, l2, hg⟩ := ih _ _ _ _ hg
        exact ⟨r9, h9, k, l1, l2, x, y, s1, e1, e2, l1, l2, hg⟩
      · obtain ⟨as, s1, rv, h1, e1, e2, e3, e6, e7, e8, e9, e10, hg⟩ := hw
        obtain ⟨r9, h9, k, l1, l2, hg⟩ := ih _ _ _ _ hg
        exact ⟨r9, h9, k, by omega, by omega, as, s1, rv, h1, e1, e2, e3, e6, e7, e8, l1, l2, hg⟩
    | invokespecial v =>
      dsimp only [mm_one] at hw ⊢
      split at hw
      · obtain ⟨r, s1, e1, e2, hg⟩ := hw
        obtain ⟨r9, h9, k, l1, l2, hg⟩ := ih _ _ _ _ hg
        exact ⟨r9, h9, k, l1, l2, r, s1, e1, e2, hg⟩
      · obtain ⟨as, r, s1, h1, e1, e2, e3, e6, e7, e8, e9, e10, hg⟩ := hw
        obtain ⟨r9, h9, k, l1, l2, hg⟩ := ih _ _ _ _ hg
        exact ⟨r9, h9, k, by omega, by omega, as, r, s1, h1, e1, e2, e3, e6, e7, e8, l1, l2, hg⟩
    | ireturn =>
      obtain ⟨v, e1, e2, k⟩ := hw
      refine ⟨_, _, k, Nat.le_refl _, Nat.le_refl _, ?_⟩
      dsimp only [mm_one]
      exact ⟨v, e1, e2, rfl, rfl⟩
    | return_ =>
      obtain ⟨e1, e2, k⟩ := hw
      refine ⟨_, _, k, Nat.le_refl _, Nat.le_refl _, ?_⟩
      dsimp only [mm_one]
      exact ⟨e1, e2, rfl, rfl⟩
    | _ => exact False.elim hw
/-- a method's run gives a call -/
theorem mm_ev {mt : List mm_M} {d y : Nat} {M : mm_M} {as : List mm_V} {h : mm_H} {hl hs n : Nat} {K : Option Int32 → mm_H → Prop} (hM : mt[y]? = some M) (hn : as.length ≤ mm_ml M) (hw : mm_wp ro (mm_EvT mt ro d) (mm_mr M) (mm_mk M) hl hs K n 0 (mm_ent M as) [] h) : ∃ r h', K r h' ∧ mm_EvT mt ro (d + 1) y as h r h' := by
  obtain ⟨r, h', k, -, -, hg⟩ := mm_out _ _ _ _ _ hw
  exact ⟨r, h', k, M, hM, hn, n, hg⟩
end MO
