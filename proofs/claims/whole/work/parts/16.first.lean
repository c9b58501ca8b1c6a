/-! more depth does no harm -/
set_option maxHeartbeats 2000000 in
theorem mm_mono {ro : Nat → List Int32} {Ca Cb : mm_R} (hC : ∀ y as h r h', Ca y as h r h' → Cb y as h r h') {rt : Option FieldType} {code : List mm_E} {hl hs : Nat} {K : Option Int32 → mm_H → Prop} : ∀ (n pc : Nat) (ls : mm_L) (st : List mm_V) (h : mm_H), mm_wp ro Ca rt code hl hs K n pc ls st h → mm_wp ro Cb rt code hl hs K n pc ls st h
  | 0, _, _, _, _, hw => False.elim hw
  | n + 1, pc, ls, st, h, hw => by
    have ih := fun pc ls st h hh => mm_mono hC (ro := ro) (rt := rt) (code := code) (hl := hl) (hs := hs) (K := K) n pc ls st h hh
    obtain ⟨i, len, a, b, c, w, hat, hw⟩ := hw
    refine ⟨i, len, a, b, c, w, hat, ?_⟩
    clear hat
    cases i with
    | iconst v => exact ih _ _ _ _ hw
    | bipush v => exact ih _ _ _ _ hw
    | sipush v => exact ih _ _ _ _ hw
    | ldc v => exact ih _ _ _ _ hw
    | goto v => exact ih _ _ _ _ hw
    | iload_n v =>
      obtain ⟨x, e1, hg⟩ := hw
      dsimp only [mm_one]
      exact ⟨x, e1, ih _ _ _ _ hg⟩
    | iload v =>
      obtain ⟨x, e1, hg⟩ := hw
      dsimp only [mm_one]
      exact ⟨x, e1, ih _ _ _ _ hg⟩
    | aload_n v =>
      obtain ⟨x, e1, hg⟩ := hw
      dsimp only [mm_one]
      exact ⟨x, e1, ih _ _ _ _ hg⟩
    | iinc v w =>
      obtain ⟨x, e1, hg⟩ := hw
      dsimp only [mm_one]
      exact ⟨x, e1, ih _ _ _ _ hg⟩
    | istore_n v =>
      obtain ⟨x, s1, e1, e2, hg⟩ := hw
      dsimp only [mm_one]
      exact ⟨x, s1, e1, e2, ih _ _ _ _ hg⟩
    | istore v =>
      obtain ⟨x, s1, e1, e2, hg⟩ := hw
      dsimp only [mm_one]
      exact ⟨x, s1, e1, e2, ih _ _ _ _ hg⟩
    | astore_n v =>
      obtain ⟨x, s1, e1, e2, hg⟩ := hw
      dsimp only [mm_one]
      exact ⟨x, s1, e1, e2, ih _ _ _ _ hg⟩
    | iadd =>
      obtain ⟨x, y, s1, e1, hg⟩ := hw
      dsimp only [mm_one]
      exact ⟨x, y, s1, e1, ih _ _ _ _ hg⟩
    | isub =>
      obtain ⟨x, y, s1, e1, hg⟩ := hw
      dsimp only [mm_one]
      exact ⟨x, y, s1, e1, ih _ _ _ _ hg⟩
    | imul =>
      obtain ⟨x, y, s1, e1, hg⟩ := hw
      dsimp only [mm_one]
      exact ⟨x, y, s1, e1, ih _ _ _ _ hg⟩
    | iand =>
      obtain ⟨x, y, s1, e1, hg⟩ := hw
      dsimp only [mm_one]
      exact ⟨x, y, s1, e1, ih _ _ _ _ hg⟩
    | ior =>
      obtain ⟨x, y, s1, e1, hg⟩ := hw
      dsimp only [mm_one]
      exact ⟨x, y, s1, e1, ih _ _ _ _ hg⟩
    | ixor =>
      obtain ⟨x, y, s1, e1, hg⟩ := hw
      dsimp only [mm_one]
      exact ⟨x, y, s1, e1, ih _ _ _ _ hg⟩
    | ishl =>
      obtain ⟨x, y, s1, e1, hg⟩ := hw
      dsimp only [mm_one]
      exact ⟨x, y, s1, e1, ih _ _ _ _ hg⟩
    | ishr =>
      obtain ⟨x, y, s1, e1, hg⟩ := hw
      dsimp only [mm_one]
      exact ⟨x, y, s1, e1, ih _ _ _ _ hg⟩
    | idiv =>
      obtain ⟨x, y, s1, e1, e2, hg⟩ := hw
      dsimp only [mm_one]
      exact ⟨x, y, s1, e1, e2, ih _ _ _ _ hg⟩
    | irem =>
      obtain ⟨x, y, s1, e1, e2, hg⟩ := hw
      dsimp only [mm_one]
      exact ⟨x, y, s1, e1, e2, ih _ _ _ _ hg⟩
    | ineg =>
      obtain ⟨x, s1, e1, hg⟩ := hw
      dsimp only [mm_one]
      exact ⟨x, s1, e1, ih _ _ _ _ hg⟩
    | dup =>
      obtain ⟨x, s1, e1, hg⟩ := hw
      dsimp only [mm_one]
      exact ⟨x, s1, e1, ih _ _ _ _ hg⟩
    | pop =>
      obtain ⟨x, s1, e1, hg⟩ := hw
      dsimp only [mm_one]
      exact ⟨x, s1, e1, ih _ _ _ _ hg⟩
    | dup2 =>
      obtain ⟨x, y, s1, e1, hg⟩ := hw
      dsimp only [mm_one]
      exact ⟨x, y, s1, e1, ih _ _ _ _ hg⟩
    | getstatic v =>
      obtain ⟨e1, hg⟩ := hw
      dsimp only [mm_one]
      exact ⟨e1, ih _ _ _ _ hg⟩
    | getfield v =>
      obtain ⟨x1, x2, x3, s1, e1, e2, e3, hg⟩ := hw
      dsimp only [mm_one]
      exact ⟨x1, x2, x3, s1, e1, e2, e3, ih _ _ _ _ hg⟩
    | baload =>
      obtain ⟨x1, x2, s1, x3, e1, e2, e3, hg⟩ := hw
      dsimp only [mm_one]
      exact ⟨x1, x2, s1, x3, e1, e2, e3, ih _ _ _ _ hg⟩
    | aaload =>
      obtain ⟨x1, x2, s1, x3, x4, e1, e2, e3, hg⟩ := hw
      dsimp only [mm_one]
      exact ⟨x1, x2, s1, x3, x4, e1, e2, e3, ih _ _ _ _ hg⟩
    | putfield v =>
      obtain ⟨x1, x2, x3, s1, e1, e2, e3, e4, hg⟩ := hw
      dsimp only [mm_one]
      exact ⟨x1, x2, x3, s1, e1, e2, e3, e4, ih _ _ _ _ hg⟩
    | iastore =>
      obtain ⟨x1, x2, x3, s1, x4, e1, e2, e3, hg⟩ := hw
      dsimp only [mm_one]
      exact ⟨x1, x2, x3, s1, x4, e1, e2, e3, ih _ _ _ _ hg⟩
    | bastore =>
      obtain ⟨x1, x2, x3, s1, x4, e1, e2, e3, hg⟩ := hw
      dsimp only [mm_one]
      exact ⟨x1, x2, x3, s1, x4, e1, e2, e3, ih _ _ _ _ hg⟩
    | aastore =>
      obtain ⟨x1, x2, x3, s1, x4, x5, e1, e2, e3, e4, hg⟩ := hw
      dsimp only [mm_one]
      exact ⟨x1, x2, x3, s1, x4, x5, e1, e2, e3, e4, ih _ _ _ _ hg⟩
    | new v =>
      obtain ⟨e1, e2, hg⟩ := hw
      dsimp only [mm_one]
      exact ⟨e1, e2, ih _ _ _ _ hg⟩
    | newarray v =>
      obtain ⟨x, s1, e1, e2, e3, e4, e5, e6, hg⟩ := hw
      dsimp only [mm_one]
      exact ⟨x, s1, e1, e2, e3, e4, e5, e6, ih _ _ _ _ hg⟩
    | anewarray v =>
      obtain ⟨x, s1, e1, e3, e4, e5, e6, hg⟩ := hw
      dsimp only [mm_one]
      exact ⟨x, s1, e1, e3, e4, e5, e6, ih _ _ _ _ hg⟩
    | multianewarray v w =>
      obtain ⟨x, y, s1, e1, e2, e3, e4, e5, e6, e7, hg⟩ := hw
      dsimp only [mm_one]
      exact ⟨x, y, s1, e1, e2, e3, e4, e5, e6, e7, ih _ _ _ _ hg⟩
    | ifCond q v =>
      obtain ⟨x, s1, e1, g1, g2⟩ := hw
      dsimp only [mm_one]
      exact ⟨x, s1, e1, fun z => ih _ _ _ _ (g1 z), fun z => ih _ _ _ _ (g2 z)⟩
    | if_icmp q v =>
      obtain ⟨x, y, s1, e1, g1, g2⟩ := hw
      dsimp only [mm_one]
      exact ⟨x, y, s1, e1, fun z => ih _ _ _ _ (g1 z), fun z => ih _ _ _ _ (g2 z)⟩
    | tableswitch dd lo hi offs =>
      obtain ⟨x, s1, e1, g1, g2⟩ := hw
      dsimp only [mm_one]
      exact ⟨x, s1, e1, fun z => (by obtain ⟨t, e2, g⟩ := g1 z; exact ⟨t, e2, ih _ _ _ _ g⟩), fun z => (by obtain ⟨o, t, e2, e3, g⟩ := g2 z; exact ⟨o, t, e2, e3, ih _ _ _ _ g⟩)⟩
    | iaload =>
      obtain ⟨i, r, s1, e1, ⟨e2, e3, g⟩ | ⟨q, xs, e2, e3, e4, g⟩⟩ := hw
      · exact ⟨i, r, s1, e1, Or.inl ⟨e2, e3, ih _ _ _ _ g⟩⟩
      · exact ⟨i, r, s1, e1, Or.inr ⟨q, xs, e2, e3, e4, ih _ _ _ _ g⟩⟩
    | arraylength =>
      obtain ⟨r, s1, e1, ⟨e2, g⟩ | ⟨q, xs, e2, e3, g⟩⟩ := hw
      · exact ⟨r, s1, e1, Or.inl ⟨e2, ih _ _ _ _ g⟩⟩
      · exact ⟨r, s1, e1, Or.inr ⟨q, xs, e2, e3, ih _ _ _ _ g⟩⟩
    | invokevirtual v =>
      obtain ⟨as, r, s1, fs, ci, rv, h1, e1, e2, e3, e4, e5, e6, e7, e8, e9, e10, hg⟩ := hw
      exact ⟨as, r, s1, fs, ci, rv, h1, e1, e2, e3, e4, e5, hC _ _ _ _ _ e6, e7, e8, e9, e10, ih _ _ _ _ hg⟩
    | invokestatic v =>
      dsimp only [mm_one] at hw ⊢
      split at hw
      · obtain ⟨x, s1, e1, e2, e3, e4, hg⟩ := hw
        exact ⟨x, s1, e1, e2, e3, e4, ih _ _ _ _ hg⟩
      · obtain ⟨x, y, s1, e1, e2, e3, e4, hg⟩ := hw
        exact ⟨x, y, s1, e1, e2, e3, e4, ih _ _ _ _ hg⟩
      · obtain ⟨x, y, s1, e1, e2, e3, e4, hg⟩ := hw
        exact ⟨x, y, s1, e1, e2, e3, e4, ih _ _ _ _ hg⟩
      · obtain ⟨as, s1, rv, h1, e1, e2, e3, e6, e7, e8, e9, e10, hg⟩ := hw
        exact ⟨as, s1, rv, h1, e1, e2, e3, hC _ _ _ _ _ e6, e7, e8, e9, e10, ih _ _ _ _ hg⟩
    | invokespecial v =>
      dsimp only [mm_one] at hw ⊢
      split at hw
      · obtain ⟨r, s1, e1, e2, hg⟩ := hw
        exact ⟨r, s1, e1, e2, ih _ _ _ _ hg⟩
      · obtain ⟨as, r, s1, h1, e1, e2, e3, e6, e7, e8, e9, e10, hg⟩ := hw
        exact ⟨as, r, s1, h1, e1, e2, e3, hC _ _ _ _ _ e6, e7, e8, e9, e10, ih _ _ _ _ hg⟩
    | ireturn => exact hw
    | return_ => exact hw
    | _ => exact False.elim hw
theorem mm_up1 {ro : Nat → List Int32} : ∀ (d y : Nat) (as : List mm_V) (h : mm_H) (r : Option Int32) (h' : mm_H), mm_EvT mm_mt ro d y as h r h' → mm_EvT mm_mt ro (d + 1) y as h r h'
  | 0, _, _, _, _, _, hh => False.elim hh
  | d + 1, y, as, h, r, h', hh => by
    obtain ⟨M, h1, h2, n, hw⟩ := hh
    exact ⟨M, h1, h2, n, mm_mono (fun y as h r h' z => mm_up1 d y as h r h' z) _ _ _ _ _ hw⟩
theorem mm_up {ro : Nat → List Int32} (d : Nat) {k y : Nat} {as : List mm_V} {h : mm_H} {r : Option Int32} {h' : mm_H} (hh : mm_EvT mm_mt ro k y as h r h') : mm_EvT mm_mt ro (d + k) y as h r h' := by
  induction d with
  | zero => rw [Nat.zero_add]; exact hh
  | succ d ih => rw [show d + 1 + k = d + k + 1 by omega]; exact mm_up1 _ _ _ _ _ _ ih
theorem qq_up {xs : List Int32} {k d y : Nat} {as : List qq_V} {S : qq_S} {r : Option Int} {S' : qq_S} (hk : k ≤ d) (hh : qq_E xs k y as S r S') : qq_E xs d y as S r S' := by
  have h := mm_up (d - k) hh
  rw [Nat.sub_add_cancel hk] at h
  exact h
/-! The law's first instructions: two objects made; then its loop over the script. -/
theorem mm_first {xs : List Int32} {d : Nat} {K : Option Int32 → mm_H → Prop} {n : Nat} (h : mm_wp (mm_ro xs) (mm_EvT mm_mt (mm_ro xs) (d + 6)) (some .boolean) mm_kl 600000 7302250 K n 18 [some (.inr (some 0)), some (.inr (some 3)), some (.inr (some 115)), some (.inl 0)] [] (qq_e qq_0)) : mm_wp (mm_ro xs) (mm_EvT mm_mt (mm_ro xs) (d + 6)) (some .boolean) mm_kl 600000 7302250 K (n + 10) 0 (mm_ent mm_law [.inr (some 0)]) [] [] := by
  have c1 : mm_EvT mm_mt (mm_ro xs) (d + 6) 84 [.inr (some 3)] [.inl (7, mm_defs 7)] none qq_h1 := mm_up d (mm_x_ok 6 84 _ _ _ _ (mm_xeq_ok mm_new1))
  have c2 : mm_EvT mm_mt (mm_ro xs) (d + 6) 113 [.inr (some 115)] (qq_h1 ++ [.inl (8, mm_defs 8)]) none (qq_e qq_0) := mm_up d (mm_x_ok 6 113 _ _ _ _ (mm_xeq_ok mm_new2))
  have l1 : qq_h1.length = 112 := by decide +kernel
  have l2 : mm_sz qq_h1 = 1559 := by decide +kernel
  have l3 : mm_sz [(.inl (7, mm_defs 7) : mm_C)] = 10 := by decide +kernel
  have l4 : mm_sz (qq_h1 ++ [.inl (8, mm_defs 8)]) = 1591 := by decide +kernel
  refine ⟨_, _, _, _, _, _, rfl, And.intro (by decide) (And.intro (by decide) ?_)⟩
  refine ⟨_, _, _, _, _, _, rfl, Exists.intro _ (Exists.intro _ (And.intro rfl ?_))⟩
  refine ⟨_, _, _, _, _, _, rfl, Exists.intro [] (Exists.intro 3 (Exists.intro _ (Exists.intro qq_h1 (And.intro rfl (And.intro rfl (And.intro (by decide) (And.intro c1 (And.intro (by rw [l1]; decide) (And.intro (by rw [l2]; exact l3 ▸ (by decide)) (And.intro (by rw [l1]; decide) (And.intro (by rw [l2]; decide) ?_)))))))))))⟩
  refine ⟨_, _, _, _, _, _, rfl, Exists.intro _ (Exists.intro _ (And.intro rfl (And.intro (by decide) ?_)))⟩
  refine ⟨_, _, _, _, _, _, rfl, And.intro (by rw [l1]; decide) (And.intro (by rw [l2]; decide) ?_)⟩
  refine ⟨_, _, _, _, _, _, rfl, Exists.intro _ (Exists.intro _ (And.intro rfl ?_))⟩
  rw [l1]
  refine ⟨_, _, _, _, _, _, rfl, Exists.intro [] (Exists.intro 115 (Exists.intro _ (Exists.intro (qq_e qq_0) (And.intro rfl (And.intro rfl (And.intro (by decide) (And.intro c2 (And.intro (by rw [qq_len, List.length_append, l1]; decide) (And.intro (by rw [qq_size]; exact l4 ▸ (by decide)) (And.intro (by rw [qq_len]; decide) (And.intro (by rw [qq_size]; decide) ?_)))))))))))⟩
  refine ⟨_, _, _, _, _, _, rfl, Exists.intro _ (Exists.intro _ (And.intro rfl (And.intro (by decide) ?_)))⟩
  refine ⟨_, _, _, _, _, _, rfl, ?_⟩
  refine ⟨_, _, _, _, _, _, rfl, Exists.intro _ (Exists.intro _ (And.intro rfl (And.intro (by decide) ?_)))⟩
  exact h
/-- the law's loop, from its head -/
def qq_Goal : Prop := ∀ xs : List Int32, xs.length ≤ 2048 → qq_p xs 30 (some .boolean) mm_kl (fun r _ => r = some 1) 18 [some (.inr (0, none)), some (.inr (3, none)), some (.inr (115, none)), some (.inl 0)] [] qq_0
def mm_KK : Option Int32 → mm_H → Prop := fun r h => ∃ r2 S2, r = r2.map Int32.ofInt ∧ h = qq_e S2 ∧ r2 = some (1 : Int)
theorem mm_goalK : ∀ r h, mm_KK r h → r = some 1 ∧ h.length ≤ 600000 ∧ mm_sz h ≤ 7302250 := fun r h hh => by
  obtain ⟨r2, S2, e1, e2, e3⟩ := hh
  rw [e1, e2, e3, qq_len, qq_size]
  exact ⟨rfl, by omega, by omega⟩
theorem mm_goal_of (G : qq_Goal) : mm_Goal mm_KK := fun xs hxs => by
  obtain ⟨n, hn⟩ := G xs hxs
  exact ⟨n + 10, mm_first (d := 24) hn⟩
