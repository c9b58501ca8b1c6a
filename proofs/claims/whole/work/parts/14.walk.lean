theorem qq_b8 {v : Int} (h : -128 ≤ v ∧ v ≤ 127) : (Int8.ofInt v).toInt32 = Int32.ofInt v := by
  have h1 : (Int8.ofInt v).toInt = v := Int8.toInt_ofInt_of_le (by omega) (by omega)
  refine Int32.toInt_inj.mp ?_
  rw [qq_ti (by unfold qq_in; omega), Int8.toInt_toInt32, h1]
theorem qq_b16 {v : Int} (h : -32768 ≤ v ∧ v ≤ 32767) : (Int16.ofInt v).toInt32 = Int32.ofInt v := by
  have h1 : (Int16.ofInt v).toInt = v := Int16.toInt_ofInt_of_le (by omega) (by omega)
  refine Int32.toInt_inj.mp ?_
  rw [qq_ti (by unfold qq_in; omega), Int16.toInt_toInt32, h1]
theorem qq_natc (a : Nat) : Int32.ofNat a = Int32.ofInt (a : Int) := (Int32.ofInt_eq_ofNat).symm
theorem qq_rd {n i : Nat} {f : Nat → Int} (h : i < n) : ((List.range n).map (fun k => Int32.ofInt (f k))).getD i 0 = Int32.ofInt (f i) := by
  rw [List.getD_eq_getElem?_getD, List.getElem?_map, List.getElem?_range h]
  rfl
theorem qq_rol {xs : List Int32} {q : Nat} (hxs : xs.length ≤ 2048) (h : q < 3) : (mm_ro xs q).length ≤ 2048 := by
  match q, h with
  | 0, _ => exact hxs
  | 1, _ => show ([1, 1, 0, -1, -1, -1, 0, 1] : List Int32).length ≤ 2048; decide
  | 2, _ => show ([0, 1, 1, 1, 0, -1, -1, -1] : List Int32).length ≤ 2048; decide
theorem qq_tabok {G : qq_G} {pc : Nat} {ls : qq_L} {st : List qq_V} {S : qq_S} {x : Int} : ∀ (os : List Int) (lo : Int), qq_tab G pc ls st S x lo os → lo ≤ x → x < lo + os.length → ∃ o, os[(x - lo).toNat]? = some o ∧ G ((pc : Int) + o).toNat ls st S
  | [], lo, _, h1, h2 => by simp at h2; omega
  | o :: os, lo, h, h1, h2 => by
    obtain ⟨ha, hb⟩ := h
    by_cases hx : x = lo
    · exact ⟨o, by rw [hx, Int.sub_self]; rfl, ha hx⟩
    · obtain ⟨o', ho, hg⟩ := qq_tabok os (lo + 1) hb (by omega) (by simp at h2; omega)
      refine ⟨o', ?_, hg⟩
      rw [show (x - lo).toNat = (x - (lo + 1)).toNat + 1 by omega]
      exact ho
theorem qq_plok {G : qq_G} {pc : Nat} {ls : qq_L} {st : List qq_V} {S : qq_S} {x : Int} : ∀ (os : List Nat) (lo : Int), qq_pl G pc ls st S x lo os → lo ≤ x → x < lo + os.length → ∃ o, os[(x - lo).toNat]? = some o ∧ G pc ls (.inr (o, none) :: st) S
  | [], lo, _, h1, h2 => by simp at h2; omega
  | o :: os, lo, h, h1, h2 => by
    obtain ⟨ha, hb⟩ := h
    by_cases hx : x = lo
    · exact ⟨o, by rw [hx, Int.sub_self]; rfl, ha hx⟩
    · obtain ⟨o', ho, hg⟩ := qq_plok os (lo + 1) hb (by omega) (by simp at h2; omega)
      refine ⟨o', ?_, hg⟩
      rw [show (x - lo).toNat = (x - (lo + 1)).toNat + 1 by omega]
      exact ho
/-- what callees are known by holds -/
def qq_ok (xs : List Int32) (d : Nat) (sp : qq_P) : Prop := ∀ y as S pre r S', sp y as S = some (pre, r, S') → pre → qq_E xs d y as S r S'
set_option maxHeartbeats 4000000 in
theorem qq_sound1 {xs : List Int32} (hxs : xs.length ≤ 2048) {d : Nat} {sp : qq_P} (hsp : qq_ok xs d sp) {rt : Option FieldType} {code : List mm_E} {K : qq_K} {G Z : qq_G} (hG : ∀ pc ls st S, G pc ls st S → qq_p xs d rt code K pc ls st S) (hZ : ∀ pc ls st S, Z pc ls st S → qq_p xs d rt code K pc ls st S) {pc len a b c w : Nat} {i : Instr} {ls : qq_L} {st : List qq_V} {S : qq_S} (hat : mm_at code pc = some (pc, i, len, a, b, c, w)) (hw : qq_one xs sp rt K G Z pc i a b c ls st S) : qq_p xs d rt code K pc ls st S := by
  cases i with
  | iconst v =>
    obtain ⟨n, hn⟩ := hG _ _ _ _ hw
    exact ⟨n + 1, _, _, _, _, _, _, hat, hn⟩
  | goto v =>
    obtain ⟨n, hn⟩ := hG _ _ _ _ hw
    exact ⟨n + 1, _, _, _, _, _, _, hat, hn⟩
  | bipush v =>
    dsimp only [qq_one] at hw
    split at hw
    · rename_i hv
      obtain ⟨n, hn⟩ := hG _ _ _ _ hw
      refine ⟨n + 1, _, _, _, _, _, _, hat, ?_⟩
      have e : (Int8.ofInt v).toInt32 = Int32.ofInt v := qq_b8 hv
      dsimp only [mm_one]
      rw [e]
      exact hn
    · exact hw.elim
  | sipush v =>
    dsimp only [qq_one] at hw
    split at hw
    · rename_i hv
      obtain ⟨n, hn⟩ := hG _ _ _ _ hw
      refine ⟨n + 1, _, _, _, _, _, _, hat, ?_⟩
      have e : (Int16.ofInt v).toInt32 = Int32.ofInt v := qq_b16 hv
      dsimp only [mm_one]
      rw [e]
      exact hn
    · exact hw.elim
  | ldc v =>
    obtain ⟨n, hn⟩ := hG _ _ _ _ hw
    refine ⟨n + 1, _, _, _, _, _, _, hat, ?_⟩
    have e : Int32.ofNat a = Int32.ofInt (a : Int) := qq_natc a
    dsimp only [mm_one]
    rw [e]
    exact hn
  | iload_n k =>
    dsimp only [qq_one] at hw
    split at hw
    · rename_i x hx
      obtain ⟨n, hn⟩ := hG _ _ _ _ hw
      exact ⟨n + 1, _, _, _, _, _, _, hat, Int32.ofInt x, by rw [List.getElem?_map, hx]; rfl, hn⟩
    · exact hw.elim
  | iload k =>
    dsimp only [qq_one] at hw
    split at hw
    · rename_i x hx
      obtain ⟨n, hn⟩ := hG _ _ _ _ hw
      exact ⟨n + 1, _, _, _, _, _, _, hat, Int32.ofInt x, by rw [List.getElem?_map, hx]; rfl, hn⟩
    · exact hw.elim
  | aload_n k =>
    dsimp only [qq_one] at hw
    split at hw
    · rename_i x hx
      obtain ⟨n, hn⟩ := hG _ _ _ _ hw
      obtain ⟨q, o⟩ := x
      cases o with
      | none => exact ⟨n + 1, _, _, _, _, _, _, hat, q, by rw [List.getElem?_map, hx]; rfl, hn⟩
      | some j => exact ⟨n + 1, _, _, _, _, _, _, hat, q + 1 + j, by rw [List.getElem?_map, hx]; rfl, hn⟩
    · exact hw.elim
  | istore_n k =>
    dsimp only [qq_one] at hw
    split at hw
    · rename_i x s1
      split at hw
      · rename_i hk
        obtain ⟨n, hn⟩ := hG _ _ _ _ hw
        rw [List.map_set] at hn
        exact ⟨n + 1, _, _, _, _, _, _, hat, Int32.ofInt x, s1.map qq_v, rfl, by rw [List.length_map]; exact hk, hn⟩
      · exact hw.elim
    · exact hw.elim
  | istore k =>
    dsimp only [qq_one] at hw
    split at hw
    · rename_i x s1
      split at hw
      · rename_i hk
        obtain ⟨n, hn⟩ := hG _ _ _ _ hw
        rw [List.map_set] at hn
        exact ⟨n + 1, _, _, _, _, _, _, hat, Int32.ofInt x, s1.map qq_v, rfl, by rw [List.length_map]; exact hk, hn⟩
      · exact hw.elim
    · exact hw.elim
  | astore_n k =>
    dsimp only [qq_one] at hw
    split at hw
    · rename_i x s1
      split at hw
      · rename_i hk
        obtain ⟨n, hn⟩ := hG _ _ _ _ hw
        rw [List.map_set] at hn
        obtain ⟨q, o⟩ := x
        cases o with
        | none => exact ⟨n + 1, _, _, _, _, _, _, hat, q, s1.map qq_v, rfl, by rw [List.length_map]; exact hk, hn⟩
        | some j => exact ⟨n + 1, _, _, _, _, _, _, hat, q + 1 + j, s1.map qq_v, rfl, by rw [List.length_map]; exact hk, hn⟩
      · exact hw.elim
    · exact hw.elim
  | iinc k v =>
    dsimp only [qq_one] at hw
    split at hw
    · rename_i x hx
      obtain ⟨n, hn⟩ := hG _ _ _ _ hw
      rw [List.map_set] at hn
      refine ⟨n + 1, _, _, _, _, _, _, hat, Int32.ofInt x, by rw [List.getElem?_map, hx]; rfl, ?_⟩
      rw [← Int32.ofInt_add]
      exact hn
    · exact hw.elim
  | iadd =>
    dsimp only [qq_one] at hw
    split at hw
    · rename_i y x s1
      obtain ⟨n, hn⟩ := hG _ _ _ _ hw
      refine ⟨n + 1, _, _, _, _, _, _, hat, Int32.ofInt x, Int32.ofInt y, s1.map qq_v, rfl, ?_⟩
      rw [← Int32.ofInt_add]
      exact hn
    · exact hw.elim
  | isub =>
    dsimp only [qq_one] at hw
    split at hw
    · rename_i y x s1
      obtain ⟨n, hn⟩ := hG _ _ _ _ hw
      refine ⟨n + 1, _, _, _, _, _, _, hat, Int32.ofInt x, Int32.ofInt y, s1.map qq_v, rfl, ?_⟩
      rw [← Int32.ofInt_sub]
      exact hn
    · exact hw.elim
  | imul =>
    dsimp only [qq_one] at hw
    split at hw
    · rename_i y x s1
      obtain ⟨n, hn⟩ := hG _ _ _ _ hw
      refine ⟨n + 1, _, _, _, _, _, _, hat, Int32.ofInt x, Int32.ofInt y, s1.map qq_v, rfl, ?_⟩
      rw [← Int32.ofInt_mul]
      exact hn
    · exact hw.elim
  | iand =>
    dsimp only [qq_one] at hw
    split at hw
    · rename_i y x s1
      obtain ⟨n, hn⟩ := hG _ _ _ _ hw
      refine ⟨n + 1, _, _, _, _, _, _, hat, Int32.ofInt x, Int32.ofInt y, s1.map qq_v, rfl, ?_⟩
      have hn2 := hn
      simp only [List.map_cons, qq_v, qq_and, qq_ofT] at hn2
      exact hn2
    · exact hw.elim
  | ior =>
    dsimp only [qq_one] at hw
    split at hw
    · rename_i y x s1
      obtain ⟨n, hn⟩ := hG _ _ _ _ hw
      refine ⟨n + 1, _, _, _, _, _, _, hat, Int32.ofInt x, Int32.ofInt y, s1.map qq_v, rfl, ?_⟩
      have hn2 := hn
      simp only [List.map_cons, qq_v, qq_or, qq_ofT] at hn2
      exact hn2
    · exact hw.elim
  | ixor =>
    dsimp only [qq_one] at hw
    split at hw
    · rename_i y x s1
      obtain ⟨n, hn⟩ := hG _ _ _ _ hw
      refine ⟨n + 1, _, _, _, _, _, _, hat, Int32.ofInt x, Int32.ofInt y, s1.map qq_v, rfl, ?_⟩
      have hn2 := hn
      simp only [List.map_cons, qq_v, qq_xor, qq_ofT] at hn2
      exact hn2
    · exact hw.elim
  | ishl =>
    dsimp only [qq_one] at hw
    split at hw
    · rename_i y x s1
      obtain ⟨n, hn⟩ := hG _ _ _ _ hw
      refine ⟨n + 1, _, _, _, _, _, _, hat, Int32.ofInt x, Int32.ofInt y, s1.map qq_v, rfl, ?_⟩
      have hn2 := hn
      simp only [List.map_cons, qq_v, qq_shl, qq_ofT] at hn2
      exact hn2
    · exact hw.elim
  | ishr =>
    dsimp only [qq_one] at hw
    split at hw
    · rename_i y x s1
      obtain ⟨n, hn⟩ := hG _ _ _ _ hw
      refine ⟨n + 1, _, _, _, _, _, _, hat, Int32.ofInt x, Int32.ofInt y, s1.map qq_v, rfl, ?_⟩
      have hn2 := hn
      simp only [List.map_cons, qq_v, qq_shr, qq_ofT] at hn2
      exact hn2
    · exact hw.elim
  | idiv =>
    dsimp only [qq_one] at hw
    split at hw
    · rename_i y x s1
      obtain ⟨hxy, hw⟩ := hw
      obtain ⟨n, hn⟩ := hG _ _ _ _ hw
      refine ⟨n + 1, _, _, _, _, _, _, hat, Int32.ofInt x, Int32.ofInt y, s1.map qq_v, rfl, (qq_div hxy).2.1, ?_⟩
      rw [(qq_div hxy).1]
      exact hn
    · exact hw.elim
  | irem =>
    dsimp only [qq_one] at hw
    split at hw
    · rename_i y x s1
      obtain ⟨hxy, hw⟩ := hw
      obtain ⟨n, hn⟩ := hG _ _ _ _ hw
      refine ⟨n + 1, _, _, _, _, _, _, hat, Int32.ofInt x, Int32.ofInt y, s1.map qq_v, rfl, (qq_div hxy).2.1, ?_⟩
      rw [(qq_div hxy).2.2]
      exact hn
    · exact hw.elim
  | ineg =>
    dsimp only [qq_one] at hw
    split at hw
    · rename_i x s1
      obtain ⟨n, hn⟩ := hG _ _ _ _ hw
      refine ⟨n + 1, _, _, _, _, _, _, hat, Int32.ofInt x, s1.map qq_v, rfl, ?_⟩
      rw [← Int32.ofInt_neg]
      exact hn
    · exact hw.elim
  | dup =>
    dsimp only [qq_one] at hw
    split at hw
    · rename_i v s1
      obtain ⟨n, hn⟩ := hG _ _ _ _ hw
      exact ⟨n + 1, _, _, _, _, _, _, hat, qq_v v, s1.map qq_v, rfl, hn⟩
    · exact hw.elim
  | pop =>
    dsimp only [qq_one] at hw
    split at hw
    · rename_i v s1
      obtain ⟨n, hn⟩ := hG _ _ _ _ hw
      exact ⟨n + 1, _, _, _, _, _, _, hat, qq_v v, s1.map qq_v, rfl, hn⟩
    · exact hw.elim
  | dup2 =>
    dsimp only [qq_one] at hw
    split at hw
    · rename_i v w1 s1
      obtain ⟨n, hn⟩ := hG _ _ _ _ hw
      exact ⟨n + 1, _, _, _, _, _, _, hat, qq_v v, qq_v w1, s1.map qq_v, rfl, hn⟩
    · exact hw.elim
  | ifCond q v =>
    dsimp only [qq_one] at hw
    split at hw
    · rename_i x s1
      obtain ⟨hin, hw⟩ := hw
      cases q with
      | eq =>
        have hiff := qq_eqI hin qq_in0
        by_cases hc : x = 0
        · obtain ⟨n, hn⟩ := hG _ _ _ _ (hw.1 hc)
          exact ⟨n + 1, _, _, _, _, _, _, hat, Int32.ofInt x, s1.map qq_v, rfl, fun _ => hn, fun z => absurd (hiff.mpr hc) z⟩
        · obtain ⟨n, hn⟩ := hG _ _ _ _ (hw.2 hc)
          exact ⟨n + 1, _, _, _, _, _, _, hat, Int32.ofInt x, s1.map qq_v, rfl, fun z => absurd (hiff.mp z) hc, fun _ => hn⟩
      | ne =>
        have hiff := not_congr (qq_eqI hin qq_in0)
        by_cases hc : ¬ x = 0
        · obtain ⟨n, hn⟩ := hG _ _ _ _ (hw.1 hc)
          exact ⟨n + 1, _, _, _, _, _, _, hat, Int32.ofInt x, s1.map qq_v, rfl, fun _ => hn, fun z => absurd (hiff.mpr hc) z⟩
        · obtain ⟨n, hn⟩ := hG _ _ _ _ (hw.2 (Classical.not_not.mp hc))
          exact ⟨n + 1, _, _, _, _, _, _, hat, Int32.ofInt x, s1.map qq_v, rfl, fun z => absurd (hiff.mp z) hc, fun _ => hn⟩
      | lt =>
        have hiff := qq_ltI hin qq_in0
        by_cases hc : x < 0
        · obtain ⟨n, hn⟩ := hG _ _ _ _ (hw.1 hc)
          exact ⟨n + 1, _, _, _, _, _, _, hat, Int32.ofInt x, s1.map qq_v, rfl, fun _ => hn, fun z => absurd (hiff.mpr hc) z⟩
        · obtain ⟨n, hn⟩ := hG _ _ _ _ (hw.2 hc)
          exact ⟨n + 1, _, _, _, _, _, _, hat, Int32.ofInt x, s1.map qq_v, rfl, fun z => absurd (hiff.mp z) hc, fun _ => hn⟩
      | ge =>
        have hiff := qq_leI qq_in0 hin
        by_cases hc : 0 ≤ x
        · obtain ⟨n, hn⟩ := hG _ _ _ _ (hw.1 hc)
          exact ⟨n + 1, _, _, _, _, _, _, hat, Int32.ofInt x, s1.map qq_v, rfl, fun _ => hn, fun z => absurd (hiff.mpr hc) z⟩
        · obtain ⟨n, hn⟩ := hG _ _ _ _ (hw.2 hc)
          exact ⟨n + 1, _, _, _, _, _, _, hat, Int32.ofInt x, s1.map qq_v, rfl, fun z => absurd (hiff.mp z) hc, fun _ => hn⟩
      | gt =>
        have hiff := qq_ltI qq_in0 hin
        by_cases hc : 0 < x
        · obtain ⟨n, hn⟩ := hG _ _ _ _ (hw.1 hc)
          exact ⟨n + 1, _, _, _, _, _, _, hat, Int32.ofInt x, s1.map qq_v, rfl, fun _ => hn, fun z => absurd (hiff.mpr hc) z⟩
        · obtain ⟨n, hn⟩ := hG _ _ _ _ (hw.2 hc)
          exact ⟨n + 1, _, _, _, _, _, _, hat, Int32.ofInt x, s1.map qq_v, rfl, fun z => absurd (hiff.mp z) hc, fun _ => hn⟩
      | le =>
        have hiff := qq_leI hin qq_in0
        by_cases hc : x ≤ 0
        · obtain ⟨n, hn⟩ := hG _ _ _ _ (hw.1 hc)
          exact ⟨n + 1, _, _, _, _, _, _, hat, Int32.ofInt x, s1.map qq_v, rfl, fun _ => hn, fun z => absurd (hiff.mpr hc) z⟩
        · obtain ⟨n, hn⟩ := hG _ _ _ _ (hw.2 hc)
          exact ⟨n + 1, _, _, _, _, _, _, hat, Int32.ofInt x, s1.map qq_v, rfl, fun z => absurd (hiff.mp z) hc, fun _ => hn⟩
    · exact hw.elim
  | if_icmp q v =>
    dsimp only [qq_one] at hw
    split at hw
    · rename_i y x s1
      obtain ⟨hin, hw⟩ := hw
      cases q with
      | eq =>
        have hiff := qq_eqI hin.1 hin.2
        by_cases hc : x = y
        · obtain ⟨n, hn⟩ := hG _ _ _ _ (hw.1 hc)
          exact ⟨n + 1, _, _, _, _, _, _, hat, Int32.ofInt x, Int32.ofInt y, s1.map qq_v, rfl, fun _ => hn, fun z => absurd (hiff.mpr hc) z⟩
        · obtain ⟨n, hn⟩ := hG _ _ _ _ (hw.2 hc)
          exact ⟨n + 1, _, _, _, _, _, _, hat, Int32.ofInt x, Int32.ofInt y, s1.map qq_v, rfl, fun z => absurd (hiff.mp z) hc, fun _ => hn⟩
      | ne =>
        have hiff := not_congr (qq_eqI hin.1 hin.2)
        by_cases hc : ¬ x = y
        · obtain ⟨n, hn⟩ := hG _ _ _ _ (hw.1 hc)
          exact ⟨n + 1, _, _, _, _, _, _, hat, Int32.ofInt x, Int32.ofInt y, s1.map qq_v, rfl, fun _ => hn, fun z => absurd (hiff.mpr hc) z⟩
        · obtain ⟨n, hn⟩ := hG _ _ _ _ (hw.2 (Classical.not_not.mp hc))
          exact ⟨n + 1, _, _, _, _, _, _, hat, Int32.ofInt x, Int32.ofInt y, s1.map qq_v, rfl, fun z => absurd (hiff.mp z) hc, fun _ => hn⟩
      | lt =>
        have hiff := qq_ltI hin.1 hin.2
        by_cases hc : x < y
        · obtain ⟨n, hn⟩ := hG _ _ _ _ (hw.1 hc)
          exact ⟨n + 1, _, _, _, _, _, _, hat, Int32.ofInt x, Int32.ofInt y, s1.map qq_v, rfl, fun _ => hn, fun z => absurd (hiff.mpr hc) z⟩
        · obtain ⟨n, hn⟩ := hG _ _ _ _ (hw.2 hc)
          exact ⟨n + 1, _, _, _, _, _, _, hat, Int32.ofInt x, Int32.ofInt y, s1.map qq_v, rfl, fun z => absurd (hiff.mp z) hc, fun _ => hn⟩
      | ge =>
        have hiff := qq_leI hin.2 hin.1
        by_cases hc : y ≤ x
        · obtain ⟨n, hn⟩ := hG _ _ _ _ (hw.1 hc)
          exact ⟨n + 1, _, _, _, _, _, _, hat, Int32.ofInt x, Int32.ofInt y, s1.map qq_v, rfl, fun _ => hn, fun z => absurd (hiff.mpr hc) z⟩
        · obtain ⟨n, hn⟩ := hG _ _ _ _ (hw.2 hc)
          exact ⟨n + 1, _, _, _, _, _, _, hat, Int32.ofInt x, Int32.ofInt y, s1.map qq_v, rfl, fun z => absurd (hiff.mp z) hc, fun _ => hn⟩
      | gt =>
        have hiff := qq_ltI hin.2 hin.1
        by_cases hc : y < x
        · obtain ⟨n, hn⟩ := hG _ _ _ _ (hw.1 hc)
          exact ⟨n + 1, _, _, _, _, _, _, hat, Int32.ofInt x, Int32.ofInt y, s1.map qq_v, rfl, fun _ => hn, fun z => absurd (hiff.mpr hc) z⟩
        · obtain ⟨n, hn⟩ := hG _ _ _ _ (hw.2 hc)
          exact ⟨n + 1, _, _, _, _, _, _, hat, Int32.ofInt x, Int32.ofInt y, s1.map qq_v, rfl, fun z => absurd (hiff.mp z) hc, fun _ => hn⟩
      | le =>
        have hiff := qq_leI hin.1 hin.2
        by_cases hc : x ≤ y
        · obtain ⟨n, hn⟩ := hG _ _ _ _ (hw.1 hc)
          exact ⟨n + 1, _, _, _, _, _, _, hat, Int32.ofInt x, Int32.ofInt y, s1.map qq_v, rfl, fun _ => hn, fun z => absurd (hiff.mpr hc) z⟩
        · obtain ⟨n, hn⟩ := hG _ _ _ _ (hw.2 hc)
          exact ⟨n + 1, _, _, _, _, _, _, hat, Int32.ofInt x, Int32.ofInt y, s1.map qq_v, rfl, fun z => absurd (hiff.mp z) hc, fun _ => hn⟩
    · exact hw.elim
  | tableswitch dd lo hi offs =>
    dsimp only [qq_one] at hw
    split at hw
    · rename_i x s1
      obtain ⟨hin, hw1, hw2⟩ := hw
      split at hw2
      · rename_i hcond
        obtain ⟨hc1, hc2, hc3⟩ := hcond
        have hx : (Int32.ofInt x).toInt = x := qq_ti hin
        by_cases hr : x < lo ∨ hi < x
        · obtain ⟨n, hn⟩ := hG _ _ _ _ (hw1 hr)
          exact ⟨n + 1, _, _, _, _, _, _, hat, Int32.ofInt x, s1.map qq_v, rfl, fun _ => ⟨_, by rw [Int.toNat_of_nonneg hc3], hn⟩, fun z => absurd (by rw [hx]; exact hr) z⟩
        · obtain ⟨o, ho, hg⟩ := qq_tabok (x := x) offs.toList lo hw2 (by omega) (by rw [Array.length_toList]; omega)
          obtain ⟨n, hn⟩ := hG _ _ _ _ hg
          have ho2 : offs[(x - lo).toNat]? = some o := by rw [← Array.getElem?_toList]; exact ho
          have hpos : 0 ≤ (pc : Int) + o := of_decide_eq_true (List.all_eq_true.mp hc2 o (List.mem_of_getElem? ho))
          exact ⟨n + 1, _, _, _, _, _, _, hat, Int32.ofInt x, s1.map qq_v, rfl, fun z => absurd (by rw [hx] at z; exact z) hr, fun _ => ⟨o, ((pc : Int) + o).toNat, by rw [hx]; exact ho2, by rw [Int.toNat_of_nonneg hpos], hn⟩⟩
      · exact hw2.elim
    · exact hw.elim
  | getfield v =>
    dsimp only [qq_one] at hw
    split at hw
    · rename_i q s1
      split at hw
      · rename_i ci fs hq
        split at hw
        · rename_i hci
          subst hci
          obtain ⟨h3, hg9⟩ := qq_get S hq
          split at hw
          · rename_i hb
            obtain ⟨n, hn⟩ := hG _ _ _ _ hw
            exact ⟨n + 1, _, _, _, _, _, _, hat, q - 3, _, .inl (Int32.ofInt (S q b)), s1.map qq_v, by rw [Nat.sub_add_cancel h3]; rfl, hg9, by rw [List.getElem?_mapIdx, hb]; rfl, hn⟩
          · rename_i r hb
            obtain ⟨n, hn⟩ := hG _ _ _ _ hw
            exact ⟨n + 1, _, _, _, _, _, _, hat, q - 3, _, .inr (some r), s1.map qq_v, by rw [Nat.sub_add_cancel h3]; rfl, hg9, by rw [List.getElem?_mapIdx, hb]; rfl, hn⟩
          · exact hw.elim
        · exact hw.elim
      · exact hw.elim
    · exact hw.elim
  | putfield v =>
    dsimp only [qq_one] at hw
    split at hw
    · rename_i x q s1
      split at hw
      · rename_i ci fs hq
        split at hw
        · rename_i hci
          subst hci
          obtain ⟨h3, hg9⟩ := qq_get S hq
          split at hw
          · rename_i hb
            have hbl := (List.getElem?_eq_some_iff.mp hb).1
            have hset := qq_set (k := b) (x := x) (S := S) hq (y := .inl (ci, (fs.mapIdx (qq_fv (S q))).set b (.inl (Int32.ofInt x)))) (by rw [qq_fset (fun j => qq_u S q b x q j) qq_uself hb]; rfl)
            split at hw
            · obtain ⟨n, hn⟩ := hG _ _ _ _ hw
              refine ⟨n + 1, _, _, _, _, _, _, hat, q - 3, _, .inl (Int32.ofInt x), s1.map qq_v, by rw [Nat.sub_add_cancel h3]; rfl, hg9, by rw [List.length_mapIdx]; exact hbl, ⟨_, rfl⟩, ?_⟩
              rw [hset]
              exact hn
            · obtain ⟨hx, hw⟩ := hw
              obtain ⟨n, hn⟩ := hG _ _ _ _ hw
              refine ⟨n + 1, _, _, _, _, _, _, hat, q - 3, _, .inl (Int32.ofInt x), s1.map qq_v, by rw [Nat.sub_add_cancel h3]; rfl, hg9, by rw [List.length_mapIdx]; exact hbl, (by rcases hx with rfl | rfl <;> first | exact Or.inl rfl | exact Or.inr rfl), ?_⟩
              rw [hset]
              exact hn
            · exact hw.elim
          · exact hw.elim
        · exact hw.elim
      · exact hw.elim
    · exact hw.elim
  | getstatic v =>
    dsimp only [qq_one] at hw
    split at hw
    · rename_i ha
      obtain ⟨n, hn⟩ := hG _ _ _ _ hw
      exact ⟨n + 1, _, _, _, _, _, _, hat, ha, hn⟩
    · exact hw.elim
  | iaload =>
    dsimp only [qq_one] at hw
    split at hw
    · rename_i i q s1
      split at hw
      · rename_i h3
        obtain ⟨⟨i0, i1⟩, hw⟩ := hw
        obtain ⟨n, hn⟩ := hG _ _ _ _ hw
        have hlen := qq_rol hxs h3
        obtain ⟨v1, v2⟩ := qq_vin i0 i1 (by omega)
        refine ⟨n + 1, _, _, _, _, _, _, hat, Int32.ofInt i, q, s1.map qq_v, rfl, Or.inl ⟨h3, v1, ?_⟩⟩
        rw [v2]
        simp only [List.map_cons, qq_v, qq_ofT] at hn
        exact hn
      · split at hw
        · rename_i n1 hq
          obtain ⟨h3, hg9⟩ := qq_get S hq
          have hsm : n1 ≤ 100 := qq_small q _ hq
          obtain ⟨⟨i0, i1⟩, hw⟩ := hw
          obtain ⟨n, hn⟩ := hG _ _ _ _ hw
          obtain ⟨v1, v2⟩ := qq_vin i0 i1 (by omega)
          refine ⟨n + 1, _, _, _, _, _, _, hat, Int32.ofInt i, q, s1.map qq_v, rfl, Or.inr ⟨q - 3, _, by omega, hg9, by rw [List.length_map, List.length_range]; exact v1, ?_⟩⟩
          rw [v2, qq_rd (by omega)]
          exact hn
        · exact hw.elim
    · rename_i i q j s1
      split at hw
      · rename_i nr k hrow
        obtain ⟨⟨hj, i0, i1⟩, hw⟩ := hw
        obtain ⟨h3, hk, hnr, -, hcell⟩ := qq_rows hrow
        obtain ⟨h3', hg9⟩ := qq_get S (hcell j hj)
        obtain ⟨n, hn⟩ := hG _ _ _ _ hw
        obtain ⟨v1, v2⟩ := qq_vin i0 i1 (by omega)
        refine ⟨n + 1, _, _, _, _, _, _, hat, Int32.ofInt i, q + 1 + j, s1.map qq_v, rfl, Or.inr ⟨q + 1 + j - 3, _, by omega, hg9, by rw [List.length_map, List.length_range]; exact v1, ?_⟩⟩
        rw [v2, qq_rd (by omega)]
        exact hn
      · exact hw.elim
    · exact hw.elim
  | baload =>
    dsimp only [qq_one] at hw
    split at hw
    · rename_i i q s1
      split at hw
      · rename_i n1 hq
        obtain ⟨h3, hg9⟩ := qq_get S hq
        have hsm : n1 ≤ 100 := qq_small q _ hq
        obtain ⟨⟨i0, i1⟩, hw⟩ := hw
        obtain ⟨n, hn⟩ := hG _ _ _ _ hw
        obtain ⟨v1, v2⟩ := qq_vin i0 i1 (by omega)
        refine ⟨n + 1, _, _, _, _, _, _, hat, Int32.ofInt i, q - 3, s1.map qq_v, _, by rw [Nat.sub_add_cancel h3]; rfl, hg9, by rw [List.length_map, List.length_range]; exact v1, ?_⟩
        rw [v2, qq_rd (by omega)]
        exact hn
      · exact hw.elim
    · exact hw.elim
  | iastore =>
    dsimp only [qq_one] at hw
    split at hw
    · rename_i x i q s1
      split at hw
      · rename_i n1 hq
        obtain ⟨h3, hg9⟩ := qq_get S hq
        have hsm : n1 ≤ 100 := qq_small q _ hq
        obtain ⟨⟨i0, i1⟩, hw⟩ := hw
        obtain ⟨n, hn⟩ := hG _ _ _ _ hw
        obtain ⟨v1, v2⟩ := qq_vin i0 i1 (by omega)
        refine ⟨n + 1, _, _, _, _, _, _, hat, Int32.ofInt x, Int32.ofInt i, q - 3, s1.map qq_v, _, by rw [Nat.sub_add_cancel h3]; rfl, hg9, by rw [List.length_map, List.length_range]; exact v1, ?_⟩
        rw [v2, qq_set (k := i.toNat) (x := x) (S := S) hq (by rw [qq_aset (fun j => qq_u S q i.toNat x q j) qq_uself]; rfl)]
        exact hn
      · exact hw.elim
    · rename_i x i q j s1
      split at hw
      · rename_i nr k hrow
        obtain ⟨⟨hj, i0, i1⟩, hw⟩ := hw
        obtain ⟨h3, hk, hnr, -, hcell⟩ := qq_rows hrow
        have hq := hcell j hj
        obtain ⟨h3', hg9⟩ := qq_get S hq
        obtain ⟨n, hn⟩ := hG _ _ _ _ hw
        obtain ⟨v1, v2⟩ := qq_vin i0 i1 (by omega)
        refine ⟨n + 1, _, _, _, _, _, _, hat, Int32.ofInt x, Int32.ofInt i, q + 1 + j - 3, s1.map qq_v, _, by rw [Nat.sub_add_cancel h3']; rfl, hg9, by rw [List.length_map, List.length_range]; exact v1, ?_⟩
        rw [v2, qq_set (k := i.toNat) (x := x) (S := S) hq (by rw [qq_aset (fun j9 => qq_u S (q + 1 + j) i.toNat x (q + 1 + j) j9) qq_uself]; rfl)]
        exact hn
      · exact hw.elim
    · exact hw.elim
  | bastore =>
    dsimp only [qq_one] at hw
    split at hw
    · rename_i x i q s1
      split at hw
      · rename_i n1 hq
        obtain ⟨h3, hg9⟩ := qq_get S hq
        have hsm : n1 ≤ 100 := qq_small q _ hq
        obtain ⟨⟨i0, i1, hx⟩, hw⟩ := hw
        obtain ⟨n, hn⟩ := hG _ _ _ _ hw
        obtain ⟨v1, v2⟩ := qq_vin i0 i1 (by omega)
        have hnar : vp_nar .boolean (Int32.ofInt x) = Int32.ofInt x := by rcases hx with rfl | rfl <;> decide +kernel
        refine ⟨n + 1, _, _, _, _, _, _, hat, Int32.ofInt x, Int32.ofInt i, q - 3, s1.map qq_v, _, by rw [Nat.sub_add_cancel h3]; rfl, hg9, by rw [List.length_map, List.length_range]; exact v1, ?_⟩
        rw [v2, hnar, qq_set (k := i.toNat) (x := x) (S := S) hq (by rw [qq_aset (fun j => qq_u S q i.toNat x q j) qq_uself]; rfl)]
        exact hn
      · exact hw.elim
    · exact hw.elim
  | aaload =>
    dsimp only [qq_one] at hw
    split at hw
    · rename_i i q s1
      split at hw
      · rename_i nr k hrow
        obtain ⟨⟨i0, i1⟩, hw⟩ := hw
        obtain ⟨h3, hk, hnr, ⟨rs, hq, hrl, hrs⟩, -⟩ := qq_rows hrow
        obtain ⟨h3', hg9⟩ := qq_get S hq
        obtain ⟨n, hn⟩ := hG _ _ _ _ hw
        obtain ⟨v1, v2⟩ := qq_vin i0 i1 (by omega)
        refine ⟨n + 1, _, _, _, _, _, _, hat, Int32.ofInt i, q - 3, s1.map qq_v, false, _, by rw [Nat.sub_add_cancel h3]; rfl, hg9, by rw [List.length_map, hrl]; exact v1, ?_⟩
        have e : (rs.map some).getD i.toNat none = some (q + 1 + i.toNat) := by
          rw [List.getD_eq_getElem?_getD, List.getElem?_map, hrs _ (by omega)]
          rfl
        rw [v2, e]
        exact hn
      · split at hw
        · rename_i rs hq
          obtain ⟨⟨i0, i1⟩, hw⟩ := hw
          obtain ⟨h3', hg9⟩ := qq_get S hq
          have hsm : rs.length ≤ 100 := qq_small q _ hq
          obtain ⟨v1, v2⟩ := qq_vin i0 i1 (by omega)
          obtain ⟨r, hr, hg⟩ := qq_plok (x := i) rs 0 hw (by omega) (by omega)
          obtain ⟨n, hn⟩ := hG _ _ _ _ hg
          refine ⟨n + 1, _, _, _, _, _, _, hat, Int32.ofInt i, q - 3, s1.map qq_v, true, _, by rw [Nat.sub_add_cancel h3']; rfl, hg9, by rw [List.length_map]; exact v1, ?_⟩
          have e : (rs.map some).getD i.toNat none = some r := by
            rw [List.getD_eq_getElem?_getD, List.getElem?_map]
            rw [Int.sub_zero] at hr
            rw [hr]
            rfl
          rw [v2, e]
          exact hn
        · exact hw.elim
    · exact hw.elim
  | arraylength =>
    dsimp only [qq_one] at hw
    split at hw
    · rename_i q s1
      split at hw
      · rename_i h3
        obtain ⟨n, hn⟩ := hG _ _ _ _ hw
        refine ⟨n + 1, _, _, _, _, _, _, hat, q, s1.map qq_v, rfl, Or.inl ⟨h3, ?_⟩⟩
        rw [qq_natc]
        exact hn
      · split at hw
        · rename_i n1 hq
          obtain ⟨h3, hg9⟩ := qq_get S hq
          obtain ⟨n, hn⟩ := hG _ _ _ _ hw
          refine ⟨n + 1, _, _, _, _, _, _, hat, q, s1.map qq_v, rfl, Or.inr ⟨q - 3, _, by omega, hg9, ?_⟩⟩
          rw [List.length_map, List.length_range, qq_natc]
          exact hn
        · exact hw.elim
    · exact hw.elim
  | invokevirtual v =>
    dsimp only [qq_one] at hw
    split at hw
    · rename_i q s1 hdrop
      split at hw
      · rename_i ci fs hq
        split at hw
        · rename_i hci
          unfold qq_call at hw
          split at hw
          · rename_i pre r S' hsp9
            obtain ⟨hpre, hw⟩ := hw
            obtain ⟨n, hn⟩ := hG _ _ _ _ hw
            obtain ⟨h3, hg9⟩ := qq_get S hq
            have hlen : (st.take b).length = b := by
              rw [List.length_take]
              have : (st.drop b).length = s1.length + 1 := by rw [hdrop]; rfl
              rw [List.length_drop] at this
              omega
            have hst : st.map qq_v = ((st.take b).reverse.map qq_v).reverse ++ .inr (some (q - 3 + 3)) :: s1.map qq_v := by
              rw [Nat.sub_add_cancel h3]
              have e : st = st.take b ++ (.inr (q, none) :: s1) := by rw [← hdrop, List.take_append_drop]
              conv => lhs; rw [e]
              rw [List.map_append, List.map_reverse, List.reverse_reverse]
              rfl
            have hE9 := hsp _ _ _ _ _ _ hsp9 hpre
            refine ⟨n + 1, _, _, _, _, _, _, hat, (st.take b).reverse.map qq_v, q - 3, s1.map qq_v, _, ci, r.map Int32.ofInt, qq_e S', hst, by rw [List.length_map, List.length_reverse]; exact hlen, by rw [List.length_map]; exact hci.2, hg9, hci.1, ?_, by rw [qq_len, qq_len]; omega, by rw [qq_size, qq_size]; omega, by rw [qq_len]; omega, by rw [qq_size]; omega, ?_⟩
            · rw [Nat.sub_add_cancel h3]
              exact hE9
            · cases r <;> exact hn
          · exact hZ _ _ _ _ hw
        · exact hw.elim
      · exact hw.elim
    · exact hw.elim
  | invokestatic v =>
    dsimp only [qq_one] at hw
    split at hw
    · split at hw
      · rename_i x s1
        split at hw
        · rename_i hs8
          obtain ⟨hx, hw⟩ := hw
          obtain ⟨n, hn⟩ := hG _ _ _ _ hw
          have hxi : qq_in x := by unfold qq_in; omega
          refine ⟨n + 1, _, _, _, _, _, _, hat, Int32.ofInt x, s1.map qq_v, rfl, by rw [List.length_map]; exact hs8, by rw [qq_len]; omega, by rw [qq_size]; omega, ?_⟩
          have e : (if 0 ≤ Int32.ofInt x then Int32.ofInt x else 0 - Int32.ofInt x) = Int32.ofInt (if 0 ≤ x then x else -x) := by
            have hiff : (0 ≤ Int32.ofInt x) ↔ 0 ≤ x := qq_leI qq_in0 hxi
            by_cases h0 : 0 ≤ x
            · rw [if_pos h0, if_pos (hiff.mpr h0)]
            · rw [if_neg h0, if_neg (fun z => h0 (hiff.mp z)), Int32.ofInt_neg, Int32.zero_sub]
          rw [e]
          exact hn
        · exact hw.elim
      · exact hw.elim
    · split at hw
      · rename_i y x s1
        split at hw
        · rename_i hs8
          obtain ⟨hx, hw⟩ := hw
          obtain ⟨n, hn⟩ := hG _ _ _ _ hw
          refine ⟨n + 1, _, _, _, _, _, _, hat, Int32.ofInt x, Int32.ofInt y, s1.map qq_v, rfl, by rw [List.length_map]; exact hs8, by rw [qq_len]; omega, by rw [qq_size]; omega, ?_⟩
          have e : (if Int32.ofInt x < Int32.ofInt y then Int32.ofInt y else Int32.ofInt x) = Int32.ofInt (if x < y then y else x) := by
            have hiff := qq_ltI hx.1 hx.2
            by_cases h0 : x < y
            · rw [if_pos h0, if_pos (hiff.mpr h0)]
            · rw [if_neg h0, if_neg (fun z => h0 (hiff.mp z))]
          rw [e]
          exact hn
        · exact hw.elim
      · exact hw.elim
    · split at hw
      · rename_i y x s1
        split at hw
        · rename_i hs8
          obtain ⟨hx, hw⟩ := hw
          obtain ⟨n, hn⟩ := hG _ _ _ _ hw
          refine ⟨n + 1, _, _, _, _, _, _, hat, Int32.ofInt x, Int32.ofInt y, s1.map qq_v, rfl, by rw [List.length_map]; exact hs8, by rw [qq_len]; omega, by rw [qq_size]; omega, ?_⟩
          have e : (if Int32.ofInt y < Int32.ofInt x then Int32.ofInt y else Int32.ofInt x) = Int32.ofInt (if y < x then y else x) := by
            have hiff := qq_ltI hx.2 hx.1
            by_cases h0 : y < x
            · rw [if_pos h0, if_pos (hiff.mpr h0)]
            · rw [if_neg h0, if_neg (fun z => h0 (hiff.mp z))]
          rw [e]
          exact hn
        · exact hw.elim
      · exact hw.elim
    · rename_i c10 c11 c12
      split at hw
      · rename_i hlen
        unfold qq_call at hw
        split at hw
        · rename_i pre r S' hsp9
          obtain ⟨hpre, hw⟩ := hw
          obtain ⟨n, hn⟩ := hG _ _ _ _ hw
          have hst : st.map qq_v = ((st.take b).reverse.map qq_v).reverse ++ (st.drop b).map qq_v := by
            conv => lhs; rw [← List.take_append_drop b st]
            rw [List.map_append, List.map_reverse, List.reverse_reverse]
          have hE9 := hsp _ _ _ _ _ _ hsp9 hpre
          refine ⟨n + 1, _, _, _, _, _, _, hat, ?_⟩
          dsimp only [mm_one]
          split
          · exact absurd rfl c10
          · exact absurd rfl c11
          · exact absurd rfl c12
          · refine ⟨(st.take b).reverse.map qq_v, (st.drop b).map qq_v, r.map Int32.ofInt, qq_e S', hst, by rw [List.length_map, List.length_reverse, List.length_take]; omega, by rw [List.length_map]; exact hlen.2, hE9, by rw [qq_len, qq_len]; omega, by rw [qq_size, qq_size]; omega, by rw [qq_len]; omega, by rw [qq_size]; omega, ?_⟩
            cases r <;> exact hn
        · exact hZ _ _ _ _ hw
      · exact hw.elim
  | ireturn =>
    dsimp only [qq_one] at hw
    split at hw
    · rename_i v
      split at hw
      · exact ⟨1, _, _, _, _, _, _, hat, Int32.ofInt v, rfl, Or.inl rfl, some v, S, rfl, rfl, hw⟩
      · obtain ⟨hv, hw⟩ := hw
        exact ⟨1, _, _, _, _, _, _, hat, Int32.ofInt v, rfl, Or.inr ⟨rfl, (by rcases hv with rfl | rfl <;> first | exact Or.inl rfl | exact Or.inr rfl)⟩, some v, S, rfl, rfl, hw⟩
      · exact hw.elim
    · exact hw.elim
  | return_ =>
    dsimp only [qq_one] at hw
    split at hw
    · exact ⟨1, _, _, _, _, _, _, hat, rfl, rfl, none, S, rfl, rfl, hw⟩
    · exact hw.elim
  | _ => exact False.elim hw
theorem qq_atpc {code : List mm_E} {pc : Nat} {e : mm_E} (h : mm_at code pc = some e) : e.1 = pc := by
  have := List.find?_some h
  simpa using this
theorem qq_wsound {xs : List Int32} (hxs : xs.length ≤ 2048) {d : Nat} {sp : qq_P} (hsp : qq_ok xs d sp) {rt : Option FieldType} {code : List mm_E} {stops : List Nat} {K : qq_K} {Z : qq_G} (hZ : ∀ pc ls st S, Z pc ls st S → qq_p xs d rt code K pc ls st S) : ∀ (n pc : Nat) (ls : qq_L) (st : List qq_V) (S : qq_S), qq_w xs sp rt code stops K Z n pc ls st S → qq_p xs d rt code K pc ls st S
  | 0, pc, ls, st, S, h => hZ _ _ _ _ h
  | n + 1, pc, ls, st, S, h => by
    unfold qq_w at h
    split at h
    · exact hZ _ _ _ _ h
    · split at h
      · rename_i pc' i len a b c w hat
        have hpc : pc' = pc := qq_atpc hat
        subst hpc
        exact qq_sound1 hxs hsp (qq_wsound hxs hsp hZ n) hZ hat h
      · exact h.elim
theorem qq_fsound {xs : List Int32} (hxs : xs.length ≤ 2048) {d : Nat} {sp : qq_P} (hsp : qq_ok xs d sp) {rt : Option FieldType} {code : List mm_E} {K : qq_K} (stops : List Nat) (n : Nat) {pc : Nat} {ls : qq_L} {st : List qq_V} {S : qq_S} (h : qq_f xs sp rt code stops K (qq_p xs d rt code K) n pc ls st S) : qq_p xs d rt code K pc ls st S := by
  unfold qq_f at h
  split at h
  · rename_i pc' i len a b c w hat
    have hpc : pc' = pc := qq_atpc hat
    subst hpc
    exact qq_sound1 hxs hsp (qq_wsound hxs hsp (fun _ _ _ _ z => z) n) (fun _ _ _ _ z => z) hat h
  · exact h.elim
def qq_ent (M : mm_M) (as : List qq_V) : qq_L := as.map some ++ List.replicate (mm_ml M - as.length) none
/-- a method's run gives a call, and what it ends with -/
theorem qq_call_of {xs : List Int32} {d y : Nat} {M : mm_M} {as : List qq_V} {S : qq_S} {K : qq_K} (hM : mm_mt[y]? = some M) (hn : as.length ≤ mm_ml M) (h : qq_p xs d (mm_mr M) (mm_mk M) K 0 (qq_ent M as) [] S) : ∃ r S', qq_E xs (d + 1) y as S r S' ∧ K r S' := by
  obtain ⟨n, hw⟩ := h
  have e : (qq_ent M as).map (Option.map qq_v) = mm_ent M (as.map qq_v) := by
    unfold qq_ent mm_ent
    rw [List.map_append, List.length_map, List.map_replicate, List.map_map, List.map_map]
    rfl
  rw [e] at hw
  have hle : (as.map qq_v).length ≤ mm_ml M := by rw [List.length_map]; exact hn
  have h1 := mm_ev (y := y) hM hle hw
  obtain ⟨r, h', hk, hE⟩ := h1
  obtain ⟨r2, S2, e1, e2, hk⟩ := hk
  rw [e1, e2] at hE
  exact ⟨r2, S2, hE, hk⟩
