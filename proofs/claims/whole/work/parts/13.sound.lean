/-! numbers -/
theorem qq_ti {x : Int} (h : qq_in x) : (Int32.ofInt x).toInt = x := Int32.toInt_ofInt_of_le (by have := h.1; omega) (by have := h.2; omega)
theorem qq_inT (x : Int32) : qq_in x.toInt := by
  have h1 := Int32.le_toInt x
  have h2 := Int32.toInt_lt x
  unfold qq_in
  omega
theorem qq_ofT (x : Int32) : Int32.ofInt x.toInt = x := Int32.ofInt_toInt x
theorem qq_eqI {x y : Int} (hx : qq_in x) (hy : qq_in y) : Int32.ofInt x = Int32.ofInt y ↔ x = y := by
  constructor
  · intro h
    have := congrArg Int32.toInt h
    rwa [qq_ti hx, qq_ti hy] at this
  · intro h
    rw [h]
theorem qq_ltI {x y : Int} (hx : qq_in x) (hy : qq_in y) : Int32.ofInt x < Int32.ofInt y ↔ x < y := by
  rw [Int32.lt_iff_toInt_lt, qq_ti hx, qq_ti hy]
theorem qq_leI {x y : Int} (hx : qq_in x) (hy : qq_in y) : Int32.ofInt x ≤ Int32.ofInt y ↔ x ≤ y := by
  rw [Int32.le_iff_toInt_le, qq_ti hx, qq_ti hy]
theorem qq_in0 : qq_in 0 := by unfold qq_in; omega
theorem qq_of0 : Int32.ofInt 0 = 0 := rfl
theorem qq_nat {n : Nat} (h : n < 2 ^ 31) : Int32.ofInt (n : Int) = Int32.ofNat n := by
  have h1 : (Int32.ofInt (n : Int)).toInt = (Int32.ofNat n).toInt := by
    rw [qq_ti (by unfold qq_in; omega)]
    exact (nI_toInt h).symm
  exact Int32.toInt_inj.mp h1
theorem qq_vin {i : Int} {n : Nat} (h0 : 0 ≤ i) (h1 : i < n) (hn : n ≤ 2147483647) : vp_in (Int32.ofInt i) n ∧ (Int32.ofInt i).toNatClampNeg = i.toNat := by
  have hi : qq_in i := by unfold qq_in; omega
  refine ⟨vp_in_iff.mpr (by rw [qq_ti hi]; exact ⟨h0, h1⟩), ?_⟩
  show (Int32.ofInt i).toInt.toNat = _
  rw [qq_ti hi]
theorem qq_div {x y : Int} (h : 0 ≤ x ∧ 0 < y ∧ x ≤ 2147483647 ∧ y ≤ 2147483647) : Int32.ofInt x / Int32.ofInt y = Int32.ofInt (x / y) ∧ ¬ Int32.ofInt y = 0 ∧ Int32.ofInt x - Int32.ofInt x / Int32.ofInt y * Int32.ofInt y = Int32.ofInt (x % y) := by
  obtain ⟨a, rfl⟩ := Int.eq_ofNat_of_zero_le h.1
  obtain ⟨b, rfl⟩ := Int.eq_ofNat_of_zero_le (Int.le_of_lt h.2.1)
  have ha : a < 2 ^ 31 := by have := h.2.2.1; omega
  have hb : b < 2 ^ 31 := by have := h.2.2.2; omega
  have hb0 : 0 < b := by have := h.2.1; omega
  have hd : a / b < 2 ^ 31 := Nat.lt_of_le_of_lt (Nat.div_le_self a b) ha
  have hm : a % b < 2 ^ 31 := Nat.lt_of_le_of_lt (Nat.mod_le a b) ha
  rw [qq_nat ha, qq_nat hb, ← Int.natCast_ediv, ← Int.natCast_emod, qq_nat hd, qq_nat hm]
  exact ⟨pk_div ha hb0 hb, nI_ne0 hb0 hb, pk_rem ha hb0 hb⟩
/-! the shape -/
def qq_csz : qq_C → Nat
  | .inl o => o.2.length
  | .inr (.inl o) => o.2
  | .inr (.inr o) => o.2.length
theorem qq_len (S : qq_S) : (qq_e S).length = 131 := by
  rw [qq_e, List.length_mapIdx]
  rfl
theorem qq_fsz (f : Nat → Int) (c : qq_C) : mm_csz (qq_fill f c) = qq_csz c := by
  rcases c with o | o | o <;> simp [qq_fill, mm_csz, qq_csz]
theorem qq_size (S : qq_S) : mm_sz (qq_e S) = 1939 := by
  unfold mm_sz qq_e
  have e : (qq_sh.mapIdx (fun i c => qq_fill (S (i + 3)) c)).map mm_csz = qq_sh.map qq_csz := by
    refine List.ext_getElem? fun i => ?_
    rw [List.getElem?_map, List.getElem?_map, List.getElem?_mapIdx]
    cases qq_sh[i]? with
    | none => rfl
    | some c => exact congrArg some (qq_fsz _ c)
  rw [e]
  decide +kernel
theorem qq_get {q : Nat} {c : qq_C} (S : qq_S) (h : qq_at q = some c) : 3 ≤ q ∧ (qq_e S)[q - 3]? = some (qq_fill (S q) c) := by
  unfold qq_at at h
  split at h
  · cases h
  · have h3 : 3 ≤ q := by omega
    refine ⟨h3, ?_⟩
    rw [qq_e, List.getElem?_mapIdx, h]
    show some (qq_fill (S (q - 3 + 3)) c) = _
    rw [Nat.sub_add_cancel h3]
theorem qq_ueq {S : qq_S} {q k a : Nat} {x : Int} (h : a ≠ q) : qq_u S q k x a = S a := by
  funext j
  unfold qq_u
  rw [if_neg (fun z => h z.1)]
theorem qq_set {q k : Nat} {x : Int} {c : qq_C} {y : mm_C} {S : qq_S} (h : qq_at q = some c) (hy : y = qq_fill (qq_u S q k x q) c) : (qq_e S).set (q - 3) y = qq_e (qq_u S q k x) := by
  obtain ⟨h3, hg⟩ := qq_get (qq_u S q k x) h
  have hl : q - 3 < (qq_e S).length := by
    rw [qq_len]
    have := (List.getElem?_eq_some_iff.mp hg).1
    rwa [qq_len] at this
  refine List.ext_getElem? fun i => ?_
  rw [List.getElem?_set]
  by_cases hi : q - 3 = i
  · subst hi
    rw [if_pos rfl, if_pos hl, hg, hy]
  · rw [if_neg hi, qq_e, qq_e, List.getElem?_mapIdx, List.getElem?_mapIdx]
    cases qq_sh[i]? with
    | none => rfl
    | some c' =>
      show some (qq_fill (S (i + 3)) c') = some (qq_fill (qq_u S q k x (i + 3)) c')
      rw [qq_ueq (by omega)]
theorem qq_fset {f : Nat → Int} {fs : List (Option Nat)} {b : Nat} {x : Int} (g : Nat → Int) (hg : ∀ j, g j = if j = b then x else f j) (hb : fs[b]? = some none) : (fs.mapIdx (qq_fv f)).set b (.inl (Int32.ofInt x)) = fs.mapIdx (qq_fv g) := by
  have hbl := (List.getElem?_eq_some_iff.mp hb).1
  refine List.ext_getElem? fun i => ?_
  rw [List.getElem?_set, List.getElem?_mapIdx, List.length_mapIdx, List.getElem?_mapIdx]
  by_cases hi : b = i
  · subst hi
    rw [if_pos rfl, if_pos hbl, hb]
    simp [hg, qq_fv]
  · rw [if_neg hi]
    cases fs[i]? with
    | none => rfl
    | some o =>
      cases o with
      | none =>
        have hi2 : ¬ i = b := fun z => hi z.symm
        simp [hg, hi2, qq_fv]
      | some q => rfl
theorem qq_aset {f : Nat → Int} {n b : Nat} {x : Int} (g : Nat → Int) (hg : ∀ j, g j = if j = b then x else f j) : ((List.range n).map (fun k => Int32.ofInt (f k))).set b (Int32.ofInt x) = (List.range n).map (fun k => Int32.ofInt (g k)) := by
  refine List.ext_getElem? fun i => ?_
  rw [List.getElem?_set, List.getElem?_map, List.length_map, List.length_range, List.getElem?_map]
  by_cases hl : i < n
  · rw [List.getElem?_range hl]
    by_cases hi : b = i
    · subst hi
      rw [if_pos rfl, if_pos hl]
      simp [hg]
    · have hi2 : ¬ i = b := fun z => hi z.symm
      rw [if_neg hi]
      simp [hg, hi2]
  · rw [List.getElem?_eq_none (by rw [List.length_range]; omega)]
    by_cases hi : b = i
    · subst hi
      rw [if_pos rfl, if_neg hl]
      rfl
    · rw [if_neg hi]
      rfl
theorem qq_uself {S : qq_S} {q k : Nat} {x : Int} : ∀ j, qq_u S q k x q j = if j = k then x else S q j := by
  intro j
  unfold qq_u
  simp
def qq_isI (k : Nat) (o : Option qq_C) : Bool := match o with
  | some (.inr (.inl (z, n))) => !z && n == k
  | _ => false
theorem qq_isI_ok {k : Nat} {o : Option qq_C} (h : qq_isI k o = true) : o = some (.inr (.inl (false, k))) := by
  rcases o with _ | o | ⟨z, n⟩ | o
  · cases h
  · cases h
  · cases z with
    | true => cases h
    | false =>
      have : n = k := by simpa [qq_isI] using h
      rw [this]
  · cases h
theorem qq_rows {q n k : Nat} (h : qq_row q = some (n, k)) : 3 ≤ q ∧ k ≤ 25 ∧ n ≤ 25 ∧ (∃ rs : List Nat, qq_at q = some (.inr (.inr (false, rs))) ∧ rs.length = n ∧ ∀ j, j < n → rs[j]? = some (q + 1 + j)) ∧ ∀ j, j < n → qq_at (q + 1 + j) = some (.inr (.inl (false, k))) := by
  unfold qq_row at h
  split at h <;> cases h
  · exact ⟨by decide, by decide, by decide, ⟨_, rfl, rfl, by decide⟩, fun j hj => qq_isI_ok ((by decide : ∀ j, j < 6 → qq_isI 10 (qq_at (8 + 1 + j)) = true) j hj)⟩
  · exact ⟨by decide, by decide, by decide, ⟨_, rfl, rfl, by decide⟩, fun j hj => qq_isI_ok ((by decide : ∀ j, j < 6 → qq_isI 10 (qq_at (15 + 1 + j)) = true) j hj)⟩
  · exact ⟨by decide, by decide, by decide, ⟨_, rfl, rfl, by decide⟩, fun j hj => qq_isI_ok ((by decide : ∀ j, j < 10 → qq_isI 10 (qq_at (26 + 1 + j)) = true) j hj)⟩
  · exact ⟨by decide, by decide, by decide, ⟨_, rfl, rfl, by decide⟩, fun j hj => qq_isI_ok ((by decide : ∀ j, j < 10 → qq_isI 10 (qq_at (37 + 1 + j)) = true) j hj)⟩
  · exact ⟨by decide, by decide, by decide, ⟨_, rfl, rfl, by decide⟩, fun j hj => qq_isI_ok ((by decide : ∀ j, j < 25 → qq_isI 25 (qq_at (61 + 1 + j)) = true) j hj)⟩
theorem qq_small : ∀ q c, qq_at q = some c → qq_csz c ≤ 100 := by
  intro q c h
  unfold qq_at at h
  split at h
  · cases h
  · have h1 : ∀ c ∈ qq_sh, qq_csz c ≤ 100 := by decide +kernel
    exact h1 c (List.mem_of_getElem? h)
