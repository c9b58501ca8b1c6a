/-! What keeps the net, and what keeps the reference's points. -/
def zz_cN (S T : qq_S) : Prop := (∀ a : Nat, ((4 ≤ a ∧ a < 48) ∨ (116 ≤ a ∧ a ≤ 121)) → T a = S a) ∧ (∀ j : Nat, 1 ≤ j → j ≤ 3 → T 115 j = S 115 j)
theorem zz_cR {S T : qq_S} (h : zz_cN S T) {b n : Nat} (hb : 4 ≤ b ∧ b + n ≤ 48) : qq_R T b n = qq_R S b n := by
  funext l
  unfold qq_R
  split
  · rw [h.1 (b + l) (by omega)]
  · rfl
theorem zz_N_c {S T : qq_S} (h : zz_cN S T) (hN : zz_N S) : zz_N T := by
  unfold zz_N at *
  rw [h.1 4 (by omega), h.1 5 (by omega), h.1 6 (by omega), h.1 7 (by omega), h.1 22 (by omega), h.1 23 (by omega), h.1 24 (by omega), h.1 25 (by omega), h.1 116 (by omega), h.1 117 (by omega), h.1 118 (by omega), h.1 119 (by omega), h.1 120 (by omega), h.1 121 (by omega), h.2 1 (by omega) (by omega), h.2 2 (by omega) (by omega), h.2 3 (by omega) (by omega), zz_cR h (by omega), zz_cR h (by omega), zz_cR h (by omega), zz_cR h (by omega)]
  exact hN
theorem zz_cN0 (S : qq_S) : zz_cN S S := ⟨fun _ _ => rfl, fun _ _ _ => rfl⟩
theorem zz_cN_t {S T U : qq_S} (h : zz_cN S T) (g : zz_cN T U) : zz_cN S U := ⟨fun a ha => by rw [g.1 a ha, h.1 a ha], fun j h1 h2 => by rw [g.2 j h1 h2, h.2 j h1 h2]⟩
theorem zz_cN_fr {S T : qq_S} (h : zz_fr S T) : zz_cN S T := ⟨fun a ha => h.1 a (by omega) (by omega), fun j h1 h2 => h.2 j (by omega)⟩
theorem zz_cN_u {S T : qq_S} (h : zz_cN S T) {q k : Nat} {x : Int} (hq : (48 ≤ q ∧ q < 115) ∨ 122 ≤ q ∨ q = 3 ∨ (q = 115 ∧ (k = 0 ∨ 4 ≤ k))) : zz_cN S (qq_u T q k x) := by
  refine ⟨fun a ha => ?_, fun j h1 h2 => ?_⟩
  · rw [qq_ueq (by omega)]
    exact h.1 a ha
  · rw [qq_un (by omega)]
    exact h.2 j h1 h2
theorem zz_fr_t {S T U : qq_S} (h : zz_fr S T) (g : zz_fr T U) : zz_fr S U := ⟨fun a h1 h2 => by rw [g.1 a h1 h2, h.1 a h1 h2], fun j hj => by rw [g.2 j hj, h.2 j hj]⟩
theorem zz_fr_mx {S T : qq_S} (h : zz_fr S T) : zz_mx T = zz_mx S ∧ zz_my T = zz_my S := by
  constructor
  · funext s
    unfold zz_mx
    rw [h.1 123 (by decide) (by decide), h.2 12 (by decide)]
  · funext s
    unfold zz_my
    rw [h.1 123 (by decide) (by decide), h.2 12 (by decide)]
theorem zz_fr_mok {S T : qq_S} (h : zz_fr S T) (a : Int) : zz_mok T a = zz_mok S a := by
  unfold zz_mok
  rw [h.1 123 (by decide) (by decide), h.2 12 (by decide)]
theorem zz_rg11 (S : qq_S) (s : Nat) : zz_rg S s 115 11 = S 25 s := by
  unfold zz_rg
  rw [if_neg (by omega), if_pos ⟨rfl, rfl⟩]
theorem zz_rg122 (S : qq_S) (s k : Nat) (h : (k : Int) < S 25 s) : zz_rg S s 122 k = S (26 + 1 + s) k := by
  unfold zz_rg
  rw [if_pos ⟨rfl, h⟩]
def zz_rgs (S : qq_S) : Nat → qq_S
  | 0 => S
  | k + 1 => zz_rg (zz_rgs S k) k
theorem zz_rgs_fr (S : qq_S) : ∀ k, zz_fr S (zz_rgs S k)
  | 0 => zz_fr0 S
  | k + 1 => zz_fr_t (zz_rgs_fr S k) (zz_rg_fr _ _)
/-- all stations are placed, as the reference has them -/
def zz_mall (S : qq_S) : Prop := (2 ≤ S 115 12 ∧ S 115 12 ≤ 8) ∧ ∀ i : Nat, (i : Int) < S 4 0 → 0 ≤ S 123 i ∧ S 123 i ≤ 63
theorem zz_mall_ok {S : qq_S} (h : zz_mall S) (h10 : S 4 0 ≤ 10) {a : Int} (h0 : 0 ≤ a) (h1 : a < S 4 0) : zz_p (zz_mok S a) = 1 := zz_p1 ⟨h.1, h0, by omega, h.2 a.toNat (by omega)⟩
theorem zz_fr_mall {S T : qq_S} (h : zz_fr S T) (m : zz_mall S) : zz_mall T := by
  unfold zz_mall at *
  rw [h.1 123 (by decide) (by decide), h.2 12 (by decide), h.1 4 (by decide) (by decide)]
  exact m
/-- the reference's verdict -/
def zz_mstr (S : qq_S) (e : Nat) : Prop := ¬ zz_str (zz_mx S (S 121 e).toNat - zz_mx S (S 120 e).toNat) (zz_my S (S 121 e).toNat - zz_my S (S 120 e).toNat)
def zz_msm (S : qq_S) (a b : Nat) : Prop := a < b ∧ S 123 a = S 123 b
def zz_mmt (S : qq_S) (e f : Nat) : Prop := e < f ∧ zz_meet (zz_mx S) (zz_my S) (S 120 e).toNat (S 121 e).toNat (S 120 f).toNat (S 121 f).toNat
def zz_mtr (S : qq_S) (s : Nat) : Prop := zz_mrt (fun i => zz_mdr (zz_mx S) (zz_my S) s (S (26 + 1 + s) i).toNat) (S 25 s).toNat
noncomputable def zz_vM (S : qq_S) : Int × Int × Int := zz_vd (S 4 0).toNat (S 4 2).toNat (fun j : Nat => S 123 j = -1) (zz_msm S) (zz_mstr S) (zz_sho (zz_mx S) (zz_my S) (S 120) (S 121) (S 115 14)) (zz_cov (zz_mx S) (zz_my S) (S 120) (S 121)) (zz_mmt S) (fun s => ¬ zz_mtr S s)
noncomputable def zz_wS (S : qq_S) : qq_S := qq_u (qq_u (zz_rgs S (if (zz_vM S).1 = 7 then (zz_vM S).2.1 + 1 else if (zz_vM S).1 = 0 then S 4 0 else 0).toNat) 115 21 (zz_vM S).2.1) 115 22 (zz_vM S).2.2
