/-! The tie between the class's numbers and the reference's. -/
def qq_R (S : qq_S) (b n : Nat) : Nat → Nat → Int := fun l => if l < n then S (b + l) else fun _ => 0
theorem qq_R_u {S : qq_S} {b n q k : Nat} {x : Int} (h : q < b ∨ b + n ≤ q) : qq_R (qq_u S q k x) b n = qq_R S b n := by
  funext l
  unfold qq_R
  split
  · rw [qq_ueq (by omega)]
  · rfl
theorem qq_us {S : qq_S} {q k : Nat} {x : Int} : qq_u S q k x q k = x := by simp [qq_u]
theorem qq_un {S : qq_S} {q k q' k' : Nat} {x : Int} (h : q' ≠ q ∨ k' ≠ k) : qq_u S q k x q' k' = S q' k' := by
  unfold qq_u
  rw [if_neg (fun z => h.elim (fun y => y z.1) (fun y => y z.2))]
def zz_abs (x : Int) : Int := if 0 ≤ x then x else -x
/-- the true direction -/
def zz_td (dx dy : Int) : Int := if 1000 * zz_abs dy < 414 * zz_abs dx then (if 0 < dx then 0 else 4) else if 1000 * zz_abs dx < 414 * zz_abs dy then (if 0 < dy then 2 else 6) else if 0 < dx then (if 0 < dy then 1 else 7) else (if 0 < dy then 3 else 5)
def zz_half (dx dy : Int) : Int := if 0 < dy ∨ (dy = 0 ∧ 0 < dx) then 0 else 1
/-- a comes ahead of b round s -/
def zz_ahead (X Y : Nat → Int) (s a b : Nat) : Prop :=
  if zz_half (X a - X s) (Y a - Y s) = zz_half (X b - X s) (Y b - Y s) then
    (if (X a - X s) * (Y b - Y s) - (Y a - Y s) * (X b - X s) = 0 then a < b else 0 < (X a - X s) * (Y b - Y s) - (Y a - Y s) * (X b - X s))
  else zz_half (X a - X s) (Y a - Y s) < zz_half (X b - X s) (Y b - Y s)
def i_net (n n' L L' : Int) (X Y X' Y' : Nat → Int) : Prop :=
  (0 ≤ n ∧ n ≤ 10 ∧ n' = n ∧ 0 ≤ L ∧ L ≤ 6 ∧ L' = L) ∧ (∀ i : Nat, (i : Int) < n → 0 ≤ X i ∧ X i ≤ 1000 ∧ 0 ≤ Y i ∧ Y i ≤ 1000 ∧ X' i = X i ∧ Y' i = Y i) ∧ (∀ i j : Nat, (i : Int) < n → (j : Int) < n → X i = X j → Y i = Y j → i = j)
def i_line (n L : Int) (Z Z' : Nat → Int) (row rank : Nat → Nat → Int) (lof : Nat → Int) : Prop :=
  (∀ l : Nat, (l : Int) < L → 0 ≤ Z l ∧ Z l ≤ 10 ∧ Z' l = Z l ∧ (∀ i : Nat, (i : Int) < Z l → 0 ≤ row l i ∧ row l i < n ∧ lof (10 * l + i) = row l i ∧ rank l (row l i).toNat = i)) ∧
  (∀ l : Nat, l < 6 → L ≤ l → Z l = 0) ∧
  (∀ l s : Nat, l < 6 → s < 10 → rank l s = -1 ∨ (0 ≤ rank l s ∧ rank l s < Z l ∧ row l (rank l s).toNat = s))
/-- a and b stand one behind the other in some line -/
def i_led (L : Int) (Z : Nat → Int) (row : Nat → Nat → Int) (a b : Nat) : Prop :=
  ∃ l i : Nat, (l : Int) < L ∧ (i : Int) + 1 < Z l ∧ ((row l i = a ∧ row l (i + 1) = b) ∨ (row l i = b ∧ row l (i + 1) = a))
def i_edge (n L E E' : Int) (X Y Z : Nat → Int) (row : Nat → Nat → Int) (lo hi hd lo' hi' : Nat → Int) (eo : Nat → Nat → Int) : Prop :=
  (0 ≤ E ∧ E ≤ 45 ∧ E' = E) ∧
  (∀ e : Nat, (e : Int) < E → 0 ≤ lo e ∧ lo e < hi e ∧ hi e < n ∧ lo' e = lo e ∧ hi' e = hi e ∧ hd e = zz_td (X (hi e).toNat - X (lo e).toNat) (Y (hi e).toNat - Y (lo e).toNat) ∧ eo (lo e).toNat (hi e).toNat = e ∧ eo (hi e).toNat (lo e).toNat = e) ∧
  (∀ a b : Nat, a < 10 → b < 10 → eo a b = -1 ∨ (0 ≤ eo a b ∧ eo a b < E ∧ ((lo (eo a b).toNat = a ∧ hi (eo a b).toNat = b) ∨ (lo (eo a b).toNat = b ∧ hi (eo a b).toNat = a)))) ∧
  (∀ e f : Nat, e < f → (f : Int) < E → lo e < lo f ∨ (lo e = lo f ∧ hi e < hi f)) ∧
  (∀ a b : Nat, a < 10 → b < 10 → (¬ eo a b = -1 ↔ i_led L Z row a b))
def i_ring (n : Int) (X Y dg : Nat → Int) (ring eo : Nat → Nat → Int) : Prop :=
  ∀ s : Nat, s < 10 → (0 ≤ dg s ∧ dg s ≤ 9) ∧ (∀ i : Nat, (i : Int) < dg s → 0 ≤ ring s i ∧ ring s i < n ∧ ¬ ring s i = s ∧ ¬ eo s (ring s i).toNat = -1) ∧ (∀ t : Nat, t < 10 → ¬ eo s t = -1 → ∃ i : Nat, (i : Int) < dg s ∧ ring s i = t) ∧ (∀ i j : Nat, i < j → (j : Int) < dg s → zz_ahead X Y s (ring s i).toNat (ring s j).toNat)
/-- one station in a plan: away, or at a point of the grid -/
def i_at (w h x y : Int) : Prop := (x = -1 ∧ y = -1) ∨ (0 ≤ x ∧ x < w ∧ 0 ≤ y ∧ y < h)
def zz_pt (w x y : Int) : Int := if x = -1 then -1 else y * w + x
def i_plan (n w h : Int) (X Y H : Nat → Int) (w' h' : Int) (P' H' : Nat → Int) : Prop :=
  (2 ≤ w ∧ w ≤ 8 ∧ 2 ≤ h ∧ h ≤ 8 ∧ w' = w ∧ h' = h) ∧
  (∀ s : Nat, s < 10 → i_at w h (X s) (Y s) ∧ (H s = 0 ∨ H s = 1) ∧ (X s = -1 → H s = 0) ∧ (n ≤ s → X s = -1)) ∧
  (∀ s : Nat, (s : Int) < n → H' s = H s ∧ P' s = zz_pt w (X s) (Y s))
def i_terms (b w t sp b' w' t' sp' : Int) : Prop :=
  0 ≤ b ∧ b ≤ 100 ∧ 0 ≤ w ∧ w ≤ 100 ∧ 0 ≤ t ∧ t ≤ 100 ∧ 1 ≤ sp ∧ sp ≤ 4 ∧ b' = b ∧ w' = w ∧ t' = t ∧ sp' = sp
def i_names (n : Int) (N sd hn : Nat → Int) (put : Int) (N' hn' sd' : Nat → Int) : Prop :=
  (0 ≤ put ∧ put ≤ n) ∧
  (∀ s : Nat, s < 10 → 0 ≤ N s ∧ N s ≤ 12 ∧ ((s : Int) < n → N' s = N s) ∧ (n ≤ s → N s = 0) ∧ (-1 ≤ sd s ∧ sd s ≤ 7 ∧ -1 ≤ hn s ∧ hn s ≤ 300) ∧ ((s : Int) < put → sd' s = sd s ∧ hn' s = hn s) ∧ (put ≤ s → sd s = -1 ∧ hn s = -1))
def i_img (k : Nat) (n f f' w h : Int) (X Y H kp : Nat → Int) : Prop :=
  (f = 0 ∨ f = 1) ∧ f' = f ∧ (f = 1 → (2 ≤ w ∧ w ≤ 8 ∧ 2 ≤ h ∧ h ≤ 8 ∧ kp (23 * k + 20) = w ∧ kp (23 * k + 21) = h) ∧ ∀ s : Nat, s < 10 → i_at w h (X s) (Y s) ∧ (H s = 0 ∨ H s = 1) ∧ (X s = -1 → H s = 0) ∧ (n ≤ s → X s = -1) ∧ kp (23 * k + s) = zz_pt w (X s) (Y s) ∧ kp (23 * k + 10 + s) = H s)
def inv (S : qq_S) : Prop :=
  i_net (S 4 0) (S 115 1) (S 4 1) (S 115 2) (S 5) (S 6) (S 116) (S 117) ∧
  i_line (S 4 0) (S 4 1) (S 7) (S 118) (qq_R S 9 6) (qq_R S 16 6) (S 119) ∧
  i_edge (S 4 0) (S 4 1) (S 4 2) (S 115 3) (S 5) (S 6) (S 7) (qq_R S 9 6) (S 22) (S 23) (S 24) (S 120) (S 121) (qq_R S 38 10) ∧
  i_ring (S 4 0) (S 5) (S 6) (S 25) (qq_R S 27 10) (qq_R S 38 10) ∧
  i_plan (S 4 0) (S 48 0) (S 48 1) (S 49) (S 50) (S 51) (S 115 12) (S 115 13) (S 123) (S 124) ∧
  i_terms (S 52 0) (S 52 1) (S 52 2) (S 52 3) (S 115 15) (S 115 16) (S 115 17) (S 115 14) ∧
  i_names (S 4 0) (S 95) (S 96) (S 97) (S 115 26) (S 125) (S 130) (S 131) ∧
  i_img 0 (S 4 0) (S 114 0) (S 132 0) (S 102 0) (S 102 1) (S 103) (S 104) (S 105) (S 133) ∧
  i_img 1 (S 4 0) (S 114 1) (S 132 1) (S 106 0) (S 106 1) (S 107) (S 108) (S 109) (S 133) ∧
  i_img 2 (S 4 0) (S 114 2) (S 132 2) (S 110 0) (S 110 1) (S 111) (S 112) (S 113) (S 133) ∧
  (S 115 0 = S 3 9 ∧ qq_in (S 3 9))
/-- what is told of one call on both -/
def qq_op (xs : List Int32) (d y y' : Nat) (as : List qq_V) (S : qq_S) : Prop :=
  ∃ r S1 S2, qq_E xs d y (.inr (3, none) :: as) S (some r) S1 ∧ qq_E xs d y' (.inr (115, none) :: as) S1 (some r) S2 ∧ qq_in r ∧ inv S2
