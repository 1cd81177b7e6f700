/-! class and reference agree: the budget (wip/whole/p63.py) -/
theorem ma_md {P x y : Int} (hP : 0 < P) (h1 : x < y) (h2 : y < x + P) : x % P ≠ y % P := by
  intro e
  have a := Int.mul_ediv_add_emod x P
  have b := Int.mul_ediv_add_emod y P
  have c : P * (y / P) - P * (x / P) = P * (y / P - x / P) := (Int.mul_sub P _ _).symm
  by_cases q : y / P - x / P ≤ 0
  · have := Int.mul_le_mul_of_nonneg_left q (Int.le_of_lt hP)
    omega
  · have := Int.mul_le_mul_of_nonneg_left (show 1 ≤ y / P - x / P by omega) (Int.le_of_lt hP)
    omega
/-- what was used in the moments of a window up to y -/
def vr_W (u : Nat) (P y : Int) (A B : am_M) : Prop := ∀ x : Int, y - P ≤ x → x < y → A (u + 1) (x % P).toNat = if 0 ≤ x then B 67 x.toNat else 0
/-- it comes back on both sides: kind 2 -/
theorem vr_cb2 {u : Nat} {y : Int} {A B : am_M} (hP : 1 ≤ A u 3 ∧ A u 3 ≤ 60) (h1 : A u 1 = 2) (h2 : B 50 20 = 2) (h3 : B 57 2 = A u 3) (h4 : B 50 24 = A u 4) (hy : B 50 19 = y ∧ 0 ≤ y) (h5 : vr_W u (A u 3) y A B) (h6 : B 67 y.toNat = 0) : (g_MO_comeBack [.inr (.inl 50)] B 50 24 = g_BU_comeBack [.inr (.inl u), .inl y] A u 4) ∧ vr_W u (A u 3) (y + 1) (g_BU_comeBack [.inr (.inl u), .inl y] A) (g_MO_comeBack [.inr (.inl 50)] B) := by
  have eA : g_BU_comeBack [.inr (.inl u), .inl y] A = am_up (am_up A u 4 (A u 4 + A (u + 1) (y % A u 3).toNat)) (u + 1) (y % A u 3).toNat 0 := by
    simp only [g_BU_comeBack]
    rw [if_neg (by omega), if_pos h1]
  have kB : ∀ j, g_MO_comeBack [.inr (.inl 50)] B 67 j = B 67 j := fun j => by
    simp only [g_MO_comeBack]
    rw [if_neg (fun q => by omega)]
    by_cases c : B 50 20 = 2 ∧ B 57 2 ≤ B 50 19
    · rw [if_pos c, am_up_k _ _ (by decide)]
    · rw [if_neg c]
  have hw := h5 (y - A u 3) (by omega) (by omega)
  rw [Int.sub_emod_right] at hw
  refine ⟨?_, fun x hx1 hx2 => ?_⟩
  · rw [eA, am_up_k _ _ (by omega), am_up_s]
    simp only [g_MO_comeBack]
    rw [if_neg (fun q => by omega), h3, hy.1]
    by_cases c : A u 3 ≤ y
    · rw [if_pos ⟨h2, c⟩, am_up_s, hw, if_pos (by omega), h4]
    · rw [if_neg (fun q => c q.2), hw, if_neg (by omega), h4]
      omega
  · rw [eA, kB]
    by_cases c : x = y
    · subst c
      rw [am_up_s, if_pos hy.2, h6]
    · have n := ma_md (P := A u 3) (x := x) (y := y) (by omega) (by omega) (by omega)
      have n1 := Int.emod_nonneg x (show A u 3 ≠ 0 by omega)
      have n2 := Int.emod_nonneg y (show A u 3 ≠ 0 by omega)
      rw [am_up_j _ _ (by omega), am_up_k _ _ (by omega)]
      exact h5 x (by omega) (by omega)
/-- it comes back on both sides: kind 1 -/
theorem vr_cb1 {u : Nat} {y : Int} {A B : am_M} (h1 : A u 1 = 1) (h2 : B 50 20 = 1) (h3 : B 57 1 = A u 3) (h3b : B 56 1 = A u 2) (h4 : B 50 24 = A u 4) (hy : B 50 19 = y) : g_MO_comeBack [.inr (.inl 50)] B 50 24 = g_BU_comeBack [.inr (.inl u), .inl y] A u 4 := by
  simp only [g_BU_comeBack, g_MO_comeBack]
  rw [hy, h3, h3b]
  by_cases c : y % A u 3 = 0
  · rw [if_pos ⟨h2, c⟩, if_pos ⟨h1, c⟩, am_up_s, am_up_s]
  · rw [if_neg (fun q => c q.2), if_neg (show ¬ (B 50 20 = 2 ∧ B 57 2 ≤ y) from fun q => by omega), if_neg (fun q => c q.2), if_neg (by omega)]
    exact h4
/-- other kinds: nothing comes back -/
theorem vr_cb0 {u : Nat} {y : Int} {A B : am_M} (h1 : A u 1 ≠ 1 ∧ A u 1 ≠ 2) (h2 : B 50 20 ≠ 1 ∧ B 50 20 ≠ 2) : g_MO_comeBack [.inr (.inl 50)] B = B ∧ g_BU_comeBack [.inr (.inl u), .inl y] A = A := by
  simp only [g_BU_comeBack, g_MO_comeBack]
  rw [if_neg (fun q => h2.1 q.1), if_neg (fun q => h2.2 q.1), if_neg (fun q => h1.1 q.1), if_neg h1.2]
  exact ⟨rfl, rfl⟩
/-- a tick of the budget is used on both sides: y is the moment -/
theorem vr_take {u : Nat} {y : Int} {A B B' : am_M} (hP : 1 ≤ A u 3 ∧ A u 3 ≤ 60) (hl : 0 < A u 4) (hy : 0 ≤ y) (h5 : vr_W u (A u 3) (y + 1) A B) (hB : ∀ j, B' 67 j = if j = y.toNat then B 67 j + 1 else B 67 j) : vr_W u (A u 3) (y + 1) (g_BU_take [.inr (.inl u), .inl y] A) B' := by
  have eA : g_BU_take [.inr (.inl u), .inl y] A = am_up (am_up A u 4 (A u 4 - 1)) (u + 1) (y % A u 3).toNat (A (u + 1) (y % A u 3).toNat + 1) := by
    simp only [g_BU_take]
    rw [if_pos hl]
  intro x hx1 hx2
  have hw := h5 x hx1 hx2
  rw [eA, hB]
  by_cases c : x = y
  · subst c
    rw [if_pos hy] at hw
    rw [am_up_s, hw, if_pos hy, if_pos rfl]
  · have n := ma_md (P := A u 3) (x := x) (y := y) (by omega) (by omega) (by omega)
    have n1 := Int.emod_nonneg x (show A u 3 ≠ 0 by omega)
    have n2 := Int.emod_nonneg y (show A u 3 ≠ 0 by omega)
    rw [am_up_j _ _ (by omega), am_up_k _ _ (by omega), hw]
    by_cases c2 : 0 ≤ x
    · rw [if_pos c2, if_pos c2, if_neg (by omega)]
    · rw [if_neg c2, if_neg c2]
