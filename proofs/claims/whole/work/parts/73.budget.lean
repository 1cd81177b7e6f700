/-! what a budget allows -/
/-- so much of the budget was used before the moment y -/
def bg_u (B : am_M) (x : Nat) : Int := if (x : Int) < B 50 19 then B 67 x else 0
def bg_U (B : am_M) (y : Nat) : Int := ma_su (bg_u B) y
/-- the reference's budget (z = 1: what comes back at this moment has come) -/
def bg_I (B : am_M) (z : Nat) : Prop := 0 ≤ B 50 19 ∧ mo_rb B ∧ (0 ≤ B 50 24 ∧ (B 50 20 = 0 ∨ B 50 20 = 3 → B 50 24 = 0)) ∧ (∀ x : Nat, (x : Int) < B 50 19 → 0 ≤ B 67 x ∧ B 67 x ≤ 1) ∧ (∀ x : Nat, B 50 19 ≤ x → x ≤ 2000 → B 67 x = 0) ∧ (B 50 20 = 1 → (∃ i : Nat, (i * (B 57 1).toNat : Nat) ≤ B 50 19 ∧ B 50 19 + z ≤ (i * (B 57 1).toNat : Nat) + B 57 1 ∧ B 50 24 + (bg_U B (B 50 19).toNat - bg_U B (i * (B 57 1).toNat)) = B 56 1) ∧ ∀ j w : Nat, w ≤ (B 57 1).toNat → j * (B 57 1).toNat + w ≤ (B 50 19).toNat → bg_U B (j * (B 57 1).toNat + w) - bg_U B (j * (B 57 1).toNat) ≤ B 56 1) ∧ (B 50 20 = 2 → B 50 24 + (bg_U B (B 50 19).toNat - bg_U B ((B 50 19).toNat + z - (B 57 2).toNat)) = B 56 2 ∧ ∀ y : Nat, y ≤ (B 50 19).toNat → bg_U B y - bg_U B (y - (B 57 2).toNat) ≤ B 56 2)
theorem bg_u_nn {B : am_M} {z : Nat} (h : bg_I B z) (x : Nat) : 0 ≤ bg_u B x ∧ bg_u B x ≤ 1 := by
  unfold bg_u
  split
  · rename_i c; exact h.2.2.2.1 x c
  · omega
/-- in any window no more than the admission reckons with -/
theorem bg_win {B : am_M} {z : Nat} (h : bg_I B z) (hk : B 50 20 = 1 ∨ B 50 20 = 2) (x r : Nat) (hx : (x : Int) + r ≤ B 50 19) : bg_U B (x + r) - bg_U B x ≤ mo_dem B (B 50 20) r := by
  obtain ⟨h1, h2, h3, h4, h5, h6, h7⟩ := h
  have h : bg_I B z := ⟨h1, h2, h3, h4, h5, h6, h7⟩
  unfold mo_dem bg_U
  rcases hk with c | c
  · rw [if_pos c]
    have q := (h6 c).2
    have := ma_def (u := bg_u B) (b := (B 56 1).toNat) (p := (B 57 1).toNat) (N := (B 50 19).toNat) (by have := h2.1; omega) (by have := h2.1; omega) (fun m => (bg_u_nn h m).1) (fun m => (bg_u_nn h m).2) (fun j w hw hN => by have := q j w hw hN; unfold bg_U at this; have := h2.1; omega) x r (by omega)
    rw [show (((B 56 1).toNat : Nat) : Int) = B 56 1 by have := h2.1; omega, show (((B 57 1).toNat : Nat) : Int) = B 57 1 by have := h2.1; omega] at this
    rw [show (if B 56 1 < (r : Int) then (r : Int) - B 56 1 else 0) = ((r - (B 56 1).toNat : Nat) : Int) by have := h2.1; split <;> omega]
    exact this
  · rw [if_neg (by omega), if_pos c]
    have q := (h7 c).2
    have := ma_spo (u := bg_u B) (b := B 56 2) (p := (B 57 2).toNat) (N := (B 50 19).toNat) (by have := h2.2; omega) (by have := h2.2; omega) (fun m => (bg_u_nn h m).1) (fun y hy => q y hy) x r (by omega)
    rw [show (((B 57 2).toNat : Nat) : Int) = B 57 2 by have := h2.2; omega] at this
    exact this
theorem bg_U_of {B B' : am_M} (e1 : B' 50 19 = B 50 19) (e2 : ∀ x : Nat, (x : Int) < B 50 19 → B' 67 x = B 67 x) (y : Nat) : bg_U B' y = bg_U B y := ma_su_eq (fun x _ => by
  unfold bg_u
  rw [e1]
  by_cases c : (x : Int) < B 50 19
  · rw [if_pos c, if_pos c, e2 x c]
  · rw [if_neg c, if_neg c])
/-- other cells have changed -/
theorem bg_of {B B' : am_M} {z : Nat} (h : bg_I B z) (e1 : B' 50 19 = B 50 19) (e2 : B' 50 20 = B 50 20) (e3 : B' 50 24 = B 50 24) (e4 : ∀ k j, k = 56 ∨ k = 57 ∨ k = 67 → B' k j = B k j) : bg_I B' z := by
  have eU : ∀ y, bg_U B' y = bg_U B y := bg_U_of e1 (fun x _ => e4 67 x (by decide))
  unfold bg_I mo_rb
  simp only [e1, e2, e3, eU, e4 56 _ (show 56 = 56 ∨ 56 = 57 ∨ 56 = 67 by decide), e4 57 _ (show 57 = 56 ∨ 57 = 57 ∨ 57 = 67 by decide), e4 67 _ (show 67 = 56 ∨ 67 = 57 ∨ 67 = 67 by decide)]
  exact h
/-- what comes back -/
theorem bg_cb {B : am_M} (h : bg_I B 0) (h2000 : B 50 19 ≤ 2000) : bg_I (g_MO_comeBack [.inr (.inl 50)] B) 1 := by
  obtain ⟨h1, h2, h3, h4, h5, h6, h7⟩ := h
  have ek : ∀ k j, k ≠ 50 → g_MO_comeBack [.inr (.inl 50)] B k j = B k j := fun k j hk => mo_cb_k hk
  have e50 : ∀ j, j ≠ 24 → g_MO_comeBack [.inr (.inl 50)] B 50 j = B 50 j := fun j hj => mo_cb_50 hj
  have eU : ∀ y, bg_U (g_MO_comeBack [.inr (.inl 50)] B) y = bg_U B y := bg_U_of (e50 19 (by decide)) (fun x _ => ek 67 x (by decide))
  have e24 : g_MO_comeBack [.inr (.inl 50)] B 50 24 = if B 50 20 = 1 ∧ B 50 19 % B 57 1 = 0 then B 56 1 else if B 50 20 = 2 ∧ B 57 2 ≤ B 50 19 then B 50 24 + B 67 (B 50 19 - B 57 2).toNat else B 50 24 := by
    simp only [g_MO_comeBack]
    split
    · rw [am_up_s]
    · split
      · rw [am_up_s]
      · rfl
  unfold bg_I mo_rb
  simp only [e50 19 (by decide), e50 20 (by decide), eU, ek 56 _ (show 56 ≠ 50 by decide), ek 57 _ (show 57 ≠ 50 by decide), ek 67 _ (show 67 ≠ 50 by decide), e24]
  refine ⟨h1, h2, ?_, h4, h5, fun c => ⟨?_, (h6 c).2⟩, fun c => ⟨?_, (h7 c).2⟩⟩
  · refine ⟨?_, fun c => ?_⟩
    · have a := h3.1
      have b := h2.1
      split
      · omega
      · split
        · rename_i w
          have := h4 (B 50 19 - B 57 2).toNat (by have := h2.2; omega)
          omega
        · exact a
    · rw [if_neg (by omega), if_neg (by omega)]
      exact h3.2 c
  · obtain ⟨i, i1, i2, i3⟩ := (h6 c).1
    have b := h2.1
    by_cases c2 : B 50 19 % B 57 1 = 0
    · rw [if_pos ⟨c, c2⟩]
      have e := Int.mul_ediv_add_emod (B 50 19) (B 57 1)
      have n0 : 0 ≤ B 50 19 / B 57 1 := Int.ediv_nonneg h1 (by omega)
      have e3 : (((B 50 19 / B 57 1).toNat * (B 57 1).toNat : Nat) : Int) = B 50 19 := by
        rw [Int.natCast_mul, Int.toNat_of_nonneg n0, Int.toNat_of_nonneg (by omega), Int.mul_comm]
        omega
      refine ⟨(B 50 19 / B 57 1).toNat, by omega, by omega, ?_⟩
      rw [show (B 50 19 / B 57 1).toNat * (B 57 1).toNat = (B 50 19).toNat by omega]
      omega
    · rw [if_neg (fun q => c2 q.2), if_neg (by omega)]
      refine ⟨i, i1, ?_, i3⟩
      by_cases w : B 50 19 = (i * (B 57 1).toNat : Nat) + B 57 1
      · exfalso
        apply c2
        rw [w, Int.natCast_mul, Int.toNat_of_nonneg (by omega), Int.add_emod_right, Int.mul_emod_left]
      · omega
  · have q := (h7 c).1
    have b := h2.2
    rw [if_neg (by omega)]
    rw [show (B 50 19).toNat + 0 - (B 57 2).toNat = (B 50 19).toNat - (B 57 2).toNat by omega] at q
    by_cases w : B 57 2 ≤ B 50 19
    · rw [if_pos ⟨c, w⟩]
      rw [show (B 50 19).toNat + 1 - (B 57 2).toNat = (B 50 19).toNat - (B 57 2).toNat + 1 by omega]
      have s : bg_U B ((B 50 19).toNat - (B 57 2).toNat + 1) = bg_U B ((B 50 19).toNat - (B 57 2).toNat) + bg_u B ((B 50 19).toNat - (B 57 2).toNat) := rfl
      have s2 : bg_u B ((B 50 19).toNat - (B 57 2).toNat) = B 67 (B 50 19 - B 57 2).toNat := by
        unfold bg_u
        rw [if_pos (by omega)]
        congr 1
        omega
      omega
    · rw [if_neg (fun q => w q.2)]
      rw [show (B 50 19).toNat + 1 - (B 57 2).toNat = (B 50 19).toNat - (B 57 2).toNat by omega]
      exact q
/-- behind a tick: with v of the budget used in it -/
theorem bg_run {B B' : am_M} {v : Int} (h : bg_I B 1) (hv : v = 0 ∨ v = 1) (hv2 : v = 1 → 0 < B 50 24) (hm : B 50 19 < 2000) (e1 : B' 50 19 = B 50 19 + 1) (e2 : B' 50 20 = B 50 20) (e3 : B' 50 24 = B 50 24 - v) (e4 : ∀ k j, k = 56 ∨ k = 57 → B' k j = B k j) (e5 : ∀ j : Nat, B' 67 j = if (j : Int) = B 50 19 then B 67 j + v else B 67 j) : bg_I B' 0 ∧ (∀ y : Nat, (y : Int) ≤ B 50 19 → bg_U B' y = bg_U B y) ∧ bg_U B' ((B 50 19).toNat + 1) = bg_U B (B 50 19).toNat + v := by
  obtain ⟨h1, h2, h3, h4, h5, h6, h7⟩ := h
  have U1 : ∀ y : Nat, (y : Int) ≤ B 50 19 → bg_U B' y = bg_U B y := fun y hy => ma_su_eq (fun x hx => by
    unfold bg_u
    rw [e1, e5, if_pos (by omega), if_neg (by omega), if_pos (by omega)])
  have U2 : bg_U B' ((B 50 19).toNat + 1) = bg_U B (B 50 19).toNat + v := by
    have s : bg_U B' ((B 50 19).toNat + 1) = bg_U B' (B 50 19).toNat + bg_u B' (B 50 19).toNat := rfl
    have s2 : bg_u B' (B 50 19).toNat = v := by
      unfold bg_u
      rw [e1, e5, if_pos (by omega), if_pos (by omega), h5 _ (by omega) (by omega)]
      omega
    rw [s, s2, U1 _ (by omega)]
  refine ⟨?_, U1, U2⟩
  have n1 : (B 50 19 + 1).toNat = (B 50 19).toNat + 1 := by omega
  unfold bg_I mo_rb
  simp only [e1, e2, e3, e4 56 _ (show 56 = 56 ∨ 56 = 57 by decide), e4 57 _ (show 57 = 56 ∨ 57 = 57 by decide), e5, n1]
  refine ⟨by omega, h2, ?_, fun x hx => ?_, fun x hx hx2 => ?_, fun c => ⟨?_, fun j w hw hN => ?_⟩, fun c => ⟨?_, fun y hy => ?_⟩⟩
  · refine ⟨?_, fun c => ?_⟩
    · rcases hv with c | c
      · omega
      · have := hv2 c; omega
    · have := h3.2 c
      rcases hv with c | c
      · omega
      · have := hv2 c; omega
  · by_cases c : (x : Int) = B 50 19
    · have z0 := h5 x (by omega) (by omega)
      rw [if_pos c, z0]
      clear h6 h7
      omega
    · rw [if_neg c]
      exact h4 x (by omega)
  · rw [if_neg (by omega)]
    exact h5 x (by omega) hx2
  · obtain ⟨i, i1, i2, i3⟩ := (h6 c).1
    refine ⟨i, by omega, by omega, ?_⟩
    rw [U2, U1 _ i1]
    omega
  · obtain ⟨i, i1, i2, i3⟩ := (h6 c).1
    by_cases q : j * (B 57 1).toNat + w ≤ (B 50 19).toNat
    · rw [U1 _ (by omega), U1 _ (by omega)]
      exact (h6 c).2 j w hw q
    · have q2 : j * (B 57 1).toNat + w = (B 50 19).toNat + 1 := by omega
      by_cases w0 : w = 0
      · subst w0
        have := h2.1
        rw [Nat.add_zero]
        omega
      · have ij : i = j := by
          have b := h2.1
          by_cases lt : i < j
          · have := Nat.mul_le_mul_right (B 57 1).toNat (show i + 1 ≤ j by omega)
            rw [Nat.add_mul] at this
            omega
          · by_cases gt : j < i
            · have := Nat.mul_le_mul_right (B 57 1).toNat (show j + 1 ≤ i by omega)
              rw [Nat.add_mul] at this
              omega
            · omega
        subst ij
        rw [q2, U2, U1 _ (by omega)]
        have := h3.1
        have : v ≤ B 50 24 := by
          rcases hv with c | c
          · omega
          · have := hv2 c; omega
        omega
  · have q := (h7 c).1
    rw [Nat.add_zero, U2, U1 _ (by have := h2.2; omega)]
    omega
  · by_cases q : y ≤ (B 50 19).toNat
    · rw [U1 _ (by omega), U1 _ (by omega)]
      exact (h7 c).2 y q
    · have q2 : y = (B 50 19).toNat + 1 := by omega
      have q3 := (h7 c).1
      subst q2
      rw [U2, U1 _ (by have := h2.2; omega)]
      have := h3.1
      have : v ≤ B 50 24 := by
        rcases hv with c | c
        · omega
        · have := hv2 c; omega
      omega
