/-! the memory with which the law begins -/
def m0_b (x : Int) : Nat → Int := fun j => if j = 3 then x else if j = 2 then x else if j = 1 then x else if j = 0 then x else 0
def M0 : am_M := fun k j => match k with
  | 1 => if j = 6 then 1 else 0
  | 7 => if j = 2 then rb_M 0 2 else 0
  | 8 => rb_M 1 j
  | 9 => rb_M 2 j
  | 35 => if j = 3 then 60 else 0
  | 46 => if j = 3 then 60 else 0
  | 56 => m0_b 1 j
  | 57 => m0_b 60 j
  | _ => 0
theorem m0_n {j : Nat} (h : (j : Int) < 0) : False := by omega
theorem m0_z {x : Int} (h : 0 ≤ x) : (0 : Int) ≤ 0 ∧ (0 : Int) ≤ x := ⟨Int.le_refl _, h⟩
theorem m0_T : lw_T M0 M0 := by
  refine ⟨⟨rfl, fun j _ => ⟨rfl, rfl, rfl, rfl, rfl⟩⟩, ⟨m0_z (by decide), fun r h => (m0_n h).elim⟩, ⟨fun r s h => (m0_n h).elim, fun t h => (m0_n h).elim⟩, rfl, fun n h => ?_, ⟨⟨by decide, by decide⟩, ⟨by decide, by decide⟩⟩, by unfold rb_ok; decide, by decide, fun j _ => m0_z (by decide), rfl⟩
  have h2 : (n : Int) ≤ 0 := h
  obtain rfl : n = 0 := by omega
  exact ⟨by decide, by decide⟩
theorem m0_R : lw_R M0 M0 := ⟨⟨rfl, Or.inl rfl⟩, ⟨rfl, m0_z (by decide)⟩, ⟨rfl, rfl⟩, fun h => absurd h (by decide), fun _ => ⟨rfl, rfl, rfl, ⟨rfl, rfl⟩, rfl, rfl, rfl⟩⟩
theorem m0_L : lw_L M0 M0 := ⟨⟨⟨rfl, m0_z (by decide)⟩, fun j _ => m0_z (by decide), fun j h => (m0_n h).elim, fun i j _ h => (m0_n h).elim⟩, ⟨⟨rfl, m0_z (by decide)⟩, fun j _ => ⟨m0_z (by decide), m0_z (by decide), m0_z (by decide)⟩, fun j h => (m0_n h).elim, fun i j _ h => (m0_n h).elim⟩, fun j h => (m0_n h).elim, fun j h => (m0_n h).elim⟩
theorem m0_x : sm_x M0 := fun j _ => ⟨m0_z (by decide), m0_z (by decide), m0_z (by decide), m0_z (by decide), m0_z (by decide), m0_z (by decide)⟩
theorem m0_Z : lw_Z M0 M0 := ⟨⟨fun j _ => ⟨m0_z (by decide), m0_z (by decide), m0_z (by decide), m0_z (by decide)⟩, fun j _ => ⟨m0_z (by decide), Or.inl rfl⟩, m0_x⟩, ⟨fun j _ => ⟨m0_z (by decide), m0_z (by decide), m0_z (by decide), m0_z (by decide)⟩, fun j _ => ⟨m0_z (by decide), Or.inl rfl⟩, m0_x⟩, fun j _ => ⟨Or.inl rfl, m0_z (by decide)⟩, fun j _ => ⟨m0_z (by decide), m0_z (by decide), m0_z (by decide)⟩, fun j _ => rfl, fun q h => (m0_n h).elim, fun q _ => ⟨(by decide : (-50 : Int) ≤ 0), (by decide : (0 : Int) ≤ 50)⟩, ⟨rfl, rfl, rfl⟩⟩
theorem m0_I : lw_I M0 M0 := ⟨m0_T, m0_R, m0_L, m0_Z⟩
theorem m0_u (x : Int) : upd (upd (upd (upd (fun _ => Int32.ofInt 0) (Int32.ofInt 0).toNatClampNeg (Int32.ofInt x)) (Int32.ofInt 1).toNatClampNeg (Int32.ofInt x)) (Int32.ofInt 2).toNatClampNeg (Int32.ofInt x)) (Int32.ofInt 3).toNatClampNeg (Int32.ofInt x) = fun j => Int32.ofInt (m0_b x j) := by
  funext j
  have e0 : (Int32.ofInt 0).toNatClampNeg = 0 := by decide
  have e1 : (Int32.ofInt 1).toNatClampNeg = 1 := by decide
  have e2 : (Int32.ofInt 2).toNatClampNeg = 2 := by decide
  have e3 : (Int32.ofInt 3).toNatClampNeg = 3 := by decide
  rw [e0, e1, e2, e3]
  unfold m0_b upd
  (repeat' split) <;> rfl
