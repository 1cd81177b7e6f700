/-! levels of priority: o p c d of a rank; to what is told for its next instance; pd what is still to be done -/
/-- the work of the ranks below k (0 .. k-1) that comes from x on before y -/
def ma_A (o p c to : Nat → Int) (x y : Int) (k : Nat) : Int := ma_su (fun j => ma_tm (o j) (p j) (c j) (to j) x y) k
/-- what the rank-levels' bound asks: the demand of the ranks above k in a window of r -/
def ma_f (p c : Nat → Int) (k : Nat) (r : Int) : Int := ma_su (fun j => ma_ru r (p j) * c j) k
theorem ma_A_w {o p c to : Nat → Int} {x u y : Int} {k : Nat} (hp : ∀ j, j < k → 0 < p j) (hc : ∀ j, j < k → 0 ≤ c j) (ht : ∀ j, j < k → to j ≤ c j) (hu : u ≤ y) : ma_A o p c to x y k - ma_A o p c to x u k ≤ ma_f p c k (y - u) := by
  have h1 : ma_A o p c to x y k ≤ ma_su (fun j => ma_tm (o j) (p j) (c j) (to j) x u + ma_ru (y - u) (p j) * c j) k :=
    ma_su_le (fun j hj => by have := ma_tm_w (o := o j) (x := x) (hp j hj) (hc j hj) (ht j hj) hu; omega)
  rw [ma_su_add] at h1
  unfold ma_A at h1 ⊢
  unfold ma_f
  omega
theorem ma_A_0 {o p c to : Nat → Int} {x : Int} {k : Nat} (hp : ∀ j, j < k → 0 < p j) : ma_A o p c to x x k = 0 := ma_su_0 (fun j hj => ma_tm_0 (hp j hj))
/-- a finite run of numbers has a greatest one -/
theorem ma_arg (g : Nat → Int) : ∀ n : Nat, ∃ i, i ≤ n ∧ ∀ j, j ≤ n → g j ≤ g i
  | 0 => ⟨0, Nat.le_refl _, fun j hj => by rw [show j = 0 by omega]; exact Int.le_refl _⟩
  | n + 1 => by
    obtain ⟨i, h1, h2⟩ := ma_arg g n
    by_cases h : g (n + 1) ≤ g i
    · exact ⟨i, by omega, fun j hj => by
        by_cases e : j = n + 1
        · rw [e]; exact h
        · exact h2 j (by omega)⟩
    · exact ⟨n + 1, Nat.le_refl _, fun j hj => by
        by_cases e : j = n + 1
        · rw [e]; exact Int.le_refl _
        · have := h2 j (by omega); omega⟩
/-- FROM AN EMPTY LEVEL the next instance is in time: rank k, at t nothing of the ranks up to k waits; Rk answers the admission's equation -/
theorem ma_zero {o p c to : Nat → Int} {x t : Int} {k : Nat} {Rk dk : Int} (hp : ∀ j, j ≤ k → 0 < p j) (hc : ∀ j, j ≤ k → 0 < c j) (ht : ∀ j, j ≤ k → to j ≤ c j)
    (hR : c k + ma_f p c k Rk ≤ Rk) (hRd : Rk ≤ dk) (hdp : dk ≤ p k) (hR0 : 0 ≤ Rk) :
    ∃ y, ma_nx (o k) (p k) t < y ∧ y ≤ ma_nx (o k) (p k) t + dk ∧ ma_A o p c to x y (k + 1) - ma_A o p c to x t (k + 1) ≤ y - t := by
  generalize ha : ma_nx (o k) (p k) t = a
  have hta : t ≤ a := by rw [← ha]; exact ma_nx_ge (hp k (by omega))
  obtain ⟨i, hi, hmax⟩ := ma_arg (fun i => (i : Int) - (ma_A o p c to x (t + i) k - ma_A o p c to x t k)) (a - t).toNat
  have h0 := hmax 0 (by omega)
  simp only [Int.natCast_zero, Int.add_zero, Int.sub_self] at h0
  have hw := ma_A_w (o := o) (p := p) (c := c) (to := to) (x := x) (u := t + i) (y := t + i + Rk) (k := k) (fun j hj => hp j (by omega)) (fun j hj => Int.le_of_lt (hc j (by omega))) (fun j hj => ht j (by omega)) (by omega)
  rw [show t + (i : Int) + Rk - (t + i) = Rk by omega] at hw
  have hck := hc k (by omega)
  have hxa : a < t + i + Rk := by
    by_cases h : a < t + i + Rk
    · exact h
    · exfalso
      have h1 := hmax (i + Rk.toNat) (by omega)
      rw [show t + ((i + Rk.toNat : Nat) : Int) = t + i + Rk by omega] at h1
      omega
  refine ⟨t + i + Rk, hxa, by omega, ?_⟩
  have own : ma_tm (o k) (p k) (c k) (to k) x (t + i + Rk) - ma_tm (o k) (p k) (c k) (to k) x t ≤ c k := by
    have hpk := hp k (by omega)
    have e1 : ma_rc (o k) (p k) (t + i + Rk) ≤ ma_rc (o k) (p k) t + 1 := by
      have h1 := ma_rc_mono (o := o k) hpk (show t + i + Rk ≤ a + p k by omega)
      have h2 : ma_rc (o k) (p k) (a + p k) = ma_rc (o k) (p k) t + 1 := by
        have hb : ma_be (o k) (p k) a := by rw [← ha]; exact ma_nx_be hpk
        rw [ma_rc_ge hpk (by have := hb.1; omega)]
        have e : a + p k - o k = (ma_rc (o k) (p k) t + 1) * p k := by rw [← ha, Int.add_mul, Int.one_mul]; unfold ma_nx; omega
        rw [e]
        exact ma_div hpk (by omega) (by omega)
      omega
    have e2 := Int.mul_le_mul_of_nonneg_right (show ma_rc (o k) (p k) (t + i + Rk) - ma_rc (o k) (p k) t ≤ 1 by omega) (Int.le_of_lt hck)
    rw [Int.sub_mul, Int.one_mul] at e2
    have htk := ht k (by omega)
    unfold ma_tm
    rw [Int.sub_mul, Int.sub_mul]
    by_cases q1 : 0 < to k ∧ ma_nx (o k) (p k) x < t
    · rw [if_pos q1, if_pos ⟨q1.1, by omega⟩]; omega
    · rw [if_neg q1]
      split <;> omega
  have e3 : ∀ y, ma_A o p c to x y (k + 1) = ma_A o p c to x y k + ma_tm (o k) (p k) (c k) (to k) x y := fun y => rfl
  rw [e3, e3]
  omega
/-- the workload's reflection: a level's backlog b and its idle ticks i, by the work a that comes -/
def ma_b (P : Int) (a : Nat → Int) : Nat → Int
  | 0 => P
  | n + 1 => if ma_b P a n + a n = 0 then 0 else ma_b P a n + a n - 1
def ma_i (P : Int) (a : Nat → Int) : Nat → Int
  | 0 => 0
  | n + 1 => if ma_b P a n + a n = 0 then ma_i P a n + 1 else ma_i P a n
def ma_m (P : Int) (a : Nat → Int) : Nat → Int
  | 0 => -P
  | n + 1 => if ma_m P a n < (n + 1 : Nat) - P - ma_su a (n + 1) then (n + 1 : Nat) - P - ma_su a (n + 1) else ma_m P a n
theorem ma_b_nn {P : Int} {a : Nat → Int} (hP : 0 ≤ P) (ha : ∀ n, 0 ≤ a n) : ∀ n, 0 ≤ ma_b P a n
  | 0 => hP
  | n + 1 => by
    have h1 := ma_b_nn hP ha n
    have h2 := ha n
    simp only [ma_b]
    split <;> omega
theorem ma_bi {P : Int} {a : Nat → Int} : ∀ n : Nat, ma_i P a n = n - P - ma_su a n + ma_b P a n
  | 0 => by simp [ma_i, ma_b, ma_su]; omega
  | n + 1 => by
    have h := ma_bi (P := P) (a := a) n
    simp only [ma_i, ma_b, ma_su]
    split <;> omega
theorem ma_m_s (P : Int) (a : Nat → Int) (n : Nat) : (ma_m P a n < (n + 1 : Nat) - P - ma_su a (n + 1) ∧ ma_m P a (n + 1) = (n + 1 : Nat) - P - ma_su a (n + 1)) ∨ ((n + 1 : Nat) - P - ma_su a (n + 1) ≤ ma_m P a n ∧ ma_m P a (n + 1) = ma_m P a n) := by
  by_cases c : ma_m P a n < (n + 1 : Nat) - P - ma_su a (n + 1)
  · exact Or.inl ⟨c, by rw [ma_m, if_pos c]⟩
  · exact Or.inr ⟨by omega, by rw [ma_m, if_neg c]⟩
theorem ma_b_s (P : Int) (a : Nat → Int) (n : Nat) : (ma_b P a n + a n = 0 ∧ ma_b P a (n + 1) = 0 ∧ ma_i P a (n + 1) = ma_i P a n + 1) ∨ (ma_b P a n + a n ≠ 0 ∧ ma_b P a (n + 1) = ma_b P a n + a n - 1 ∧ ma_i P a (n + 1) = ma_i P a n) := by
  by_cases c : ma_b P a n + a n = 0
  · exact Or.inl ⟨c, by rw [ma_b, if_pos c], by rw [ma_i, if_pos c]⟩
  · exact Or.inr ⟨c, by rw [ma_b, if_neg c], by rw [ma_i, if_neg c]⟩
theorem ma_im {P : Int} {a : Nat → Int} (hP : 0 ≤ P) (ha : ∀ n, 0 ≤ a n) : ∀ n : Nat, (ma_i P a n = 0 ∧ ma_m P a n < 0) ∨ (ma_i P a n = ma_m P a n ∧ 0 ≤ ma_m P a n)
  | 0 => by
    have h1 : ma_i P a 0 = 0 := rfl
    have h2 : ma_m P a 0 = -P := rfl
    omega
  | n + 1 => by
    have h := ma_im hP ha n
    have h1 := ma_bi (P := P) (a := a) (n + 1)
    have h3 := ma_bi (P := P) (a := a) n
    have h4 := ma_b_nn hP ha n
    have h7 := ma_b_nn hP ha (n + 1)
    have h5 := ha n
    have h8 := ma_m_s P a n
    have h9 := ma_b_s P a n
    have h10 : ma_su a (n + 1) = ma_su a n + a n := rfl
    omega
theorem ma_i_mono {P : Int} {a : Nat → Int} {m n : Nat} (h : m ≤ n) : ma_i P a m ≤ ma_i P a n := by
  induction n with
  | zero => rw [show m = 0 by omega]; exact Int.le_refl _
  | succ n ih =>
    by_cases e : m = n + 1
    · rw [e]; exact Int.le_refl _
    · have h1 := ih (by omega)
      simp only [ma_i]
      split <;> omega
