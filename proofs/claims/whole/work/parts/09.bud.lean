/-! the budget's two rules: how much of it a window can hold. u m: what was taken at the moment m -/
theorem ma_su_s (u : Nat → Int) {x y : Nat} (hu : ∀ m, 0 ≤ u m) (h : x ≤ y) : ma_su u x ≤ ma_su u y := ma_su_mono h (fun j _ => hu j)
theorem ma_su_1 (u : Nat → Int) (hu : ∀ m, u m ≤ 1) : ∀ n x : Nat, ma_su u (x + n) - ma_su u x ≤ n
  | 0, x => by simp
  | n + 1, x => by
    have h1 := ma_su_1 u hu n x
    have h2 := hu (x + n)
    rw [show x + (n + 1) = (x + n) + 1 by omega]
    simp only [ma_su]
    omega
/-- pieces of p ticks, each with at most b -/
theorem ma_pc {u : Nat → Int} {b : Int} {p N : Nat} (hp : 0 < p) (hb : 0 ≤ b) (hu : ∀ m, 0 ≤ u m) : ∀ (q s n : Nat), n ≤ q * p → s + n ≤ N → (∀ j, j < q → ∀ z, z ≤ p → s + j * p + z ≤ N → ma_su u (s + j * p + z) - ma_su u (s + j * p) ≤ b) → ma_su u (s + n) - ma_su u s ≤ q * b
  | 0, s, n, hn, _, _ => by
    rw [show n = 0 by omega]
    simp
  | q + 1, s, n, hn, hN, h => by
    by_cases hs : n ≤ q * p
    · have h1 := ma_pc hp hb hu q s n hs hN (fun j hj => h j (by omega))
      rw [Int.natCast_add, Int.add_mul]
      omega
    · have h1 := ma_pc hp hb hu q s (q * p) (Nat.le_refl _) (by omega) (fun j hj => h j (by omega))
      have h2 := h q (by omega) (n - q * p) (by rw [Nat.add_mul] at hn; omega) (by omega)
      rw [show s + q * p + (n - q * p) = s + n by omega] at h2
      rw [Int.natCast_add, Int.add_mul]
      omega
theorem ma_ru_nat {n p : Nat} (hp : 0 < p) : ∃ q : Nat, ma_ru n p = q ∧ n ≤ q * p := by
  have h0 := ma_ru_nn (r := (n : Int)) (p := (p : Int)) (by omega) (by omega)
  have h1 := ma_ru_b (r := (n : Int)) (p := (p : Int)) (by omega)
  obtain ⟨q, hq⟩ := Int.eq_ofNat_of_zero_le h0
  refine ⟨q, hq, ?_⟩
  rw [hq] at h1
  have := h1.1
  exact_mod_cast this
/-- a sporadic budget: what is taken comes back p later -/
theorem ma_spo {u : Nat → Int} {b : Int} {p N : Nat} (hp : 0 < p) (hb : 0 ≤ b) (hu : ∀ m, 0 ≤ u m) (h : ∀ y, y ≤ N → ma_su u y - ma_su u (y - p) ≤ b) (x r : Nat) (hx : x + r ≤ N) : ma_su u (x + r) - ma_su u x ≤ ma_ru r p * b := by
  obtain ⟨q, hq, hn⟩ := ma_ru_nat (n := r) hp
  rw [hq]
  refine ma_pc hp hb hu q x r hn hx (fun j _ z hz hN => ?_)
  have h1 := h (x + j * p + z) hN
  have h2 := ma_su_s u hu (show x + j * p + z - p ≤ x + j * p by omega)
  omega
/-- a budget that is filled up at the multiples of p -/
theorem ma_def {u : Nat → Int} {b p N : Nat} (hp : 0 < p) (hbp : b ≤ p) (hu : ∀ m, 0 ≤ u m) (hu1 : ∀ m, u m ≤ 1) (h : ∀ j z, z ≤ p → j * p + z ≤ N → ma_su u (j * p + z) - ma_su u (j * p) ≤ b) (x r : Nat) (hx : x + r ≤ N) :
    ma_su u (x + r) - ma_su u x ≤ (1 + ma_ru ((r - b : Nat) : Int) p) * b := by
  obtain ⟨q, hq, hn⟩ := ma_ru_nat (n := r - b) hp
  rw [hq, Int.add_mul, Int.one_mul]
  have hqb : (0 : Int) ≤ (q : Int) * b := Int.mul_nonneg (by omega) (by omega)
  -- the block in which x lies, and the first multiple at x or behind it
  have hd := Nat.div_add_mod x p
  have hm := Nat.mod_lt x hp
  rw [Nat.mul_comm] at hd
  generalize x / p = i at hd
  generalize x % p = w at hd hm
  by_cases hw : w = 0
  · -- x is itself a multiple
    subst hw
    by_cases hr : r ≤ b + q * p
    · by_cases hr2 : r ≤ q * p
      · have h1 := ma_pc (N := N) hp (b := (b : Int)) (by omega) hu q x r hr2 hx (fun j _ z hz hN => by
          have h2 := h (i + j) z hz (by rw [Nat.add_mul]; omega)
          rw [Nat.add_mul, show i * p + j * p = x + j * p by omega] at h2
          exact h2)
        omega
      · have h1 := ma_pc (N := N) hp (b := (b : Int)) (by omega) hu q x (q * p) (Nat.le_refl _) (by omega) (fun j _ z hz hN => by
          have h2 := h (i + j) z hz (by rw [Nat.add_mul]; omega)
          rw [Nat.add_mul, show i * p + j * p = x + j * p by omega] at h2
          exact h2)
        have h3 := ma_su_1 u hu1 (r - q * p) (x + q * p)
        rw [show x + q * p + (r - q * p) = x + r by omega] at h3
        omega
    · omega
  · have hx1 : x = i * p + w := by omega
    have e1 : (i + 1) * p = i * p + p := by rw [Nat.add_mul, Nat.one_mul]
    -- e ticks up to the next multiple
    by_cases hre : r ≤ p - w
    · have h1 := h i (w + r) (by omega) (by omega)
      have h2 := ma_su_s u hu (show i * p ≤ x by omega)
      rw [show i * p + (w + r) = x + r by omega] at h1
      omega
    · have hs : x + (p - w) = (i + 1) * p := by omega
      have f1 := h i p (Nat.le_refl _) (by omega)
      have f2 := ma_su_s u hu (show i * p ≤ x by omega)
      have f3 := ma_su_1 u hu1 (p - w) x
      rw [show i * p + p = x + (p - w) by omega] at f1
      have blocks : ∀ n, n ≤ q * p → x + (p - w) + n ≤ N → ma_su u (x + (p - w) + n) - ma_su u (x + (p - w)) ≤ q * b := fun n hn hN =>
        ma_pc (N := N) hp (b := (b : Int)) (by omega) hu q (x + (p - w)) n hn hN (fun j _ z hz hN => by
          have h2 := h (i + 1 + j) z hz (by rw [Nat.add_mul]; omega)
          rw [Nat.add_mul, ← hs] at h2
          exact h2)
      by_cases hr2 : r - (p - w) ≤ q * p
      · have h1 := blocks (r - (p - w)) hr2 (by omega)
        rw [show x + (p - w) + (r - (p - w)) = x + r by omega] at h1
        omega
      · have h1 := blocks (q * p) (Nat.le_refl _) (by omega)
        have h3 := ma_su_1 u hu1 (r - (p - w) - q * p) (x + (p - w) + q * p)
        rw [show x + (p - w) + q * p + (r - (p - w) - q * p) = x + r by omega] at h3
        omega
