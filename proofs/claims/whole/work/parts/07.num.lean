/-! pure numbers: sums over ranks, releases in a window -/
def ma_su (f : Nat → Int) : Nat → Int
  | 0 => 0
  | n + 1 => ma_su f n + f n
theorem ma_su_le {f g : Nat → Int} : ∀ {n : Nat}, (∀ j, j < n → f j ≤ g j) → ma_su f n ≤ ma_su g n
  | 0, _ => Int.le_refl _
  | n + 1, h => by
    have h1 := ma_su_le (n := n) (fun j hj => h j (by omega))
    have h2 := h n (by omega)
    simp only [ma_su]
    omega
theorem ma_su_eq {f g : Nat → Int} : ∀ {n : Nat}, (∀ j, j < n → f j = g j) → ma_su f n = ma_su g n
  | 0, _ => rfl
  | n + 1, h => by
    have h1 := ma_su_eq (n := n) (fun j hj => h j (by omega))
    have h2 := h n (by omega)
    simp only [ma_su]
    omega
theorem ma_su_add (f g : Nat → Int) : ∀ n : Nat, ma_su (fun j => f j + g j) n = ma_su f n + ma_su g n
  | 0 => rfl
  | n + 1 => by
    have h1 := ma_su_add f g n
    simp only [ma_su]
    omega
theorem ma_su_0 {f : Nat → Int} {n : Nat} (h : ∀ j, j < n → f j = 0) : ma_su f n = 0 := by
  have h1 : ma_su f n = ma_su (fun _ => 0) n := ma_su_eq h
  rw [h1]
  clear h1 h
  induction n with
  | zero => rfl
  | succ n ih => simp only [ma_su, ih]; rfl
theorem ma_su_nn {f : Nat → Int} {n : Nat} (h : ∀ j, j < n → 0 ≤ f j) : 0 ≤ ma_su f n := by
  have h1 : ma_su (fun _ => 0) n ≤ ma_su f n := ma_su_le h
  rw [ma_su_0 (fun _ _ => rfl)] at h1
  exact h1
/-- a sum of numbers that aren't negative is 0 just where all are -/
theorem ma_su_z {f : Nat → Int} : ∀ {n : Nat}, (∀ j, j < n → 0 ≤ f j) → ma_su f n ≤ 0 → ∀ j, j < n → f j = 0
  | 0, _, _, j, hj => by omega
  | n + 1, h, hz, j, hj => by
    have h1 := ma_su_nn (n := n) (fun j hj => h j (by omega))
    have h2 := h n (by omega)
    simp only [ma_su] at hz
    by_cases e : j = n
    · subst e; omega
    · exact ma_su_z (n := n) (fun j hj => h j (by omega)) (by omega) j (by omega)
/-- one place changes -/
theorem ma_su_up {f g : Nat → Int} {k : Nat} (hg : ∀ j, j ≠ k → g j = f j) : ∀ n : Nat, ma_su g n = ma_su f n + (if k < n then g k - f k else 0)
  | 0 => by simp [ma_su]
  | n + 1 => by
    have h1 := ma_su_up hg n
    simp only [ma_su]
    by_cases e : n = k
    · subst e
      rw [h1, if_neg (by omega), if_pos (by omega)]
      omega
    · rw [h1, hg n e]
      by_cases h2 : k < n
      · rw [if_pos h2, if_pos (by omega)]; omega
      · rw [if_neg h2, if_neg (by omega)]; omega
theorem ma_su_mono {f : Nat → Int} {m n : Nat} (h : m ≤ n) (hf : ∀ j, j < n → 0 ≤ f j) : ma_su f m ≤ ma_su f n := by
  induction n with
  | zero => rw [show m = 0 by omega]; exact Int.le_refl _
  | succ n ih =>
    by_cases e : m = n + 1
    · rw [e]; exact Int.le_refl _
    · have h1 := ih (by omega) (fun j hj => hf j (by omega))
      have h2 := hf n (by omega)
      simp only [ma_su]
      omega
/-- division by a positive number, by its two bounds -/
theorem ma_div {a b q : Int} (hb : 0 < b) (h1 : q * b ≤ a) (h2 : a < q * b + b) : a / b = q := by
  have e1 : q ≤ a / b := Int.le_ediv_of_mul_le hb h1
  have e2 : a / b < q + 1 := Int.ediv_lt_of_lt_mul hb (by rw [Int.add_mul, Int.one_mul]; exact h2)
  omega
theorem ma_div_b {a b : Int} (hb : 0 < b) : (a / b) * b ≤ a ∧ a < (a / b) * b + b := by
  have h1 := Int.ediv_mul_le a (Int.ne_of_gt hb)
  have h2 := Int.lt_ediv_add_one_mul_self a hb
  rw [Int.add_mul, Int.one_mul] at h2
  exact ⟨h1, h2⟩
/-- rounded up -/
def ma_ru (r p : Int) : Int := (r + p - 1) / p
theorem ma_ru_b {r p : Int} (hp : 0 < p) : r ≤ ma_ru r p * p ∧ ma_ru r p * p < r + p := by
  have h := ma_div_b (a := r + p - 1) hp
  unfold ma_ru
  omega
theorem ma_ru_le {r p q : Int} (hp : 0 < p) (h : r ≤ q * p) : ma_ru r p ≤ q := by
  unfold ma_ru
  have : (r + p - 1) / p < q + 1 := Int.ediv_lt_of_lt_mul hp (by rw [Int.add_mul, Int.one_mul]; omega)
  omega
theorem ma_ru_mono {r r' p : Int} (hp : 0 < p) (h : r ≤ r') : ma_ru r p ≤ ma_ru r' p := ma_ru_le hp (by have := (ma_ru_b (r := r') hp).1; omega)
theorem ma_ru_0 {p : Int} (hp : 0 < p) : ma_ru 0 p = 0 := ma_div hp (by omega) (by omega)
theorem ma_ru_nn {r p : Int} (hp : 0 < p) (h : 0 ≤ r) : 0 ≤ ma_ru r p := by
  have := ma_ru_mono hp h
  rw [ma_ru_0 hp] at this
  exact this
/-- an instance of a task with the offset o and the period p comes at y -/
def ma_be (o p y : Int) : Prop := o ≤ y ∧ (y - o) % p = 0
/-- how many instances come before y -/
def ma_rc (o p y : Int) : Int := if y ≤ o then 0 else ma_ru (y - o) p
theorem ma_rc_le {o p y : Int} (h : y ≤ o) : ma_rc o p y = 0 := by simp [ma_rc, h]
theorem ma_rc_ge {o p y : Int} (hp : 0 < p) (h : o ≤ y) : ma_rc o p y = ma_ru (y - o) p := by
  unfold ma_rc
  split
  · rw [show y - o = 0 by omega, ma_ru_0 hp]
  · rfl
theorem ma_rc_be {o p y : Int} (hp : 0 < p) (h : ma_be o p y) : ma_rc o p (y + 1) = ma_rc o p y + 1 := by
  obtain ⟨h1, h2⟩ := h
  rw [ma_rc_ge hp h1, ma_rc_ge hp (by omega)]
  have h3 := Int.emod_add_mul_ediv (y - o) p
  rw [h2, Int.mul_comm] at h3
  generalize hq : (y - o) / p = q at h3
  have e1 : ma_ru (y - o) p = q := ma_div hp (by omega) (by omega)
  have e2 : ma_ru (y + 1 - o) p = q + 1 := ma_div hp (by rw [Int.add_mul, Int.one_mul]; omega) (by rw [Int.add_mul, Int.one_mul]; omega)
  rw [e1, e2]
theorem ma_rc_nb {o p y : Int} (hp : 0 < p) (h : ¬ ma_be o p y) : ma_rc o p (y + 1) = ma_rc o p y := by
  by_cases h1 : o ≤ y
  · have h2 : (y - o) % p ≠ 0 := fun z => h ⟨h1, z⟩
    rw [ma_rc_ge hp h1, ma_rc_ge hp (by omega)]
    have h3 := Int.emod_add_mul_ediv (y - o) p
    have h4 := Int.emod_nonneg (y - o) (Int.ne_of_gt hp)
    have h5 := Int.emod_lt_of_pos (y - o) hp
    rw [Int.mul_comm] at h3
    generalize hq : (y - o) / p = q at h3
    generalize (y - o) % p = r at h2 h3 h4 h5
    have e1 : ma_ru (y - o) p = q + 1 := ma_div hp (by rw [Int.add_mul, Int.one_mul]; omega) (by rw [Int.add_mul, Int.one_mul]; omega)
    have e2 : ma_ru (y + 1 - o) p = q + 1 := ma_div hp (by rw [Int.add_mul, Int.one_mul]; omega) (by rw [Int.add_mul, Int.one_mul]; omega)
    rw [e1, e2]
  · rw [ma_rc_le (by omega), ma_rc_le (by omega)]
/-- no window holds more instances than its length allows -/
theorem ma_rc_w {o p x y : Int} (hp : 0 < p) (h : x ≤ y) : ma_rc o p y - ma_rc o p x ≤ ma_ru (y - x) p := by
  by_cases h1 : y ≤ o
  · rw [ma_rc_le h1, ma_rc_le (by omega)]
    have := ma_ru_nn hp (show 0 ≤ y - x by omega)
    omega
  · rw [ma_rc_ge hp (show o ≤ y by omega)]
    have hw := ma_ru_b (r := y - x) hp
    by_cases h2 : x ≤ o
    · rw [ma_rc_le h2]
      have := ma_ru_mono hp (show y - o ≤ y - x by omega)
      omega
    · rw [ma_rc_ge hp (show o ≤ x by omega)]
      have hx := ma_ru_b (r := x - o) hp
      have : ma_ru (y - o) p ≤ ma_ru (x - o) p + ma_ru (y - x) p := ma_ru_le hp (by rw [Int.add_mul]; omega)
      omega
theorem ma_rc_mono {o p x y : Int} (hp : 0 < p) (h : x ≤ y) : ma_rc o p x ≤ ma_rc o p y := by
  by_cases h1 : x ≤ o
  · rw [ma_rc_le h1]
    unfold ma_rc
    split
    · exact Int.le_refl _
    · exact ma_ru_nn hp (by omega)
  · rw [ma_rc_ge hp (show o ≤ x by omega), ma_rc_ge hp (show o ≤ y by omega)]
    exact ma_ru_mono hp (by omega)
/-- the first instance at y or behind it -/
def ma_nx (o p y : Int) : Int := o + ma_rc o p y * p
theorem ma_rc_nn {o p y : Int} (hp : 0 < p) : 0 ≤ ma_rc o p y := by
  unfold ma_rc
  split
  · exact Int.le_refl _
  · exact ma_ru_nn hp (by omega)
theorem ma_nx_ge {o p y : Int} (hp : 0 < p) : y ≤ ma_nx o p y := by
  unfold ma_nx
  by_cases h : y ≤ o
  · rw [ma_rc_le h]; omega
  · rw [ma_rc_ge hp (by omega)]
    have := (ma_ru_b (r := y - o) hp).1
    omega
theorem ma_nx_lt {o p y : Int} (hp : 0 < p) (h : o ≤ y) : ma_nx o p y < y + p := by
  unfold ma_nx
  rw [ma_rc_ge hp h]
  have := (ma_ru_b (r := y - o) hp).2
  omega
theorem ma_nx_be {o p y : Int} (hp : 0 < p) : ma_be o p (ma_nx o p y) := by
  have h := ma_rc_nn (o := o) (y := y) hp
  have h2 : 0 ≤ ma_rc o p y * p := Int.mul_nonneg h (Int.le_of_lt hp)
  refine ⟨by unfold ma_nx; omega, ?_⟩
  rw [show ma_nx o p y - o = ma_rc o p y * p by unfold ma_nx; omega]
  exact Int.mul_emod_left _ _
theorem ma_be_nx {o p y : Int} (hp : 0 < p) (h : ma_be o p y) : ma_nx o p y = y := by
  obtain ⟨h1, h2⟩ := h
  unfold ma_nx
  rw [ma_rc_ge hp h1]
  have h3 := Int.emod_add_mul_ediv (y - o) p
  rw [h2, Int.mul_comm] at h3
  generalize hq : (y - o) / p = q at h3
  have e1 : ma_ru (y - o) p = q := ma_div hp (by omega) (by omega)
  rw [e1]
  omega
theorem ma_be_iff {o p y : Int} (hp : 0 < p) : ma_be o p y ↔ ma_nx o p y = y := ⟨ma_be_nx hp, fun h => by rw [← h]; exact ma_nx_be hp⟩
theorem ma_nx_s {o p y : Int} (hp : 0 < p) (h : ma_be o p y) : ma_nx o p (y + 1) = y + p := by
  have h1 := ma_be_nx hp h
  unfold ma_nx at h1 ⊢
  rw [ma_rc_be hp h, Int.add_mul, Int.one_mul]
  omega
theorem ma_nx_n {o p y : Int} (hp : 0 < p) (h : ¬ ma_be o p y) : ma_nx o p (y + 1) = ma_nx o p y := by
  unfold ma_nx
  rw [ma_rc_nb hp h]
theorem ma_nx_mono {o p x y : Int} (hp : 0 < p) (h : x ≤ y) : ma_nx o p x ≤ ma_nx o p y := by
  have h1 := Int.mul_le_mul_of_nonneg_right (ma_rc_mono (o := o) hp h) (Int.le_of_lt hp)
  unfold ma_nx
  omega
/-- the work of one task in a window from x on; 'to' is told for its next instance (0: nothing is told) -/
def ma_tm (o p c to x y : Int) : Int := (ma_rc o p y - ma_rc o p x) * c - (if 0 < to ∧ ma_nx o p x < y then c - to else 0)
theorem ma_tm_0 {o p c to x : Int} (hp : 0 < p) : ma_tm o p c to x x = 0 := by
  have h := ma_nx_ge (o := o) (y := x) hp
  unfold ma_tm
  rw [if_neg (by omega), Int.sub_self, Int.zero_mul]
  rfl
theorem ma_tm_b {o p c to x y : Int} (hp : 0 < p) (hx : x ≤ y) (h : ma_be o p y) : ma_tm o p c to x (y + 1) = ma_tm o p c to x y + (if 0 < to ∧ y = ma_nx o p x then to else c) := by
  have h1 := ma_nx_mono (o := o) hp hx
  rw [ma_be_nx hp h] at h1
  unfold ma_tm
  rw [ma_rc_be hp h, show ma_rc o p y + 1 - ma_rc o p x = ma_rc o p y - ma_rc o p x + 1 by omega, Int.add_mul, Int.one_mul]
  by_cases ht : 0 < to
  · by_cases e : y = ma_nx o p x
    · rw [if_pos ⟨ht, by omega⟩, if_neg (by omega), if_pos ⟨ht, e⟩]; omega
    · rw [if_pos ⟨ht, by omega⟩, if_pos ⟨ht, by omega⟩, if_neg (by omega)]; omega
  · rw [if_neg (by omega), if_neg (by omega), if_neg (by omega)]; omega
theorem ma_tm_n {o p c to x y : Int} (hp : 0 < p) (h : ¬ ma_be o p y) : ma_tm o p c to x (y + 1) = ma_tm o p c to x y := by
  have h1 : ma_nx o p x ≠ y := fun e => h (by rw [← e]; exact ma_nx_be hp)
  unfold ma_tm
  rw [ma_rc_nb hp h]
  by_cases ht : 0 < to ∧ ma_nx o p x < y
  · rw [if_pos ht, if_pos ⟨ht.1, by omega⟩]
  · rw [if_neg ht, if_neg (by omega)]
theorem ma_tm_sb {o p c to x y : Int} (hp : 0 < p) (hx : x < y) (h : ma_be o p x) : ma_tm o p c to x y = (if 0 < to then to else c) + ma_tm o p c 0 (x + 1) y := by
  unfold ma_tm
  rw [ma_be_nx hp h, ma_rc_be hp h, show ma_rc o p y - (ma_rc o p x + 1) = ma_rc o p y - ma_rc o p x - 1 by omega, Int.sub_mul _ 1 c, Int.one_mul]
  by_cases ht : 0 < to
  · rw [if_pos ⟨ht, hx⟩, if_pos ht, if_neg (by omega)]; omega
  · rw [if_neg (by omega), if_neg ht, if_neg (by omega)]; omega
theorem ma_tm_sn {o p c to x y : Int} (hp : 0 < p) (h : ¬ ma_be o p x) : ma_tm o p c to x y = ma_tm o p c to (x + 1) y := by
  unfold ma_tm
  rw [ma_nx_n hp h, ma_rc_nb hp h]
/-- behind x, from u on, never more than the window's instances at their full cost -/
theorem ma_tm_w {o p c to x u y : Int} (hp : 0 < p) (hc : 0 ≤ c) (ht : to ≤ c) (hu : u ≤ y) : ma_tm o p c to x y - ma_tm o p c to x u ≤ ma_ru (y - u) p * c := by
  have h1 := Int.mul_le_mul_of_nonneg_right (ma_rc_w (o := o) hp hu) hc
  unfold ma_tm
  rw [Int.sub_mul] at h1 ⊢
  rw [Int.sub_mul]
  by_cases e1 : 0 < to ∧ ma_nx o p x < y
  · rw [if_pos e1]
    split <;> omega
  · rw [if_neg e1]
    split <;> omega
