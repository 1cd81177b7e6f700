/-! nobody is late: rules 0 and 3 -/
theorem ma_su_sh (a : Nat → Int) : ∀ q : Nat, ma_su a (q + 1) = a 0 + ma_su (fun i => a (i + 1)) q
  | 0 => by simp [ma_su]
  | q + 1 => by
    have h := ma_su_sh a q
    rw [show ma_su a (q + 1 + 1) = ma_su a (q + 1) + a (q + 1) from rfl, h]
    simp only [ma_su]
    omega
theorem ma_su_sw (f : Nat → Nat → Int) (n : Nat) : ∀ q : Nat, ma_su (fun i => ma_su (fun j => f i j) n) q = ma_su (fun j => ma_su (fun i => f i j) q) n
  | 0 => by simp only [ma_su]; exact (ma_su_0 (fun _ _ => rfl)).symm
  | q + 1 => by
    simp only [ma_su]
    rw [ma_su_sw f n q, ma_su_add]
/-- the work that comes, as the releases tell it (from the moment now itself) -/
theorem tl_tm {B : am_M} {t : Nat} (hp : 0 < B 51 t) : ∀ q : Nat, ma_su (fun i => mo_aj B 0 (B 50 19 + i) t) q = ma_tm (B 52 t) (B 51 t) (B 53 t) (B 66 t) (B 50 19) (B 50 19 + q)
  | 0 => by
    rw [show B 50 19 + ((0 : Nat) : Int) = B 50 19 by omega, ma_tm_0 hp]
    rfl
  | q + 1 => by
    have h := tl_tm hp q
    rw [show B 50 19 + ((q + 1 : Nat) : Int) = B 50 19 + (q : Int) + 1 by omega]
    simp only [ma_su]
    rw [h]
    unfold mo_aj mo_cm mo_nx
    rw [show B 50 19 + (0 : Int) = B 50 19 by omega]
    by_cases c : B 52 t ≤ B 50 19 + q ∧ (B 50 19 + q - B 52 t) % B 51 t = 0
    · rw [ma_tm_b hp (by omega) c, if_pos ⟨c, Or.inr rfl⟩]
    · rw [ma_tm_n hp c, if_neg (fun w => c w.1), Int.add_zero]
theorem tl_A {B : am_M} {n : Nat} (hb : sl_ok B) (hn : (n : Int) ≤ B 50 1) (q : Nat) : ma_su (sl_a B 0 n) q = ma_A (fun j => B 52 (B 55 j).toNat) (fun j => B 51 (B 55 j).toNat) (fun j => B 53 (B 55 j).toNat) (fun j => B 66 (B 55 j).toNat) (B 50 19) (B 50 19 + q) n := by
  unfold ma_A
  have e := ma_su_sw (fun i j => mo_aj B 0 (B 50 19 + i) (B 55 j).toNat) n q
  have e2 : ma_su (sl_a B 0 n) q = ma_su (fun i => ma_su (fun j => mo_aj B 0 (B 50 19 + i) (B 55 j).toNat) n) q := rfl
  rw [e2, e]
  refine ma_su_eq (fun j hj => ?_)
  have t1 := (hb.1.2 j (by omega)).1
  have t2 := hb.1.2 (B 55 j).toNat (by omega)
  exact tl_tm (by omega) q
/-- a rank's first instance will be in time, if nothing more is taken -/
def tl_X (B : am_M) (z : Int) (k : Nat) : Prop := ∃ q : Nat, z ≤ q ∧ B 50 19 + q ≤ mo_en B z (B 55 k).toNat ∧ mo_pw B (k + 1) + ma_su (sl_a B z (k + 1)) q ≤ q
def mo_pm (B : am_M) : Prop := (∀ r s : Nat, (r : Int) < B 50 1 → (s : Int) < B 50 1 → B 55 r = B 55 s → r = s) ∧ ∀ t : Nat, (t : Int) < B 50 1 → ∃ r : Nat, (r : Int) < B 50 1 ∧ B 55 r = t
def tl_D (B : am_M) (z : Int) : Prop := ∀ t : Nat, (t : Int) < B 50 1 → (0 < B 64 t → B 65 t ≤ mo_nx B z t) ∧ B 64 t ≤ B 53 t
/-- the rank answers the admission's equation (rules without a budget) -/
def tl_R (B : am_M) (k : Nat) : Prop := ∃ R : Int, 0 ≤ R ∧ R ≤ B 54 (B 55 k).toNat ∧ B 53 (B 55 k).toNat + ma_f (fun j => B 51 (B 55 j).toNat) (fun j => B 53 (B 55 j).toNat) k R ≤ R
def tl_I (B : am_M) (z : Int) : Prop := sl_ok B ∧ mo_pm B ∧ tl_D B z ∧ ∀ k : Nat, (k : Int) < B 50 1 → tl_X B z k
theorem sl_su_nn {B : am_M} {z : Int} {n : Nat} (h : sl_ok B) (hn : (n : Int) ≤ B 50 1) (q : Nat) : 0 ≤ ma_su (sl_a B z n) q := ma_su_nn (fun i _ => sl_a_nn h hn i)
/-- so nobody is late now -/
theorem tl_due {B : am_M} {z : Int} (h : tl_I B z) {t : Nat} (ht : (t : Int) < B 50 1) (hp : 0 < B 64 t) : B 50 19 < B 65 t := by
  obtain ⟨hb, hpm, hD, hX⟩ := h
  obtain ⟨r, hr, e⟩ := hpm.2 t ht
  obtain ⟨q, q1, q2, q3⟩ := hX r hr
  have e1 : (B 55 r).toNat = t := by omega
  have n1 := sl_su_nn (z := z) (n := r + 1) hb (by omega) q
  have n2 : 0 < mo_pw B (r + 1) := by
    have a1 := sl_pw_nn (n := r) hb (by omega)
    have a2 : mo_pw B (r + 1) = mo_pw B r + B 64 (B 55 r).toNat := rfl
    rw [e1] at a2
    omega
  rw [e1] at q2
  unfold mo_en at q2
  rw [if_pos hp] at q2
  omega
theorem tl_en {B : am_M} {z : Int} (hz : 0 ≤ z) (h : tl_I B z) {r : Nat} (hr : (r : Int) < B 50 1) : B 50 19 < mo_en B z (B 55 r).toNat := by
  have t1 := (h.1.1.2 r hr).1
  have t2 := h.1.1.2 (B 55 r).toNat (by omega)
  unfold mo_en
  by_cases c : 0 < B 64 (B 55 r).toNat
  · rw [if_pos c]; exact tl_due h (by omega) c
  · rw [if_neg c]
    have := ma_nx_ge (o := B 52 (B 55 r).toNat) (p := B 51 (B 55 r).toNat) (y := B 50 19 + z) (by omega)
    unfold mo_nx
    omega
/-- from an empty level: there is a later moment -/
theorem tl_new {B : am_M} {k : Nat} (hb : sl_ok B) (hk : (k : Int) < B 50 1) (hR : tl_R B k) (h0 : mo_pw B (k + 1) ≤ 0) : ∃ q : Nat, 1 ≤ q ∧ B 50 19 + q ≤ mo_en B 0 (B 55 k).toNat ∧ mo_pw B (k + 1) + ma_su (sl_a B 0 (k + 1)) q ≤ q := by
  obtain ⟨R, r1, r2, r3⟩ := hR
  have tt : ∀ j : Nat, j ≤ k → (((B 55 j).toNat : Nat) : Int) < B 50 1 := fun j hj => by
    have := (hb.1.2 j (by omega)).1
    omega
  have dk := hb.1.2 (B 55 k).toNat (tt k (by omega))
  obtain ⟨y, y1, y2, y3⟩ := ma_zero (o := fun j => B 52 (B 55 j).toNat) (p := fun j => B 51 (B 55 j).toNat) (c := fun j => B 53 (B 55 j).toNat) (to := fun j => B 66 (B 55 j).toNat) (x := B 50 19) (t := B 50 19) (k := k) (Rk := R) (dk := B 54 (B 55 k).toNat)
    (fun j hj => by have := hb.1.2 _ (tt j hj); omega) (fun j hj => by have := hb.1.2 _ (tt j hj); omega) (fun j hj => (hb.2 _ (tt j hj)).2.2) r3 r2 (by omega) r1
  have g := ma_nx_ge (o := B 52 (B 55 k).toNat) (p := B 51 (B 55 k).toNat) (y := B 50 19) (by omega)
  have p0 : B 64 (B 55 k).toNat ≤ 0 := by
    have a1 := sl_pw_nn (n := k) hb (by omega)
    have a2 : mo_pw B (k + 1) = mo_pw B k + B 64 (B 55 k).toNat := rfl
    omega
  have y1' : ma_nx (B 52 (B 55 k).toNat) (B 51 (B 55 k).toNat) (B 50 19) < y := y1
  have y2' : y ≤ ma_nx (B 52 (B 55 k).toNat) (B 51 (B 55 k).toNat) (B 50 19) + B 54 (B 55 k).toNat := y2
  refine ⟨(y - B 50 19).toNat, by omega, ?_, ?_⟩
  · unfold mo_en mo_nx
    rw [if_neg (by omega), show B 50 19 + (0 : Int) = B 50 19 by omega]
    omega
  · rw [tl_A hb (by omega)]
    rw [ma_A_0 (fun j hj => by have := hb.1.2 _ (tt j (by omega)); omega)] at y3
    rw [show B 50 19 + (((y - B 50 19).toNat : Nat) : Int) = y by omega]
    omega
theorem tl_fresh {B : am_M} {k : Nat} (h : tl_I B 0) (hk : (k : Int) < B 50 1) (hR : tl_R B k) : ∃ q : Nat, 1 ≤ q ∧ B 50 19 + q ≤ mo_en B 0 (B 55 k).toNat ∧ mo_pw B (k + 1) + ma_su (sl_a B 0 (k + 1)) q ≤ q := by
  obtain ⟨q, q1, q2, q3⟩ := h.2.2.2 k hk
  by_cases c : 1 ≤ q
  · exact ⟨q, c, q2, q3⟩
  · have e : q = 0 := by omega
    subst e
    refine tl_new h.1 hk hR ?_
    simp only [ma_su] at q3
    omega
/-- a task's cells when instances become ready -/
theorem mo_fg_at {B : am_M} {t : Nat} (ht : (t : Int) < B 50 1) : (mo_fg B 64 t = B 64 t + (if B 52 t ≤ B 50 19 ∧ (B 50 19 - B 52 t) % B 51 t = 0 then (if 0 < B 66 t then B 66 t else B 53 t) else 0)) ∧ (mo_fg B 65 t = if B 52 t ≤ B 50 19 ∧ (B 50 19 - B 52 t) % B 51 t = 0 then B 50 19 + B 54 t else B 65 t) ∧ (mo_fg B 66 t = if B 52 t ≤ B 50 19 ∧ (B 50 19 - B 52 t) % B 51 t = 0 then 0 else B 66 t) := by
  have e : ∀ k, k ≠ 50 → mo_fg B k t = h_MO_getReady B k t := fun k hk => by
    rw [mo_fg_e]
    unfold mo_gr
    rw [am_up_k _ _ hk, am_col_lt (by omega)]
  rw [e 64 (by decide), e 65 (by decide), e 66 (by decide)]
  unfold h_MO_getReady
  by_cases c : B 52 t ≤ B 50 19 ∧ (B 50 19 - B 52 t) % B 51 t = 0
  · simp [c]
  · simp [c]
theorem mo_fg_c {B : am_M} {k j : Nat} (h : 50 < k ∧ k < 64) : mo_fg B k j = B k j := mo_fg_k (by omega) (by omega)
/-- what a rank's instance has to be done by does not change when instances become ready -/
theorem tl_fg_t {B : am_M} {t : Nat} (hb : sl_ok B) (ht : (t : Int) < B 50 1) (h0 : (B 52 t ≤ B 50 19 ∧ (B 50 19 - B 52 t) % B 51 t = 0) → B 64 t = 0) : mo_en (mo_fg B) 1 t = mo_en B 0 t ∧ mo_nx (mo_fg B) 1 t = (if B 52 t ≤ B 50 19 ∧ (B 50 19 - B 52 t) % B 51 t = 0 then B 50 19 + B 51 t else mo_nx B 0 t) := by
  have b := hb.1.2 t ht
  have b2 := hb.2 t ht
  have hp : 0 < B 51 t := by omega
  obtain ⟨g1, g2, g3⟩ := mo_fg_at ht
  have en : mo_nx (mo_fg B) 1 t = ma_nx (B 52 t) (B 51 t) (B 50 19 + 1) := by
    unfold mo_nx
    rw [mo_fg_c (by omega), mo_fg_c (by omega), mo_fg_50 (by decide)]
  have e0 : mo_nx B 0 t = ma_nx (B 52 t) (B 51 t) (B 50 19) := by unfold mo_nx; rw [Int.add_zero]
  by_cases c : B 52 t ≤ B 50 19 ∧ (B 50 19 - B 52 t) % B 51 t = 0
  · have z := h0 c
    rw [if_pos c] at g1 g2 g3
    rw [if_pos c, en, ma_nx_s hp c]
    refine ⟨?_, rfl⟩
    unfold mo_en
    rw [g1, z, if_neg (show ¬ (0 : Int) < 0 by omega), if_pos (by split <;> omega), g2, e0, ma_be_nx hp c]
  · rw [if_neg c] at g1 g2 g3
    rw [if_neg c, en, ma_nx_n hp c, ← e0]
    refine ⟨?_, rfl⟩
    unfold mo_en
    rw [g1, Int.add_zero, g2, en, ma_nx_n hp c, ← e0, mo_fg_c (by omega)]
theorem tl_fg_a {B : am_M} {t : Nat} (hb : sl_ok B) (ht : (t : Int) < B 50 1) (i : Nat) : mo_aj (mo_fg B) 1 (B 50 19 + ((i + 1 : Nat) : Int)) t = mo_aj B 0 (B 50 19 + ((i + 1 : Nat) : Int)) t := by
  have b := hb.1.2 t ht
  have hp : 0 < B 51 t := by omega
  obtain ⟨g1, g2, g3⟩ := mo_fg_at ht
  have en : mo_nx (mo_fg B) 1 t = ma_nx (B 52 t) (B 51 t) (B 50 19 + 1) := by
    unfold mo_nx
    rw [mo_fg_c (by omega), mo_fg_c (by omega), mo_fg_50 (by decide)]
  have e0 : mo_nx B 0 t = ma_nx (B 52 t) (B 51 t) (B 50 19) := by unfold mo_nx; rw [Int.add_zero]
  have ec : mo_cm (mo_fg B) 1 (B 50 19 + ((i + 1 : Nat) : Int)) t = mo_cm B 0 (B 50 19 + ((i + 1 : Nat) : Int)) t := by
    unfold mo_cm
    rw [en, e0, g3, mo_fg_c (by omega)]
    by_cases c : B 52 t ≤ B 50 19 ∧ (B 50 19 - B 52 t) % B 51 t = 0
    · rw [if_pos c, ma_be_nx hp c, if_neg (by omega), if_neg (by omega)]
    · rw [if_neg c, ma_nx_n hp c]
  unfold mo_aj
  rw [ec, mo_fg_c (by omega), mo_fg_c (by omega), mo_fg_50 (by decide)]
  by_cases c : B 52 t ≤ B 50 19 + ((i + 1 : Nat) : Int) ∧ (B 50 19 + ((i + 1 : Nat) : Int) - B 52 t) % B 51 t = 0
  · rw [if_pos ⟨c, Or.inl (by omega)⟩, if_pos ⟨c, Or.inl (by omega)⟩]
  · rw [if_neg (fun q => c q.1), if_neg (fun q => c q.1)]
theorem sl_a1_0 {B : am_M} {n : Nat} : sl_a B 1 n 0 = 0 := by
  unfold sl_a mo_aw
  refine ma_su_0 (fun j _ => ?_)
  unfold mo_aj
  rw [if_neg (by omega)]
/-- the level's work, when instances become ready -/
theorem tl_fg_w {B : am_M} {n : Nat} (hb : sl_ok B) (hn : (n : Int) ≤ B 50 1) (q : Nat) : mo_pw (mo_fg B) n + ma_su (sl_a (mo_fg B) 1 n) (q + 1) = mo_pw B n + ma_su (sl_a B 0 n) (q + 1) := by
  rw [ma_su_sh, ma_su_sh, sl_a1_0]
  have t1 : ∀ j : Nat, j < n → (((B 55 j).toNat : Nat) : Int) < B 50 1 := fun j hj => by
    have := (hb.1.2 j (by omega)).1
    omega
  have e1 : ma_su (fun i => sl_a (mo_fg B) 1 n (i + 1)) q = ma_su (fun i => sl_a B 0 n (i + 1)) q := ma_su_eq (fun i _ => by
    unfold sl_a mo_aw
    refine ma_su_eq (fun j hj => ?_)
    rw [mo_fg_50 (by decide), mo_fg_c (by omega)]
    exact tl_fg_a hb (t1 j hj) i)
  have e2 : mo_pw (mo_fg B) n = mo_pw B n + sl_a B 0 n 0 := by
    unfold mo_pw sl_a mo_aw
    rw [← ma_su_add]
    refine ma_su_eq (fun j hj => ?_)
    rw [mo_fg_c (k := 55) (by omega), (mo_fg_at (t1 j hj)).1]
    congr 1
    unfold mo_aj mo_cm
    rw [show B 50 19 + ((0 : Nat) : Int) = B 50 19 by omega]
    have b := hb.1.2 _ (t1 j hj)
    by_cases c : B 52 (B 55 j).toNat ≤ B 50 19 ∧ (B 50 19 - B 52 (B 55 j).toNat) % B 51 (B 55 j).toNat = 0
    · rw [if_pos c, if_pos (show (B 52 (B 55 j).toNat ≤ B 50 19 ∧ (B 50 19 - B 52 (B 55 j).toNat) % B 51 (B 55 j).toNat = 0) ∧ (B 50 19 < B 50 19 ∨ (0 : Int) = 0) from ⟨c, Or.inr rfl⟩)]
      have e0 : mo_nx B 0 (B 55 j).toNat = B 50 19 := by unfold mo_nx; rw [Int.add_zero]; exact ma_be_nx (by omega) c
      rw [e0]
      by_cases c2 : 0 < B 66 (B 55 j).toNat
      · rw [if_pos c2, if_pos ⟨c2, rfl⟩]
      · rw [if_neg c2, if_neg (fun w => c2 w.1)]
    · rw [if_neg c, if_neg (fun w => c w.1)]
  rw [e1, e2]
  omega
theorem sl_ok_fg {B : am_M} (hb : sl_ok B) : sl_ok (mo_fg B) := by
  have e1 : mo_fg B 50 1 = B 50 1 := mo_fg_50 (by decide)
  refine ⟨?_, fun t ht => ?_⟩
  · refine ⟨by rw [e1]; exact hb.1.1, fun r hr => ?_⟩
    rw [e1] at hr ⊢
    rw [mo_fg_c (by omega), mo_fg_c (by omega), mo_fg_c (by omega), mo_fg_c (by omega), mo_fg_c (by omega)]
    exact hb.1.2 r hr
  · rw [e1] at ht
    have b := hb.1.2 t ht
    have b2 := hb.2 t ht
    obtain ⟨g1, g2, g3⟩ := mo_fg_at ht
    rw [g1, g3, mo_fg_c (by omega)]
    split
    · refine ⟨?_, ?_⟩
      · split <;> omega
      · omega
    · refine ⟨?_, ?_⟩ <;> omega
theorem mo_pm_of {B B' : am_M} (h : mo_pm B) (e1 : B' 50 1 = B 50 1) (e2 : ∀ j, B' 55 j = B 55 j) : mo_pm B' := by
  unfold mo_pm
  simp only [e1, e2]
  exact h
/-- INSTANCES BECOME READY: nobody was late, and all will be in time -/
theorem tl_ready {B : am_M} (h : tl_I B 0) (hR : ∀ k : Nat, (k : Int) < B 50 1 → tl_R B k) : tl_I (mo_fg B) 1 ∧ mo_fg B 50 29 = B 50 29 := by
  obtain ⟨hb, hpm, hD, hX⟩ := h
  have h : tl_I B 0 := ⟨hb, hpm, hD, hX⟩
  have e1 : mo_fg B 50 1 = B 50 1 := mo_fg_50 (by decide)
  have e19 : mo_fg B 50 19 = B 50 19 := mo_fg_50 (by decide)
  have h0 : ∀ t : Nat, (t : Int) < B 50 1 → (B 52 t ≤ B 50 19 ∧ (B 50 19 - B 52 t) % B 51 t = 0) → B 64 t = 0 := fun t ht c => by
    have b := hb.1.2 t ht
    have b2 := hb.2 t ht
    by_cases z : 0 < B 64 t
    · have d1 := tl_due h ht z
      have d2 := (hD t ht).1 z
      have e0 : mo_nx B 0 t = B 50 19 := by unfold mo_nx; rw [Int.add_zero]; exact ma_be_nx (by omega) c
      omega
    · omega
  refine ⟨⟨sl_ok_fg hb, mo_pm_of hpm e1 (fun j => mo_fg_c (by omega)), fun t ht => ?_, fun k hk => ?_⟩, ?_⟩
  · rw [e1] at ht
    have b := hb.1.2 t ht
    have b2 := hb.2 t ht
    have d := hD t ht
    obtain ⟨g1, g2, g3⟩ := mo_fg_at ht
    rw [(tl_fg_t hb ht (h0 t ht)).2, g1, g2, mo_fg_c (by omega)]
    by_cases c : B 52 t ≤ B 50 19 ∧ (B 50 19 - B 52 t) % B 51 t = 0
    · have z := h0 t ht c
      rw [if_pos c, if_pos c, if_pos c, z]
      refine ⟨fun _ => by omega, ?_⟩
      split <;> omega
    · rw [if_neg c, if_neg c, if_neg c, Int.add_zero]
      exact d
  · rw [e1] at hk
    obtain ⟨q, q1, q2, q3⟩ := tl_fresh h hk (hR k hk)
    have t1 := (hb.1.2 k hk).1
    refine ⟨q, by omega, ?_, ?_⟩
    · rw [e19, mo_fg_c (by omega), (tl_fg_t hb (by omega) (h0 _ (by omega))).1]
      exact q2
    · obtain ⟨q', rfl⟩ : ∃ q', q = q' + 1 := ⟨q - 1, by omega⟩
      rw [tl_fg_w hb (by omega)]
      exact q3
  · rw [mo_fg_e]
    unfold mo_gr
    rw [am_up_s]
    have : mo_lt B (B 50 1).toNat = 0 := ma_su_0 (fun j hj => by
      rw [if_neg]
      rintro ⟨w1, w2⟩
      have := tl_due h (t := j) (by omega) w1
      omega)
    omega
/-- the moment is one later, the rest of the load as it was -/
def tl_N (B B' : am_M) : Prop := B' 50 19 = B 50 19 + 1 ∧ B' 50 1 = B 50 1 ∧ (∀ k j, 51 ≤ k → k ≤ 55 → B' k j = B k j) ∧ ∀ j, B' 65 j = B 65 j ∧ B' 66 j = B 66 j
theorem tl_N_nx {B B' : am_M} (h : tl_N B B') (t : Nat) : mo_nx B' 0 t = mo_nx B 1 t := by
  unfold mo_nx
  rw [h.1, h.2.2.1 52 t (by omega) (by omega), h.2.2.1 51 t (by omega) (by omega), Int.add_zero]
theorem tl_N_a {B B' : am_M} (h : tl_N B B') (n : Nat) (q : Nat) : ma_su (sl_a B 1 n) (q + 1) = ma_su (sl_a B' 0 n) q := by
  rw [ma_su_sh, sl_a1_0, Int.zero_add]
  refine ma_su_eq (fun i _ => ?_)
  unfold sl_a mo_aw
  refine ma_su_eq (fun j _ => ?_)
  unfold mo_aj mo_cm
  rw [tl_N_nx h, h.1, h.2.2.1 55 j (by omega) (by omega), h.2.2.1 52 _ (by omega) (by omega), h.2.2.1 51 _ (by omega) (by omega), h.2.2.1 53 _ (by omega) (by omega), (h.2.2.2 _).2]
  rw [show B 50 19 + ((i + 1 : Nat) : Int) = B 50 19 + 1 + (i : Int) by omega]
  by_cases c : B 52 (B 55 j).toNat ≤ B 50 19 + 1 + (i : Int) ∧ (B 50 19 + 1 + (i : Int) - B 52 (B 55 j).toNat) % B 51 (B 55 j).toNat = 0
  · refine (if_pos ⟨c, Or.inl (by omega)⟩).trans (Eq.symm (if_pos ⟨c, Or.inr rfl⟩))
  · rw [if_neg (fun w => c w.1), if_neg (fun w => c w.1)]
theorem tl_N_ok {B B' : am_M} (h : tl_N B B') (hb : sl_ok B) (h4 : ∀ t : Nat, (t : Int) < B 50 1 → 0 ≤ B' 64 t) : sl_ok B' := by
  refine ⟨⟨by rw [h.2.1]; exact hb.1.1, fun r hr => ?_⟩, fun t ht => ?_⟩
  · rw [h.2.1] at hr ⊢
    rw [h.2.2.1 55 r (by omega) (by omega), h.2.2.1 51 r (by omega) (by omega), h.2.2.1 52 r (by omega) (by omega), h.2.2.1 53 r (by omega) (by omega), h.2.2.1 54 r (by omega) (by omega)]
    exact hb.1.2 r hr
  · rw [h.2.1] at ht
    rw [(h.2.2.2 t).2, h.2.2.1 53 t (by omega) (by omega)]
    exact ⟨h4 t ht, (hb.2 t ht).2⟩
/-- a level without work at the next moment -/
theorem tl_N_0 {B B' : am_M} {k : Nat} (h : tl_N B B') (hb : sl_ok B) (hk : (k : Int) < B 50 1) (h0 : mo_pw B' (k + 1) ≤ 0) (h4 : ¬ 0 < B' 64 (B 55 k).toNat) : tl_X B' 0 k := by
  have t1 := (hb.1.2 k hk).1
  have t2 := hb.1.2 (B 55 k).toNat (by omega)
  refine ⟨0, by omega, ?_, ?_⟩
  · rw [h.2.2.1 55 k (by omega) (by omega)]
    unfold mo_en
    rw [if_neg h4, tl_N_nx h, h.2.2.1 54 _ (by omega) (by omega), h.1]
    have := ma_nx_ge (o := B 52 (B 55 k).toNat) (p := B 51 (B 55 k).toNat) (y := B 50 19 + 1) (by omega)
    unfold mo_nx
    omega
  · simp only [ma_su]
    omega
theorem mo_rt_n {B : am_M} (hb : sl_ok B) (h : mo_rt B = -1) : ∀ j : Nat, (j : Int) < B 50 1 → ¬ 0 < B 64 (B 55 j).toNat := fun j hj => by
  unfold mo_rt at h
  have c : ¬ (mo_rk B : Int) < B 50 1 := fun q => by
    rw [if_pos q] at h
    have := (hb.1.2 (mo_rk B) q).1
    omega
  unfold mo_rk at c
  exact of_decide_eq_false (am_fi_n (p := fun r => decide (0 < B 64 (B 55 r).toNat)) (i := 0) (k := (B 50 1).toNat) (by omega) j (by omega) (by omega))
theorem tl_pw_0 {B : am_M} {n : Nat} (hb : sl_ok B) (hn : (n : Int) ≤ B 50 1) (h : ∀ j : Nat, j < n → ¬ 0 < B 64 (B 55 j).toNat) : mo_pw B n = 0 := ma_su_0 (fun j hj => by
  have t1 := (hb.1.2 j (by omega)).1
  have := (hb.2 (B 55 j).toNat (by omega)).1
  have := h j hj
  omega)
theorem ma_m_at (P : Int) (a : Nat → Int) : ∀ n : Nat, ∃ q, q ≤ n ∧ ma_m P a n = q - P - ma_su a q
  | 0 => ⟨0, Nat.le_refl _, by simp [ma_m, ma_su]⟩
  | n + 1 => by
    obtain ⟨q, h1, h2⟩ := ma_m_at P a n
    rcases ma_m_s P a n with h | h
    · exact ⟨n + 1, Nat.le_refl _, h.2⟩
    · exact ⟨q, by omega, by rw [h.2, h2]⟩
/-- a tick that no task has: nobody is ready, or there was slack -/
theorem tl_free {B B' : am_M} (h : tl_I B 1) (hN : tl_N B B') (h4 : ∀ t : Nat, (t : Int) < B 50 1 → B' 64 t = B 64 t) (hf : mo_rt B = -1 ∨ 0 < mo_sn B 1 (B 50 1).toNat) : tl_I B' 0 := by
  obtain ⟨hb, hpm, hD, hX⟩ := h
  have hb' := tl_N_ok hN hb (fun t ht => by rw [h4 t ht]; exact (hb.2 t ht).1)
  have e55 : ∀ j, B' 55 j = B 55 j := fun j => hN.2.2.1 55 j (by omega) (by omega)
  have tt : ∀ j : Nat, (j : Int) < B 50 1 → (((B 55 j).toNat : Nat) : Int) < B 50 1 := fun j hj => by
    have := (hb.1.2 j hj).1
    omega
  have epw : ∀ n : Nat, (n : Int) ≤ B 50 1 → mo_pw B' n = mo_pw B n := fun n hn => ma_su_eq (fun j hj => by rw [e55, h4 _ (tt j (by omega))])
  refine ⟨hb', mo_pm_of hpm hN.2.1 e55, fun t ht => ?_, fun k hk => ?_⟩
  · rw [hN.2.1] at ht
    rw [h4 t ht, tl_N_nx hN, (hN.2.2.2 t).1, hN.2.2.1 53 t (by omega) (by omega)]
    exact hD t ht
  · rw [hN.2.1] at hk
    by_cases c : mo_rt B = -1
    · have z := mo_rt_n hb c
      refine tl_N_0 hN hb hk ?_ (by rw [h4 _ (tt k hk)]; exact z k hk)
      rw [epw (k + 1) (by omega), tl_pw_0 hb (by omega) (fun j hj => z j (by omega))]
      exact Int.le_refl _
    · have s1 : 0 < mo_sn B 1 (B 50 1).toNat := hf.resolve_left c
      have s2 := (sl_sn B 1 (B 50 1).toNat).2.1 k (by omega)
      have s3 : 0 < mo_sr B 1 k := by
        have : 0 < mo_so B 1 k := by omega
        unfold mo_so at this
        split at this <;> omega
      rw [sl_sr] at s3
      obtain ⟨q, q1, q2⟩ := ma_m_at (mo_pw B (k + 1)) (sl_a B 1 (k + 1)) (mo_en B 1 (B 55 k).toNat - B 50 19).toNat
      have q3 : 1 ≤ q := by
        by_cases w : q = 0
        · subst w
          have := sl_pw_nn (n := k + 1) hb (by omega)
          simp only [ma_su] at q2
          omega
        · omega
      obtain ⟨q', rfl⟩ : ∃ q', q = q' + 1 := ⟨q - 1, by omega⟩
      rw [tl_N_a hN] at q2
      refine ⟨q', by omega, ?_, ?_⟩
      · rw [hN.1, e55]
        have : mo_en B' 0 (B 55 k).toNat = mo_en B 1 (B 55 k).toNat := by
          unfold mo_en
          rw [h4 _ (tt k hk), tl_N_nx hN, (hN.2.2.2 _).1, hN.2.2.1 54 _ (by omega) (by omega)]
        rw [this]
        omega
      · rw [epw (k + 1) (by omega)]
        omega
/-- a tick that the ready task has -/
theorem tl_task {B B' : am_M} (h : tl_I B 1) (hN : tl_N B B') (hr : mo_rt B ≠ -1) (h4 : ∀ t : Nat, (t : Int) < B 50 1 → B' 64 t = if t = (mo_rt B).toNat then B 64 t - 1 else B 64 t) : tl_I B' 0 := by
  obtain ⟨hb, hpm, hD, hX⟩ := h
  have c : (mo_rk B : Int) < B 50 1 := by
    by_cases q : (mo_rk B : Int) < B 50 1
    · exact q
    · exact absurd (by unfold mo_rt; rw [if_neg q]) hr
  have er : mo_rt B = B 55 (mo_rk B) := by unfold mo_rt; rw [if_pos c]
  have tt : ∀ j : Nat, (j : Int) < B 50 1 → 0 ≤ B 55 j ∧ (((B 55 j).toNat : Nat) : Int) < B 50 1 := fun j hj => by
    have := (hb.1.2 j hj).1
    omega
  have pos : 0 < B 64 (B 55 (mo_rk B)).toNat := of_decide_eq_true ((am_fi_sp (fun r => decide (0 < B 64 (B 55 r).toNat)) (B 50 1).toNat 0).2.2 (by unfold mo_rk at c; omega))
  have z : ∀ j : Nat, j < mo_rk B → ¬ 0 < B 64 (B 55 j).toNat := fun j hj => of_decide_eq_false (am_fi_b (fun r => decide (0 < B 64 (B 55 r).toNat)) _ _ j (by omega) hj)
  have n4 : ∀ t : Nat, (t : Int) < B 50 1 → 0 ≤ B' 64 t := fun t ht => by
    rw [h4 t ht]
    have := (hb.2 t ht).1
    split
    · rename_i w
      rw [er] at w
      rw [w]
      omega
    · exact this
  have hb' := tl_N_ok hN hb n4
  have e55 : ∀ j, B' 55 j = B 55 j := fun j => hN.2.2.1 55 j (by omega) (by omega)
  have epw : ∀ n : Nat, (n : Int) ≤ B 50 1 → mo_pw B' n = mo_pw B n - (if mo_rk B < n then 1 else 0) := fun n hn => by
    unfold mo_pw
    refine sl_run (n := (B 50 1).toNat) (fun j hj hne => ?_) (fun _ => ?_) n (by omega)
    · rw [e55, h4 _ (tt j (by omega)).2, if_neg]
      intro w
      have a1 := tt j (by omega)
      have a2 := tt (mo_rk B) c
      exact hne (hpm.1 j (mo_rk B) (by omega) c (by omega))
    · rw [e55, h4 _ (tt _ c).2, er, if_pos rfl]
  refine ⟨hb', mo_pm_of hpm hN.2.1 e55, fun t ht => ?_, fun k hk => ?_⟩
  · rw [hN.2.1] at ht
    have d := hD t ht
    rw [h4 t ht, tl_N_nx hN, (hN.2.2.2 t).1, hN.2.2.1 53 t (by omega) (by omega)]
    split
    · exact ⟨fun w => d.1 (by omega), by omega⟩
    · exact d
  · rw [hN.2.1] at hk
    by_cases c2 : k < mo_rk B
    · refine tl_N_0 hN hb hk ?_ ?_
      · rw [epw (k + 1) (by omega), tl_pw_0 hb (by omega) (fun j hj => z j (by omega))]
        split <;> omega
      · rw [h4 _ (tt k hk).2]
        have := z k c2
        split <;> omega
    · obtain ⟨q, q1, q2, q3⟩ := hX k hk
      obtain ⟨q', rfl⟩ : ∃ q', q = q' + 1 := ⟨q - 1, by omega⟩
      rw [tl_N_a hN] at q3
      refine ⟨q', by omega, ?_, ?_⟩
      · rw [hN.1, e55]
        have : mo_en B 1 (B 55 k).toNat ≤ mo_en B' 0 (B 55 k).toNat := by
          have d := (hD _ (tt k hk).2).1
          have b := hb.1.2 _ (tt k hk).2
          unfold mo_en
          rw [h4 _ (tt k hk).2, tl_N_nx hN, (hN.2.2.2 _).1, hN.2.2.1 54 _ (by omega) (by omega)]
          by_cases w : (B 55 k).toNat = (mo_rt B).toNat
          · rw [if_pos w]
            by_cases w2 : 0 < B 64 (B 55 k).toNat
            · rw [if_pos w2]
              have := d w2
              split <;> omega
            · rw [if_neg w2, if_neg (by omega)]
              exact Int.le_refl _
          · rw [if_neg w]
            exact Int.le_refl _
        omega
      · rw [epw (k + 1) (by omega), if_pos (by omega)]
        omega
