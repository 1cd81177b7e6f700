/-! class and reference agree: the slack -/
theorem am_fi_b (p : Nat → Bool) : ∀ (k i j : Nat), i ≤ j → j < am_fi p k i → p j = false
  | 0, i, j, h1, h2 => by simp only [am_fi] at h2; omega
  | k + 1, i, j, h1, h2 => by
    by_cases h : p i = true
    · rw [am_fi, if_pos h] at h2; omega
    · rw [am_fi, if_neg h] at h2
      by_cases e : j = i
      · rw [e]; simpa using h
      · exact am_fi_b p k (i + 1) j (by omega) h2
/-- the work that comes for the ranks below n, so many moments from now -/
def sl_a (B : am_M) (z : Int) (n : Nat) (i : Nat) : Int := mo_aw B z (B 50 19 + i) n
theorem sl_m (B : am_M) (z : Int) (n : Nat) (P : Int) : ∀ q i : Nat, mo_sl B z n q (B 50 19 + i) (P + ma_su (sl_a B z n) i) (ma_m P (sl_a B z n) i) = ma_m P (sl_a B z n) (i + q)
  | 0, _ => rfl
  | q + 1, i => by
    have h := sl_m B z n P q (i + 1)
    rw [show i + (q + 1) = i + 1 + q by omega, ← h]
    simp only [mo_sl]
    have e1 : P + ma_su (sl_a B z n) i + mo_aw B z (B 50 19 + i) n = P + ma_su (sl_a B z n) (i + 1) := by
      simp only [ma_su, sl_a]; omega
    rw [e1, show B 50 19 + (i : Int) + 1 = B 50 19 + ((i + 1 : Nat) : Int) by omega]
    rw [show B 50 19 + ((i + 1 : Nat) : Int) - B 50 19 - (P + ma_su (sl_a B z n) (i + 1)) = ((i + 1 : Nat) : Int) - P - ma_su (sl_a B z n) (i + 1) by omega]
    rw [show (if ma_m P (sl_a B z n) i < ((i + 1 : Nat) : Int) - P - ma_su (sl_a B z n) (i + 1) then ((i + 1 : Nat) : Int) - P - ma_su (sl_a B z n) (i + 1) else ma_m P (sl_a B z n) i) = ma_m P (sl_a B z n) (i + 1) from rfl]
theorem sl_sr (B : am_M) (z : Int) (k : Nat) : mo_sr B z k = ma_m (mo_pw B (k + 1)) (sl_a B z (k + 1)) (mo_en B z (B 55 k).toNat - B 50 19).toNat := by
  have h := sl_m B z (k + 1) (mo_pw B (k + 1)) (mo_en B z (B 55 k).toNat - B 50 19).toNat 0
  rw [Nat.zero_add] at h
  rw [← h]
  unfold mo_sr
  simp only [ma_su, ma_m]
  rw [show B 50 19 + ((0 : Nat) : Int) = B 50 19 by omega, Int.add_zero]
/-- what the reference's load must keep -/
def sl_ok (B : am_M) : Prop := mo_ok B ∧ ∀ j : Nat, (j : Int) < B 50 1 → (0 ≤ B 64 j) ∧ (0 ≤ B 66 j ∧ B 66 j ≤ B 53 j)
theorem sl_a_nn {B : am_M} {z : Int} {n : Nat} (h : sl_ok B) (hn : (n : Int) ≤ B 50 1) (i : Nat) : 0 ≤ sl_a B z n i := by
  unfold sl_a mo_aw
  refine ma_su_nn (fun j hj => ?_)
  have h1 := (h.1.2 j (by omega)).1
  have h2 := h.1.2 (B 55 j).toNat (by omega)
  unfold mo_aj mo_cm
  split
  · split <;> omega
  · omega
theorem sl_pw_nn {B : am_M} {n : Nat} (h : sl_ok B) (hn : (n : Int) ≤ B 50 1) : 0 ≤ mo_pw B n := by
  unfold mo_pw
  refine ma_su_nn (fun j hj => ?_)
  have h1 := (h.1.2 j (by omega)).1
  exact (h.2 (B 55 j).toNat (by omega)).1
/-- the reference's slack of a rank: idle ticks of its level -/
theorem sl_so {B : am_M} {z : Int} {k : Nat} (h : sl_ok B) (hk : (k : Int) < B 50 1) : mo_so B z k = ma_i (mo_pw B (k + 1)) (sl_a B z (k + 1)) (mo_en B z (B 55 k).toNat - B 50 19).toNat := by
  have e := ma_im (sl_pw_nn (n := k + 1) h (by omega)) (sl_a_nn (z := z) (n := k + 1) h (by omega)) (mo_en B z (B 55 k).toNat - B 50 19).toNat
  unfold mo_so
  rw [sl_sr]
  split <;> omega
/-- the least of all ranks -/
theorem sl_sn (B : am_M) (z : Int) : ∀ n : Nat, mo_sn B z n ≤ 1000 ∧ (∀ r, r < n → mo_sn B z n ≤ mo_so B z r) ∧ (mo_sn B z n = 1000 ∨ ∃ r, r < n ∧ mo_sn B z n = mo_so B z r)
  | 0 => ⟨Int.le_refl _, fun r h => absurd h (by omega), Or.inl rfl⟩
  | n + 1 => by
    obtain ⟨h1, h2, h3⟩ := sl_sn B z n
    simp only [mo_sn]
    by_cases c : mo_so B z n < mo_sn B z n
    · rw [if_pos c]
      refine ⟨by omega, fun r hr => ?_, Or.inr ⟨n, by omega, rfl⟩⟩
      by_cases e : r = n
      · rw [e]; exact Int.le_refl _
      · have := h2 r (by omega); omega
    · rw [if_neg c]
      refine ⟨h1, fun r hr => ?_, ?_⟩
      · by_cases e : r = n
        · rw [e]; omega
        · exact h2 r (by omega)
      · rcases h3 with h3 | ⟨r, hr, h3⟩
        · exact Or.inl h3
        · exact Or.inr ⟨r, by omega, h3⟩
/-- the class's look ahead, i moments on: B holds the reference as it looks -/
def sl_I (z : Int) (i : Nat) (X B : am_M) : Prop := vr_T X B ∧ ts_ok X ∧ ts_pm X ∧ (∀ t : Nat, (t : Int) < X 1 5 → X 20 t = ma_nx (X 3 t) (X 2 t) (if i = 0 then B 50 19 + z else B 50 19 + i) ∧ X 21 t = (if 0 < B 66 t ∧ X 20 t = mo_nx B z t then B 66 t else X 4 t) ∧ 0 ≤ X 22 t) ∧ ∀ r : Nat, (r : Int) < X 1 5 → ma_su (fun j => X 22 (X 6 j).toNat) (r + 1) = ma_b (mo_pw B (r + 1)) (sl_a B z (r + 1)) i ∧ X 24 r = ma_i (mo_pw B (r + 1)) (sl_a B z (r + 1)) i ∧ X 25 r = mo_en B z (B 55 r).toNat
theorem sm_rd_at {a : Int} {M : am_M} {k j : Nat} (h : (j : Int) < M 1 5) : sm_rd a M k j = h_LO_makeReady 19 a M k j := am_col_lt (by omega)
/-- what comes at a moment, on both sides -/
theorem sl_come {z : Int} {i t : Nat} {X B : am_M} (hz : z = 0 ∨ z = 1) (hT : vr_T X B) (h2 : ts_ok X) (ht : (t : Int) < X 1 5) (hr : ∀ t : Nat, (t : Int) < X 1 5 → X 20 t = ma_nx (X 3 t) (X 2 t) (if i = 0 then B 50 19 + z else B 50 19 + i) ∧ X 21 t = (if 0 < B 66 t ∧ X 20 t = mo_nx B z t then B 66 t else X 4 t) ∧ 0 ≤ X 22 t) :
    sm_rd (B 50 19 + i) X 20 t = ma_nx (X 3 t) (X 2 t) (B 50 19 + ((i + 1 : Nat) : Int)) ∧ sm_rd (B 50 19 + i) X 21 t = (if 0 < B 66 t ∧ sm_rd (B 50 19 + i) X 20 t = mo_nx B z t then B 66 t else X 4 t) ∧ sm_rd (B 50 19 + i) X 22 t = X 22 t + mo_aj B z (B 50 19 + i) t := by
  obtain ⟨r1, r2, r3⟩ := hr t ht
  have b := h2.2 t ht
  have hp : 0 < X 2 t := by omega
  obtain ⟨v1, v2, v3, v4, v5⟩ := hT.2 t (by have := h2.1; omega)
  have en : mo_nx B z t = ma_nx (X 3 t) (X 2 t) (B 50 19 + z) := by unfold mo_nx; rw [v1, v2]
  have ea : mo_aj B z (B 50 19 + i) t = if (X 3 t ≤ B 50 19 + i ∧ (B 50 19 + i - X 3 t) % X 2 t = 0) ∧ (B 50 19 < B 50 19 + i ∨ z = 0) then (if 0 < B 66 t ∧ B 50 19 + i = mo_nx B z t then B 66 t else X 4 t) else 0 := by
    unfold mo_aj mo_cm
    rw [v1, v2, v3]
  have bi : (X 3 t ≤ B 50 19 + i ∧ (B 50 19 + i - X 3 t) % X 2 t = 0) ↔ ma_nx (X 3 t) (X 2 t) (B 50 19 + i) = B 50 19 + i := ma_be_iff hp
  have key : (X 20 t = B 50 19 + i) ↔ ((X 3 t ≤ B 50 19 + i ∧ (B 50 19 + i - X 3 t) % X 2 t = 0) ∧ (B 50 19 < B 50 19 + i ∨ z = 0)) := by
    rw [r1, bi]
    by_cases c : i = 0
    · subst c
      rw [if_pos rfl]
      rcases hz with c2 | c2
      · subst c2
        rw [show B 50 19 + ((0 : Nat) : Int) = B 50 19 + 0 by omega]
        exact ⟨fun q => ⟨q, Or.inr rfl⟩, fun q => q.1⟩
      · subst c2
        have := ma_nx_ge (o := X 3 t) (y := B 50 19 + 1) hp
        exact ⟨fun q => by omega, fun q => by omega⟩
    · rw [if_neg c]
      exact ⟨fun q => ⟨q, Or.inl (by omega)⟩, fun q => q.1⟩
  by_cases c : X 20 t = B 50 19 + i
  · have c' := key.1 c
    have q20 : sm_rd (B 50 19 + i) X 20 t = B 50 19 + i + X 2 t := by rw [sm_rd_at ht]; simp [h_LO_makeReady, c]
    have q21 : sm_rd (B 50 19 + i) X 21 t = X 4 t := by rw [sm_rd_at ht]; simp [h_LO_makeReady, c]
    have q22 : sm_rd (B 50 19 + i) X 22 t = X 22 t + X 21 t := by rw [sm_rd_at ht]; simp [h_LO_makeReady, c]
    rw [q20, q21, q22]
    refine ⟨?_, ?_, ?_⟩
    · rw [show B 50 19 + ((i + 1 : Nat) : Int) = B 50 19 + (i : Int) + 1 by omega, ma_nx_s hp c'.1]
    · rw [if_neg]
      rintro ⟨_, q⟩
      have m1 : ma_nx (X 3 t) (X 2 t) (B 50 19 + z) ≤ B 50 19 + i := by
        have := ma_nx_mono (o := X 3 t) (p := X 2 t) hp (show B 50 19 + z ≤ (if i = 0 then B 50 19 + z else B 50 19 + i) by split <;> omega)
        omega
      omega
    · rw [ea, if_pos c', r2, c]
  · have q2 : ∀ k, sm_rd (B 50 19 + i) X k t = X k t := fun k => by rw [sm_rd_at ht]; simp [h_LO_makeReady, c]
    have c' := fun q => c (key.2 q)
    rw [q2, q2, q2, ea, if_neg c', Int.add_zero]
    refine ⟨?_, r2, rfl⟩
    rw [r1]
    by_cases c1 : i = 0
    · subst c1
      rw [if_pos rfl]
      rcases hz with c2 | c2
      · subst c2
        rw [show B 50 19 + ((0 + 1 : Nat) : Int) = B 50 19 + 0 + 1 by omega, ma_nx_n hp]
        intro q
        exact c' ⟨by rw [show B 50 19 + ((0 : Nat) : Int) = B 50 19 + 0 by omega]; exact q, Or.inr rfl⟩
      · subst c2
        rfl
    · rw [if_neg c1, show B 50 19 + ((i + 1 : Nat) : Int) = B 50 19 + (i : Int) + 1 by omega, ma_nx_n hp]
      exact fun q => c' ⟨q, Or.inl (by omega)⟩
theorem ts_pm_of {A A' : am_M} (h : ts_pm A) (e : ∀ k j, 1 ≤ k → k ≤ 6 → A' k j = A k j) : ts_pm A' := by
  unfold ts_pm
  rw [e 1 5 (by omega) (by omega)]
  simp only [e 6 _ (show 1 ≤ 6 by omega) (show 6 ≤ 6 by omega)]
  exact h
/-- so the sum over the ranks, when one of them ran -/
theorem sl_run {f g : Nat → Int} {b n : Nat} (h1 : ∀ j, j < n → j ≠ b → g j = f j) (h2 : b < n → g b = f b - 1) : ∀ r, r ≤ n → ma_su g r = ma_su f r - (if b < r then 1 else 0)
  | 0, _ => by rw [if_neg (by omega)]; rfl
  | r + 1, hr => by
    have h := sl_run h1 h2 r (by omega)
    simp only [ma_su]
    by_cases c : b = r
    · subst c
      have := h2 (by omega)
      rw [if_neg (by omega)] at h
      rw [if_pos (by omega)]
      omega
    · have := h1 r (by omega) (by omega)
      by_cases c2 : b < r
      · rw [if_pos c2] at h
        rw [if_pos (by omega)]
        omega
      · rw [if_neg c2] at h
        rw [if_neg (by omega)]
        omega
theorem sl_step {z : Int} {i : Nat} {X B : am_M} (hz : z = 0 ∨ z = 1) (hb : sl_ok B) (h : sl_I z i X B) : sl_I z (i + 1) (sm_tk (B 50 19 + i) X) B := by
  obtain ⟨hT, h2, hpm, hr, hk⟩ := h
  have hn : X 1 5 = B 50 1 := hT.1.symm
  have k6 : ∀ k j, k < 20 → sm_rd (B 50 19 + i) X k j = X k j := fun k j h => sm_rd_k (by omega)
  generalize hX1 : sm_rd (B 50 19 + i) X = X1
  have come : ∀ t : Nat, (t : Int) < X 1 5 → X1 20 t = ma_nx (X 3 t) (X 2 t) (B 50 19 + ((i + 1 : Nat) : Int)) ∧ X1 21 t = (if 0 < B 66 t ∧ X1 20 t = mo_nx B z t then B 66 t else X 4 t) ∧ X1 22 t = X 22 t + mo_aj B z (B 50 19 + i) t := fun t ht => by
    rw [← hX1]; exact sl_come hz hT h2 ht hr
  have k61 : ∀ k j, k < 20 → X1 k j = X k j := fun k j h => by rw [← hX1]; exact k6 k j h
  have k24 : ∀ j, X1 24 j = X 24 j := fun j => by rw [← hX1]; exact sm_rd_k (by omega)
  have k25 : ∀ j, X1 25 j = X 25 j := fun j => by rw [← hX1]; exact sm_rd_k (by omega)
  have tau : ∀ r : Nat, (r : Int) < X 1 5 → 0 ≤ X 6 r ∧ X 6 r < X 1 5 := fun r hr => (h2.2 r hr).1
  have nn : ∀ t : Nat, (t : Int) < X 1 5 → 0 ≤ X1 22 t := fun t ht => by
    rw [(come t ht).2.2]
    have := (hr t ht).2.2
    have b := hb.1.2 t (by omega)
    have : 0 ≤ mo_aj B z (B 50 19 + i) t := by
      unfold mo_aj mo_cm
      split
      · split <;> omega
      · omega
    omega
  have hS : ∀ r : Nat, (r : Int) < X 1 5 → ma_su (fun j => X1 22 (X1 6 j).toNat) (r + 1) = ma_b (mo_pw B (r + 1)) (sl_a B z (r + 1)) i + sl_a B z (r + 1) i := fun r hr1 => by
    rw [← (hk r hr1).1]
    unfold sl_a mo_aw
    rw [← ma_su_add]
    refine ma_su_eq (fun j hj => ?_)
    have t1 := tau j (by omega)
    rw [k61 6 j (by decide), (come (X 6 j).toNat (by omega)).2.2, (hT.2 j (by have := h2.1; omega)).2.2.2.2]
  have bz1 : ∀ j, j < sm_bz X1 → ¬ 0 < X1 22 (X1 6 j).toNat := fun j hj => of_decide_eq_false (am_fi_b (fun r => decide (0 < X1 22 (X1 6 r).toNat)) _ _ j (by omega) hj)
  have bz2 := sm_bz_le X1
  have e15 : X1 1 5 = X 1 5 := k61 1 5 (by decide)
  have run : ∀ r : Nat, (r : Int) < X 1 5 → ma_su (fun j => sm_rn X1 22 (X1 6 j).toNat) (r + 1) = ma_su (fun j => X1 22 (X1 6 j).toNat) (r + 1) - (if sm_bz X1 < r + 1 then 1 else 0) := fun r hr1 => by
    rcases sm_rn_v X1 with ⟨c1, c2⟩ | ⟨c1, c2⟩
    · rw [c2]
      refine sl_run (n := (X 1 5).toNat) (fun j hj hne => ?_) (fun _ => ?_) (r + 1) (by omega)
      · refine am_up_j _ _ (fun q => hne ?_)
        have t1 := tau j (by omega)
        have t2 := tau (sm_bz X1) (by omega)
        rw [k61 6 _ (by decide), k61 6 _ (by decide)] at q
        exact hpm.1 j (sm_bz X1) (by omega) (by omega) (by omega)
      · exact am_up_s _ _ _ _
    · rw [c2, if_neg (by omega)]
      omega
  have kt : ∀ k j, k < 20 ∨ 24 < k → sm_tk (B 50 19 + i) X k j = X k j := fun k j hk => sm_tk_k hk
  have et : sm_tk (B 50 19 + i) X = sm_fr (sm_bz X1) (sm_rn X1) := by unfold sm_tk; rw [hX1]
  have e15t : sm_tk (B 50 19 + i) X 1 5 = X 1 5 := kt 1 5 (by omega)
  refine ⟨vr_T_of hT (fun k j _ _ => kt k j (by omega)) rfl (fun _ _ _ _ => rfl), ts_ok_of h2 (fun k j _ _ => kt k j (by omega)), ts_pm_of hpm (fun k j _ _ => kt k j (by omega)), fun t ht => ?_, fun r hr1 => ?_⟩
  · rw [e15t] at ht
    obtain ⟨c1, c2, c3⟩ := come t ht
    rw [kt 3 t (by omega), kt 2 t (by omega), kt 4 t (by omega), if_neg (by omega)]
    have f : ∀ k, k ≠ 22 → k ≠ 24 → sm_tk (B 50 19 + i) X k t = X1 k t := fun k n1 n2 => by
      rw [et]
      unfold sm_fr
      rw [if_neg (fun q => n2 q.1), sm_rn_k n1]
    rw [f 20 (by decide) (by decide), f 21 (by decide) (by decide)]
    refine ⟨c1, c2, ?_⟩
    rw [et]
    unfold sm_fr
    rw [if_neg (by omega)]
    rcases sm_rn_v X1 with ⟨d1, d2⟩ | ⟨d1, d2⟩
    · rw [d2]
      have p := sm_bz_pos d1
      have := nn t ht
      by_cases q : t = (X1 6 (sm_bz X1)).toNat
      · rw [q, am_up_s]; omega
      · rw [am_up_j _ _ q]; exact this
    · rw [d2]; exact nn t ht
  · rw [e15t] at hr1
    have s1 := hS r hr1
    have s2 := run r hr1
    have s3 := ma_b_s (mo_pw B (r + 1)) (sl_a B z (r + 1)) i
    have e6 : ∀ j, sm_tk (B 50 19 + i) X 6 j = X1 6 j := fun j => by rw [kt 6 j (by omega), k61 6 j (by decide)]
    have e22 : ∀ j, sm_tk (B 50 19 + i) X 22 j = sm_rn X1 22 j := fun j => by
      rw [et]
      unfold sm_fr
      rw [if_neg (by omega)]
    have e24 : sm_tk (B 50 19 + i) X 24 r = if r < sm_bz X1 then X 24 r + 1 else X 24 r := by
      rw [et]
      unfold sm_fr
      rw [sm_rn_k (by decide), k24]
      by_cases c : r < sm_bz X1
      · rw [if_pos ⟨rfl, c⟩, if_pos c]
      · rw [if_neg (fun q => c q.2), if_neg c]
    simp only [e6, e22]
    rw [s2, e24, kt 25 r (by omega), (hk r hr1).2.1, (hk r hr1).2.2]
    have z1 : r < sm_bz X1 → ma_su (fun j => X1 22 (X1 6 j).toNat) (r + 1) = 0 := fun c => ma_su_0 (fun j hj => by
      have a1 := bz1 j (by omega)
      have t1 := tau j (by omega)
      have a2 := nn (X 6 j).toNat (by omega)
      have a3 := k61 6 j (by decide)
      rw [← a3] at a2
      omega)
    have z2 : ¬ r < sm_bz X1 → ma_su (fun j => X1 22 (X1 6 j).toNat) (r + 1) ≠ 0 := fun c q => by
      have a1 := ma_su_z (f := fun j => X1 22 (X1 6 j).toNat) (n := r + 1) (fun j hj => by
        have t1 := tau j (by omega)
        rw [k61 6 j (by decide)]
        exact nn (X 6 j).toNat (by omega)) (by omega) (sm_bz X1) (by omega)
      have a2 := sm_bz_pos (M := X1) (by omega)
      omega
    refine ⟨?_, ?_, rfl⟩
    · by_cases c : r < sm_bz X1
      · have := z1 c
        rw [if_neg (by omega)]
        omega
      · have := z2 c
        rw [if_pos (by omega)]
        omega
    · by_cases c : r < sm_bz X1
      · have := z1 c
        rw [if_pos c]
        omega
      · have := z2 c
        rw [if_neg c]
        omega
theorem sl_mn (a : Int) (M : am_M) (s : Int) : ∀ n : Nat, sm_mn a M n s ≤ s ∧ (∀ r, r < n → M 25 r = a + 1 → sm_mn a M n s ≤ M 24 r) ∧ (sm_mn a M n s = s ∨ ∃ r, r < n ∧ M 25 r = a + 1 ∧ sm_mn a M n s = M 24 r)
  | 0 => ⟨Int.le_refl _, fun r h => absurd h (by omega), Or.inl rfl⟩
  | n + 1 => by
    obtain ⟨h1, h2, h3⟩ := sl_mn a M s n
    simp only [sm_mn]
    by_cases c0 : M 25 n = a + 1
    · rw [if_pos c0]
      by_cases c : M 24 n < sm_mn a M n s
      · rw [if_pos c]
        refine ⟨by omega, fun r hr hq => ?_, Or.inr ⟨n, by omega, c0, rfl⟩⟩
        by_cases e : r = n
        · rw [e]; exact Int.le_refl _
        · have := h2 r (by omega) hq; omega
      · rw [if_neg c]
        refine ⟨h1, fun r hr hq => ?_, ?_⟩
        · by_cases e : r = n
          · rw [e]; omega
          · exact h2 r (by omega) hq
        · rcases h3 with h3 | ⟨r, hr, h3⟩
          · exact Or.inl h3
          · exact Or.inr ⟨r, by omega, h3⟩
    · rw [if_neg c0]
      refine ⟨h1, fun r hr hq => ?_, ?_⟩
      · by_cases e : r = n
        · rw [e] at hq; exact absurd hq c0
        · exact h2 r (by omega) hq
      · rcases h3 with h3 | ⟨r, hr, h3⟩
        · exact Or.inl h3
        · exact Or.inr ⟨r, by omega, h3⟩
/-- a value that is the least of s0 and of all ranks' slack -/
def sl_V (z s0 v : Int) (B : am_M) : Prop := v ≤ s0 ∧ (∀ r : Nat, (r : Int) < B 50 1 → v ≤ mo_so B z r) ∧ (v = s0 ∨ ∃ r : Nat, (r : Int) < B 50 1 ∧ v = mo_so B z r)
theorem sl_lp {z s0 : Int} {B : am_M} (hz : z = 0 ∨ z = 1) (hb : sl_ok B) : ∀ (N i : Nat) (s : Int) (X : am_M), sl_I z i X B → (∀ r : Nat, (r : Int) < B 50 1 → mo_en B z (B 55 r).toNat ≤ B 50 19 + i + N) → s ≤ s0 → (∀ r : Nat, (r : Int) < B 50 1 → mo_en B z (B 55 r).toNat ≤ B 50 19 + i → s ≤ mo_so B z r) → (s = s0 ∨ ∃ r : Nat, (r : Int) < B 50 1 ∧ s = mo_so B z r) → sl_V z s0 (sm_lp N (B 50 19 + i) s X).1 B
  | 0, i, s, X, _, h1, h2, h3, h4 => ⟨h2, fun r hr => h3 r hr (by have := h1 r hr; omega), h4⟩
  | N + 1, i, s, X, hI, h1, h2, h3, h4 => by
    have en : X 1 5 = B 50 1 := hI.1.1.symm
    have b5 := hI.2.1.1
    simp only [sm_lp]
    by_cases c : sm_set s (B 50 19 + i) X = 0
    · rw [if_pos c]
      have hI' := sl_step hz hb hI
      have e25 : ∀ r, sm_tk (B 50 19 + i) X 25 r = X 25 r := fun r => sm_tk_k (by omega)
      have e15 : sm_tk (B 50 19 + i) X 1 5 = X 1 5 := sm_tk_k (by omega)
      obtain ⟨m1, m2, m3⟩ := sl_mn (B 50 19 + i) (sm_tk (B 50 19 + i) X) s (X 1 5).toNat
      have at' : ∀ r : Nat, (r : Int) < B 50 1 → X 25 r = B 50 19 + i + 1 → sm_tk (B 50 19 + i) X 24 r = mo_so B z r := fun r hr hq => by
        have q := (hI'.2.2.2.2 r (by rw [e15, en]; exact hr))
        rw [q.2.1, sl_so hb hr]
        rw [e25] at q
        rw [← q.2.2, hq]
        congr 1
        omega
      have h := sl_lp (s0 := s0) hz hb N (i + 1) (sm_mn (B 50 19 + i) (sm_tk (B 50 19 + i) X) (X 1 5).toNat s) (sm_tk (B 50 19 + i) X) hI' (fun r hr => by have := h1 r hr; omega) (by omega) (fun r hr hq => ?_) ?_
      · rw [show B 50 19 + ((i + 1 : Nat) : Int) = B 50 19 + (i : Int) + 1 by omega] at h
        exact h
      · have q := (hI.2.2.2.2 r (by rw [en]; exact hr)).2.2
        by_cases c2 : mo_en B z (B 55 r).toNat ≤ B 50 19 + i
        · have := h3 r hr c2
          omega
        · have c3 : X 25 r = B 50 19 + i + 1 := by omega
          rw [← at' r hr c3]
          exact m2 r (by omega) (by rw [e25]; exact c3)
      · rcases m3 with m3 | ⟨r, hr, q, m3⟩
        · rw [m3]; exact h4
        · rw [e25] at q
          exact Or.inr ⟨r, by omega, by rw [m3]; exact at' r (by omega) q⟩
    · rw [if_neg c]
      refine ⟨h2, fun r hr => ?_, h4⟩
      have q := hI.2.2.2.2 r (by rw [en]; exact hr)
      by_cases c2 : mo_en B z (B 55 r).toNat ≤ B 50 19 + i
      · exact h3 r hr c2
      · have c3 : ¬ am_fi (fun r => decide (B 50 19 + i < X 25 r ∧ X 24 r < s)) (X 1 5).toNat 0 < (X 1 5).toNat := fun w => c (by unfold sm_set; rw [if_pos w])
        have c4 := of_decide_eq_false (am_fi_n (i := 0) (k := (X 1 5).toNat) (p := fun r => decide (B 50 19 + i < X 25 r ∧ X 24 r < s)) (by omega) r (by omega) (by omega))
        rw [sl_so hb hr]
        have c5 := ma_i_mono (P := mo_pw B (r + 1)) (a := sl_a B z (r + 1)) (show i ≤ (mo_en B z (B 55 r).toNat - B 50 19).toNat by omega)
        rw [← q.2.1] at c5
        have : ¬ X 24 r < s := fun w => c4 ⟨by rw [q.2.2]; omega, w⟩
        omega
theorem sl_last (b : Nat) (M : am_M) (m : Int) : ∀ n r : Nat, r < n → lo_fd b M (M 6 r).toNat ≤ sm_last b M m n
  | 0, r, h => by omega
  | n + 1, r, h => by
    simp only [sm_last]
    by_cases e : r = n
    · subst e
      split <;> omega
    · have := sl_last b M m n r (by omega)
      split <;> omega
theorem sl_fd {d : Nat} {z : Int} {A B : am_M} (h : vr_T A B) (h2 : ts_ok A) (h3 : vr_L d (B 50 19 + z) A B) {t : Nat} (ht : (t : Int) < A 1 5) : lo_fd (d + 1) A t = mo_en B z t := by
  obtain ⟨l1, l2, l3, l4⟩ := h3 t ht
  obtain ⟨v1, v2, v3, v4, v5⟩ := h.2 t (by have := h2.1; omega)
  unfold lo_fd mo_en mo_nx
  rw [l3, l4, l1, v1, v2, v4]
theorem sl_first {d : Nat} {z : Int} {A B : am_M} (hd : 25 < d) (h : vr_T A B) (h2 : ts_ok A) (hp : ts_pm A) (hb : sl_ok B) (h3 : vr_L d (B 50 19 + z) A B) : sl_I z 0 (sm_P (d + 1) A) B := by
  have k : ∀ k j, k < 20 ∨ 25 < k → sm_P (d + 1) A k j = A k j := fun k j hk => sm_P_k hk
  have kc : ∀ k j, k < 20 ∨ 23 < k → sm_cp (d + 1) A k j = A k j := fun k j hk => sm_cp_k hk
  have e15 : sm_P (d + 1) A 1 5 = A 1 5 := k 1 5 (by omega)
  have en : A 1 5 = B 50 1 := h.1.symm
  have pc : ∀ k t : Nat, k ≠ 24 → k ≠ 25 → sm_P (d + 1) A k t = sm_cp (d + 1) A k t := fun k t n1 n2 => by
    unfold sm_P
    exact am_col_k (by unfold h_SM_prepare; rw [if_neg n1, if_neg n2])
  have cp : ∀ k t : Nat, (t : Int) < A 1 5 → 20 ≤ k → k ≤ 23 → sm_cp (d + 1) A k t = A (k - 19 + (d + 1)) t := fun k t ht h1 h2 => by
    unfold sm_cp
    rw [am_col_lt (by omega)]
    unfold h_LO_copy
    rcases (show k = 20 ∨ k = 21 ∨ k = 22 ∨ k = 23 by omega) with e | e | e | e <;> subst e
    · rw [if_pos rfl]; congr 1; omega
    · rw [if_neg (by decide), if_pos rfl]; congr 1; omega
    · rw [if_neg (by decide), if_neg (by decide), if_pos rfl]; congr 1; omega
    · rw [if_neg (by decide), if_neg (by decide), if_neg (by decide), if_pos rfl]; congr 1; omega
  have fdc : ∀ t, lo_fd (d + 1) (sm_cp (d + 1) A) t = lo_fd (d + 1) A t := fun t => by
    unfold lo_fd
    rw [kc _ _ (by omega), kc _ _ (by omega), kc _ _ (by omega), kc _ _ (by omega)]
  have x20 : ∀ t : Nat, (t : Int) < A 1 5 → sm_P (d + 1) A 20 t = A (d + 1 + 1) t := fun t ht => by rw [pc 20 t (by decide) (by decide), cp 20 t ht (by omega) (by omega), show 20 - 19 + (d + 1) = d + 1 + 1 by omega]
  have x21 : ∀ t : Nat, (t : Int) < A 1 5 → sm_P (d + 1) A 21 t = A (d + 1 + 2) t := fun t ht => by rw [pc 21 t (by decide) (by decide), cp 21 t ht (by omega) (by omega), show 21 - 19 + (d + 1) = d + 1 + 2 by omega]
  have x22 : ∀ t : Nat, (t : Int) < A 1 5 → sm_P (d + 1) A 22 t = A (d + 1 + 3) t := fun t ht => by rw [pc 22 t (by decide) (by decide), cp 22 t ht (by omega) (by omega), show 22 - 19 + (d + 1) = d + 1 + 3 by omega]
  refine ⟨vr_T_of h (fun k1 j _ _ => k k1 j (by omega)) rfl (fun _ _ _ _ => rfl), ts_ok_of h2 (fun k1 j _ _ => k k1 j (by omega)), ts_pm_of hp (fun k1 j _ _ => k k1 j (by omega)), fun t ht => ?_, fun r hr => ?_⟩
  · rw [e15] at ht
    obtain ⟨l1, l2, l3, l4⟩ := h3 t ht
    obtain ⟨v1, v2, v3, v4, v5⟩ := h.2 t (by have := h2.1; omega)
    rw [x20 t ht, x21 t ht, x22 t ht, k 3 t (by omega), k 2 t (by omega), k 4 t (by omega), if_pos rfl, l2, ← l3]
    refine ⟨l1, ?_, (hb.2 t (by omega)).1⟩
    have e : A (d + 1 + 1) t = mo_nx B z t := by unfold mo_nx; rw [l1, v1, v2]
    by_cases c : 0 < B 66 t
    · rw [if_pos c, if_pos ⟨c, e⟩]
    · rw [if_neg c, if_neg (fun q => c q.1)]
  · rw [e15] at hr
    have t1 := (h2.2 r hr).1
    refine ⟨?_, ?_, ?_⟩
    · show _ = mo_pw B (r + 1)
      unfold mo_pw
      refine ma_su_eq (fun j hj => ?_)
      have t2 := (h2.2 j (by omega)).1
      rw [k 6 j (by omega), x22 _ (by omega), ← (h3 (A 6 j).toNat (by omega)).2.2.1, (h.2 j (by have := h2.1; omega)).2.2.2.2]
    · show _ = (0 : Int)
      unfold sm_P
      rw [am_col_lt (by omega)]
      rfl
    · unfold sm_P
      rw [am_col_lt (by omega)]
      unfold h_SM_prepare
      rw [if_neg (by decide), if_pos rfl, fdc, kc 6 r (by omega), sl_fd h h2 h3 (by omega), (h.2 r (by have := h2.1; omega)).2.2.2.2]
/-- THE SLACK AGREES: what the class measures from s0 is the least of s0 and of the reference's ranks -/
theorem sl_all {d : Nat} {z s0 : Int} {A B : am_M} (hd : 25 < d) (hz : z = 0 ∨ z = 1) (h : vr_T A B) (h2 : ts_ok A) (hp : ts_pm A) (hb : sl_ok B) (h3 : vr_L d (B 50 19 + z) A B) (hu : ∀ r : Nat, (r : Int) < B 50 1 → B 50 19 < mo_en B z (B 55 r).toNat) : sl_V z s0 (sm_lp (sm_L (d + 1) A (B 50 19) - B 50 19).toNat (B 50 19) s0 (sm_P (d + 1) A)).1 B := by
  have q := sl_lp (s0 := s0) hz hb (sm_L (d + 1) A (B 50 19) - B 50 19).toNat 0 s0 (sm_P (d + 1) A) (sl_first hd h h2 hp hb h3) (fun r hr => ?_) (Int.le_refl _) (fun r hr hq => ?_) (Or.inl rfl)
  · rw [show B 50 19 + ((0 : Nat) : Int) = B 50 19 by omega] at q
    exact q
  · have hn := h.1
    have t1 := (h2.2 r (by omega)).1
    have kc : ∀ k j, k < 20 ∨ 23 < k → sm_cp (d + 1) A k j = A k j := fun k j hk => sm_cp_k hk
    have := sl_last (d + 1) (sm_cp (d + 1) A) (B 50 19) (A 1 5).toNat r (by omega)
    have e : lo_fd (d + 1) (sm_cp (d + 1) A) (sm_cp (d + 1) A 6 r).toNat = mo_en B z (B 55 r).toNat := by
      rw [kc 6 r (by omega), (h.2 r (by have := h2.1; omega)).2.2.2.2, ← sl_fd h h2 h3 (by omega)]
      unfold lo_fd
      rw [kc _ _ (by omega), kc _ _ (by omega), kc _ _ (by omega), kc _ _ (by omega)]
    rw [e] at this
    unfold sm_L
    omega
  · have := hu r hr
    omega
theorem sl_uniq {z s0 v w : Int} {B : am_M} (h1 : sl_V z s0 v B) (h2 : sl_V z s0 w B) : v = w := by
  obtain ⟨a1, a2, a3⟩ := h1
  obtain ⟨b1, b2, b3⟩ := h2
  have x : v ≤ w := by
    rcases b3 with q | ⟨r, hr, q⟩
    · omega
    · rw [q]; exact a2 r hr
  have y : w ≤ v := by
    rcases a3 with q | ⟨r, hr, q⟩
    · omega
    · rw [q]; exact b2 r hr
  omega
theorem sl_snV {z : Int} {B : am_M} (h : 0 ≤ B 50 1) : sl_V z 1000 (mo_sn B z (B 50 1).toNat) B := by
  obtain ⟨h1, h2, h3⟩ := sl_sn B z (B 50 1).toNat
  refine ⟨h1, fun r hr => h2 r (by omega), ?_⟩
  rcases h3 with q | ⟨r, hr, q⟩
  · exact Or.inl q
  · exact Or.inr ⟨r, by omega, q⟩
/-- the public slack -/
theorem sl_pub {d : Nat} {A B : am_M} (hd : 25 < d) (h : vr_T A B) (h2 : ts_ok A) (hp : ts_pm A) (hb : sl_ok B) (h3 : vr_L d (B 50 19) A B) (hu : ∀ r : Nat, (r : Int) < B 50 1 → B 50 19 < mo_en B 0 (B 55 r).toNat) : (sm_lp (sm_L (d + 1) A (B 50 19) - B 50 19).toNat (B 50 19) 1000 (sm_P (d + 1) A)).1 = mo_sn B 0 (B 50 1).toNat :=
  sl_uniq (sl_all hd (Or.inl rfl) h h2 hp hb (by rw [Int.add_zero]; exact h3) hu) (sl_snV (by have := hb.1.1; omega))
/-- the slack of a tick -/
theorem sl_tick {d : Nat} {m : Int} {A B : am_M} (hd : 25 < d) (hm : B 50 19 = m) (h : vr_T A B) (h2 : ts_ok A) (hp : ts_pm A) (hb : sl_ok B) (h3 : vr_L d (m + 1) A B) (hu : ∀ r : Nat, (r : Int) < B 50 1 → B 50 19 < mo_en B 1 (B 55 r).toNat) : 0 < mo_sn B 1 (B 50 1).toNat ↔ 0 < co_ms d m A := by
  subst hm
  obtain ⟨a1, a2, a3⟩ := sl_all (s0 := 1) hd (Or.inr rfl) h h2 hp hb h3 hu
  obtain ⟨b1, b2, b3⟩ := sl_snV (z := 1) (B := B) (by have := hb.1.1; omega)
  unfold co_ms
  constructor
  · intro q
    rcases a3 with e | ⟨r, hr, e⟩
    · rw [e]; decide
    · rw [e]; have := b2 r hr; omega
  · intro q
    rcases b3 with e | ⟨r, hr, e⟩
    · rw [e]; decide
    · rw [e]; have := a2 r hr; omega
