/-! the replay: jobs and early ones of a moment -/
def lg_J (A B : am_M) : Prop := (B 50 11 = A 10 3 ∧ 0 ≤ A 10 3 ∧ A 10 3 ≤ 40) ∧ (∀ j, j < 40 → 0 ≤ A 11 j ∧ A 11 j ≤ 2000) ∧ (∀ j : Nat, (j : Int) < A 10 3 → B 59 j = A 11 j ∧ B 58 j = A 12 j ∧ (1 ≤ A 12 j ∧ A 12 j ≤ 30) ∧ B 60 j = A 13 j) ∧ ∀ i j : Nat, i ≤ j → (j : Int) < A 10 3 → A 11 i ≤ A 11 j
def lg_E (A B : am_M) : Prop := (B 50 15 = A 14 3 ∧ 0 ≤ A 14 3 ∧ A 14 3 ≤ 200) ∧ (∀ j, j < 200 → (0 ≤ A 15 j ∧ A 15 j ≤ 2000) ∧ (0 ≤ A 16 j ∧ A 16 j ≤ 5) ∧ (0 ≤ A 17 j ∧ A 17 j ≤ 60)) ∧ (∀ j : Nat, (j : Int) < A 14 3 → (B 63 j = A 15 j ∧ B 61 j = A 16 j ∧ B 62 j = A 17 j) ∧ A 16 j < A 1 5 ∧ (1 ≤ A 17 j ∧ A 17 j ≤ A 4 (A 16 j).toNat)) ∧ ∀ i j : Nat, i ≤ j → (j : Int) < A 14 3 → A 15 i ≤ A 15 j
theorem lg_J_of {A B A' B' : am_M} (h : lg_J A B) (e : ∀ k j, 10 ≤ k → k ≤ 13 → A' k j = A k j) (e1 : B' 50 11 = B 50 11) (e2 : ∀ k j, 58 ≤ k → k ≤ 60 → B' k j = B k j) : lg_J A' B' := by
  unfold lg_J
  simp only [e1, e 10 _ (show 10 ≤ 10 by omega) (show 10 ≤ 13 by omega), e 11 _ (show 10 ≤ 11 by omega) (show 11 ≤ 13 by omega), e 12 _ (show 10 ≤ 12 by omega) (show 12 ≤ 13 by omega), e 13 _ (show 10 ≤ 13 by omega) (show 13 ≤ 13 by omega), e2 58 _ (show 58 ≤ 58 by omega) (show 58 ≤ 60 by omega), e2 59 _ (show 58 ≤ 59 by omega) (show 59 ≤ 60 by omega), e2 60 _ (show 58 ≤ 60 by omega) (show 60 ≤ 60 by omega)]
  exact h
theorem lg_E_of {A B A' B' : am_M} (h : lg_E A B) (e : ∀ k j, k = 1 ∨ k = 4 ∨ (14 ≤ k ∧ k ≤ 17) → A' k j = A k j) (e1 : B' 50 15 = B 50 15) (e2 : ∀ k j, 61 ≤ k → k ≤ 63 → B' k j = B k j) : lg_E A' B' := by
  unfold lg_E
  simp only [e1, e 1 _ (show 1 = 1 ∨ 1 = 4 ∨ (14 ≤ 1 ∧ 1 ≤ 17) by omega), e 4 _ (show 4 = 1 ∨ 4 = 4 ∨ (14 ≤ 4 ∧ 4 ≤ 17) by omega), e 14 _ (show 14 = 1 ∨ 14 = 4 ∨ (14 ≤ 14 ∧ 14 ≤ 17) by omega), e 15 _ (show 15 = 1 ∨ 15 = 4 ∨ (14 ≤ 15 ∧ 15 ≤ 17) by omega), e 16 _ (show 16 = 1 ∨ 16 = 4 ∨ (14 ≤ 16 ∧ 16 ≤ 17) by omega), e 17 _ (show 17 = 1 ∨ 17 = 4 ∨ (14 ≤ 17 ∧ 17 ≤ 17) by omega), e2 61 _ (show 61 ≤ 61 by omega) (show 61 ≤ 63 by omega), e2 62 _ (show 61 ≤ 62 by omega) (show 62 ≤ 63 by omega), e2 63 _ (show 61 ≤ 63 by omega) (show 63 ≤ 63 by omega)]
  exact h
theorem qu_tk_0 {c i : Nat} {A : am_M} (h : A c 3 = i) : qu_tk c i i A = A := by
  funext k j
  unfold qu_tk
  rw [if_neg (by omega), if_neg (by omega)]
  by_cases c1 : k = c ∧ j = 3
  · rw [if_pos c1, c1.1, c1.2, h]
  · rw [if_neg c1]
    by_cases c2 : k = c ∧ j = 4
    · rw [if_pos c2, c2.1, c2.2]; omega
    · rw [if_neg c2]
theorem qu_tk_s {c i x : Nat} {A : am_M} (hc : 30 < c) (hx : i + 1 ≤ x) : qu_tk c (i + 1) x (qu_tk c i (i + 1) A) = qu_tk c i x A := by
  funext k j
  have e12 : qu_tk c i (i + 1) A 12 j = A 12 j := qu_tk_k (by omega)
  have e4 : qu_tk c i (i + 1) A c 4 = A c 4 + 1 := by
    unfold qu_tk
    rw [if_neg (by omega), if_neg (by omega), if_neg (by omega), if_pos ⟨rfl, rfl⟩]
    omega
  rw [show qu_tk c (i + 1) x (qu_tk c i (i + 1) A) k j = (if k = c + 1 ∧ i + 1 ≤ j ∧ j < x then qu_tk c i (i + 1) A 12 j else if k = c + 2 ∧ i + 1 ≤ j ∧ j < x then -1 else if k = c ∧ j = 3 then (x : Int) else if k = c ∧ j = 4 then qu_tk c i (i + 1) A c 4 + ((x : Int) - ((i + 1 : Nat) : Int)) else qu_tk c i (i + 1) A k j) from rfl, e12, e4]
  unfold qu_tk
  by_cases k1 : k = c + 1
  · by_cases j1 : j = i
    · rw [if_neg (by omega), if_neg (by omega), if_neg (by omega), if_neg (by omega), if_pos (by omega), if_pos (by omega)]
    · by_cases j2 : i + 1 ≤ j ∧ j < x
      · rw [if_pos ⟨k1, j2⟩, if_pos (by omega)]
      · rw [if_neg (by omega), if_neg (by omega), if_neg (by omega), if_neg (by omega), if_neg (by omega), if_neg (by omega), if_neg (by omega), if_neg (by omega), if_neg (by omega), if_neg (by omega), if_neg (by omega), if_neg (by omega)]
  · by_cases k2 : k = c + 2
    · by_cases j1 : j = i
      · rw [if_neg (by omega), if_neg (by omega), if_neg (by omega), if_neg (by omega), if_neg (by omega), if_pos (by omega), if_neg (by omega), if_pos (by omega)]
      · by_cases j2 : i + 1 ≤ j ∧ j < x
        · rw [if_neg (by omega), if_pos ⟨k2, j2⟩, if_neg (by omega), if_pos (by omega)]
        · rw [if_neg (by omega), if_neg (by omega), if_neg (by omega), if_neg (by omega), if_neg (by omega), if_neg (by omega), if_neg (by omega), if_neg (by omega), if_neg (by omega), if_neg (by omega), if_neg (by omega), if_neg (by omega)]
    · rw [if_neg (by omega), if_neg (by omega)]
      by_cases k3 : k = c ∧ j = 3
      · rw [if_pos k3, if_neg (by omega), if_neg (by omega), if_pos k3]
      · rw [if_neg k3]
        by_cases k4 : k = c ∧ j = 4
        · rw [if_pos k4, if_neg (by omega), if_neg (by omega), if_neg k3, if_pos k4]
          omega
        · rw [if_neg k4, if_neg (by omega), if_neg (by omega), if_neg k3, if_neg k4, if_neg (by omega), if_neg (by omega), if_neg k3, if_neg k4]
/-- the jobs of a moment come in on both sides -/
theorem rp_j {m : Int} : ∀ (n f i : Nat) (A B : am_M), n < f → cv_A 37 m A B → A 43 3 = i → A 10 3 = i + n → lg_J A B → (∀ j : Nat, i ≤ j → (j : Int) < A 10 3 → m ≤ A 11 j) →
    mo_pjk f i B ∧ (mo_pj f i B).1 = (am_fi (fun t => decide (m < A 11 t)) n i : Nat) ∧ cv_A 37 m (qu_tk 43 i (am_fi (fun t => decide (m < A 11 t)) n i) A) (mo_pj f i B).2 ∧ (∀ k j, k ≠ 50 → k ≠ 68 → k ≠ 69 → (mo_pj f i B).2 k j = B k j) ∧ ∀ j, j ≠ 26 → (mo_pj f i B).2 50 j = B 50 j
  | n, 0, i, A, B, h, _, _, _, _, _ => by omega
  | 0, f + 1, i, A, B, _, hA, hi, hc, hl, _ => by
    have c : ¬ ((i : Int) < B 50 11 ∧ B 59 (i : Int).toNat = B 50 19) := fun q => by have := hl.1; omega
    rw [mo_pj, if_neg c]
    refine ⟨⟨by have := hl.1; omega, ⟨by have := hl.1; omega, by have := hl.1; omega⟩, fun q => by have := hl.1; omega⟩, rfl, ?_, fun _ _ _ _ _ => rfl, fun _ _ => rfl⟩
    rw [am_fi, qu_tk_0 hi]
    exact hA
  | n + 1, f + 1, i, A, B, hf, hA, hi, hc, hl, ha => by
    have l1 := hl.1
    have e19 := hA.1.1.2.2.2.2.1
    have lj := hl.2.2.1 i (by omega)
    have r := hl.2.1 i (by omega)
    have mi := ha i (by omega) (by omega)
    have ti : (i : Int).toNat = i := by omega
    have P1 : am_R (B 59 i) ∧ am_R (B 50 19) := by rw [lj.1]; exact ⟨⟨by omega, by omega⟩, ⟨by omega, by omega⟩⟩
    rw [mo_pj, ti]
    by_cases c : m < A 11 i
    · rw [if_neg (fun q => by omega), am_fi, if_pos (decide_eq_true c), qu_tk_0 hi]
      exact ⟨⟨by omega, ⟨by omega, by omega⟩, fun q => ⟨by omega, by rw [ti]; exact P1.1, P1.2, fun w => by rw [ti] at w; omega⟩⟩, rfl, hA, fun _ _ _ _ _ => rfl, fun _ _ => rfl⟩
    · have ci := cv_A_in (Or.inr rfl) hA (by show A 43 3 < 40; omega) (by rw [hi, Int.toNat_natCast]; exact lj.2.1) (by rw [hi, Int.toNat_natCast]; exact lj.2.2.1) (by rw [hi, Int.toNat_natCast]; exact lj.2.2.2)
      rw [show (37 : Nat) + 6 = 43 from rfl, hi, Int.toNat_natCast] at ci
      have k1 : ∀ k j, k < 43 ∨ 45 < k → qu_tk 43 i (i + 1) A k j = A k j := fun k j hk => qu_tk_k (by omega)
      have c3 : qu_tk 43 i (i + 1) A 43 3 = ((i + 1 : Nat) : Int) := by
        unfold qu_tk
        rw [if_neg (by omega), if_neg (by omega), if_pos ⟨rfl, rfl⟩]
      have hl' : lg_J (qu_tk 43 i (i + 1) A) (g_MO_comesIn [.inr (.inl 50)] B) := lg_J_of hl (fun k j _ _ => k1 k j (by omega)) (mo_in_50 (by decide)) (fun k j _ _ => mo_in_k (by omega) (by omega) (by omega))
      obtain ⟨q1, q2, q3, q4, q5⟩ := rp_j (m := m) n f (i + 1) (qu_tk 43 i (i + 1) A) (g_MO_comesIn [.inr (.inl 50)] B) (by omega) ci c3 (by rw [k1 10 3 (by omega)]; omega) hl' (fun j h1 h2 => by rw [k1 11 j (by omega)]; rw [k1 10 3 (by omega)] at h2; exact ha j (by omega) h2)
      have ef : (fun t => decide (m < qu_tk 43 i (i + 1) A 11 t)) = (fun t => decide (m < A 11 t)) := by funext t; rw [k1 11 t (by omega)]
      rw [ef] at q2 q3
      have fx := (am_fi_sp (fun t => decide (m < A 11 t)) n (i + 1)).1
      rw [if_pos (by omega), am_fi, if_neg (by rw [decide_eq_true_iff]; exact c)]
      rw [qu_tk_s (by decide) fx] at q3
      rw [show ((i : Int) + 1) = ((i + 1 : Nat) : Int) by omega]
      refine ⟨⟨by omega, ⟨by omega, by omega⟩, fun q => ⟨by omega, by rw [ti]; exact P1.1, P1.2, fun w => ⟨⟨rfl, ?_⟩, ?_⟩⟩⟩, q2, q3, fun k j a b c => (q4 k j a b c).trans (mo_in_k a b c), fun j hj => (q5 j hj).trans (mo_in_50 hj)⟩
      · have := hA.1.1.2.2.2.1.1
        have e : A (37 + 6) 3 = A 43 3 := rfl
        omega
      · rw [show ((i : Int) + 1) = ((i + 1 : Nat) : Int) by omega]
        exact q1
/-- the early ones of a moment are told on both sides -/
theorem rp_e {m : Int} : ∀ (n f i : Nat) (A B : am_M), n < f → cv_A 37 m A B → A 14 3 = i + n → lg_E A B → (∀ j : Nat, i ≤ j → (j : Int) < A 14 3 → m ≤ A 15 j) →
    mo_pek f i B ∧ (mo_pe f i B).1 = ((rf_tu m n i A).1 : Nat) ∧ cv_A 37 m (rf_tu m n i A).2 (mo_pe f i B).2 ∧ (∀ k j, k ≠ 66 → (mo_pe f i B).2 k j = B k j) ∧ (∀ k j, k ≠ 40 → (rf_tu m n i A).2 k j = A k j) ∧ (i ≤ (rf_tu m n i A).1 ∧ (rf_tu m n i A).1 ≤ i + n) ∧ (∀ j : Nat, i ≤ j → j < (rf_tu m n i A).1 → A 15 j ≤ m) ∧ ((rf_tu m n i A).1 < i + n → m < A 15 (rf_tu m n i A).1)
  | n, 0, i, A, B, h, _, _, _, _ => by omega
  | 0, f + 1, i, A, B, _, hA, hc, hl, _ => by
    have c : ¬ ((i : Int) < B 50 15 ∧ B 63 (i : Int).toNat = B 50 19) := fun q => by have := hl.1; omega
    rw [mo_pe, if_neg c, rf_tu]
    exact ⟨⟨by have := hl.1; omega, ⟨by have := hl.1; omega, by have := hl.1; omega⟩, fun q => by have := hl.1; omega⟩, rfl, hA, fun _ _ _ => rfl, fun _ _ _ => rfl, by omega, fun j a b => by omega, fun q => by omega⟩
  | n + 1, f + 1, i, A, B, hf, hA, hc, hl, ha => by
    have l1 := hl.1
    have e19 := hA.1.1.2.2.2.2.1
    have lj := hl.2.2.1 i (by omega)
    have r := hl.2.1 i (by omega)
    have mi := ha i (by omega) (by omega)
    have ti : (i : Int).toNat = i := by omega
    have P1 : am_R (B 63 i) ∧ am_R (B 50 19) := by rw [lj.1.1]; exact ⟨⟨by omega, by omega⟩, ⟨by omega, by omega⟩⟩
    rw [mo_pe, ti, rf_tu]
    by_cases c : m < A 15 i
    · rw [if_neg (fun q => by omega), if_pos c]
      exact ⟨⟨by omega, ⟨by omega, by omega⟩, fun q => ⟨by omega, by rw [ti]; exact P1.1, P1.2, fun w => by rw [ti] at w; omega⟩⟩, rfl, hA, fun _ _ _ => rfl, fun _ _ _ => rfl, by omega, fun j a b => by omega, fun _ => c⟩
    · have ci : cv_A 37 m (g_LO_shorten [.inr (.inl 38), .inl (A 16 i), .inl (A 17 i)] A) (g_MO_tell [.inr (.inl 50), .inl (A 16 i), .inl (A 17 i)] B) := cv_A_tell (t := A 16 i) (k := A 17 i) (Or.inr rfl) hA ⟨r.2.1.1, lj.2.1⟩ lj.2.2
      have et : mo_tl i B = g_MO_tell [.inr (.inl 50), .inl (A 16 i), .inl (A 17 i)] B := by
        unfold mo_tl
        rw [ti, lj.1.2.1, lj.1.2.2]
      have k1 : ∀ k j, k ≠ 40 → g_LO_shorten [.inr (.inl 38), .inl (A 16 i), .inl (A 17 i)] A k j = A k j := fun k j hk => lo_sh_k (by omega)
      have hl' : lg_E (g_LO_shorten [.inr (.inl 38), .inl (A 16 i), .inl (A 17 i)] A) (g_MO_tell [.inr (.inl 50), .inl (A 16 i), .inl (A 17 i)] B) := lg_E_of hl (fun k j hk => k1 k j (by omega)) (mo_tell_k (by decide)) (fun k j _ _ => mo_tell_k (by omega))
      obtain ⟨q1, q2, q3, q4, q5, q6, q7, q8⟩ := rp_e (m := m) n f (i + 1) _ _ (by omega) ci (by rw [k1 14 3 (by omega)]; omega) hl' (fun j h1 h2 => by
        rw [k1 14 3 (by omega)] at h2
        rw [k1 15 j (by omega)]
        exact ha j (by omega) h2)
      rw [if_pos (by omega), if_neg c, et, show ((i : Int) + 1) = ((i + 1 : Nat) : Int) by omega]
      have k15 : ∀ j, g_LO_shorten [.inr (.inl 38), .inl (A 16 i), .inl (A 17 i)] A 15 j = A 15 j := fun j => k1 15 j (by omega)
      refine ⟨⟨by omega, ⟨by omega, by omega⟩, fun q => ⟨by omega, by rw [ti]; exact P1.1, P1.2, fun w => ⟨?_, ?_⟩⟩⟩, q2, q3, fun k j a => (q4 k j a).trans (mo_tell_k a), fun k j a => (q5 k j a).trans (k1 k j a), by omega, fun j a b => ?_, fun q => ?_⟩
      · rw [ti, lj.1.2.1, lj.1.2.2]
        refine ⟨rfl, by have := hA.1.1.2.1.1; omega, ⟨by omega, by omega⟩, ?_⟩
        have := hA.2.2.1 (A 16 i).toNat (by have := hA.1.1.2.1.1; omega)
        exact ⟨by omega, by omega⟩
      · rw [et, show ((i : Int) + 1) = ((i + 1 : Nat) : Int) by omega]
        exact q1
      · by_cases w : j = i
        · rw [w]; omega
        · rw [← k15]; exact q7 j (by omega) b
      · rw [← k15]; exact q8 (by omega)
