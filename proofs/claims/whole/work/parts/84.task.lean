/-! the law's calls: task, rule, start, reset -/
/-- task: 0 as it answers, else the number of what it throws -/
def sd_tc (A : am_M) (p f c d : Int) : Int := if (1 ≤ p ∧ p ≤ 60) ∧ (0 ≤ f ∧ f ≤ p - 1) ∧ (1 ≤ c ∧ c ≤ 60) ∧ (c ≤ d ∧ d ≤ p) then (if A 0 8 ≠ 0 ∨ 5 ≤ A 1 5 then 2 else if 2000 < A 1 6 / ((Nat.gcd (A 1 6).toNat p.toNat : Nat) : Int) * p then 3 else 0) else 1
theorem mo_tg_k {p f c d : Int} {B : am_M} {k j : Nat} (h : k < 50 ∨ 55 < k) : mo_tg p f c d B k j = B k j := by
  unfold mo_tg
  rw [am_up_k _ _ (by omega)]
  have e : ∀ (r : Nat) (M : am_M), am_ins 54 55 (B 50 1) d r M k j = M k j := fun r => by
    induction r with
    | zero => intro M; rw [am_ins, am_up_k _ _ (by omega)]
    | succ r ih =>
      intro M
      rw [am_ins]
      split
      · rw [ih, am_up_k _ _ (by omega)]
      · rw [am_up_k _ _ (by omega)]
  rw [e]
  unfold mo_ts
  rw [am_up_k _ _ (by omega), am_up_k _ _ (by omega), am_up_k _ _ (by omega), am_up_k _ _ (by omega), am_up_k _ _ (by omega)]
theorem mo_tg_50 {p f c d : Int} {B : am_M} {j : Nat} (h : j ≠ 0) (h1 : j ≠ 1) : mo_tg p f c d B 50 j = B 50 j := by
  unfold mo_tg
  rw [am_up_j _ _ h1]
  have e : ∀ (r : Nat) (M : am_M), am_ins 54 55 (B 50 1) d r M 50 j = M 50 j := fun r => by
    induction r with
    | zero => intro M; rw [am_ins, am_up_k _ _ (by omega)]
    | succ r ih =>
      intro M
      rw [am_ins]
      split
      · rw [ih, am_up_k _ _ (by omega)]
      · rw [am_up_k _ _ (by omega)]
  rw [e]
  unfold mo_ts
  rw [am_up_k _ _ (by omega), am_up_k _ _ (by omega), am_up_k _ _ (by omega), am_up_k _ _ (by omega), am_up_j _ _ h]
theorem mo_lc_1 {h p : Int} (hh : 1 ≤ h) (hp : 1 ≤ p) : 1 ≤ h / ((Nat.gcd h.toNat p.toNat : Nat) : Int) * p := by
  have g0 : 0 < Nat.gcd h.toNat p.toNat := Nat.gcd_pos_of_pos_left _ (by omega)
  have g1 : Nat.gcd h.toNat p.toNat ≤ h.toNat := Nat.le_of_dvd (by omega) (Nat.gcd_dvd_left _ _)
  have q : 1 ≤ h / ((Nat.gcd h.toNat p.toNat : Nat) : Int) := by
    rw [Int.le_ediv_iff_mul_le (by omega)]
    omega
  calc (1 : Int) ≤ 1 * p := by omega
    _ ≤ _ := Int.mul_le_mul_of_nonneg_right q (by omega)
/-- both throw alike -/
theorem sd_tc_eq {A B : am_M} {p f c d : Int} (h : lw_I A B) : mo_tc B p f c d = sd_tc A p f c d := by
  obtain ⟨⟨h1, h2, h3, h4, h5, h6, h7, h8, h8b, h9⟩, ⟨⟨a1, a1'⟩, a2, a3, a4, a5⟩, hL, hZ⟩ := h
  unfold mo_tc sd_tc
  rw [h1.1, a1, vr_H_lc h4]
  have e : ((1 ≤ p ∧ p ≤ 60) ∧ (1 ≤ c ∧ c ≤ 60) ∧ 0 ≤ f ∧ f < p ∧ c ≤ d ∧ d ≤ p) ↔ ((1 ≤ p ∧ p ≤ 60) ∧ (0 ≤ f ∧ f ≤ p - 1) ∧ (1 ≤ c ∧ c ≤ 60) ∧ (c ≤ d ∧ d ≤ p)) := by omega
  by_cases c1 : (1 ≤ p ∧ p ≤ 60) ∧ (0 ≤ f ∧ f ≤ p - 1) ∧ (1 ≤ c ∧ c ≤ 60) ∧ (c ≤ d ∧ d ≤ p)
  · rw [if_pos (e.2 c1), if_pos c1]
    by_cases c2 : A 0 8 ≠ 0 ∨ 5 ≤ A 1 5
    · rw [if_pos (by have := h2.1; omega), if_pos c2]
    · rw [if_neg (by omega), if_neg c2]
      by_cases c3 : 2000 < A 1 6 / ((Nat.gcd (A 1 6).toNat p.toNat : Nat) : Int) * p
      · rw [if_neg (by omega), if_pos c3]
      · rw [if_pos (by omega), if_neg c3]
  · rw [if_neg (fun q => c1 (e.1 q)), if_neg c1]
theorem sd_task_P {A B : am_M} {p f c d : Int} (h : lw_I A B) (hR : am_R p ∧ am_R f ∧ am_R c ∧ am_R d) : P_MO_task [.inr (.inl 50), .inl p, .inl f, .inl c, .inl d] B := by
  obtain ⟨⟨h1, h2, h3, h4, h5, h6, h7, h8, h8b, h9⟩, ⟨⟨a1, a1'⟩, a2, a3, a4, a5⟩, hL, hZ⟩ := h
  have ok := vr_ok h1 h2
  refine ⟨rfl, hR, ⟨rfl, ok, fun n hn => h5 n (by omega)⟩, h5 _ (by have := ok.1; omega), ⟨by omega, by omega⟩⟩
theorem lw_code {A B : am_M} {v : Int} (h : lw_I A B) : lw_I A (am_up B 50 0 v) := lw_I_of h (fun _ _ _ => rfl) (fun k j _ _ hk => by
  by_cases c : k = 50
  · exact am_up_j _ _ (by omega)
  · exact am_up_k _ _ c)
/-- A TASK -/
theorem sd_task {A B : am_M} {p f c d : Int} (h : lw_I A B) : lw_I (if sd_tc A p f c d = 0 then ts_ad p f c d A else A) (g_MO_task [.inr (.inl 50), .inl p, .inl f, .inl c, .inl d] B) := by
  have ec := sd_tc_eq (p := p) (f := f) (c := c) (d := d) h
  simp only [g_MO_task]
  rw [ec]
  by_cases z : sd_tc A p f c d = 0
  · rw [if_pos z, if_pos z]
    obtain ⟨⟨h1, h2, h3, h4, h5, h6, h7, h8, h8b, h9⟩, ⟨a1, a2, a3, a4, a5⟩, hL, ⟨z1, z2, z3, z4, z5, z6, z7, z8⟩⟩ := h
    unfold sd_tc at z
    by_cases c1 : (1 ≤ p ∧ p ≤ 60) ∧ (0 ≤ f ∧ f ≤ p - 1) ∧ (1 ≤ c ∧ c ≤ 60) ∧ (c ≤ d ∧ d ≤ p)
    · rw [if_pos c1] at z
      by_cases c2 : A 0 8 ≠ 0 ∨ 5 ≤ A 1 5
      · rw [if_pos c2] at z; exact absurd z (by decide)
      · rw [if_neg c2] at z
        by_cases c3 : 2000 < A 1 6 / ((Nat.gcd (A 1 6).toNat p.toNat : Nat) : Int) * p
        · rw [if_pos c3] at z; exact absurd z (by decide)
        · have s0 : A 0 8 = 0 := by omega
          have eA : ∀ k j, k = 0 ∨ 6 < k → ts_ad p f c d A k j = A k j := fun k j hk => ts_ad_k hk
          have eB : ∀ k j, k < 50 ∨ 55 < k → mo_tg p f c d B k j = B k j := fun k j hk => mo_tg_k hk
          have eB5 : ∀ j, j ≠ 0 → j ≠ 1 → mo_tg p f c d B 50 j = B 50 j := fun j x y => mo_tg_50 x y
          have b5 := a5 s0
          have t15 : ts_ad p f c d A 1 5 = A 1 5 + 1 := by rw [ts_ad_e, am_up_s]
          have t1 := vr_add (p := p) (f := f) (c := c) (d := d) h1 h2 (by omega)
          have n1 : mo_tg p f c d B 50 1 = B 50 1 + 1 := by rw [t1.1, t15, h1.1]
          have vH := vr_H_add (p := p) (f := f) (c := c) (d := d) h1 h2 h4
          have hy : ∀ n : Nat, (n : Int) ≤ B 50 1 → mo_hy (mo_tg p f c d B) n = mo_hy B n := fun n hn => mo_hy_c2 n (fun j hj => by rw [(mo_tg_2 j).1, if_neg (by omega)])
          refine ⟨⟨t1, ts_ad_ok h2 (by omega) (by omega) (by omega) (by omega), ts_ad_pm h2 h3, vH, fun n hn => ?_, ?_, ?_, fun j hj => ?_, fun j hj => ?_, ?_⟩, ⟨?_, ?_, ?_, fun q => ?_, fun q => ?_⟩, ⟨lg_J_of hL.1 (fun k j _ _ => eA k j (by omega)) (eB5 11 (by decide) (by decide)) (fun k j _ _ => eB k j (by omega)), ?_, fun j hj => ?_, fun j hj => ?_⟩, cv_0_of z1 (fun k j _ _ => eA k j (by omega)) (fun j => eA 13 j (by omega)) (fun k j _ _ => eA k j (by omega)), cv_0_of z2 (fun k j _ _ => eA k j (by omega)) (fun j => eA 13 j (by omega)) (fun k j _ _ => eA k j (by omega)), re_0_of z3 (fun k j hk => eB k j (by omega)), re_b_of z4 (fun k j _ _ => eB k j (by omega)), fun j hj => ?_, fun q hq => ?_, fun q hq => ?_, ?_⟩
          · by_cases w : (n : Int) ≤ B 50 1
            · rw [hy n w]; exact h5 n w
            · have en : n = (mo_tg p f c d B 50 1).toNat := by omega
              have vH' : ts_ad p f c d A 1 6 = mo_hy (mo_tg p f c d B) (mo_tg p f c d B 50 1).toNat := vH
              have t16 : ts_ad p f c d A 1 6 = A 1 6 / ((Nat.gcd (A 1 6).toNat p.toNat : Nat) : Int) * p := by
                have e16 : ∀ (r : Nat) (M : am_M), am_ins 5 6 (A 1 5) d r M 1 6 = M 1 6 := fun r => by
                  induction r with
                  | zero => intro M; rw [am_ins, am_up_k _ _ (by omega)]
                  | succ r ih =>
                    intro M
                    rw [am_ins]
                    split
                    · rw [ih, am_up_k _ _ (by omega)]
                    · rw [am_up_k _ _ (by omega)]
                rw [ts_ad_e, am_up_j _ _ (by decide), e16]
                unfold ts_st
                rw [am_up_k _ _ (by omega), am_up_k _ _ (by omega), am_up_k _ _ (by omega), am_up_k _ _ (by omega), am_up_s]
              rw [en, ← vH', t16]
              have h16 : 1 ≤ A 1 6 := by
                have := (h5 (B 50 1).toNat (by have := h2.1; have := h1.1; omega)).1
                have e4 : A 1 6 = mo_hy B (B 50 1).toNat := h4
                omega
              exact ⟨mo_lc_1 h16 (by omega), by omega⟩
          · unfold vr_B; rw [eB 56 1 (by omega), eB 57 1 (by omega), eB 56 2 (by omega), eB 57 2 (by omega), eA 8 1 (by omega), eA 8 2 (by omega), eA 9 1 (by omega), eA 9 2 (by omega)]; exact h6
          · unfold rb_ok; rw [eA 8 1 (by omega), eA 8 2 (by omega), eA 9 1 (by omega), eA 9 2 (by omega), eA 7 2 (by omega)]; exact h7
          · rw [eA 9 j (by omega)]; exact h8 j hj
          · rw [(ts_ad_2 j).2.2.1]
            split
            · omega
            · exact h8b j hj
          · rw [eB5 7 (by decide) (by decide), eA 7 2 (by omega)]; exact h9
          · rw [eB5 10 (by decide) (by decide), eA 0 8 (by omega)]; exact a1
          · rw [eB5 19 (by decide) (by decide), eA 0 9 (by omega)]; exact a2
          · rw [eA 32 3 (by omega), eA 10 3 (by omega), eB5 26 (by decide) (by decide)]; exact a3
          · rw [eA 0 8 (by omega)] at q; omega
          · rw [eA 0 9 (by omega), eA 10 3 (by omega), eA 14 3 (by omega), eA 26 6 (by omega), eA 32 4 (by omega), eA 35 4 (by omega), eB5 29 (by decide) (by decide), eB5 20 (by decide) (by decide)]
            exact b5
          · obtain ⟨l1, l2, l3, l4⟩ := hL.2.1
            have m0 : A 14 3 = 0 := b5.2.2.1
            refine ⟨by rw [eB5 15 (by decide) (by decide), eA 14 3 (by omega)]; exact l1, fun j hj => by rw [eA 15 j (by omega), eA 16 j (by omega), eA 17 j (by omega)]; exact l2 j hj, fun j hj => ?_, fun i j _ hj => ?_⟩
            · rw [eA 14 3 (by omega)] at hj; omega
            · rw [eA 14 3 (by omega)] at hj; omega
          · rw [eA 10 3 (by omega)] at hj
            rw [eA 11 j (by omega), eA 0 9 (by omega)]
            exact hL.2.2.1 j hj
          · rw [eA 14 3 (by omega)] at hj
            rw [eA 15 j (by omega), eA 0 9 (by omega)]
            exact hL.2.2.2 j hj
          · rw [eB 60 j (by omega), eA 13 j (by omega)]; exact z5 j hj
          · rw [eA 49 q (by omega), eB 70 q (by omega)]
            rw [eA 0 9 (by omega)] at hq
            exact z6 q hq
          · rw [eB 70 q (by omega)]; exact z7 q hq
          · rw [eA 48 3 (by omega), eA 48 4 (by omega), eA 48 5 (by omega), eB5 43 (by decide) (by decide), eB5 44 (by decide) (by decide), eB5 45 (by decide) (by decide)]; exact z8
    · rw [if_neg c1] at z; exact absurd z (by decide)
  · rw [if_neg z, if_neg z]
    exact lw_code h
