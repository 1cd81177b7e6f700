/-! the law's calls: early, ended, trace, served, slack, state -/
def sd_ec (A : am_M) (t k : Int) : Int := if (0 ≤ t ∧ t ≤ A 1 5 - 1) ∧ (1 ≤ k ∧ k ≤ A 4 t.toNat) then (if A 0 8 = 0 ∨ 200 ≤ A 14 3 then 2 else 0) else 1
def sd_eX (t k : Int) (A : am_M) : am_M := g_EL_add [.inr (.inl 14), .inl (A 0 9), .inl t, .inl k] A
def sd_eg (t k : Int) (A : am_M) : am_M := g_LO_shorten [.inr (.inl 27), .inl t, .inl k] (sd_eX t k A)
theorem sd_ec_eq {A B : am_M} {t k : Int} (h : lw_I A B) : mo_ec B t k = sd_ec A t k := by
  obtain ⟨hT, ⟨a1, a2, a3, a4, a5⟩, hL, hZ⟩ := h
  have e0 := hL.2.1.1
  unfold mo_ec sd_ec
  rw [a1.1, e0.1, hT.1.1]
  by_cases q : 0 ≤ t ∧ t ≤ A 1 5 - 1
  · have e4 : B 53 t.toNat = A 4 t.toNat := (hT.1.2 t.toNat (by have := hT.2.1.1; omega)).2.2.1
    rw [e4]
    by_cases c : (0 ≤ t ∧ t ≤ A 1 5 - 1) ∧ (1 ≤ k ∧ k ≤ A 4 t.toNat)
    · rw [if_pos c, if_pos c]
      by_cases c2 : A 0 8 = 0 ∨ 200 ≤ A 14 3
      · rw [if_pos c2, if_pos (by omega)]
      · rw [if_neg c2, if_neg (by omega)]
    · rw [if_neg c, if_neg c]
  · rw [if_neg (fun w => q w.1), if_neg (fun w => q w.1)]
theorem sd_ec_0 {A B : am_M} {t k : Int} (h : lw_I A B) (hc : sd_ec A t k = 0) : ((0 ≤ t ∧ t < A 1 5) ∧ (1 ≤ k ∧ k ≤ A 4 t.toNat)) ∧ A 0 8 = 1 ∧ A 14 3 < 200 := by
  have a1 := h.2.1.1
  unfold sd_ec at hc
  by_cases q : (0 ≤ t ∧ t ≤ A 1 5 - 1) ∧ (1 ≤ k ∧ k ≤ A 4 t.toNat)
  · rw [if_pos q] at hc
    by_cases c2 : A 0 8 = 0 ∨ 200 ≤ A 14 3
    · rw [if_pos c2] at hc; exact absurd hc (by decide)
    · omega
  · rw [if_neg q] at hc; exact absurd hc (by decide)
theorem el_k {A : am_M} {m t k : Int} {a j : Nat} (h : a < 14 ∨ 17 < a) : g_EL_add [.inr (.inl 14), .inl m, .inl t, .inl k] A a j = A a j := by
  simp only [g_EL_add]
  rw [am_up_k _ _ (by omega), am_up_k _ _ (by omega), am_up_k _ _ (by omega), am_up_k _ _ (by omega)]
theorem el_v {A : am_M} {m t k : Int} : g_EL_add [.inr (.inl 14), .inl m, .inl t, .inl k] A 14 3 = A 14 3 + 1 ∧ ∀ j, g_EL_add [.inr (.inl 14), .inl m, .inl t, .inl k] A 15 j = (if j = (A 14 3).toNat then m else A 15 j) ∧ g_EL_add [.inr (.inl 14), .inl m, .inl t, .inl k] A 16 j = (if j = (A 14 3).toNat then t else A 16 j) ∧ g_EL_add [.inr (.inl 14), .inl m, .inl t, .inl k] A 17 j = (if j = (A 14 3).toNat then k else A 17 j) := by
  simp only [g_EL_add]
  refine ⟨am_up_s _ _ _ _, fun j => ?_⟩
  by_cases q : j = (A 14 3).toNat
  · rw [if_pos q, if_pos q, if_pos q, q, am_up_k _ _ (by decide), am_up_k _ _ (by decide), am_up_k _ _ (by decide), am_up_s, am_up_k _ _ (by decide), am_up_k _ _ (by decide), am_up_s, am_up_k _ _ (by decide), am_up_s]
    exact ⟨rfl, rfl, rfl⟩
  · rw [if_neg q, if_neg q, if_neg q, am_up_k _ _ (by decide), am_up_j _ _ q, am_up_j _ _ q, am_up_j _ _ q, am_up_k _ _ (by decide), am_up_j _ _ q, am_up_j _ _ q, am_up_j _ _ q, am_up_k _ _ (by decide), am_up_j _ _ q, am_up_j _ _ q, am_up_j _ _ q]
    exact ⟨rfl, rfl, rfl⟩
theorem mo_e2_k {B : am_M} {t k : Int} {a j : Nat} (h : a ≠ 50 ∨ (j ≠ 0 ∧ j ≠ 15)) (h2 : a < 61 ∨ 63 < a) : mo_e2 B t k a j = B a j := by
  unfold mo_e2 mo_e1
  by_cases c : a = 50
  · subst c
    rw [am_up_j _ _ (by omega), am_up_k _ _ (by omega), am_up_k _ _ (by omega), am_up_k _ _ (by omega), am_up_j _ _ (by omega)]
  · rw [am_up_k _ _ c, am_up_k _ _ (by omega), am_up_k _ _ (by omega), am_up_k _ _ (by omega), am_up_k _ _ c]
theorem mo_e2_v {B : am_M} {t k : Int} : mo_e2 B t k 50 15 = B 50 15 + 1 ∧ ∀ j, mo_e2 B t k 63 j = (if j = (B 50 15).toNat then B 50 19 else B 63 j) ∧ mo_e2 B t k 61 j = (if j = (B 50 15).toNat then t else B 61 j) ∧ mo_e2 B t k 62 j = (if j = (B 50 15).toNat then k else B 62 j) := by
  unfold mo_e2 mo_e1
  refine ⟨am_up_s _ _ _ _, fun j => ?_⟩
  by_cases q : j = (B 50 15).toNat
  · rw [if_pos q, if_pos q, if_pos q, q, am_up_k _ _ (by decide), am_up_s, am_up_k _ _ (by decide), am_up_k _ _ (by decide), am_up_k _ _ (by decide), am_up_s, am_up_k _ _ (by decide), am_up_k _ _ (by decide), am_up_s]
    exact ⟨rfl, rfl, rfl⟩
  · rw [if_neg q, if_neg q, if_neg q, am_up_k _ _ (by decide), am_up_j _ _ q, am_up_j _ _ q, am_up_j _ _ q, am_up_k _ _ (by decide), am_up_k _ _ (by decide), am_up_j _ _ q, am_up_j _ _ q, am_up_j _ _ q, am_up_k _ _ (by decide), am_up_k _ _ (by decide), am_up_j _ _ q, am_up_j _ _ q, am_up_j _ _ q, am_up_k _ _ (by decide)]
    exact ⟨rfl, rfl, rfl⟩
/-- AN EARLY ONE -/
theorem sd_early {A B : am_M} {t k : Int} (h : lw_I A B) : lw_I (if sd_ec A t k = 0 then sd_eg t k A else A) (g_MO_early [.inr (.inl 50), .inl t, .inl k] B) ∧ (sd_ec A t k = 0 → P_EL_add [.inr (.inl 14), .inl (A 0 9), .inl t, .inl k] A ∧ (am_R t → am_R k → P_LO_shorten [.inr (.inl 27), .inl t, .inl k] (sd_eX t k A))) := by
  have ec := sd_ec_eq (t := t) (k := k) h
  simp only [g_MO_early]
  rw [ec]
  by_cases z : sd_ec A t k = 0
  · rw [if_pos z, if_pos z]
    obtain ⟨g1, g2, g3⟩ := sd_ec_0 h z
    obtain ⟨hT, ⟨a1, a2, a3, a4, a5⟩, hL, ⟨z1, z2, z3, z4, z5, z6, z7, z8⟩⟩ := h
    obtain ⟨cv, hk⟩ := a4 g2
    have e0 := hL.2.1.1
    have n0 : (A 14 3).toNat = (B 50 15).toNat := by omega
    have k1 : ∀ a j, a < 14 ∨ 17 < a → sd_eX t k A a j = A a j := fun a j x => el_k x
    obtain ⟨v3, v1⟩ := el_v (A := A) (m := A 0 9) (t := t) (k := k)
    have b1 : ∀ a j, a ≠ 50 ∨ (j ≠ 0 ∧ j ≠ 15) → a < 61 ∨ 63 < a → mo_e2 B t k a j = B a j := fun a j x y => mo_e2_k x y
    obtain ⟨w3, w1⟩ := mo_e2_v (B := B) (t := t) (k := k)
    rw [← n0] at w1
    have C1 : cv_A 26 (A 0 9) (sd_eX t k A) (mo_e2 B t k) := cv_A_of cv (fun a j _ _ => k1 a j (by omega)) (fun a j _ _ => k1 a j (by omega)) (fun j => k1 13 j (by omega)) (fun a j _ _ => k1 a j (by omega)) (b1 50 1 (by omega) (by omega)) (b1 50 19 (by omega) (by omega)) (b1 50 20 (by omega) (by omega)) (b1 50 24 (by omega) (by omega)) (b1 50 26 (by omega) (by omega)) (b1 50 29 (by omega) (by omega)) (fun a j _ _ _ => b1 a j (by omega) (by omega))
    have C2 := cv_A_tell (d := 26) (t := t) (k := k) (Or.inl rfl) C1 (by rw [k1 1 5 (by omega)]; exact g1.1) (by rw [k1 4 _ (by omega)]; exact g1.2)
    have C : cv_A 26 (A 0 9) (sd_eg t k A) (g_MO_tell [.inr (.inl 50), .inl t, .inl k] (mo_e2 B t k)) := C2
    have kA : ∀ a j, a ≠ 29 → sd_eg t k A a j = sd_eX t k A a j := fun a j x => lo_sh_k (by omega)
    have kA2 : ∀ a j, a ≠ 29 → a < 14 ∨ 17 < a → sd_eg t k A a j = A a j := fun a j x y => (kA a j x).trans (k1 a j y)
    have kB : ∀ a j, a ≠ 66 → g_MO_tell [.inr (.inl 50), .inl t, .inl k] (mo_e2 B t k) a j = mo_e2 B t k a j := fun a j x => mo_tell_k x
    have kB2 : ∀ a j, a ≠ 66 → a ≠ 50 ∨ (j ≠ 0 ∧ j ≠ 15) → a < 61 ∨ 63 < a → g_MO_tell [.inr (.inl 50), .inl t, .inl k] (mo_e2 B t k) a j = B a j := fun a j x y w => (kB a j x).trans (b1 a j y w)
    have k14 : sd_eg t k A 14 3 = A 14 3 + 1 := (kA 14 3 (by omega)).trans v3
    have ts5 := hT.2.1.2
    refine ⟨⟨lw_T_of hT (fun a j _ _ => kA2 a j (by omega) (by omega)) ⟨kB2 50 1 (by omega) (by omega) (by omega), kB2 50 7 (by omega) (by omega) (by omega)⟩ (fun a j _ _ => kB2 a j (by omega) (by omega) (by omega)), ⟨?_, ?_, ?_, fun _ => ⟨by rw [kA2 0 9 (by omega) (by omega)]; exact C, ?_⟩, fun q => ?_⟩, ⟨lg_J_of hL.1 (fun a j _ _ => kA2 a j (by omega) (by omega)) (kB2 50 11 (by omega) (by omega) (by omega)) (fun a j _ _ => kB2 a j (by omega) (by omega) (by omega)), ⟨⟨?_, by omega, by omega⟩, fun j hj => ?_, fun j hj => ?_, fun i j hij hj => ?_⟩, fun j hj => ?_, fun j hj => ?_⟩, ⟨C.2.1.1, C.2.1.2.2.2.1, C.2.1.2.2.2.2⟩, cv_0_of z2 (fun a j _ _ => kA2 a j (by omega) (by omega)) (fun j => kA2 13 j (by omega) (by omega)) (fun a j _ _ => kA2 a j (by omega) (by omega)), re_0_of z3 (fun a j hk => kB2 a j (by omega) (by omega) (by omega)), C.2.2.1, fun j hj => ?_, fun q hq => ?_, fun q hq => ?_, ?_⟩, fun _ => ⟨⟨rfl, by omega⟩, fun r1 r2 => ⟨⟨rfl, rfl, rfl, rfl, rfl, by decide, by decide⟩, by rw [k1 1 5 (by omega)]; exact hT.2.1.1, r1, r2, fun j hj => ?_⟩⟩⟩
    · rw [kB2 50 10 (by omega) (by omega) (by omega), kA2 0 8 (by omega) (by omega)]; exact a1
    · rw [kB2 50 19 (by omega) (by omega) (by omega), kA2 0 9 (by omega) (by omega)]; exact a2
    · rw [kA2 32 3 (by omega) (by omega), kA2 10 3 (by omega) (by omega), kB2 50 26 (by omega) (by omega) (by omega)]; exact a3
    · rw [kA2 26 5 (by omega) (by omega), kA2 7 2 (by omega) (by omega)]; exact hk
    · rw [kA2 0 8 (by omega) (by omega)] at q; omega
    · rw [kB 50 15 (by omega), w3, k14, e0.1]
    · have := hL.2.1.2.1 j hj
      have t5 := hT.2.1.1
      have t4 := ts5 t.toNat (by omega)
      rw [kA 15 j (by omega), kA 16 j (by omega), kA 17 j (by omega)]
      show (0 ≤ g_EL_add [.inr (.inl 14), .inl (A 0 9), .inl t, .inl k] A 15 j ∧ g_EL_add [.inr (.inl 14), .inl (A 0 9), .inl t, .inl k] A 15 j ≤ 2000) ∧ (0 ≤ g_EL_add [.inr (.inl 14), .inl (A 0 9), .inl t, .inl k] A 16 j ∧ g_EL_add [.inr (.inl 14), .inl (A 0 9), .inl t, .inl k] A 16 j ≤ 5) ∧ (0 ≤ g_EL_add [.inr (.inl 14), .inl (A 0 9), .inl t, .inl k] A 17 j ∧ g_EL_add [.inr (.inl 14), .inl (A 0 9), .inl t, .inl k] A 17 j ≤ 60)
      rw [(v1 j).1, (v1 j).2.1, (v1 j).2.2]
      by_cases q : j = (A 14 3).toNat
      · rw [if_pos q, if_pos q, if_pos q]; omega
      · rw [if_neg q, if_neg q, if_neg q]; exact this
    · rw [k14] at hj
      rw [kB 63 j (by omega), kB 61 j (by omega), kB 62 j (by omega), kA 15 j (by omega), kA 16 j (by omega), kA 17 j (by omega), kA2 1 5 (by omega) (by omega), kA2 4 _ (by omega) (by omega), (w1 j).1, (w1 j).2.1, (w1 j).2.2]
      rw [show sd_eX t k A 15 j = _ from (v1 j).1, show sd_eX t k A 16 j = _ from (v1 j).2.1, show sd_eX t k A 17 j = _ from (v1 j).2.2]
      by_cases q : j = (A 14 3).toNat
      · rw [if_pos q, if_pos q, if_pos q, if_pos q, if_pos q, if_pos q]
        exact ⟨⟨a2.1, rfl, rfl⟩, g1.1.2, g1.2⟩
      · rw [if_neg q, if_neg q, if_neg q, if_neg q, if_neg q, if_neg q]
        exact hL.2.1.2.2.1 j (by omega)
    · rw [k14] at hj
      rw [kA 15 i (by omega), kA 15 j (by omega), show sd_eX t k A 15 j = _ from (v1 j).1, show sd_eX t k A 15 i = _ from (v1 i).1]
      by_cases q : j = (A 14 3).toNat
      · rw [if_pos q]
        by_cases q2 : i = (A 14 3).toNat
        · rw [if_pos q2]; exact Int.le_refl _
        · rw [if_neg q2]; exact hL.2.2.2 i (by omega)
      · rw [if_neg q, if_neg (by omega)]
        exact hL.2.1.2.2.2 i j hij (by omega)
    · rw [kA2 10 3 (by omega) (by omega)] at hj
      rw [kA2 11 j (by omega) (by omega), kA2 0 9 (by omega) (by omega)]
      exact hL.2.2.1 j hj
    · rw [k14] at hj
      rw [kA 15 j (by omega), kA2 0 9 (by omega) (by omega), show sd_eX t k A 15 j = _ from (v1 j).1]
      by_cases q : j = (A 14 3).toNat
      · rw [if_pos q]; exact Int.le_refl _
      · rw [if_neg q]; exact hL.2.2.2 j (by omega)
    · rw [kB2 60 j (by omega) (by omega) (by omega), kA2 13 j (by omega) (by omega)]; exact z5 j hj
    · rw [kA2 49 q (by omega) (by omega), kB2 70 q (by omega) (by omega) (by omega)]
      rw [kA2 0 9 (by omega) (by omega)] at hq
      exact z6 q hq
    · rw [kB2 70 q (by omega) (by omega) (by omega)]; exact z7 q hq
    · rw [kA2 48 3 (by omega) (by omega), kA2 48 4 (by omega) (by omega), kA2 48 5 (by omega) (by omega), kB2 50 43 (by omega) (by omega) (by omega), kB2 50 44 (by omega) (by omega) (by omega), kB2 50 45 (by omega) (by omega) (by omega)]; exact z8
    · rw [k1 (27 + 2) j (by omega)]
      have q : 0 ≤ A (27 + 2) j ∧ A (27 + 2) j ≤ 60 := (z1.1 j hj).2.1
      exact ⟨by omega, by omega⟩
  · rw [if_neg z, if_neg z]
    exact ⟨lw_code h, fun q => absurd q z⟩
theorem sd_early_P {A B : am_M} {t k : Int} (h : lw_I A B) (r1 : am_R t) (r2 : am_R k) : P_MO_early [.inr (.inl 50), .inl t, .inl k] B := by
  obtain ⟨hT, ⟨a1, a2, a3, a4, a5⟩, hL, ⟨z1, z2, z3, z4, z5, z6, z7, z8⟩⟩ := h
  obtain ⟨h1, h2, h3, h4, h5, h6, h7, h8, h8b, h9⟩ := hT
  refine ⟨rfl, r1, r2, ⟨by omega, by omega⟩, (vr_ok h1 h2).1, by have := hL.2.1.1; omega, fun j hj => ?_, fun j hj => ?_⟩
  · rw [(h1.2 j hj).2.2.1]
    have := h8b j hj
    exact ⟨by omega, by omega⟩
  · have := z4 j hj
    exact ⟨by omega, by omega⟩
/-- ENDED -/
def sd_nc (A : am_M) (j : Int) : Int := if 0 ≤ j ∧ j ≤ A 10 3 - 1 then 0 else 1
theorem sd_ended {A B : am_M} {j : Int} (h : lw_I A B) (hR : am_R j) : P_MO_ended [.inr (.inl 50), .inl j] B ∧ lw_I A (g_MO_ended [.inr (.inl 50), .inl j] B) ∧ g_MO_ended [.inr (.inl 50), .inl j] B 50 0 = sd_nc A j ∧ (sd_nc A j = 0 → f_MO_ended [.inr (.inl 50), .inl j] B = some (.inl (A 34 j.toNat))) := by
  have j0 := h.2.2.1.1.1
  refine ⟨⟨rfl, hR, by omega⟩, lw_code h, ?_, fun z => ?_⟩
  · simp only [g_MO_ended]
    unfold sd_nc
    rw [am_up_s, j0.1]
  · unfold sd_nc at z
    by_cases c : 0 ≤ j ∧ j ≤ A 10 3 - 1
    · simp only [f_MO_ended]
      rw [if_pos (by rw [j0.1]; exact c)]
      obtain ⟨hT, ⟨a1, a2, a3, a4, a5⟩, hL, hZ⟩ := h
      have s1 : A 0 8 = 1 := by
        rcases a1.2 with q | q
        · have := (a5 q).2.1; omega
        · exact q
      have q := (a4 s1).1.1.1.2.2.2.1.2.1 j.toNat (by show ((j.toNat : Nat) : Int) < A 32 3; omega)
      rw [q.2.2.1]
    · rw [if_neg c] at z; exact absurd z (by decide)
/-- TRACE -/
def sd_xc (A : am_M) (j : Int) : Int := if 0 ≤ j ∧ j ≤ A 0 9 - 1 then 0 else 1
theorem sd_trace {A B : am_M} {j : Int} (h : lw_I A B) (hR : am_R j) : P_MO_trace [.inr (.inl 50), .inl j] B ∧ lw_I A (g_MO_trace [.inr (.inl 50), .inl j] B) ∧ g_MO_trace [.inr (.inl 50), .inl j] B 50 0 = sd_xc A j ∧ (sd_xc A j = 0 → f_MO_trace [.inr (.inl 50), .inl j] B = some (.inl (A 49 j.toNat))) := by
  obtain ⟨hT, ⟨a1, a2, a3, a4, a5⟩, hL, ⟨z1, z2, z3, z4, z5, z6, z7, z8⟩⟩ := h
  have h : lw_I A B := ⟨hT, ⟨a1, a2, a3, a4, a5⟩, hL, ⟨z1, z2, z3, z4, z5, z6, z7, z8⟩⟩
  have e : (B 50 10 ≠ 0 ∧ 0 ≤ j ∧ j ≤ B 50 19 - 1) ↔ (0 ≤ j ∧ j ≤ A 0 9 - 1) := by
    rw [a1.1, a2.1]
    constructor
    · exact fun q => q.2
    · intro q
      refine ⟨fun w => ?_, q⟩
      have := (a5 w).1
      omega
  refine ⟨⟨rfl, hR, ⟨by omega, by omega⟩, by omega⟩, lw_code h, ?_, fun z => ?_⟩
  · simp only [g_MO_trace]
    unfold sd_xc
    rw [am_up_s]
    by_cases c : 0 ≤ j ∧ j ≤ A 0 9 - 1
    · rw [if_pos c, if_pos (e.2 c)]
    · rw [if_neg c, if_neg (fun q => c (e.1 q))]
  · unfold sd_xc at z
    by_cases c : 0 ≤ j ∧ j ≤ A 0 9 - 1
    · simp only [f_MO_trace]
      rw [if_pos (e.2 c), z6 j.toNat (by omega)]
    · rw [if_neg c] at z; exact absurd z (by decide)
/-- SERVED -/
def sd_vc (A : am_M) (a b : Int) : Int := if 0 ≤ a ∧ a ≤ b ∧ b ≤ A 0 9 then 0 else 1
theorem sd_served {A B : am_M} {a b : Int} (h : lw_I A B) (hR : am_R a ∧ am_R b) : P_MO_served [.inr (.inl 50), .inl a, .inl b] B ∧ lw_I A (g_MO_served [.inr (.inl 50), .inl a, .inl b] B) ∧ g_MO_served [.inr (.inl 50), .inl a, .inl b] B 50 0 = sd_vc A a b ∧ (sd_vc A a b = 0 → f_MO_served [.inr (.inl 50), .inl a, .inl b] B = some (.inl (ma_su (fun q => if A 49 (a.toNat + q) < 0 then 1 else 0) (b - a).toNat))) := by
  obtain ⟨hT, ⟨a1, a2, a3, a4, a5⟩, hL, ⟨z1, z2, z3, z4, z5, z6, z7, z8⟩⟩ := h
  have h : lw_I A B := ⟨hT, ⟨a1, a2, a3, a4, a5⟩, hL, ⟨z1, z2, z3, z4, z5, z6, z7, z8⟩⟩
  refine ⟨⟨rfl, hR.1, hR.2, by omega, fun j hj => ?_⟩, lw_code h, ?_, fun z => ?_⟩
  · have := z7 j hj
    exact ⟨by omega, by omega⟩
  · simp only [g_MO_served]
    unfold sd_vc
    rw [am_up_s, a2.1]
  · unfold sd_vc at z
    by_cases c : 0 ≤ a ∧ a ≤ b ∧ b ≤ A 0 9
    · simp only [f_MO_served]
      rw [if_pos (by rw [a2.1]; exact c)]
      congr 2
      refine ma_su_eq (fun q hq => ?_)
      rw [z6 (a.toNat + q) (by omega)]
    · rw [if_neg c] at z; exact absurd z (by decide)
/-- the meter's cells have changed -/
theorem cv_A_mm {d : Nat} {m : Int} {A B A' : am_M} (hd : 25 < d) (h : cv_A d m A B) (e : ∀ k j, k < 20 ∨ 25 < k → A' k j = A k j) (hx : sm_x A') : cv_A d m A' B := by
  obtain ⟨⟨⟨v1, v2, v3, v4, v5, v6⟩, vp, vr, vl⟩, ⟨c1, c2, c3, c4, c5⟩, vb, vq⟩ := h
  refine ⟨⟨⟨vr_T_of v1 (fun k j _ _ => e k j (by omega)) rfl (fun _ _ _ _ => rfl), ts_ok_of v2 (fun k j _ _ => e k j (by omega)), vr_L_of v3 (fun k j _ _ => e k j (by omega)) (fun k j _ _ => e k j (by omega)) (fun _ _ _ _ => rfl), vr_Q_of v4 (fun k j _ _ => e k j (by omega)) (fun j => e 13 j (by omega)) rfl (fun _ _ _ => rfl), v5, vr_U_of v6 (e d 5 (by omega)) (fun k j _ _ => e k j (by omega)) ⟨rfl, rfl⟩ (fun _ _ _ => rfl)⟩, ts_pm_of vp (fun k j _ _ => e k j (by omega)), vr, by rw [e d 6 (by omega)]; exact vl⟩, ⟨fun j hj => ?_, fun j hj => ?_, ?_, fun j hj => ?_, hx⟩, vb, vq⟩
  · rw [e _ j (by omega), e _ j (by omega), e _ j (by omega), e _ j (by omega)]; exact c1 j hj
  · rw [e _ j (by omega)]; exact c2 j hj
  · rw [e _ 2 (by omega)]; exact c3
  · rw [e _ j (by omega), e 13 j (by omega)]; exact c4 j hj
theorem lw_mm {A B A' : am_M} (h : lw_I A B) (e : ∀ k j, k < 20 ∨ (25 < k ∧ k < 39) ∨ 42 < k → A' k j = A k j) (hx : sm_x A') (hl : cv_l 37 A') : lw_I A' B := by
  obtain ⟨hT, ⟨a1, a2, a3, a4, a5⟩, hL, ⟨z1, z2, z3, z4, z5, z6, z7, z8⟩⟩ := h
  refine ⟨lw_T_of hT (fun k j _ _ => e k j (by omega)) ⟨rfl, rfl⟩ (fun _ _ _ _ => rfl), ⟨?_, ?_, ?_, fun c => ?_, fun c => ?_⟩, lw_L_of hL (fun k j hk => e k j (by omega)) (by rw [e 0 9 (by omega)]; exact Int.le_refl _) rfl rfl (fun _ _ _ _ => rfl), ⟨fun j hj => ?_, fun j hj => ?_, hx⟩, ⟨hl, fun j hj => ?_, hx⟩, z3, z4, fun j hj => ?_, fun q hq => ?_, z7, ?_⟩
  · rw [e 0 8 (by omega)]; exact a1
  · rw [e 0 9 (by omega)]; exact a2
  · rw [e 32 3 (by omega), e 10 3 (by omega)]; exact a3
  · rw [e 0 8 (by omega)] at c
    rw [e 0 9 (by omega), e 26 5 (by omega), e 7 2 (by omega)]
    obtain ⟨⟨⟨⟨v1, v2, v3, v4, v5, v6⟩, vp, vr, vl⟩, ⟨c1, c2, c3, c4, c5⟩, vb, vq⟩, hk⟩ := a4 c
    refine ⟨⟨⟨⟨vr_T_of v1 (fun k j _ _ => e k j (by omega)) rfl (fun _ _ _ _ => rfl), ts_ok_of v2 (fun k j _ _ => e k j (by omega)), vr_L_of v3 (fun k j _ _ => e k j (by omega)) (fun k j _ _ => e k j (by omega)) (fun _ _ _ _ => rfl), vr_Q_of v4 (fun k j _ _ => e k j (by omega)) (fun j => e 13 j (by omega)) rfl (fun _ _ _ => rfl), v5, vr_U_of v6 (e 26 5 (by omega)) (fun k j _ _ => e k j (by omega)) ⟨rfl, rfl⟩ (fun _ _ _ => rfl)⟩, ts_pm_of vp (fun k j _ _ => e k j (by omega)), vr, by rw [e 26 6 (by omega)]; exact vl⟩, ⟨fun j hj => ?_, fun j hj => ?_, ?_, fun j hj => ?_, hx⟩, vb, vq⟩, hk⟩
    · rw [e _ j (by omega), e _ j (by omega), e _ j (by omega), e _ j (by omega)]; exact c1 j hj
    · rw [e _ j (by omega)]; exact c2 j hj
    · rw [e _ 2 (by omega)]; exact c3
    · rw [e _ j (by omega), e 13 j (by omega)]; exact c4 j hj
  · rw [e 0 8 (by omega)] at c
    rw [e 0 9 (by omega), e 10 3 (by omega), e 14 3 (by omega), e 26 6 (by omega), e 32 4 (by omega), e 35 4 (by omega)]
    exact a5 c
  · rw [e _ j (by omega), e _ j (by omega), e _ j (by omega), e _ j (by omega)]; exact z1.1 j hj
  · rw [e _ j (by omega), e 13 j (by omega)]; exact z1.2.1 j hj
  · rw [e _ j (by omega), e 13 j (by omega)]; exact z2.2.1 j hj
  · rw [e 13 j (by omega)]; exact z5 j hj
  · rw [e 49 q (by omega)]
    rw [e 0 9 (by omega)] at hq
    exact z6 q hq
  · rw [e 48 3 (by omega), e 48 4 (by omega), e 48 5 (by omega)]; exact z8
/-- SLACK -/
def sd_lc (A : am_M) : Int := if A 0 8 = 0 then 1 else 0
theorem sd_slack {A B : am_M} (h : lw_I A B) : P_MO_slack [.inr (.inl 50)] B ∧ g_MO_slack [.inr (.inl 50)] B 50 0 = sd_lc A ∧ lw_I A (g_MO_slack [.inr (.inl 50)] B) ∧ (sd_lc A = 0 → P_SM_measure [.inr (.inl 18), .inr (.inl 27), .inl (A 0 9), .inl 1000] A ∧ f_MO_slack [.inr (.inl 50)] B = f_SM_measure [.inr (.inl 18), .inr (.inl 27), .inl (A 0 9), .inl 1000] A ∧ ∀ B', lw_I A B' → lw_I (g_SM_measure [.inr (.inl 18), .inr (.inl 27), .inl (A 0 9), .inl 1000] A) B') := by
  obtain ⟨hT, ⟨a1, a2, a3, a4, a5⟩, hL, ⟨z1, z2, z3, z4, z5, z6, z7, z8⟩⟩ := h
  have h : lw_I A B := ⟨hT, ⟨a1, a2, a3, a4, a5⟩, hL, ⟨z1, z2, z3, z4, z5, z6, z7, z8⟩⟩
  have ok := vr_ok hT.1 hT.2.1
  have uB : ∀ k j, k ≠ 50 ∨ j ≠ 0 → am_up B 50 0 0 k j = B k j := fun k j x => by
    by_cases c : k = 50
    · exact am_up_j _ _ (by omega)
    · exact am_up_k _ _ c
  have ok' : mo_ok (am_up B 50 0 0) := by
    refine ⟨by rw [uB 50 1 (by omega)]; exact ok.1, fun r hr => ?_⟩
    rw [uB 50 1 (by omega)] at hr ⊢
    rw [uB 55 r (by omega), uB 51 r (by omega), uB 52 r (by omega), uB 53 r (by omega), uB 54 r (by omega)]
    exact ok.2 r hr
  refine ⟨⟨rfl, ⟨by omega, by omega⟩, fun _ => ⟨ok', by rw [uB 50 19 (by omega)]; omega, fun j hj => ?_⟩⟩, ?_, lw_code h, fun z => ?_⟩
  · rw [uB 64 j (by omega), uB 65 j (by omega), uB 66 j (by omega)]
    have := z4 j hj
    omega
  · simp only [g_MO_slack]
    unfold sd_lc
    rw [am_up_s, a1.1]
  · have s1 : A 0 8 = 1 := by
      unfold sd_lc at z
      by_cases c : A 0 8 = 0
      · rw [if_pos c] at z; exact absurd z (by decide)
      · omega
    obtain ⟨cv, hk⟩ := a4 s1
    have li : lo_in 27 A := fun j hj => by have := z1.1 j hj; simp only [Nat.reduceAdd] at this ⊢; omega
    refine ⟨⟨rfl, ⟨rfl, rfl, rfl, rfl, rfl, by decide, by decide⟩, by decide, hT.2.1, li, z1.2.2, by omega, by omega⟩, ?_, fun B' hB' => ?_⟩
    · have C := (lw_code (v := 0) h).2.1.2.2.2.1 s1
      obtain ⟨⟨⟨v1, v2, v3, v4, v5, v6⟩, vp, vr, vl⟩, vc, vb, vq⟩ := C.1
      have e19 : am_up B 50 0 0 50 19 = A 0 9 := v5.1
      have q := sl_pub (d := 26) (by omega) v1 v2 vp (re_ok vr).1 (by rw [e19]; exact v3) (fun r hr => re_en vr hr)
      simp only [f_MO_slack, f_SM_measure]
      rw [a1.1, if_neg (by omega), ← e19]
      have e1 : am_up B 50 0 0 50 1 = B 50 1 := uB 50 1 (by omega)
      rw [e1] at q
      rw [← q]
    · have L := sm_L_b (b := 27) (m := A 0 9) (by omega) hT.2.1 li (by omega)
      have x := sm_lp_B (sm_L 27 A (A 0 9) - A 0 9).toNat (A 0 9) 1000 0 (sm_P 27 A) (sm_P_B (by omega) hT.2.1 li z1.2.2) (by omega) (by omega)
      have e : ∀ k j, k < 20 ∨ 25 < k → g_SM_measure [.inr (.inl 18), .inr (.inl 27), .inl (A 0 9), .inl 1000] A k j = A k j := fun k j hk => (sm_lp_k hk _ _ _ _).trans (sm_P_k hk)
      exact lw_mm hB' (fun k j hk => e k j (by omega)) x (fun j hj => by
        rw [e _ j (by omega), e _ j (by omega), e _ j (by omega), e _ j (by omega)]; exact z2.1 j hj)
/-- STATE -/
def sd_st (A : am_M) (j : Int) : Int := if j = 0 then A 48 3 else if j = 1 then A 48 4 else if j = 2 then A 26 6 else if j = 3 then A 48 5 else if j = 4 then A 0 9 else if j = 5 then A 32 4 else if j = 6 then A 1 6 else A 35 4
def sd_wc (j : Int) : Int := if 0 ≤ j ∧ j ≤ 7 then 0 else 1
theorem sd_state {A B : am_M} {j : Int} (h : lw_I A B) (hR : am_R j) : P_MO_state [.inr (.inl 50), .inl j] B ∧ lw_I A (g_MO_state [.inr (.inl 50), .inl j] B) ∧ g_MO_state [.inr (.inl 50), .inl j] B 50 0 = sd_wc j ∧ (sd_wc j = 0 → f_MO_state [.inr (.inl 50), .inl j] B = some (.inl (sd_st A j))) := by
  obtain ⟨hT, ⟨a1, a2, a3, a4, a5⟩, hL, ⟨z1, z2, z3, z4, z5, z6, z7, z8⟩⟩ := h
  have h : lw_I A B := ⟨hT, ⟨a1, a2, a3, a4, a5⟩, hL, ⟨z1, z2, z3, z4, z5, z6, z7, z8⟩⟩
  have ok := vr_ok hT.1 hT.2.1
  have uB : ∀ k j, k ≠ 50 ∨ j ≠ 0 → am_up B 50 0 0 k j = B k j := fun k j x => by
    by_cases c : k = 50
    · exact am_up_j _ _ (by omega)
    · exact am_up_k _ _ c
  have ok' : mo_ok (am_up B 50 0 0) := by
    refine ⟨by rw [uB 50 1 (by omega)]; exact ok.1, fun r hr => ?_⟩
    rw [uB 50 1 (by omega)] at hr ⊢
    rw [uB 55 r (by omega), uB 51 r (by omega), uB 52 r (by omega), uB 53 r (by omega), uB 54 r (by omega)]
    exact ok.2 r hr
  have hy : ∀ n, mo_hy (am_up B 50 0 0) n = mo_hy B n := fun n => mo_hy_c2 n (fun j _ => uB 51 j (by omega))
  have j0 := hL.1.1
  have k20 : 0 ≤ B 50 20 ∧ B 50 20 ≤ 3 := by
    rcases a1.2 with q | q
    · have := (a5 q).2.2.2.2.2.2; omega
    · exact (a4 q).1.1.2.2.1.1
  refine ⟨⟨rfl, hR, ⟨by omega, by omega⟩, ⟨rfl, by rw [uB 50 26 (by omega)]; omega, fun j hj => ?_⟩, ⟨rfl, ok', fun n hn => ?_⟩⟩, lw_code h, ?_, fun z => ?_⟩
  · rw [uB 68 j (by omega)]
    have := (z3 j hj).2
    exact ⟨by omega, by omega⟩
  · rw [hy]
    rw [uB 50 1 (by omega)] at hn
    exact hT.2.2.2.2.1 n (by omega)
  · simp only [g_MO_state]
    rw [am_up_s]
    rfl
  · have c : 0 ≤ j ∧ j ≤ 7 := by
      unfold sd_wc at z
      by_cases c : 0 ≤ j ∧ j ≤ 7
      · exact c
      · rw [if_neg c] at z; exact absurd z (by decide)
    simp only [f_MO_state]
    rw [if_pos c]
    have e2 : B 50 29 = A 26 6 := by
      rcases a1.2 with q | q
      · have := (a5 q).2.2.2.1; omega
      · exact (a4 q).1.1.2.2.2.symm
    have e5 : ma_su (fun q => if 0 < B 68 q then 1 else 0) (B 50 26).toNat = A 32 4 := by
      rcases a1.2 with q | q
      · have w := a5 q
        rw [a3.2, w.2.1, w.2.2.2.2.1]
        rfl
      · have v := (a4 q).1.1.1.2.2.2.1
        have v5 : A 32 4 = ma_su (fun j => if 0 < A 33 j then 1 else 0) (A 32 3).toNat := v.2.2
        rw [v5, a3.2, ← a3.1]
        refine ma_su_eq (fun i hi => ?_)
        have v2 : B 68 i = A 33 i := (v.2.1 i (by show (i : Int) < A 32 3; omega)).1
        rw [v2]
    have e7 : (if B 50 20 = 1 ∨ B 50 20 = 2 then B 50 24 else 0) = A 35 4 := by
      rcases a1.2 with q | q
      · have w := a5 q
        rw [if_neg (by omega), w.2.2.2.2.2.1]
      · obtain ⟨u1, u2, u3, u4, u5, u55, u7, u8⟩ := (a4 q).1.1.1.2.2.2.2.2
        have u4' : B 50 24 = A 35 4 := u4
        have u7' : A 26 5 = 0 ∨ A 26 5 = 3 → A 35 4 = 0 := u7
        by_cases w : B 50 20 = 1 ∨ B 50 20 = 2
        · rw [if_pos w]; exact u4'
        · rw [if_neg w]
          exact (u7' (by omega)).symm
    unfold mo_st sd_st
    rw [hy, uB 50 43 (by omega), uB 50 44 (by omega), uB 50 29 (by omega), uB 50 45 (by omega), uB 50 19 (by omega), uB 50 26 (by omega), uB 50 1 (by omega), uB 50 20 (by omega), uB 50 24 (by omega), e7, ← z8.1, ← z8.2.1, ← z8.2.2, e2, a2.1, ← (show A 1 6 = mo_hy B (B 50 1).toNat from hT.2.2.2.1)]
    rw [show ma_su (fun q => if 0 < am_up B 50 0 0 68 q then 1 else 0) (B 50 26).toNat = A 32 4 from (ma_su_eq (fun q _ => by rw [uB 68 q (by omega)])).trans e5]
