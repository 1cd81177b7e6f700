/-! a hard job's trial -/
theorem tl_R_of {B B' : am_M} {k : Nat} (h : tl_R B k) (e : ∀ k j, 51 ≤ k → k ≤ 55 → B' k j = B k j) : tl_R B' k := by
  unfold tl_R
  simp only [e 55 _ (show 51 ≤ 55 by omega) (show 55 ≤ 55 by omega), e 51 _ (show 51 ≤ 51 by omega) (show 51 ≤ 55 by omega), e 53 _ (show 51 ≤ 53 by omega) (show 53 ≤ 55 by omega), e 54 _ (show 51 ≤ 54 by omega) (show 54 ≤ 55 by omega)]
  exact h
/-- the reference in the trial -/
def hd_B (B : am_M) : Prop := tl_I B 0 ∧ (∀ k : Nat, (k : Int) < B 50 1 → tl_R B k) ∧ re_b B ∧ 0 ≤ B 50 19
theorem hd_fg {B : am_M} (h : hd_B B) (hm : B 50 19 ≤ 2500) : tl_I (mo_fg B) 1 ∧ re_b (mo_fg B) := by
  obtain ⟨h1, h2, h3, h4⟩ := h
  obtain ⟨q1, q2⟩ := tl_ready h1 h2
  exact ⟨q1, re_b_fg h3 q1.1 q1.2.2.1 h1.1.1 (by omega)⟩
theorem mo_fn_k {B : am_M} {k j : Nat} (h : k ≠ 50) (hk : k < 64 ∨ 66 < k) : mo_fn B k j = B k j := by
  unfold mo_fn mo_fw
  rw [am_up_k _ _ h]
  split
  · exact mo_fg_k h hk
  · unfold mo_rx
    rw [am_up_k _ _ (by omega)]
    exact mo_fg_k h hk
theorem mo_fn_50 {B : am_M} {j : Nat} (h : j ≠ 19) (h2 : j ≠ 29) : mo_fn B 50 j = B 50 j := by
  unfold mo_fn mo_fw
  rw [am_up_j _ _ h]
  split
  · exact mo_fg_50 h2
  · unfold mo_rx
    rw [am_up_k _ _ (by decide)]
    exact mo_fg_50 h2
theorem mo_fn_19 {B : am_M} : mo_fn B 50 19 = B 50 19 + 1 := by
  unfold mo_fn mo_fw
  rw [am_up_s]
  split
  · rw [mo_fg_50 (by decide)]
  · unfold mo_rx
    rw [am_up_k _ _ (by decide), mo_fg_50 (by decide)]
theorem mo_fn_ge {B : am_M} {k j : Nat} (hb2 : mo_ok (mo_fg B)) (h : k ≠ 50) (hj : B 50 1 ≤ j) : mo_fn B k j = B k j := by
  unfold mo_fn mo_fw
  rw [am_up_k _ _ h]
  split
  · exact mo_fg_ge h hj
  · rename_i c
    have c2 : mo_rt (mo_fg B) ≠ -1 := fun q => c (Or.inl q)
    have e1 : mo_fg B 50 1 = B 50 1 := mo_fg_50 (by decide)
    have := (mo_rt_b hb2).resolve_left c2
    unfold mo_rx
    rw [am_up_j _ _ (by omega)]
    exact mo_fg_ge h hj
theorem hd_next {B : am_M} (h : hd_B B) (hm : B 50 19 ≤ 2500) : hd_B (mo_fn B) := by
  obtain ⟨f1, f2⟩ := hd_fg h hm
  obtain ⟨h1, h2, h3, h4⟩ := h
  have e19 : mo_fg B 50 19 = B 50 19 := mo_fg_50 (by decide)
  have e01 : mo_fg B 50 1 = B 50 1 := mo_fg_50 (by decide)
  have ec : ∀ k j, 51 ≤ k → k ≤ 55 → mo_fn B k j = B k j := fun k j a b => mo_fn_k (by omega) (by omega)
  have ec2 : ∀ k j, 51 ≤ k → k ≤ 55 → mo_fg B k j = B k j := fun k j a b => mo_fg_c (by omega)
  have e65 : ∀ k j, k = 65 ∨ k = 66 → mo_fn B k j = mo_fg B k j := fun k j hk => by
    unfold mo_fn mo_fw
    rw [am_up_k _ _ (by omega)]
    split
    · rfl
    · exact am_up_k _ _ (by omega)
  have hN : tl_N (mo_fg B) (mo_fn B) := ⟨by rw [mo_fn_19, e19], by rw [mo_fn_50 (by decide) (by decide), e01], fun k j a b => by rw [ec k j a b, ec2 k j a b], fun j => ⟨e65 65 j (by decide), e65 66 j (by decide)⟩⟩
  have n1 : mo_fn B 50 1 = B 50 1 := mo_fn_50 (by decide) (by decide)
  have t : tl_I (mo_fn B) 0 := by
    by_cases c : mo_fq (mo_fg B)
    · refine tl_free f1 hN (fun t _ => ?_) c
      unfold mo_fn mo_fw
      rw [am_up_k _ _ (by decide), if_pos c]
    · refine tl_task f1 hN (fun q => c (Or.inl q)) (fun t _ => ?_)
      unfold mo_fn mo_fw
      rw [am_up_k _ _ (by decide), if_neg c]
      unfold mo_rx
      by_cases w : t = (mo_rt (mo_fg B)).toNat
      · rw [if_pos w, w, am_up_s]
      · rw [if_neg w, am_up_j _ _ w]
  refine ⟨t, fun k hk => tl_R_of (h2 k (by rw [← n1]; exact hk)) ec, fun j hj => ?_, by rw [mo_fn_19]; omega⟩
  have r := f2 j hj
  refine ⟨?_, by rw [e65 65 j (by decide)]; exact r.2.1, by rw [e65 66 j (by decide)]; exact r.2.2⟩
  by_cases c : (j : Int) < B 50 1
  · have a1 := t.1.2 j (by rw [n1]; exact c)
    have a2 := t.2.2.1 j (by rw [n1]; exact c)
    have b := h1.1.1.2 j c
    rw [ec 53 j (by omega) (by omega)] at a2
    omega
  · rw [mo_fn_ge f1.1.1 (by decide) (by omega)]
    exact (h3 j hj).1
/-- the class in the trial, beside it -/
def cv_l (d : Nat) (A : am_M) : Prop := ∀ j, j < 5 → (0 ≤ A (d + 1 + 1) j ∧ A (d + 1 + 1) j ≤ 3000) ∧ (0 ≤ A (d + 1 + 2) j ∧ A (d + 1 + 2) j ≤ 60) ∧ (0 ≤ A (d + 1 + 3) j ∧ A (d + 1 + 3) j ≤ 60) ∧ (0 ≤ A (d + 1 + 4) j ∧ A (d + 1 + 4) j ≤ 3000)
def hd_I (m : Int) (A B : am_M) : Prop := vr_T A B ∧ ts_ok A ∧ ts_pm A ∧ vr_L 37 m A B ∧ B 50 19 = m ∧ hd_B B ∧ cv_l 37 A ∧ sm_x A
/-- the class's memory behind a moment of the trial -/
def ht_n (a : Int) (M : am_M) : am_M := if co_rd 37 a M 1 5 ≤ (co_rk 37 (co_rd 37 a M) : Int) then co_rd 37 a M else if 0 < co_ms 37 a (co_rd 37 a M) then co_mm 37 a (co_rd 37 a M) else co_rn 37 (co_rk 37 (co_rd 37 a M)) (co_mm 37 a (co_rd 37 a M))
def ht_c (a : Int) (M : am_M) : Int := if co_rd 37 a M 1 5 ≤ (co_rk 37 (co_rd 37 a M) : Int) ∨ 0 < co_ms 37 a (co_rd 37 a M) then 1 else 0
theorem ht_lp_s (n : Nat) (a k : Int) (M : am_M) : ht_lp (n + 1) a k M = ht_lp n (a + 1) (k + ht_c a M) (ht_n a M) := by
  rw [ht_lp]
  unfold ht_c ht_n
  by_cases c : co_rd 37 a M 1 5 ≤ (co_rk 37 (co_rd 37 a M) : Int)
  · rw [if_pos c, if_pos c, if_pos (Or.inl c)]
  · rw [if_neg c, if_neg c]
    by_cases c2 : 0 < co_ms 37 a (co_rd 37 a M)
    · rw [if_pos c2, if_pos c2, if_pos (Or.inr c2)]
    · rw [if_neg c2, if_neg c2, if_neg (fun q => q.elim c c2), Int.add_zero]
theorem ht_n_k {a : Int} {M : am_M} {k j : Nat} (h : k < 20 ∨ (25 < k ∧ k < 39) ∨ 42 < k) : ht_n a M k j = M k j := by
  unfold ht_n
  split
  · exact co_rd_k (by omega)
  · split
    · exact (co_mm_k (by omega)).trans (co_rd_k (by omega))
    · exact (co_rn_k (by omega)).trans ((co_mm_k (by omega)).trans (co_rd_k (by omega)))
theorem hd_step {m : Int} {A B : am_M} (h : hd_I m A B) (hm : m ≤ 2500) : (ht_c m A = if mo_fq (mo_fg B) then 1 else 0) ∧ hd_I (m + 1) (ht_n m A) (mo_fn B) := by
  obtain ⟨h1, h2, h3, h4, h5, h6, h7, h8⟩ := h
  subst h5
  obtain ⟨f1, f2⟩ := hd_fg h6 hm
  have n6 := hd_next h6 hm
  have n0 := h6.2.2.2
  have t1 : vr_T (co_rd 37 (B 50 19) A) (mo_fg B) := vr_ready_T (by omega) h1
  have t2 : ts_ok (co_rd 37 (B 50 19) A) := ts_ok_of h2 (fun k j _ _ => co_rd_k (by omega))
  have t3 : ts_pm (co_rd 37 (B 50 19) A) := ts_pm_of h3 (fun k j _ _ => co_rd_k (by omega))
  have t4 : vr_L 37 (B 50 19 + 1) (co_rd 37 (B 50 19) A) (mo_fg B) := vr_ready (by omega) h1 h2 h4 rfl
  have e19 : mo_fg B 50 19 = B 50 19 := mo_fg_50 (by decide)
  have e01 : mo_fg B 50 1 = B 50 1 := mo_fg_50 (by decide)
  have st : lo_st 37 A := fun j hj => by have := h7 j hj; omega
  have li : lo_in 38 (co_rd 37 (B 50 19) A) := co_rd_in (d := 37) h2 st (by omega)
  have x0 : sm_x (co_rd 37 (B 50 19) A) := sm_x_of h8 (fun k j _ _ => co_rd_k (by omega))
  have xm : sm_x (co_mm 37 (B 50 19) (co_rd 37 (B 50 19) A)) := cv_mm_x (by omega) t2 li x0 (by omega)
  have sl : 0 < mo_sn (mo_fg B) 1 (mo_fg B 50 1).toNat ↔ 0 < co_ms 37 (B 50 19) (co_rd 37 (B 50 19) A) := sl_tick (by omega) e19 t1 t2 t3 f1.1 t4 (fun r hr => tl_en (by omega) f1 hr)
  have rt := vr_rt t1 t2 (vr_L_N t4)
  have rq : (co_rd 37 (B 50 19) A 1 5 ≤ (co_rk 37 (co_rd 37 (B 50 19) A) : Int)) ↔ mo_rt (mo_fg B) = -1 := by
    constructor
    · intro c; rw [rt, if_pos c]
    · intro c
      by_cases w : co_rd 37 (B 50 19) A 1 5 ≤ (co_rk 37 (co_rd 37 (B 50 19) A) : Int)
      · exact w
      · rw [rt, if_neg w] at c
        have := (t2.2 (co_rk 37 (co_rd 37 (B 50 19) A)) (by omega)).1
        omega
  have fq : mo_fq (mo_fg B) ↔ (co_rd 37 (B 50 19) A 1 5 ≤ (co_rk 37 (co_rd 37 (B 50 19) A) : Int) ∨ 0 < co_ms 37 (B 50 19) (co_rd 37 (B 50 19) A)) := by
    unfold mo_fq
    rw [rq, sl]
  have e1 : ∀ k j, k < 20 → ht_n (B 50 19) A k j = A k j := fun k j hk => ht_n_k (by omega)
  have L' : vr_L 37 (B 50 19 + 1) (ht_n (B 50 19) A) (mo_fw (mo_fg B)) := by
    unfold ht_n mo_fw
    by_cases c : co_rd 37 (B 50 19) A 1 5 ≤ (co_rk 37 (co_rd 37 (B 50 19) A) : Int)
    · rw [if_pos c, if_pos (fq.2 (Or.inl c))]
      exact t4
    · rw [if_neg c]
      have m4 : vr_L 37 (B 50 19 + 1) (co_mm 37 (B 50 19) (co_rd 37 (B 50 19) A)) (mo_fg B) := vr_L_of t4 (fun k j _ _ => co_mm_k (by omega)) (fun k j _ _ => co_mm_k (by omega)) (fun _ _ _ _ => rfl)
      have m1 : vr_T (co_mm 37 (B 50 19) (co_rd 37 (B 50 19) A)) (mo_fg B) := vr_T_of t1 (fun k j _ _ => co_mm_k (by omega)) rfl (fun _ _ _ _ => rfl)
      have m2 : ts_ok (co_mm 37 (B 50 19) (co_rd 37 (B 50 19) A)) := ts_ok_of t2 (fun k j _ _ => co_mm_k (by omega))
      by_cases c2 : 0 < co_ms 37 (B 50 19) (co_rd 37 (B 50 19) A)
      · rw [if_pos c2, if_pos (fq.2 (Or.inr c2))]
        exact m4
      · rw [if_neg c2, if_neg (fun q => (fq.1 q).elim c c2)]
        have er : co_rk 37 (co_mm 37 (B 50 19) (co_rd 37 (B 50 19) A)) = co_rk 37 (co_rd 37 (B 50 19) A) := (vr_rk m1 m2 (vr_L_N m4)).symm.trans (vr_rk t1 t2 (vr_L_N t4))
        rw [← er]
        refine vr_run (by omega) m1 m2 m4 ?_ (vr_L_N m4)
        rw [er, show co_mm 37 (B 50 19) (co_rd 37 (B 50 19) A) 1 5 = co_rd 37 (B 50 19) A 1 5 from co_mm_k (by omega)]
        omega
  have L2 : vr_L 37 (B 50 19 + 1) (ht_n (B 50 19) A) (mo_fn B) := vr_L_of L' (fun _ _ _ _ => rfl) (fun _ _ _ _ => rfl) (fun k j _ _ => am_up_k _ _ (by omega))
  have T' : vr_T (ht_n (B 50 19) A) (mo_fn B) := vr_T_of h1 (fun k j _ _ => e1 k j (by omega)) (mo_fn_50 (by decide) (by decide)) (fun k j _ _ => mo_fn_k (by omega) (by omega))
  have ok' : ts_ok (ht_n (B 50 19) A) := ts_ok_of h2 (fun k j _ _ => e1 k j (by omega))
  have e15 : ht_n (B 50 19) A 1 5 = A 1 5 := e1 1 5 (by omega)
  refine ⟨?_, T', ok', ts_pm_of h3 (fun k j _ _ => e1 k j (by omega)), L2, mo_fn_19, n6, fun j hj => ?_, ?_⟩
  · unfold ht_c
    by_cases c : mo_fq (mo_fg B)
    · rw [if_pos c, if_pos (fq.1 c)]
    · rw [if_neg c, if_neg (fun q => c (fq.2 q))]
  · by_cases c : (j : Int) < A 1 5
    · obtain ⟨l1, l2, l3, l4⟩ := L2 j (by rw [e15]; exact c)
      have t := ok'.2 j (by rw [e15]; exact c)
      have q := n6.2.2.1 j hj
      have nx := cv_nx (o := ht_n (B 50 19) A 3 j) (p := ht_n (B 50 19) A 2 j) (y := B 50 19 + 1) (by omega) (by omega) (by omega)
      rw [l1, l2, ← l3, ← l4]
      refine ⟨by omega, ?_, q.1, q.2.1⟩
      split <;> omega
    · have e : ∀ k, ht_n (B 50 19) A k j = A k j ∨ k < 26 := fun k => by
        by_cases w : k < 26
        · exact Or.inr w
        · left
          have r0 : co_rd 37 (B 50 19) A k j = A k j := co_rd_ge (by omega)
          have r1 : co_mm 37 (B 50 19) (co_rd 37 (B 50 19) A) k j = A k j := (co_mm_k (by omega)).trans r0
          unfold ht_n
          split
          · exact r0
          · split
            · exact r1
            · rw [co_rn_ge (ts_ok_of t2 (fun k j _ _ => co_mm_k (by omega))) (by rw [show co_mm 37 (B 50 19) (co_rd 37 (B 50 19) A) 1 5 = A 1 5 from (co_mm_k (by omega)).trans (co_rd_k (by omega))]; omega), r1]
      have e' : ∀ k, 26 ≤ k → ht_n (B 50 19) A k j = A k j := fun k hk => (e k).resolve_right (by omega)
      rw [e' _ (by omega), e' _ (by omega), e' _ (by omega), e' _ (by omega)]
      exact h7 j hj
  · unfold ht_n
    split
    · exact x0
    · split
      · exact xm
      · exact sm_x_of xm (fun k j _ _ => co_rn_k (by omega))
theorem mo_fz_s (Y : am_M) : ∀ n : Nat, mo_fz (n + 1) Y = mo_fz n (mo_fn Y)
  | 0 => rfl
  | n + 1 => by
    have h := mo_fz_s Y n
    show mo_fn (mo_fz (n + 1) Y) = mo_fn (mo_fz n (mo_fn Y))
    rw [h]
theorem mo_fc_s (Y : am_M) (n : Nat) : mo_fc Y (n + 1) = (if mo_fq (mo_fg Y) then 1 else 0) + mo_fc (mo_fn Y) n := by
  unfold mo_fc
  rw [ma_su_sh]
  congr 1
  exact ma_su_eq (fun i _ => by rw [mo_fz_s])
/-- THE TRIAL: both count the same ticks -/
theorem hd_all : ∀ (n : Nat) (m k : Int) (A B : am_M), hd_I m A B → m + n ≤ 2500 → (ht_lp n m k A).1 = k + mo_fc B n ∧ hd_I (m + n) (ht_lp n m k A).2 (mo_fz n B)
  | 0, m, k, A, B, h, _ => by
    refine ⟨?_, ?_⟩
    · show k = k + 0
      omega
    · rw [show m + ((0 : Nat) : Int) = m by omega]
      exact h
  | n + 1, m, k, A, B, h, hm => by
    obtain ⟨c, h'⟩ := hd_step h (by omega)
    obtain ⟨a1, a2⟩ := hd_all n (m + 1) (k + ht_c m A) (ht_n m A) (mo_fn B) h' (by omega)
    rw [ht_lp_s, mo_fc_s, mo_fz_s, a1, c]
    refine ⟨by omega, ?_⟩
    rw [show m + ((n + 1 : Nat) : Int) = m + 1 + (n : Int) by omega, ← c]
    exact a2
/-- what the reference's trial asks for, at each of its moments -/
theorem hd_P {B : am_M} (h : hd_B B) (hm : B 50 19 ≤ 2500) : P_MO_getReady [.inr (.inl 50)] B ∧ P_MO_readyTask [.inr (.inl 50)] (mo_fg B) ∧ P_MO_slackNow [.inr (.inl 50), .inl 1] (mo_fg B) := by
  obtain ⟨f1, f2⟩ := hd_fg h hm
  obtain ⟨h1, h2, h3, h4⟩ := h
  have e19 : mo_fg B 50 19 = B 50 19 := mo_fg_50 (by decide)
  refine ⟨⟨rfl, h1.1.1, by omega, fun j hj => ?_⟩, ⟨rfl, f1.1.1, fun j hj => ?_⟩, ⟨rfl, ⟨f1.1.1, by rw [e19]; omega, fun j hj => ?_⟩, Or.inr rfl⟩⟩
  · have := h3 j hj
    exact ⟨⟨by omega, by omega⟩, ⟨by omega, by omega⟩, ⟨by omega, by omega⟩⟩
  · have := f2 j hj
    exact ⟨by omega, by omega⟩
  · have := f2 j hj
    omega
theorem hd_it : ∀ (n : Nat) (B : am_M), hd_B B → B 50 19 + n ≤ 2500 → hd_B (mo_fz n B) ∧ mo_fz n B 50 19 = B 50 19 + n
  | 0, B, h, _ => ⟨h, by show B 50 19 = B 50 19 + ((0 : Nat) : Int); omega⟩
  | n + 1, B, h, hm => by
    obtain ⟨a1, a2⟩ := hd_it n B h (by omega)
    refine ⟨hd_next a1 (by omega), ?_⟩
    show mo_fn (mo_fz n B) 50 19 = _
    rw [mo_fn_19, a2]
    omega
