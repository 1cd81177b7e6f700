/-! class and reference agree: a task comes in (wip/whole/p61.py) -/
theorem am_ins_sp {dl od : Nat} {num d : Int} : ∀ (r : Nat) (M : am_M), ∃ x, x ≤ r ∧ ∀ q, am_ins dl od num d r M od q = if q < x then M od q else if q = x then num else if q ≤ r then M od (q - 1) else M od q
  | 0, M => ⟨0, Nat.le_refl _, fun q => by
    rw [am_ins]
    by_cases c : q = 0
    · subst c; rw [am_up_s, if_neg (by omega), if_pos rfl]
    · rw [am_up_j _ _ c, if_neg (by omega), if_neg c, if_neg (by omega)]⟩
  | r + 1, M => by
    rw [am_ins]
    by_cases h : d < M dl (M od r).toNat
    · rw [if_pos h]
      obtain ⟨x, hx, hq⟩ := am_ins_sp (dl := dl) (od := od) (num := num) (d := d) r (am_up M od (r + 1) (M od r))
      refine ⟨x, by omega, fun q => ?_⟩
      rw [hq q]
      by_cases c1 : q < x
      · rw [if_pos c1, if_pos c1, am_up_j _ _ (by omega)]
      · rw [if_neg c1, if_neg c1]
        by_cases c2 : q = x
        · rw [if_pos c2, if_pos c2]
        · rw [if_neg c2, if_neg c2]
          by_cases c3 : q ≤ r
          · rw [if_pos c3, if_pos (by omega), am_up_j _ _ (by omega)]
          · rw [if_neg c3]
            by_cases c4 : q = r + 1
            · subst c4
              rw [am_up_s, if_pos (by omega)]
              rfl
            · rw [am_up_j _ _ c4, if_neg (by omega)]
    · rw [if_neg h]
      refine ⟨r + 1, Nat.le_refl _, fun q => ?_⟩
      by_cases c1 : q < r + 1
      · rw [if_pos c1, am_up_j _ _ (by omega)]
      · rw [if_neg c1]
        by_cases c2 : q = r + 1
        · subst c2; rw [am_up_s, if_pos rfl]
        · rw [if_neg c2, if_neg (by omega), am_up_j _ _ c2]
theorem vr_ins {num d : Int} : ∀ (r : Nat) (A B : am_M), r < 5 → (∀ j, j < 5 → B 54 j = A 5 j ∧ B 55 j = A 6 j) → (∀ j, j < r → (A 6 j).toNat < 5) → ∀ q, q < 5 → am_ins 54 55 num d r B 55 q = am_ins 5 6 num d r A 6 q
  | 0, A, B, _, h, _, q, hq => by
    rw [am_ins, am_ins]
    by_cases c : q = 0
    · subst c; rw [am_up_s, am_up_s]
    · rw [am_up_j _ _ c, am_up_j _ _ c]; exact (h q hq).2
  | r + 1, A, B, hr, h, h2, q, hq => by
    rw [am_ins, am_ins, (h r (by omega)).2, (h _ (h2 r (by omega))).1]
    by_cases c : d < A 5 (A 6 r).toNat
    · rw [if_pos c, if_pos c]
      refine vr_ins r _ _ (by omega) (fun j hj => ?_) (fun j hj => ?_) q hq
      · rw [am_up_k _ _ (by decide), am_up_k _ _ (by decide)]
        refine ⟨(h j hj).1, ?_⟩
        by_cases e : j = r + 1
        · subst e; rw [am_up_s, am_up_s]
        · rw [am_up_j _ _ e, am_up_j _ _ e]; exact (h j hj).2
      · rw [am_up_j _ _ (by omega)]; exact h2 j (by omega)
    · rw [if_neg c, if_neg c]
      by_cases e : q = r + 1
      · subst e; rw [am_up_s, am_up_s]
      · rw [am_up_j _ _ e, am_up_j _ _ e]; exact (h q hq).2
def ts_ad (p f c d : Int) (A : am_M) : am_M := g_TS_add [.inr (.inl 1), .inl p, .inl f, .inl c, .inl d] A
theorem ts_ad_e (p f c d : Int) (A : am_M) : ts_ad p f c d A = am_up (am_ins 5 6 (A 1 5) d (A 1 5).toNat (ts_st p f c d A)) 1 5 (A 1 5 + 1) := rfl
theorem ts_ad_k {p f c d : Int} {A : am_M} {k j : Nat} (hk : k = 0 ∨ 6 < k) : ts_ad p f c d A k j = A k j := by
  rw [ts_ad_e, am_up_k _ _ (by omega), am_ins_k (by omega)]
  unfold ts_st
  rw [am_up_k _ _ (by omega), am_up_k _ _ (by omega), am_up_k _ _ (by omega), am_up_k _ _ (by omega), am_up_k _ _ (by omega)]
/-- what the four cells of a task hold -/
theorem ts_ad_2 {p f c d : Int} {A : am_M} (j : Nat) : ts_ad p f c d A 2 j = (if j = (A 1 5).toNat then p else A 2 j) ∧ ts_ad p f c d A 3 j = (if j = (A 1 5).toNat then f else A 3 j) ∧ ts_ad p f c d A 4 j = (if j = (A 1 5).toNat then c else A 4 j) ∧ ts_ad p f c d A 5 j = (if j = (A 1 5).toNat then d else A 5 j) := by
  rw [ts_ad_e]
  refine ⟨?_, ?_, ?_, ?_⟩ <;> (rw [am_up_k _ _ (by decide), am_ins_k (by decide)]; simp [ts_st, am_up])
theorem mo_tg_2 {p f c d : Int} {B : am_M} (j : Nat) : mo_tg p f c d B 51 j = (if j = (B 50 1).toNat then p else B 51 j) ∧ mo_tg p f c d B 52 j = (if j = (B 50 1).toNat then f else B 52 j) ∧ mo_tg p f c d B 53 j = (if j = (B 50 1).toNat then c else B 53 j) ∧ mo_tg p f c d B 54 j = (if j = (B 50 1).toNat then d else B 54 j) := by
  unfold mo_tg
  refine ⟨?_, ?_, ?_, ?_⟩ <;> (rw [am_up_k _ _ (by decide), am_ins_k (by decide)]; simp [mo_ts, am_up])
/-- a task comes in on both sides -/
theorem vr_add {A B : am_M} {p f c d : Int} (h : vr_T A B) (h2 : ts_ok A) (h5 : A 1 5 < 5) : vr_T (ts_ad p f c d A) (mo_tg p f c d B) := by
  have h3 := h2.1
  refine ⟨?_, fun j hj => ?_⟩
  · rw [ts_ad_e, am_up_s]
    unfold mo_tg
    rw [am_up_s, h.1]
  · obtain ⟨a1, a2, a3, a4⟩ := ts_ad_2 (p := p) (f := f) (c := c) (d := d) (A := A) j
    obtain ⟨b1, b2, b3, b4⟩ := mo_tg_2 (p := p) (f := f) (c := c) (d := d) (B := B) j
    obtain ⟨e1, e2, e3, e4, e5⟩ := h.2 j hj
    rw [a1, a2, a3, a4, b1, b2, b3, b4, h.1, e1, e2, e3, e4]
    refine ⟨rfl, rfl, rfl, rfl, ?_⟩
    rw [ts_ad_e, am_up_k _ _ (by decide)]
    unfold mo_tg
    rw [am_up_k _ _ (by decide), h.1]
    refine vr_ins (A 1 5).toNat _ _ (by omega) (fun q hq => ?_) (fun q hq => ?_) j hj
    · have e := h.2 q hq
      simp [ts_st, mo_ts, am_up, h.1, e.2.2.2.1, e.2.2.2.2]
    · have := (h2.2 q (by omega)).1
      simp [ts_st, am_up]
      omega
/-- each task has one rank -/
def ts_pm (A : am_M) : Prop := (∀ r s : Nat, (r : Int) < A 1 5 → (s : Int) < A 1 5 → A 6 r = A 6 s → r = s) ∧ ∀ t : Nat, (t : Int) < A 1 5 → ∃ r : Nat, (r : Int) < A 1 5 ∧ A 6 r = t
theorem ts_ad_6 {p f c d : Int} {A : am_M} : ∃ x, x ≤ (A 1 5).toNat ∧ ∀ q, ts_ad p f c d A 6 q = if q < x then A 6 q else if q = x then A 1 5 else if q ≤ (A 1 5).toNat then A 6 (q - 1) else A 6 q := by
  obtain ⟨x, hx, hq⟩ := am_ins_sp (dl := 5) (od := 6) (num := A 1 5) (d := d) (A 1 5).toNat (ts_st p f c d A)
  refine ⟨x, hx, fun q => ?_⟩
  rw [ts_ad_e, am_up_k _ _ (by decide), hq q]
  simp [ts_st, am_up]
theorem ts_ad_ok {p f c d : Int} {A : am_M} (h2 : ts_ok A) (h5 : A 1 5 < 5) (hp : 1 ≤ p ∧ p ≤ 60) (hf : 0 ≤ f ∧ f < p) (hc : 1 ≤ c ∧ c ≤ d ∧ d ≤ p) : ts_ok (ts_ad p f c d A) := by
  have h3 := h2.1
  have e0 : ts_ad p f c d A 1 5 = A 1 5 + 1 := by rw [ts_ad_e, am_up_s]
  obtain ⟨x, hx, hq⟩ := ts_ad_6 (p := p) (f := f) (c := c) (d := d) (A := A)
  refine ⟨by rw [e0]; omega, fun r hr => ?_⟩
  rw [e0] at hr
  obtain ⟨a1, a2, a3, a4⟩ := ts_ad_2 (p := p) (f := f) (c := c) (d := d) (A := A) r
  rw [a1, a2, a3, a4, e0, hq r]
  refine ⟨?_, ?_⟩
  · by_cases c1 : r < x
    · rw [if_pos c1]
      have := (h2.2 r (by omega)).1
      omega
    · rw [if_neg c1]
      by_cases c2 : r = x
      · rw [if_pos c2]; omega
      · rw [if_neg c2, if_pos (by omega)]
        have := (h2.2 (r - 1) (by omega)).1
        omega
  · by_cases c1 : r = (A 1 5).toNat
    · rw [if_pos c1, if_pos c1, if_pos c1, if_pos c1]
      omega
    · rw [if_neg c1, if_neg c1, if_neg c1, if_neg c1]
      exact (h2.2 r (by omega)).2
theorem ts_ad_pm {p f c d : Int} {A : am_M} (h2 : ts_ok A) (hm : ts_pm A) : ts_pm (ts_ad p f c d A) := by
  have h3 := h2.1
  have e0 : ts_ad p f c d A 1 5 = A 1 5 + 1 := by rw [ts_ad_e, am_up_s]
  obtain ⟨x, hx, hq⟩ := ts_ad_6 (p := p) (f := f) (c := c) (d := d) (A := A)
  have v : ∀ q : Nat, (q : Int) < A 1 5 + 1 → (q = x ∧ ts_ad p f c d A 6 q = A 1 5) ∨ ∃ g : Nat, (g : Int) < A 1 5 ∧ ts_ad p f c d A 6 q = A 6 g ∧ ((q < x ∧ q = g) ∨ (x < q ∧ q = g + 1)) := fun q hr => by
    by_cases c1 : q < x
    · exact Or.inr ⟨q, by omega, by rw [hq q, if_pos c1], Or.inl ⟨c1, rfl⟩⟩
    · by_cases c2 : q = x
      · exact Or.inl ⟨c2, by rw [hq q, if_neg c1, if_pos c2]⟩
      · exact Or.inr ⟨q - 1, by omega, by rw [hq q, if_neg c1, if_neg c2, if_pos (by omega)], Or.inr ⟨by omega, by omega⟩⟩
  refine ⟨fun r s hr hs e => ?_, fun t ht => ?_⟩
  · rw [e0] at hr hs
    rcases v r hr with ⟨r1, r2⟩ | ⟨g, r1, r2, r3⟩
    · rcases v s hs with ⟨s1, s2⟩ | ⟨g2, s1, s2, s3⟩
      · omega
      · have := (h2.2 g2 s1).1
        rw [r2, s2] at e
        omega
    · rcases v s hs with ⟨s1, s2⟩ | ⟨g2, s1, s2, s3⟩
      · have := (h2.2 g r1).1
        rw [r2, s2] at e
        omega
      · rw [r2, s2] at e
        have := hm.1 g g2 r1 s1 e
        omega
  · rw [e0] at ht ⊢
    by_cases c1 : (t : Int) = A 1 5
    · exact ⟨x, by omega, by rw [hq x, if_neg (by omega), if_pos rfl, c1]⟩
    · obtain ⟨g, hg, hg2⟩ := hm.2 t (by omega)
      by_cases c2 : g < x
      · exact ⟨g, by omega, by rw [hq g, if_pos c2]; exact hg2⟩
      · exact ⟨g + 1, by omega, by rw [hq (g + 1), if_neg (by omega), if_neg (by omega), if_pos (by omega)]; exact hg2⟩
