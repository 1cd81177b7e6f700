/-! class and reference agree: the hyperperiod (wip/whole/p65.py) -/
theorem mo_hy_c2 {B B' : am_M} : ∀ n : Nat, (∀ j, j < n → B' 51 j = B 51 j) → mo_hy B' n = mo_hy B n
  | 0, _ => rfl
  | n + 1, h => by
    simp only [mo_hy]
    rw [mo_hy_c2 n (fun j hj => h j (by omega)), h n (by omega)]
def vr_H (A B : am_M) : Prop := A 1 6 = mo_hy B (B 50 1).toNat
theorem vr_H_add {A B : am_M} {p f c d : Int} (h : vr_T A B) (h2 : ts_ok A) (h3 : vr_H A B) : vr_H (ts_ad p f c d A) (mo_tg p f c d B) := by
  have h4 := h2.1
  have e1 : mo_tg p f c d B 50 1 = B 50 1 + 1 := by unfold mo_tg; rw [am_up_s]
  have e6 : ts_ad p f c d A 1 6 = A 1 6 / ((Nat.gcd (A 1 6).toNat p.toNat : Nat) : Int) * p := by
    rw [ts_ad_e, am_up_j _ _ (by decide), am_ins_k (by decide)]
    simp [ts_st, am_up]
  unfold vr_H at *
  rw [e1, e6, show (B 50 1 + 1).toNat = (B 50 1).toNat + 1 by rw [h.1]; omega]
  simp only [mo_hy]
  rw [mo_hy_c2 (B' := mo_tg p f c d B) (B := B) (B 50 1).toNat (fun j hj => by rw [(mo_tg_2 j).1, if_neg (by omega)]), (mo_tg_2 (B 50 1).toNat).1, if_pos rfl, ← h3]
/-- both find the new hyperperiod alike -/
theorem vr_H_lc {A B : am_M} {p : Int} (h3 : vr_H A B) : mo_lc B p = A 1 6 / ((Nat.gcd (A 1 6).toNat p.toNat : Nat) : Int) * p := by
  unfold mo_lc
  unfold vr_H at h3
  rw [← h3]
