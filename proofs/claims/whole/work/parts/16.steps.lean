/-! a row a step -/
section XS
variable {Sg : List am_S} {Sc : Option (Nat × (Nat → Int))} {Fd : Nat → Option (Nat × Nat × Nat)} {Ct : am_T} {Zr : am_Z} {I : Nat → Option (Instr × Nat)} {sp : Nat → Bool} {Z : am_K} {n pc : Nat} {ls : am_L} {st : List am_V} {M : am_M}
def am_nx (Sg : List am_S) (Sc : Option (Nat × (Nat → Int))) (Fd : Nat → Option (Nat × Nat × Nat)) (Ct : am_T) (Zr : am_Z) (I : Nat → Option (Instr × Nat)) (sp : Nat → Bool) (Z : am_K) (n : Nat) : am_K := fun pc ls st M => if sp pc = true then Z pc ls st M else am_wp Sg Sc Fd Ct Zr I sp Z n pc ls st M
theorem xs_n (hs : sp pc = false) (h : am_wp Sg Sc Fd Ct Zr I sp Z n pc ls st M) : am_nx Sg Sc Fd Ct Zr I sp Z n pc ls st M := by
  unfold am_nx
  rw [if_neg (by rw [hs]; decide)]
  exact h
theorem xs_z (hs : sp pc = true) (h : Z pc ls st M) : am_nx Sg Sc Fd Ct Zr I sp Z n pc ls st M := by
  unfold am_nx
  rw [if_pos hs]
  exact h
theorem xs {i : Instr} {len : Nat} (hi : I pc = some (i, len)) (h : am_ex Sg Sc Fd Ct Zr (am_nx Sg Sc Fd Ct Zr I sp Z n) pc len ls st M i) : am_wp Sg Sc Fd Ct Zr I sp Z (n + 1) pc ls st M := by
  unfold am_wp
  simp only [hi]
  exact h
theorem xs_iconst {c : Int} {q : Nat} (hi : I pc = some (.iconst c, 1)) (hq : pc + 1 = q)  (h : am_nx Sg Sc Fd Ct Zr I sp Z n q ls (.inl c :: st) M) : am_wp Sg Sc Fd Ct Zr I sp Z (n + 1) pc ls st M := xs hi (by subst hq; exact ⟨rfl, h⟩)
theorem xs_bipush {c : Int} {q : Nat} (hi : I pc = some (.bipush c, 2)) (hq : pc + 2 = q) (hc : -128 ≤ c ∧ c < 128) (h : am_nx Sg Sc Fd Ct Zr I sp Z n q ls (.inl c :: st) M) : am_wp Sg Sc Fd Ct Zr I sp Z (n + 1) pc ls st M := xs hi (by subst hq; exact ⟨rfl, hc, h⟩)
theorem xs_sipush {c : Int} {q : Nat} (hi : I pc = some (.sipush c, 3)) (hq : pc + 3 = q) (hc : -32768 ≤ c ∧ c < 32768) (h : am_nx Sg Sc Fd Ct Zr I sp Z n q ls (.inl c :: st) M) : am_wp Sg Sc Fd Ct Zr I sp Z (n + 1) pc ls st M := xs hi (by subst hq; exact ⟨rfl, hc, h⟩)
theorem xs_iload_n {i : Fin 4} {x : Int} {q : Nat} (hi : I pc = some (.iload_n i, 1)) (hq : pc + 1 = q) (hl : ls[i.val]? = some (some (.inl x))) (h : am_nx Sg Sc Fd Ct Zr I sp Z n q ls (.inl x :: st) M) : am_wp Sg Sc Fd Ct Zr I sp Z (n + 1) pc ls st M := xs hi (by subst hq; exact ⟨rfl, by unfold am_gi; rw [hl]; exact h⟩)
theorem xs_iload {i : Nat} {x : Int} {q : Nat} (hi : I pc = some (.iload i, 2)) (hq : pc + 2 = q) (hl : ls[i]? = some (some (.inl x))) (h : am_nx Sg Sc Fd Ct Zr I sp Z n q ls (.inl x :: st) M) : am_wp Sg Sc Fd Ct Zr I sp Z (n + 1) pc ls st M := xs hi (by subst hq; exact ⟨rfl, by unfold am_gi; rw [hl]; exact h⟩)
theorem xs_aload_n {i : Fin 4} {x : Nat} {q : Nat} (hi : I pc = some (.aload_n i, 1)) (hq : pc + 1 = q) (hl : ls[i.val]? = some (some (.inr (.inl x)))) (h : am_nx Sg Sc Fd Ct Zr I sp Z n q ls (.inr (.inl x) :: st) M) : am_wp Sg Sc Fd Ct Zr I sp Z (n + 1) pc ls st M := xs hi (by subst hq; exact ⟨rfl, by unfold am_gr; rw [hl]; exact h⟩)
theorem xs_aload {i : Nat} {x : Nat} {q : Nat} (hi : I pc = some (.aload i, 2)) (hq : pc + 2 = q) (hl : ls[i]? = some (some (.inr (.inl x)))) (h : am_nx Sg Sc Fd Ct Zr I sp Z n q ls (.inr (.inl x) :: st) M) : am_wp Sg Sc Fd Ct Zr I sp Z (n + 1) pc ls st M := xs hi (by subst hq; exact ⟨rfl, by unfold am_gr; rw [hl]; exact h⟩)
theorem xs_istore_n {i : Fin 4} {x : Int} {ls2 : am_L} {q : Nat} (hi : I pc = some (.istore_n i, 1)) (hq : pc + 1 = q) (hl : decide (i.val < ls.length) = true) (h2 : ls.set i.val (some (.inl x)) = ls2) (h : am_nx Sg Sc Fd Ct Zr I sp Z n q ls2 st M) : am_wp Sg Sc Fd Ct Zr I sp Z (n + 1) pc ls (.inl x :: st) M := xs hi (by subst hq; exact ⟨rfl, of_decide_eq_true hl, by subst h2; exact h⟩)
theorem xs_istore {i : Nat} {x : Int} {ls2 : am_L} {q : Nat} (hi : I pc = some (.istore i, 2)) (hq : pc + 2 = q) (hl : decide (i < ls.length) = true) (h2 : ls.set i (some (.inl x)) = ls2) (h : am_nx Sg Sc Fd Ct Zr I sp Z n q ls2 st M) : am_wp Sg Sc Fd Ct Zr I sp Z (n + 1) pc ls (.inl x :: st) M := xs hi (by subst hq; exact ⟨rfl, of_decide_eq_true hl, by subst h2; exact h⟩)
theorem xs_astore_n {i : Fin 4} {x : Nat} {ls2 : am_L} {q : Nat} (hi : I pc = some (.astore_n i, 1)) (hq : pc + 1 = q) (hl : decide (i.val < ls.length) = true) (h2 : ls.set i.val (some (.inr (.inl x))) = ls2) (h : am_nx Sg Sc Fd Ct Zr I sp Z n q ls2 st M) : am_wp Sg Sc Fd Ct Zr I sp Z (n + 1) pc ls (.inr (.inl x) :: st) M := xs hi (by subst hq; exact ⟨rfl, of_decide_eq_true hl, by subst h2; exact h⟩)
theorem xs_astore {i : Nat} {x : Nat} {ls2 : am_L} {q : Nat} (hi : I pc = some (.astore i, 2)) (hq : pc + 2 = q) (hl : decide (i < ls.length) = true) (h2 : ls.set i (some (.inr (.inl x))) = ls2) (h : am_nx Sg Sc Fd Ct Zr I sp Z n q ls2 st M) : am_wp Sg Sc Fd Ct Zr I sp Z (n + 1) pc ls (.inr (.inl x) :: st) M := xs hi (by subst hq; exact ⟨rfl, of_decide_eq_true hl, by subst h2; exact h⟩)
theorem xs_iinc {i : Nat} {x d : Int} {ls2 : am_L} {q : Nat} (hi : I pc = some (.iinc i d, 3)) (hq : pc + 3 = q) (hl : ls[i]? = some (some (.inl x))) (h2 : ls.set i (some (.inl (x + d))) = ls2) (h : am_nx Sg Sc Fd Ct Zr I sp Z n q ls2 st M) : am_wp Sg Sc Fd Ct Zr I sp Z (n + 1) pc ls st M := xs hi (by subst hq; exact ⟨rfl, by unfold am_gi; rw [hl]; subst h2; exact h⟩)
theorem xs_iadd {a b : Int} {q : Nat} (hi : I pc = some (.iadd, 1)) (hq : pc + 1 = q)  (h : am_nx Sg Sc Fd Ct Zr I sp Z n q ls (.inl (a + b) :: st) M) : am_wp Sg Sc Fd Ct Zr I sp Z (n + 1) pc ls (.inl b :: .inl a :: st) M := xs hi (by subst hq; exact ⟨rfl, h⟩)
theorem xs_isub {a b : Int} {q : Nat} (hi : I pc = some (.isub, 1)) (hq : pc + 1 = q)  (h : am_nx Sg Sc Fd Ct Zr I sp Z n q ls (.inl (a - b) :: st) M) : am_wp Sg Sc Fd Ct Zr I sp Z (n + 1) pc ls (.inl b :: .inl a :: st) M := xs hi (by subst hq; exact ⟨rfl, h⟩)
theorem xs_imul {a b : Int} {q : Nat} (hi : I pc = some (.imul, 1)) (hq : pc + 1 = q)  (h : am_nx Sg Sc Fd Ct Zr I sp Z n q ls (.inl (a * b) :: st) M) : am_wp Sg Sc Fd Ct Zr I sp Z (n + 1) pc ls (.inl b :: .inl a :: st) M := xs hi (by subst hq; exact ⟨rfl, h⟩)
theorem xs_idiv {a b : Int} {q : Nat} (hi : I pc = some (.idiv, 1)) (hq : pc + 1 = q) (hc : 0 ≤ a ∧ a < 2147483648 ∧ 0 < b ∧ b < 2147483648) (h : am_nx Sg Sc Fd Ct Zr I sp Z n q ls (.inl (a / b) :: st) M) : am_wp Sg Sc Fd Ct Zr I sp Z (n + 1) pc ls (.inl b :: .inl a :: st) M := xs hi (by subst hq; exact ⟨rfl, hc.1, hc.2.1, hc.2.2.1, hc.2.2.2, h⟩)
theorem xs_irem {a b : Int} {q : Nat} (hi : I pc = some (.irem, 1)) (hq : pc + 1 = q) (hc : 0 ≤ a ∧ a < 2147483648 ∧ 0 < b ∧ b < 2147483648) (h : am_nx Sg Sc Fd Ct Zr I sp Z n q ls (.inl (a % b) :: st) M) : am_wp Sg Sc Fd Ct Zr I sp Z (n + 1) pc ls (.inl b :: .inl a :: st) M := xs hi (by subst hq; exact ⟨rfl, hc.1, hc.2.1, hc.2.2.1, hc.2.2.2, h⟩)
theorem xs_ineg {a : Int} {q : Nat} (hi : I pc = some (.ineg, 1)) (hq : pc + 1 = q)  (h : am_nx Sg Sc Fd Ct Zr I sp Z n q ls (.inl (-a) :: st) M) : am_wp Sg Sc Fd Ct Zr I sp Z (n + 1) pc ls (.inl a :: st) M := xs hi (by subst hq; exact ⟨rfl, h⟩)
theorem xs_ixor {a b : Int} {q : Nat} (hi : I pc = some (.ixor, 1)) (hq : pc + 1 = q) (hc : 0 ≤ a ∧ a < 2147483648 ∧ 0 ≤ b ∧ b < 2147483648) (h : ∀ z : Int, 0 ≤ z → z < 2147483648 → am_nx Sg Sc Fd Ct Zr I sp Z n q ls (.inl z :: st) M) : am_wp Sg Sc Fd Ct Zr I sp Z (n + 1) pc ls (.inl b :: .inl a :: st) M := xs hi (by subst hq; exact ⟨rfl, hc.1, hc.2.1, hc.2.2.1, hc.2.2.2, h⟩)
theorem xs_if_eq {a o : Int} {q r : Nat} (hi : I pc = some (.ifCond .eq o, 3)) (hq : (pc : Int) + o = (q : Int)) (hr : pc + 3 = r) (hR : am_R a) (h1 : a = 0 → am_nx Sg Sc Fd Ct Zr I sp Z n q ls st M) (h2 : ¬ a = 0 → am_nx Sg Sc Fd Ct Zr I sp Z n r ls st M) : am_wp Sg Sc Fd Ct Zr I sp Z (n + 1) pc ls (.inl a :: st) M := by
  have hq2 : ((pc : Int) + o).toNat = q := by omega
  subst hr
  refine xs hi ⟨rfl, by omega, hR, fun z => ?_, fun z => ?_⟩
  · rw [hq2]; exact h1 z
  · exact h2 (by simp only [am_cc] at z; omega)
theorem xs_ic_eq {a b o : Int} {q r : Nat} (hi : I pc = some (.if_icmp .eq o, 3)) (hq : (pc : Int) + o = (q : Int)) (hr : pc + 3 = r) (hR : am_R a ∧ am_R b) (h1 : a = b → am_nx Sg Sc Fd Ct Zr I sp Z n q ls st M) (h2 : ¬ a = b → am_nx Sg Sc Fd Ct Zr I sp Z n r ls st M) : am_wp Sg Sc Fd Ct Zr I sp Z (n + 1) pc ls (.inl b :: .inl a :: st) M := by
  have hq2 : ((pc : Int) + o).toNat = q := by omega
  subst hr
  refine xs hi ⟨rfl, by omega, hR.1, hR.2, fun z => ?_, fun z => ?_⟩
  · rw [hq2]; exact h1 z
  · exact h2 (by simp only [am_cc] at z; omega)
theorem xs_if_ne {a o : Int} {q r : Nat} (hi : I pc = some (.ifCond .ne o, 3)) (hq : (pc : Int) + o = (q : Int)) (hr : pc + 3 = r) (hR : am_R a) (h1 : a ≠ 0 → am_nx Sg Sc Fd Ct Zr I sp Z n q ls st M) (h2 : a = 0 → am_nx Sg Sc Fd Ct Zr I sp Z n r ls st M) : am_wp Sg Sc Fd Ct Zr I sp Z (n + 1) pc ls (.inl a :: st) M := by
  have hq2 : ((pc : Int) + o).toNat = q := by omega
  subst hr
  refine xs hi ⟨rfl, by omega, hR, fun z => ?_, fun z => ?_⟩
  · rw [hq2]; exact h1 z
  · exact h2 (by simp only [am_cc] at z; omega)
theorem xs_ic_ne {a b o : Int} {q r : Nat} (hi : I pc = some (.if_icmp .ne o, 3)) (hq : (pc : Int) + o = (q : Int)) (hr : pc + 3 = r) (hR : am_R a ∧ am_R b) (h1 : a ≠ b → am_nx Sg Sc Fd Ct Zr I sp Z n q ls st M) (h2 : a = b → am_nx Sg Sc Fd Ct Zr I sp Z n r ls st M) : am_wp Sg Sc Fd Ct Zr I sp Z (n + 1) pc ls (.inl b :: .inl a :: st) M := by
  have hq2 : ((pc : Int) + o).toNat = q := by omega
  subst hr
  refine xs hi ⟨rfl, by omega, hR.1, hR.2, fun z => ?_, fun z => ?_⟩
  · rw [hq2]; exact h1 z
  · exact h2 (by simp only [am_cc] at z; omega)
theorem xs_if_lt {a o : Int} {q r : Nat} (hi : I pc = some (.ifCond .lt o, 3)) (hq : (pc : Int) + o = (q : Int)) (hr : pc + 3 = r) (hR : am_R a) (h1 : a < 0 → am_nx Sg Sc Fd Ct Zr I sp Z n q ls st M) (h2 : 0 ≤ a → am_nx Sg Sc Fd Ct Zr I sp Z n r ls st M) : am_wp Sg Sc Fd Ct Zr I sp Z (n + 1) pc ls (.inl a :: st) M := by
  have hq2 : ((pc : Int) + o).toNat = q := by omega
  subst hr
  refine xs hi ⟨rfl, by omega, hR, fun z => ?_, fun z => ?_⟩
  · rw [hq2]; exact h1 z
  · exact h2 (by simp only [am_cc] at z; omega)
theorem xs_ic_lt {a b o : Int} {q r : Nat} (hi : I pc = some (.if_icmp .lt o, 3)) (hq : (pc : Int) + o = (q : Int)) (hr : pc + 3 = r) (hR : am_R a ∧ am_R b) (h1 : a < b → am_nx Sg Sc Fd Ct Zr I sp Z n q ls st M) (h2 : b ≤ a → am_nx Sg Sc Fd Ct Zr I sp Z n r ls st M) : am_wp Sg Sc Fd Ct Zr I sp Z (n + 1) pc ls (.inl b :: .inl a :: st) M := by
  have hq2 : ((pc : Int) + o).toNat = q := by omega
  subst hr
  refine xs hi ⟨rfl, by omega, hR.1, hR.2, fun z => ?_, fun z => ?_⟩
  · rw [hq2]; exact h1 z
  · exact h2 (by simp only [am_cc] at z; omega)
theorem xs_if_ge {a o : Int} {q r : Nat} (hi : I pc = some (.ifCond .ge o, 3)) (hq : (pc : Int) + o = (q : Int)) (hr : pc + 3 = r) (hR : am_R a) (h1 : 0 ≤ a → am_nx Sg Sc Fd Ct Zr I sp Z n q ls st M) (h2 : a < 0 → am_nx Sg Sc Fd Ct Zr I sp Z n r ls st M) : am_wp Sg Sc Fd Ct Zr I sp Z (n + 1) pc ls (.inl a :: st) M := by
  have hq2 : ((pc : Int) + o).toNat = q := by omega
  subst hr
  refine xs hi ⟨rfl, by omega, hR, fun z => ?_, fun z => ?_⟩
  · rw [hq2]; exact h1 z
  · exact h2 (by simp only [am_cc] at z; omega)
theorem xs_ic_ge {a b o : Int} {q r : Nat} (hi : I pc = some (.if_icmp .ge o, 3)) (hq : (pc : Int) + o = (q : Int)) (hr : pc + 3 = r) (hR : am_R a ∧ am_R b) (h1 : b ≤ a → am_nx Sg Sc Fd Ct Zr I sp Z n q ls st M) (h2 : a < b → am_nx Sg Sc Fd Ct Zr I sp Z n r ls st M) : am_wp Sg Sc Fd Ct Zr I sp Z (n + 1) pc ls (.inl b :: .inl a :: st) M := by
  have hq2 : ((pc : Int) + o).toNat = q := by omega
  subst hr
  refine xs hi ⟨rfl, by omega, hR.1, hR.2, fun z => ?_, fun z => ?_⟩
  · rw [hq2]; exact h1 z
  · exact h2 (by simp only [am_cc] at z; omega)
theorem xs_if_gt {a o : Int} {q r : Nat} (hi : I pc = some (.ifCond .gt o, 3)) (hq : (pc : Int) + o = (q : Int)) (hr : pc + 3 = r) (hR : am_R a) (h1 : 0 < a → am_nx Sg Sc Fd Ct Zr I sp Z n q ls st M) (h2 : a ≤ 0 → am_nx Sg Sc Fd Ct Zr I sp Z n r ls st M) : am_wp Sg Sc Fd Ct Zr I sp Z (n + 1) pc ls (.inl a :: st) M := by
  have hq2 : ((pc : Int) + o).toNat = q := by omega
  subst hr
  refine xs hi ⟨rfl, by omega, hR, fun z => ?_, fun z => ?_⟩
  · rw [hq2]; exact h1 z
  · exact h2 (by simp only [am_cc] at z; omega)
theorem xs_ic_gt {a b o : Int} {q r : Nat} (hi : I pc = some (.if_icmp .gt o, 3)) (hq : (pc : Int) + o = (q : Int)) (hr : pc + 3 = r) (hR : am_R a ∧ am_R b) (h1 : b < a → am_nx Sg Sc Fd Ct Zr I sp Z n q ls st M) (h2 : a ≤ b → am_nx Sg Sc Fd Ct Zr I sp Z n r ls st M) : am_wp Sg Sc Fd Ct Zr I sp Z (n + 1) pc ls (.inl b :: .inl a :: st) M := by
  have hq2 : ((pc : Int) + o).toNat = q := by omega
  subst hr
  refine xs hi ⟨rfl, by omega, hR.1, hR.2, fun z => ?_, fun z => ?_⟩
  · rw [hq2]; exact h1 z
  · exact h2 (by simp only [am_cc] at z; omega)
theorem xs_if_le {a o : Int} {q r : Nat} (hi : I pc = some (.ifCond .le o, 3)) (hq : (pc : Int) + o = (q : Int)) (hr : pc + 3 = r) (hR : am_R a) (h1 : a ≤ 0 → am_nx Sg Sc Fd Ct Zr I sp Z n q ls st M) (h2 : 0 < a → am_nx Sg Sc Fd Ct Zr I sp Z n r ls st M) : am_wp Sg Sc Fd Ct Zr I sp Z (n + 1) pc ls (.inl a :: st) M := by
  have hq2 : ((pc : Int) + o).toNat = q := by omega
  subst hr
  refine xs hi ⟨rfl, by omega, hR, fun z => ?_, fun z => ?_⟩
  · rw [hq2]; exact h1 z
  · exact h2 (by simp only [am_cc] at z; omega)
theorem xs_ic_le {a b o : Int} {q r : Nat} (hi : I pc = some (.if_icmp .le o, 3)) (hq : (pc : Int) + o = (q : Int)) (hr : pc + 3 = r) (hR : am_R a ∧ am_R b) (h1 : a ≤ b → am_nx Sg Sc Fd Ct Zr I sp Z n q ls st M) (h2 : b < a → am_nx Sg Sc Fd Ct Zr I sp Z n r ls st M) : am_wp Sg Sc Fd Ct Zr I sp Z (n + 1) pc ls (.inl b :: .inl a :: st) M := by
  have hq2 : ((pc : Int) + o).toNat = q := by omega
  subst hr
  refine xs hi ⟨rfl, by omega, hR.1, hR.2, fun z => ?_, fun z => ?_⟩
  · rw [hq2]; exact h1 z
  · exact h2 (by simp only [am_cc] at z; omega)
theorem xs_goto {o : Int} {q : Nat} (hi : I pc = some (.goto o, 3)) (hq : (pc : Int) + o = (q : Int)) (h : am_nx Sg Sc Fd Ct Zr I sp Z n q ls st M) : am_wp Sg Sc Fd Ct Zr I sp Z (n + 1) pc ls st M := by
  have hq2 : ((pc : Int) + o).toNat = q := by omega
  refine xs hi ⟨rfl, by omega, ?_⟩
  rw [hq2]; exact h
theorem xs_geti {idx id ci j w q : Nat} {fs : List (Option Nat)} (hi : I pc = some (.getfield idx, 3)) (hq : pc + 3 = q) (hf : Fd idx = some (ci, j, w)) (hs : Sg[id]? = some (.inr (ci, fs))) (hj : fs[j]? = some none) (h : am_nx Sg Sc Fd Ct Zr I sp Z n q ls (.inl (M id j) :: st) M) : am_wp Sg Sc Fd Ct Zr I sp Z (n + 1) pc ls (.inr (.inl id) :: st) M := xs hi (by subst hq; refine ⟨rfl, ?_⟩; show am_gf Sg (Fd idx) id M (fun v => am_nx Sg Sc Fd Ct Zr I sp Z n (pc + 3) ls (v :: st) M); unfold am_gf; rw [hf, hs]; simp only [hj]; exact ⟨trivial, h⟩)
theorem xs_getr {idx id ci j w q i : Nat} {fs : List (Option Nat)} (hi : I pc = some (.getfield idx, 3)) (hq : pc + 3 = q) (hf : Fd idx = some (ci, j, w)) (hs : Sg[id]? = some (.inr (ci, fs))) (hj : fs[j]? = some (some i)) (h : am_nx Sg Sc Fd Ct Zr I sp Z n q ls (.inr (.inl i) :: st) M) : am_wp Sg Sc Fd Ct Zr I sp Z (n + 1) pc ls (.inr (.inl id) :: st) M := xs hi (by subst hq; refine ⟨rfl, ?_⟩; show am_gf Sg (Fd idx) id M (fun v => am_nx Sg Sc Fd Ct Zr I sp Z n (pc + 3) ls (v :: st) M); unfold am_gf; rw [hf, hs]; simp only [hj]; exact ⟨trivial, h⟩)
theorem xs_puti {x : Int} {idx id ci j q : Nat} {fs : List (Option Nat)} (hi : I pc = some (.putfield idx, 3)) (hq : pc + 3 = q) (hf : Fd idx = some (ci, j, 1)) (hs : Sg[id]? = some (.inr (ci, fs))) (hj : fs[j]? = some none) (h : am_nx Sg Sc Fd Ct Zr I sp Z n q ls st (am_up M id j x)) : am_wp Sg Sc Fd Ct Zr I sp Z (n + 1) pc ls (.inl x :: .inr (.inl id) :: st) M := xs hi (by subst hq; refine ⟨rfl, ?_⟩; show am_pf Sg (Fd idx) id M x _; unfold am_pf; rw [hf, hs]; exact ⟨rfl, hj, h⟩)
theorem xs_putz {x : Int} {idx id ci j q : Nat} {fs : List (Option Nat)} (hi : I pc = some (.putfield idx, 3)) (hq : pc + 3 = q) (hf : Fd idx = some (ci, j, 2)) (hs : Sg[id]? = some (.inr (ci, fs))) (hj : fs[j]? = some none) (h01 : x = 0 ∨ x = 1) (h : am_nx Sg Sc Fd Ct Zr I sp Z n q ls st (am_up M id j x)) : am_wp Sg Sc Fd Ct Zr I sp Z (n + 1) pc ls (.inl x :: .inr (.inl id) :: st) M := xs hi (by subst hq; refine ⟨rfl, ?_⟩; show am_pf Sg (Fd idx) id M x _; unfold am_pf; rw [hf, hs]; exact ⟨rfl, hj, h01, h⟩)
theorem xs_iaload {j : Int} {id N q : Nat} (hi : I pc = some (.iaload, 1)) (hq : pc + 1 = q) (hs : Sg[id]? = some (.inl (0, N))) (hn : decide (id = am_scr) = false) (hj : 0 ≤ j ∧ j < N) (h : am_nx Sg Sc Fd Ct Zr I sp Z n q ls (.inl (M id j.toNat) :: st) M) : am_wp Sg Sc Fd Ct Zr I sp Z (n + 1) pc ls (.inl j :: .inr (.inl id) :: st) M := xs hi (by subst hq; refine ⟨rfl, ?_⟩; show (if id = am_scr then _ else am_ar Sg 0 id j _); rw [if_neg (of_decide_eq_false hn)]; unfold am_ar; rw [hs]; exact ⟨rfl, hj.1, hj.2, h⟩)
theorem xs_baload {j : Int} {id N q : Nat} (hi : I pc = some (.baload, 1)) (hq : pc + 1 = q) (hs : Sg[id]? = some (.inl (1, N)))  (hj : 0 ≤ j ∧ j < N) (h : am_nx Sg Sc Fd Ct Zr I sp Z n q ls (.inl (M id j.toNat) :: st) M) : am_wp Sg Sc Fd Ct Zr I sp Z (n + 1) pc ls (.inl j :: .inr (.inl id) :: st) M := xs hi (by subst hq; refine ⟨rfl, ?_⟩; show am_ar Sg 1 id j (fun i => am_nx Sg Sc Fd Ct Zr I sp Z n (pc + 1) ls (.inl (M id i) :: st) M); unfold am_ar; rw [hs]; exact ⟨rfl, hj.1, hj.2, h⟩)
theorem xs_iastore {x j : Int} {id N q : Nat} (hi : I pc = some (.iastore, 1)) (hq : pc + 1 = q) (hs : Sg[id]? = some (.inl (0, N))) (hj : 0 ≤ j ∧ j < N) (h : am_nx Sg Sc Fd Ct Zr I sp Z n q ls st (am_up M id j.toNat x)) : am_wp Sg Sc Fd Ct Zr I sp Z (n + 1) pc ls (.inl x :: .inl j :: .inr (.inl id) :: st) M := xs hi (by subst hq; refine ⟨rfl, ?_⟩; show am_ar Sg 0 id j (fun i => am_nx Sg Sc Fd Ct Zr I sp Z n (pc + 1) ls st (am_up M id i x)); unfold am_ar; rw [hs]; exact ⟨rfl, hj.1, hj.2, h⟩)
theorem xs_bastore {x j : Int} {id N q : Nat} (hi : I pc = some (.bastore, 1)) (hq : pc + 1 = q) (hs : Sg[id]? = some (.inl (1, N))) (h01 : x = 0 ∨ x = 1) (hj : 0 ≤ j ∧ j < N) (h : am_nx Sg Sc Fd Ct Zr I sp Z n q ls st (am_up M id j.toNat x)) : am_wp Sg Sc Fd Ct Zr I sp Z (n + 1) pc ls (.inl x :: .inl j :: .inr (.inl id) :: st) M := xs hi (by subst hq; refine ⟨rfl, h01, ?_⟩; show am_ar Sg 1 id j (fun i => am_nx Sg Sc Fd Ct Zr I sp Z n (pc + 1) ls st (am_up M id i x)); unfold am_ar; rw [hs]; exact ⟨rfl, hj.1, hj.2, h⟩)
theorem xs_alen {id e N q : Nat} (hi : I pc = some (.arraylength, 1)) (hq : pc + 1 = q) (hs : Sg[id]? = some (.inl (e, N))) (hn : decide (id = am_scr) = false) (h : am_nx Sg Sc Fd Ct Zr I sp Z n q ls (.inl (N : Int) :: st) M) : am_wp Sg Sc Fd Ct Zr I sp Z (n + 1) pc ls (.inr (.inl id) :: st) M := xs hi (by subst hq; refine ⟨rfl, ?_⟩; show (if id = am_scr then _ else am_al Sg id _); rw [if_neg (of_decide_eq_false hn)]; unfold am_al; rw [hs]; exact h)
theorem xs_dupi {a : Int} {q : Nat} (hi : I pc = some (.dup, 1)) (hq : pc + 1 = q)  (h : am_nx Sg Sc Fd Ct Zr I sp Z n q ls (.inl a :: .inl a :: st) M) : am_wp Sg Sc Fd Ct Zr I sp Z (n + 1) pc ls (.inl a :: st) M := xs hi (by subst hq; exact ⟨rfl, h⟩)
theorem xs_dupr {a : Nat} {q : Nat} (hi : I pc = some (.dup, 1)) (hq : pc + 1 = q)  (h : am_nx Sg Sc Fd Ct Zr I sp Z n q ls (.inr (.inl a) :: .inr (.inl a) :: st) M) : am_wp Sg Sc Fd Ct Zr I sp Z (n + 1) pc ls (.inr (.inl a) :: st) M := xs hi (by subst hq; exact ⟨rfl, h⟩)
theorem xs_dup2 {j : Int} {id : Nat} {q : Nat} (hi : I pc = some (.dup2, 1)) (hq : pc + 1 = q)  (h : am_nx Sg Sc Fd Ct Zr I sp Z n q ls (.inl j :: .inr (.inl id) :: .inl j :: .inr (.inl id) :: st) M) : am_wp Sg Sc Fd Ct Zr I sp Z (n + 1) pc ls (.inl j :: .inr (.inl id) :: st) M := xs hi (by subst hq; exact ⟨rfl, h⟩)
theorem xs_popi {a : Int} {q : Nat} (hi : I pc = some (.pop, 1)) (hq : pc + 1 = q)  (h : am_nx Sg Sc Fd Ct Zr I sp Z n q ls st M) : am_wp Sg Sc Fd Ct Zr I sp Z (n + 1) pc ls (.inl a :: st) M := xs hi (by subst hq; exact ⟨rfl, h⟩)
theorem xs_iret {x : Int} (hi : I pc = some (.ireturn, 1)) (h : Zr (some (.inl x)) M) : am_wp Sg Sc Fd Ct Zr I sp Z (n + 1) pc ls [.inl x] M := xs hi ⟨rfl, h⟩
theorem xs_ret (hi : I pc = some (.return_, 1)) (h : Zr none M) : am_wp Sg Sc Fd Ct Zr I sp Z (n + 1) pc ls [] M := xs hi ⟨rfl, h⟩
theorem xs_cv {idx q w : Nat} {ct : List am_V → am_M → am_Z → Prop} {av rest : List am_V} (hi : I pc = some (.invokevirtual idx, 3)) (hq : pc + 3 = q) (hc : Ct pc = some (w, ct)) (hl : Nat.ble w st.length = true ∧ Nat.ble st.length (w + 4) = true) (ha : (st.take w).reverse = av) (hr : st.drop w = rest) (h : ct av M (fun r M2 => am_nx Sg Sc Fd Ct Zr I sp Z n q ls (r.toList ++ rest) M2)) : am_wp Sg Sc Fd Ct Zr I sp Z (n + 1) pc ls st M := xs hi (by subst hq; refine ⟨rfl, ?_⟩; unfold am_ca; rw [hc]; subst ha; subst hr; exact ⟨Nat.le_of_ble_eq_true hl.1, Nat.le_of_ble_eq_true hl.2, h⟩)
theorem xs_cs {idx q w : Nat} {ct : List am_V → am_M → am_Z → Prop} {av rest : List am_V} (hi : I pc = some (.invokestatic idx, 3)) (hq : pc + 3 = q) (hc : Ct pc = some (w, ct)) (hl : Nat.ble w st.length = true ∧ Nat.ble st.length (w + 4) = true) (ha : (st.take w).reverse = av) (hr : st.drop w = rest) (h : ct av M (fun r M2 => am_nx Sg Sc Fd Ct Zr I sp Z n q ls (r.toList ++ rest) M2)) : am_wp Sg Sc Fd Ct Zr I sp Z (n + 1) pc ls st M := xs hi (by subst hq; refine ⟨rfl, ?_⟩; unfold am_ca; rw [hc]; subst ha; subst hr; exact ⟨Nat.le_of_ble_eq_true hl.1, Nat.le_of_ble_eq_true hl.2, h⟩)
theorem xs_r1 {r : Option am_V} {x : Int} {rest : List am_V} {M2 : am_M} (hr : r = some (.inl x)) (h : am_nx Sg Sc Fd Ct Zr I sp Z n pc ls (.inl x :: rest) M2) : am_nx Sg Sc Fd Ct Zr I sp Z n pc ls (r.toList ++ rest) M2 := by
  subst hr
  exact h
theorem xs_r0 {r : Option am_V} {rest : List am_V} {M2 : am_M} (hr : r = none) (h : am_nx Sg Sc Fd Ct Zr I sp Z n pc ls rest M2) : am_nx Sg Sc Fd Ct Zr I sp Z n pc ls (r.toList ++ rest) M2 := by
  subst hr
  exact h
end XS
