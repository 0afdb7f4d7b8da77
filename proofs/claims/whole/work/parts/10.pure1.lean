/-- whether an int is one of 0 .. n - 1, as the code answers it -/
def isIx (p : Int32) (n : Nat) (r : Int32) : Prop := (∃ j, j < n ∧ p = nI j ∧ r = nI 1) ∨ ((∀ j, j < n → p ≠ nI j) ∧ r = nI 0)
theorem isIx_neg {p : Int32} {n : Nat} (hn : n < 2 ^ 31) (h : p < 0) : isIx p n (nI 0) := Or.inr ⟨fun j hj e => by rw [e] at h; exact nI_pos (by omega) h, rfl⟩
theorem isIx_ge {j n : Nat} (hj : j < 2 ^ 31) (hn : n < 2 ^ 31) (h : n ≤ j) : isIx (nI j) n (nI 0) := Or.inr ⟨fun i hi e => by have := (nI_eq hj (by omega)).mp e; omega, rfl⟩
theorem isIx_lt {j n : Nat} (h : j < n) : isIx (nI j) n (nI 1) := Or.inl ⟨j, h, rfl, rfl⟩
def fl (g f : Fn) (i : Nat) : Fn := fun k => if k < i then g k else f k
theorem fl_0 (g f : Fn) : fl g f 0 = f := by funext k; simp [fl]
theorem fl_succ (g f : Fn) (i : Nat) : upd (fl g f i) i (g i) = fl g f (i + 1) := by
  funext k
  unfold upd fl
  by_cases h : k = i
  · subst h; simp
  · by_cases h2 : k < i
    · simp [h, h2, Nat.lt_succ_of_lt h2]
    · have h3 : ¬ k < i + 1 := by omega
      simp [h, h2, h3]
theorem fl_in {g f : Fn} {i k : Nat} (h : k < i) : fl g f i k = g k := by simp [fl, h]
theorem fl_out {g f : Fn} {i k : Nat} (h : i ≤ k) : fl g f i k = f k := by simp [fl, Nat.not_lt.mpr h]
/-- a Bool as an int -/
def bI (b : Bool) : Int32 := nI b.toNat
theorem bI_t : bI true = nI 1 := rfl
theorem bI_f : bI false = nI 0 := rfl
theorem bI_nar (b : Bool) : narrow .boolean (.int (bI b)) = .int (bI b) := by cases b <;> decide
theorem bI_fits (b : Bool) : fits .boolean (.int (bI b)) = true := by cases b <;> decide
theorem bI_vnar (b : Bool) : vp_nar .boolean (bI b) = bI b := by cases b <;> decide
theorem bI_d {P : Prop} (d : Decidable P) (h : P) : bI (decide P) = nI 1 := by rw [decide_eq_true h]; rfl
theorem bI_n {P : Prop} (d : Decidable P) (h : ¬ P) : bI (decide P) = nI 0 := by rw [decide_eq_false h]; rfl
theorem tb_div (x t : Nat) : x / 2 ^ t &&& 1 = (x.testBit t).toNat := by rw [Nat.and_one_is_mod, Nat.toNat_testBit]
theorem tb_pos {x t : Nat} (h : 0 < x / 2 ^ t &&& 1) : x.testBit t = true := by
  rw [tb_div] at h
  cases hb : x.testBit t
  · rw [hb] at h; exact absurd h (by decide)
  · rfl
theorem tb_zero {x t : Nat} (h : x / 2 ^ t &&& 1 = 0) : x.testBit t = false := by
  rw [tb_div] at h
  cases hb : x.testBit t
  · rfl
  · rw [hb] at h; exact absurd h (by decide)
theorem p2_31 {t : Nat} (h : t < 31) : 2 ^ t < 2147483648 := by
  have : (2 : Nat) ^ t < 2 ^ 31 := Nat.pow_lt_pow_right (by decide) h
  simpa using this
