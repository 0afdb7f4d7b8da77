theorem rowF_cases (op x y z : Int32) : rowF op x y z = nI 0 ∨ rowF op x y z = (-1) ∨ rowF op x y z = (-4) ∨ rowF op x y z = (-6) := by
  unfold rowF
  split
  · split
    · split
      · exact Or.inr (Or.inr (Or.inl rfl))
      · split
        · exact Or.inr (Or.inr (Or.inr rfl))
        · exact Or.inl rfl
    · exact Or.inl rfl
  · exact Or.inr (Or.inl rfl)
theorem mendF_cases {N : Nat → Nat} {F : Nat → Fn} (h3 : N 3 < 2 ^ 31) (h0 : N 0 < 2 ^ 31) (p q : Int32) : (mendF N F p q = nI 0 ∧ ∃ t i, t < N 3 ∧ i < N 0 ∧ p = nI t ∧ q = nI i ∧ PAS N F t (RUNP N F t) = false) ∨ mendF N F p q = (-1) ∨ mendF N F p q = (-3) := by
  unfold mendF
  by_cases h : (inR p (N 3) && inR q (N 0)) = true
  · rw [if_pos h]
    have hh := (Bool.and_eq_true _ _).mp h
    obtain ⟨t, ht, rfl⟩ := inR_ix hh.1
    obtain ⟨i, hi, rfl⟩ := inR_ix hh.2
    rw [tn_nI (show t < 2 ^ 31 by omega)]
    by_cases g : (decide (tn (F 4 (tn (nI i))) < 5) && !PAS N F t (RUNP N F t)) = true
    · rw [if_pos g]
      refine Or.inl ⟨rfl, t, i, ht, hi, rfl, rfl, ?_⟩
      have := ((Bool.and_eq_true _ _).mp g).2
      cases hq : PAS N F t (RUNP N F t)
      · rfl
      · rw [hq] at this; exact absurd this (by decide)
    · rw [if_neg g]; exact Or.inr (Or.inr rfl)
  · rw [if_neg h]; exact Or.inr (Or.inl rfl)
theorem brkF_cases {N : Nat → Nat} {F : Nat → Fn} (p : Int32) : (brkF N F p = nI 0 ∧ ∃ t, t < N 3 ∧ p = nI t) ∨ brkF N F p = (-1) ∨ brkF N F p = (-3) := by
  unfold brkF
  by_cases h : inR p (N 3) = true
  · rw [if_pos h]
    obtain ⟨t, ht, rfl⟩ := inR_ix h
    split
    · exact Or.inr (Or.inr rfl)
    · exact Or.inl ⟨rfl, t, ht, rfl⟩
  · rw [if_neg h]; exact Or.inr (Or.inl rfl)
theorem cIx_y {nt m j i : Nat} (h1 : nt < 2 ^ 31) (h2 : m < 2 ^ 31) (hj : j < nt) (hi : i < m) : cIx nt m (nI j) (nI i) = nI 0 := by unfold cIx; rw [inR_t h1 hj rfl, inR_t h2 hi rfl]; rfl
theorem cIx_p {nt m : Nat} {p k : Int32} (h : inR p nt = false) : cIx nt m p k = (-1) := by unfold cIx; rw [h]; rfl
theorem cIx_k {nt m : Nat} {p k : Int32} (h : inR k m = false) : cIx nt m p k = (-1) := by unfold cIx; rw [h, Bool.and_false]; rfl
theorem inR_neg {x : Int32} {n : Nat} (hn : n < 2 ^ 31) (h : x < 0) : inR x n = false := inR_f hn (fun j hj e => nI_pos (show j < 2 ^ 31 by omega) (by rw [← e]; exact h))
theorem inR_ge {j n : Nat} (hj : j < 2 ^ 31) (hn : n < 2 ^ 31) (h : n ≤ j) : inR (nI j) n = false := inR_f hn (fun i hi e => absurd ((nI_eq hj (by omega)).mp e) (by omega))
theorem inR_lt {j n : Nat} (hn : n < 2 ^ 31) (h : j < n) : inR (nI j) n = true := inR_t hn h rfl
theorem inR_out {x : Int32} {n : Nat} (h : inR x n = false) : x.toInt < 0 ∨ (n : Int) ≤ x.toInt := by
  have := of_decide_eq_false h
  omega
theorem rp_bound {n : Nat} (hn : n ≤ 24) {ops xs ys zs inp : Fn} {t : Nat} (hok : ∀ i, i < n → rowOk (ops i) (xs i) (ys i) (zs i)) : True := trivial
/-- ifs are no more than steps, steps no more than 300 -/
theorem r_loop_cnt {n : Nat} {ops xs ys zs inp : Fn} {ti sl sv : Int32} : ∀ (k : Nat) (a : RS), a.2.2.2.1 ≤ a.2.1 → (r_loop n ops xs ys zs inp ti sl sv k a).2.2.2.1 ≤ (r_loop n ops xs ys zs inp ti sl sv k a).2.1 ∧ (r_loop n ops xs ys zs inp ti sl sv k a).2.1 ≤ a.2.1 + k
  | 0, _, h => ⟨h, Nat.le_refl _⟩
  | k + 1, a, h => by
    unfold r_loop
    by_cases hon : r_on n a = true
    · rw [if_pos hon]
      have hs : (r_step ops xs ys zs inp ti sl sv a).2.1 = a.2.1 + 1 ∧ (r_step ops xs ys zs inp ti sl sv a).2.2.2.1 ≤ a.2.2.2.1 + 1 := by
        obtain ⟨l, sc, oc, ic, tr, vr, ou, os⟩ := a
        unfold r_step
        dsimp only
        refine ⟨rfl, ?_⟩
        unfold r_act
        split
        · exact Nat.le_refl _
        · split
          · exact Nat.le_succ _
          · split
            · exact Nat.le_succ _
            · exact Nat.le_succ _
      have := r_loop_cnt (n := n) (ops := ops) (xs := xs) (ys := ys) (zs := zs) (inp := inp) (ti := ti) (sl := sl) (sv := sv) k (r_step ops xs ys zs inp ti sl sv a) (by omega)
      exact ⟨this.1, by omega⟩
    · rw [if_neg hon]; exact ⟨h, by omega⟩
theorem rp_ic {n : Nat} (hn : n ≤ 24) {ops xs ys zs inp : Fn} {t : Nat} (hok : ∀ i, i < n → rowOk (ops i) (xs i) (ys i) (zs i)) : (rp n ops xs ys zs inp t).2.2.2.1 ≤ 300 := by
  have := r_loop_cnt (n := n) (ops := ops) (xs := xs) (ys := ys) (zs := zs) (inp := fun y => inp (t * 4 + y)) (ti := (-1)) (sl := (-1)) (sv := nI 0) 300 (0, 0, 0, 0, Z0, fl (fun _ => nI 0) Z0 8, Z0, Z0) (Nat.le_refl _)
  have e : rp n ops xs ys zs inp t = r_loop n ops xs ys zs (fun y => inp (t * 4 + y)) (-1) (-1) (nI 0) 300 (0, 0, 0, 0, Z0, fl (fun _ => nI 0) Z0 8, Z0, Z0) := rfl
  rw [e]
  have h2 := this.2
  dsimp only at h2
  omega
