theorem or_pos {p q : Nat} : 0 < p ||| q ↔ 0 < p ∨ 0 < q := by
  constructor
  · intro h
    rcases Nat.eq_zero_or_pos p with hp | hp
    · right; rw [hp, Nat.zero_or] at h; exact h
    · exact Or.inl hp
  · rintro (h | h)
    · exact Nat.lt_of_lt_of_le h Nat.left_le_or
    · exact Nat.lt_of_lt_of_le h Nat.right_le_or
theorem and_p2 (m a : Nat) : decide (0 < m &&& 1 * 2 ^ a) = m.testBit a := by
  rw [Nat.one_mul]
  cases h : m.testBit a with
  | true =>
    refine decide_eq_true (Nat.pos_of_ne_zero (fun z => ?_))
    have : (m &&& 2 ^ a).testBit a = true := by rw [Nat.testBit_and, h, Nat.testBit_two_pow_self]; rfl
    rw [z, Nat.zero_testBit] at this
    exact absurd this (by decide)
  | false =>
    refine decide_eq_false (fun hh => ?_)
    have e : m &&& 2 ^ a = 0 := by
      apply Nat.eq_of_testBit_eq
      intro i
      rw [Nat.testBit_and, Nat.testBit_two_pow, Nat.zero_testBit]
      by_cases q : a = i
      · subst q; rw [h]; rfl
      · rw [decide_eq_false q, Bool.and_false]
    rw [e] at hh
    exact absurd hh (by decide)
/-- a set of lines and the tests that meet it -/
def RR (N : Nat → Nat) (F : Nat → Fn) (x y : Nat) : Prop := ∀ t, t < N 3 → y.testBit t = decide (0 < MET N F t &&& x)
theorem RR_1 {N : Nat → Nat} {F : Nat → Fn} {a : Nat} (ha : a < 24) : RR N F (1 * 2 ^ a) (MBL N F a) := fun t ht => by rw [MBL_bit ht ha, and_p2]
theorem RR_or {N : Nat → Nat} {F : Nat → Fn} {x y x' y' : Nat} (h : RR N F x y) (h' : RR N F x' y') : RR N F (x ||| x') (y ||| y') := fun t ht => by
  rw [Nat.testBit_or, h t ht, h' t ht, Nat.and_or_distrib_left]
  by_cases h1 : 0 < MET N F t &&& x <;> by_cases h2 : 0 < MET N F t &&& x' <;> simp [or_pos, h1, h2]
theorem RR_0 {N : Nat → Nat} {F : Nat → Fn} : RR N F 0 0 := fun t ht => by rw [Nat.zero_testBit, Nat.and_zero]; rfl
theorem exN_iff {y fa : Nat} : exN y fa = true ↔ ∀ t, fa.testBit t = true → y.testBit t = true := by
  unfold exN
  rw [decide_eq_true_iff]
  constructor
  · intro h t ht
    have : (y &&& fa).testBit t = true := by rw [h]; exact ht
    rw [Nat.testBit_and] at this
    exact ((Bool.and_eq_true _ _).mp this).1
  · intro h
    apply Nat.eq_of_testBit_eq
    intro i
    rw [Nat.testBit_and]
    cases hf : fa.testBit i with
    | false => rw [Bool.and_false]
    | true => rw [h i hf]; rfl
theorem FAL_bit {N : Nat → Nat} {F : Nat → Fn} (t : Nat) : (FAL N F).testBit t = (decide (t < N 3) && pF N F t) := by unfold FAL; rw [bs_bit]; rfl
theorem PAL_bit {N : Nat → Nat} {F : Nat → Fn} (t : Nat) : (PAL N F).testBit t = (decide (t < N 3) && pP N F t) := by unfold PAL; rw [bs_bit]; rfl
theorem exq_iff {N : Nat → Nat} {F : Nat → Fn} {x t : Nat} : exq N F x t = true ↔ (pF N F t = true → decide (0 < MET N F t &&& x) = true) := by
  unfold exq pF
  cases (N 2).testBit t <;> cases PAS N F t (RUNP N F t) <;> cases decide (0 < MET N F t &&& x) <;> simp
theorem ex_eq {N : Nat → Nat} {F : Nat → Fn} {x y : Nat} (h : RR N F x y) : exM N F x = exN y (FAL N F) := by
  rw [Bool.eq_iff_iff]
  unfold exM
  rw [allB_iff, exN_iff]
  constructor
  · intro g t ht
    rw [FAL_bit] at ht
    have hh := (Bool.and_eq_true _ _).mp ht
    have h3 := of_decide_eq_true hh.1
    rw [h t h3]
    exact exq_iff.mp (g t h3) hh.2
  · intro g t ht
    refine exq_iff.mpr (fun hp => ?_)
    rw [← h t ht]
    exact g t (by rw [FAL_bit, decide_eq_true ht, hp]; rfl)
theorem ex_0 {N : Nat → Nat} {F : Nat → Fn} (h : ¬ FAL N F = 0) : exM N F 0 = false := by
  rw [ex_eq RR_0]
  unfold exN
  rw [Nat.zero_and]
  exact decide_eq_false (fun z => h z.symm)
theorem rem_bit {x k i : Nat} (hx : x < 2 ^ 24) : (rem_ x k).testBit i = (x.testBit i && !decide (k = i)) := by
  unfold rem_
  rw [Nat.testBit_and, Nat.testBit_xor, Nat.one_mul, Nat.testBit_two_pow, show (4294967295 : Nat) = 2 ^ 32 - 1 from rfl, Nat.testBit_two_pow_sub_one]
  by_cases hi : i < 32
  · rw [decide_eq_true hi]; cases x.testBit i <;> cases decide (k = i) <;> rfl
  · have : x.testBit i = false := Nat.testBit_lt_two_pow (Nat.lt_of_lt_of_le hx (Nat.pow_le_pow_right (by decide) (by omega)))
    rw [this]; rfl
theorem lsq_iff {N : Nat → Nat} {F : Nat → Fn} {x n : Nat} : allB (lsq N F x) n = true ↔ ∀ k, k < n → x.testBit k = true → exM N F (rem_ x k) = false := by
  rw [allB_iff]
  constructor
  · intro h k hk hb
    have := h k hk
    unfold lsq at this
    rw [hb] at this
    cases hq : exM N F (rem_ x k) with
    | false => rfl
    | true => rw [hq] at this; exact absurd this (by decide)
  · intro h k hk
    unfold lsq
    cases hb : x.testBit k with
    | false => rfl
    | true => rw [h k hk hb]; rfl
theorem b1 {a i : Nat} : (1 * 2 ^ a).testBit i = decide (a = i) := by rw [Nat.one_mul, Nat.testBit_two_pow]
theorem lst_1 {N : Nat → Nat} {F : Nat → Fn} {a : Nat} (hF : ¬ FAL N F = 0) (ha : a < 24) : lst N F (1 * 2 ^ a) = exM N F (1 * 2 ^ a) := by
  have hx : 1 * 2 ^ a < 2 ^ 24 := by rw [Nat.one_mul]; exact p2_24 ha
  unfold lst
  rw [lsq_iff.mpr (fun k hk hb => ?_), Bool.and_true]
  rw [b1] at hb
  have hk := of_decide_eq_true hb
  subst hk
  rw [show rem_ (1 * 2 ^ a) a = 0 from ?_]
  · exact ex_0 hF
  · apply Nat.eq_of_testBit_eq
    intro i
    rw [rem_bit hx, b1, Nat.zero_testBit]
    cases decide (a = i) <;> rfl
theorem lst_2 {N : Nat → Nat} {F : Nat → Fn} {a b : Nat} (hab : a < b) (hbn : b < N 0) (hn : N 0 ≤ 24) : lst N F (1 * 2 ^ a ||| 1 * 2 ^ b) = (exM N F (1 * 2 ^ a ||| 1 * 2 ^ b) && (!exM N F (1 * 2 ^ a) && !exM N F (1 * 2 ^ b))) := by
  have hx : 1 * 2 ^ a ||| 1 * 2 ^ b < 2 ^ 24 := by rw [Nat.one_mul, Nat.one_mul]; exact Nat.or_lt_two_pow (p2_24 (by omega)) (p2_24 (by omega))
  have ra : rem_ (1 * 2 ^ a ||| 1 * 2 ^ b) a = 1 * 2 ^ b := by
    apply Nat.eq_of_testBit_eq
    intro i
    rw [rem_bit hx, Nat.testBit_or, b1, b1]
    by_cases q : a = i <;> by_cases q2 : b = i <;> simp [q, q2] <;> omega
  have rb : rem_ (1 * 2 ^ a ||| 1 * 2 ^ b) b = 1 * 2 ^ a := by
    apply Nat.eq_of_testBit_eq
    intro i
    rw [rem_bit hx, Nat.testBit_or, b1, b1]
    by_cases q : a = i <;> by_cases q2 : b = i <;> simp [q, q2] <;> omega
  unfold lst
  congr 1
  rw [Bool.eq_iff_iff, lsq_iff]
  constructor
  · intro h
    have h1 := h a (by omega) (by rw [Nat.testBit_or, b1, decide_eq_true rfl]; rfl)
    have h2 := h b hbn (by rw [Nat.testBit_or, b1, b1, decide_eq_true (rfl : b = b), Bool.or_true])
    rw [ra] at h1; rw [rb] at h2
    rw [h1, h2]; rfl
  · intro h k hk hb
    obtain ⟨h1, h2⟩ := (Bool.and_eq_true _ _).mp h
    rw [Nat.testBit_or, b1, b1] at hb
    have h1 : exM N F (1 * 2 ^ a) = false := by simpa using h1
    have h2 : exM N F (1 * 2 ^ b) = false := by simpa using h2
    by_cases q : a = k
    · subst q; rw [ra]; exact h2
    · by_cases q2 : b = k
      · subst q2; rw [rb]; exact h1
      · simp [q, q2] at hb
theorem lst_3 {N : Nat → Nat} {F : Nat → Fn} {a b c : Nat} (hab : a < b) (hbc : b < c) (hcn : c < N 0) (hn : N 0 ≤ 24) : lst N F ((1 * 2 ^ a ||| 1 * 2 ^ b) ||| 1 * 2 ^ c) = (exM N F ((1 * 2 ^ a ||| 1 * 2 ^ b) ||| 1 * 2 ^ c) && (!exM N F (1 * 2 ^ a ||| 1 * 2 ^ b) && (!exM N F (1 * 2 ^ a ||| 1 * 2 ^ c) && !exM N F (1 * 2 ^ b ||| 1 * 2 ^ c)))) := by
  have hx : (1 * 2 ^ a ||| 1 * 2 ^ b) ||| 1 * 2 ^ c < 2 ^ 24 := by rw [Nat.one_mul, Nat.one_mul, Nat.one_mul]; exact Nat.or_lt_two_pow (Nat.or_lt_two_pow (p2_24 (by omega)) (p2_24 (by omega))) (p2_24 (by omega))
  have ra : rem_ ((1 * 2 ^ a ||| 1 * 2 ^ b) ||| 1 * 2 ^ c) a = 1 * 2 ^ b ||| 1 * 2 ^ c := by
    apply Nat.eq_of_testBit_eq
    intro i
    rw [rem_bit hx, Nat.testBit_or, Nat.testBit_or, Nat.testBit_or, b1, b1, b1]
    by_cases q : a = i <;> by_cases q2 : b = i <;> by_cases q3 : c = i <;> simp [q, q2, q3] <;> omega
  have rb : rem_ ((1 * 2 ^ a ||| 1 * 2 ^ b) ||| 1 * 2 ^ c) b = 1 * 2 ^ a ||| 1 * 2 ^ c := by
    apply Nat.eq_of_testBit_eq
    intro i
    rw [rem_bit hx, Nat.testBit_or, Nat.testBit_or, Nat.testBit_or, b1, b1, b1]
    by_cases q : a = i <;> by_cases q2 : b = i <;> by_cases q3 : c = i <;> simp [q, q2, q3] <;> omega
  have rc : rem_ ((1 * 2 ^ a ||| 1 * 2 ^ b) ||| 1 * 2 ^ c) c = 1 * 2 ^ a ||| 1 * 2 ^ b := by
    apply Nat.eq_of_testBit_eq
    intro i
    rw [rem_bit hx, Nat.testBit_or, Nat.testBit_or, b1, b1, b1]
    by_cases q : a = i <;> by_cases q2 : b = i <;> by_cases q3 : c = i <;> simp [q, q2, q3] <;> omega
  unfold lst
  congr 1
  rw [Bool.eq_iff_iff, lsq_iff]
  constructor
  · intro h
    have h1 := h a (by omega) (by rw [Nat.testBit_or, Nat.testBit_or, b1, decide_eq_true rfl]; rfl)
    have h2 := h b (by omega) (by rw [Nat.testBit_or, Nat.testBit_or, b1, b1, decide_eq_true (rfl : b = b), Bool.or_true]; rfl)
    have h3 := h c hcn (by rw [Nat.testBit_or, b1, decide_eq_true (rfl : c = c), Bool.or_true])
    rw [ra] at h1; rw [rb] at h2; rw [rc] at h3
    rw [h1, h2, h3]; rfl
  · intro h k hk hb
    obtain ⟨h1, h2⟩ := (Bool.and_eq_true _ _).mp h
    obtain ⟨h2, h3⟩ := (Bool.and_eq_true _ _).mp h2
    rw [Nat.testBit_or, Nat.testBit_or, b1, b1, b1] at hb
    have h1 : exM N F (1 * 2 ^ a ||| 1 * 2 ^ b) = false := by simpa using h1
    have h2 : exM N F (1 * 2 ^ a ||| 1 * 2 ^ c) = false := by simpa using h2
    have h3 : exM N F (1 * 2 ^ b ||| 1 * 2 ^ c) = false := by simpa using h3
    by_cases q : a = k
    · subst q; rw [ra]; exact h3
    · by_cases q2 : b = k
      · subst q2; rw [rb]; exact h2
      · by_cases q3 : c = k
        · subst q3; rw [rc]; exact h1
        · simp [q, q2, q3] at hb
theorem fm_map {α β : Type} {f : α → β} {g : Nat → List α} {h : Nat → List β} : ∀ {k : Nat}, (∀ i, i < k → (g i).map f = h i) → (fm g k).map f = fm h k
  | 0, _ => rfl
  | k + 1, hh => by unfold fm; rw [List.map_append, fm_map (fun i hi => hh i (by omega)), hh k (by omega)]
theorem map_if {α β : Type} {f : α → β} {p q : Bool} {x : α} {y : β} (h : p = q) (e : f x = y) : (if p = true then [x] else []).map f = if q = true then [y] else [] := by
  subst h
  split
  · simp [e]
  · rfl
theorem sets_map {N : Nat → Nat} {F : Nat → Fn} (hF : ¬ FAL N F = 0) (hn : N 0 ≤ 24) : (SETS N F).map Prod.fst = KALL N F (N 0) := by
  unfold SETS allS KALL
  rw [if_neg hF, List.map_append, List.map_append]
  refine congr (congrArg _ (fm_map (fun a ha => ?_))) (congr (congrArg _ (fm_map (fun b hb => fm_map (fun a ha => ?_)))) (fm_map (fun c hc => fm_map (fun b hb => fm_map (fun a ha => ?_)))))
  · exact map_if (by rw [lst_1 hF (by omega), ex_eq (RR_1 (by omega))]) (Nat.one_mul _).symm
  · exact map_if (by rw [lst_2 ha hb hn, ex_eq (RR_1 (by omega)), ex_eq (RR_1 (by omega)), ex_eq (RR_or (RR_1 (by omega)) (RR_1 (by omega)))]) (by rw [Nat.one_mul, Nat.one_mul])
  · exact map_if (by rw [lst_3 ha hb hc hn, ex_eq (RR_or (RR_or (RR_1 (by omega)) (RR_1 (by omega))) (RR_1 (by omega))), ex_eq (RR_or (RR_1 (a := a) (by omega)) (RR_1 (a := b) (by omega))), ex_eq (RR_or (RR_1 (a := a) (by omega)) (RR_1 (a := c) (by omega))), ex_eq (RR_or (RR_1 (a := b) (by omega)) (RR_1 (a := c) (by omega))), Nat.or_assoc]; rfl) (by rw [Nat.one_mul, Nat.one_mul, Nat.one_mul])
def RLs (N : Nat → Nat) (F : Nat → Fn) (L : List (Nat × Nat)) : Prop := ∀ q ∈ L, RR N F q.1 q.2
theorem RLs_append {N : Nat → Nat} {F : Nat → Fn} {L K : List (Nat × Nat)} (h : RLs N F L) (k : RLs N F K) : RLs N F (L ++ K) := fun q hq => (List.mem_append.mp hq).elim (h q) (k q)
theorem RLs_fm {N : Nat → Nat} {F : Nat → Fn} {g : Nat → List (Nat × Nat)} : ∀ (k : Nat), (∀ i, i < k → RLs N F (g i)) → RLs N F (fm g k)
  | 0, _ => fun q hq => absurd hq List.not_mem_nil
  | k + 1, h => RLs_append (RLs_fm k (fun i hi => h i (by omega))) (h k (by omega))
theorem RLs_one {N : Nat → Nat} {F : Nat → Fn} {c : Prop} [Decidable c] {x y : Nat} (h : RR N F x y) : RLs N F (if c then [(x, y)] else []) := by
  split
  · intro q hq
    rw [List.mem_singleton] at hq
    subst hq; exact h
  · exact fun q hq => absurd hq List.not_mem_nil
theorem RR_p {N : Nat → Nat} {F : Nat → Fn} {a : Nat} (ha : a < 24) : RR N F (2 ^ a) (MBL N F a) := by have := RR_1 (N := N) (F := F) ha; rwa [Nat.one_mul] at this
theorem RLs_sets {N : Nat → Nat} {F : Nat → Fn} (hn : N 0 ≤ 24) : RLs N F (SETS N F) := by
  unfold SETS allS
  split
  · exact fun q hq => absurd hq List.not_mem_nil
  · refine RLs_append (RLs_fm _ (fun c hc => RLs_one (RR_p (by omega)))) (RLs_append (RLs_fm _ (fun c hc => RLs_fm _ (fun b hb => RLs_one (RR_or (RR_p (by omega)) (RR_p (by omega)))))) (RLs_fm _ (fun c hc => RLs_fm _ (fun b hb => RLs_fm _ (fun a ha => RLs_one ?_)))))
    have := RR_or (RR_or (RR_p (N := N) (F := F) (a := a) (by omega)) (RR_p (a := b) (by omega))) (RR_p (a := c) (by omega))
    rwa [Nat.or_assoc (MBL N F a)] at this
