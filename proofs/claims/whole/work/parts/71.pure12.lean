theorem ct_cut {p : Nat → Bool} {n : Nat} : ∀ {m : Nat}, n ≤ m → ct (fun i => decide (i < n) && p i) m = ct p n
  | 0, h => by have : n = 0 := by omega
               subst this; rfl
  | m + 1, h => by
    by_cases q : n = m + 1
    · subst q
      exact ct_cong (fun i hi => by rw [decide_eq_true hi]; rfl)
    · have h1 := ct_cut (p := p) (n := n) (m := m) (by omega)
      rw [ct_n (by show (decide (m < n) && p m) = false; rw [decide_eq_false (by omega)]; rfl)]
      exact h1
theorem pc12_bs {p : Nat → Bool} {n : Nat} (hn : n ≤ 12) : pc12 (bs p n) = ct p n := by
  unfold pc12
  rw [ct_cong (q := fun i => decide (i < n) && p i) (fun i _ => bs_bit p i n)]
  exact ct_cut hn
theorem pc12_bs2 {p q : Nat → Bool} {n : Nat} (hn : n ≤ 12) : pc12 (bs p n &&& bs q n) = ct (fun t => q t && p t) n := by
  unfold pc12
  rw [ct_cong (q := fun i => decide (i < n) && (q i && p i)) (fun i _ => by
    rw [Nat.testBit_and, bs_bit p i n, bs_bit q i n]
    cases decide (i < n) <;> cases p i <;> cases q i <;> rfl)]
  exact ct_cut hn
/-- the lines that a test's run meets -/
def MET (N : Nat → Nat) (F : Nat → Fn) (t : Nat) : Nat := bs (fun l => hasE (RUNP N F t).2.2.2.2.1 (nI l) (RUNP N F t).2.1) 24
theorem MET_lt (N : Nat → Nat) (F : Nat → Fn) (t : Nat) : MET N F t < 16777216 := by have := bs_lt (fun l => hasE (RUNP N F t).2.2.2.2.1 (nI l) (RUNP N F t).2.1) 24; exact this
theorem MET_bit {N : Nat → Nat} {F : Nat → Fn} {t l : Nat} (hl : l < 24) : (MET N F t).testBit l = hasE (RUNP N F t).2.2.2.2.1 (nI l) (RUNP N F t).2.1 := by
  unfold MET; rw [bs_bit, decide_eq_true hl]; rfl
theorem MET_hi {N : Nat → Nat} {F : Nat → Fn} {t l : Nat} (hl : 24 ≤ l) : (MET N F t).testBit l = false := by
  unfold MET; rw [bs_bit, decide_eq_false (by omega)]; rfl
theorem MBL_bit {N : Nat → Nat} {F : Nat → Fn} {t l : Nat} (ht : t < N 3) (hl : l < 24) : (MBL N F l).testBit t = (MET N F t).testBit l := by
  rw [MET_bit hl]; unfold MBL; rw [bs_bit, decide_eq_true ht]; rfl
theorem met_s {tr : Fn} {k j : Nat} (hj : j < 24) (h : tr k = nI j) : bs (fun l => hasE tr (nI l) (k + 1)) 24 = bs (fun l => hasE tr (nI l) k) 24 ||| 1 * 2 ^ j := by
  apply Nat.eq_of_testBit_eq
  intro i
  rw [Nat.testBit_or, bs_bit, bs_bit, Nat.one_mul, Nat.testBit_two_pow]
  show (decide (i < 24) && (hasE tr (nI i) k || decide (tr k = nI i))) = _
  rw [h]
  by_cases hi : i < 24
  · rw [decide_eq_true hi, Bool.true_and, Bool.true_and]
    have : (nI j = nI i) ↔ j = i := nI_eq (by omega) (by omega)
    simp [this]
  · rw [decide_eq_false hi, Bool.false_and, Bool.false_and, decide_eq_false (by omega)]; rfl
theorem met_0 {tr : Fn} : bs (fun l => hasE tr (nI l) 0) 24 = 0 := by
  apply Nat.eq_of_testBit_eq
  intro i
  rw [bs_bit]
  show (decide (i < 24) && false) = _
  rw [Bool.and_false, Nat.zero_testBit]
theorem met_end {N : Nat → Nat} {F : Nat → Fn} {t : Nat} {a : RS} (h : r_ag a (RUNP N F t)) : bs (fun l => hasE a.2.2.2.2.1 (nI l) a.2.1) 24 = MET N F t := by
  unfold MET
  refine bs_cong (fun l _ => ?_)
  rw [hasE_ag h.2.2.2.2.1, h.2.1]
def pF (N : Nat → Nat) (F : Nat → Fn) (t : Nat) : Bool := !(N 2).testBit t && !PAS N F t (RUNP N F t)
def pP (N : Nat → Nat) (F : Nat → Fn) (t : Nat) : Bool := !(N 2).testBit t && PAS N F t (RUNP N F t)
def pC (N : Nat → Nat) (F : Nat → Fn) (t : Nat) : Bool := r_on (N 0) (RUNP N F t)
def GA (N : Nat → Nat) (F : Nat → Fn) (M : Nat → Nat) (E : Nat → Fn) : Prop := M 4 = pc12 (FAL N F) ∧ M 5 = pc12 (PAL N F) ∧ M 6 = pc12 (CUL N F) ∧ ∀ t, t < N 3 → E 5 t = nI (MET N F t) ∧ E 6 t = bI (PAS N F t (RUNP N F t))
theorem GA_of {N : Nat → Nat} {F : Nat → Fn} (h12 : N 3 ≤ 12) {t : Nat} (ht : t = N 3) {M : Nat → Nat} {E : Nat → Fn} (h4 : M 4 = ct (pF N F) t) (h5 : M 5 = ct (pP N F) t) (h6 : M 6 = ct (pC N F) t) (h : ∀ i, i < t → E 5 i = nI (MET N F i) ∧ E 6 i = bI (PAS N F i (RUNP N F i))) : GA N F M E := by
  subst ht
  exact ⟨h4.trans (pc12_bs h12).symm, h5.trans (pc12_bs h12).symm, h6.trans (pc12_bs h12).symm, h⟩
theorem ga_s {N : Nat → Nat} {F : Nat → Fn} {t : Nat} {me me2 ps2 : Fn} {v : Int32} (hm : ∀ i, i < t → me2 i = nI (MET N F i) ∧ ps2 i = bI (PAS N F i (RUNP N F i))) (h1 : me t = nI (MET N F t)) (h2 : ∀ i, i ≠ t → me i = me2 i) (hv : v = bI (PAS N F t (RUNP N F t))) : ∀ i, i < t + 1 → me i = nI (MET N F i) ∧ upd ps2 t v i = bI (PAS N F i (RUNP N F i)) := fun i hi => by
  by_cases q : i = t
  · subst q; rw [upd_s]; exact ⟨h1, hv⟩
  · rw [upd_n q, h2 i q]; exact hm i (by omega)
def qA (N : Nat → Nat) (F : Nat → Fn) (i t : Nat) : Bool := pF N F t && (MET N F t).testBit i
def qB (N : Nat → Nat) (F : Nat → Fn) (i t : Nat) : Bool := pP N F t && (MET N F t).testBit i
theorem sc_a {N : Nat → Nat} {F : Nat → Fn} {i : Nat} (h12 : N 3 ≤ 12) (hi : i < 24) : pc12 (MBL N F i &&& FAL N F) = ct (qA N F i) (N 3) := by
  unfold MBL FAL
  rw [pc12_bs2 h12]
  refine ct_cong (fun t ht => ?_)
  unfold qA
  rw [MET_bit hi]; rfl
theorem sc_b {N : Nat → Nat} {F : Nat → Fn} {i : Nat} (h12 : N 3 ≤ 12) (hi : i < 24) : pc12 (MBL N F i &&& PAL N F) = ct (qB N F i) (N 3) := by
  unfold MBL PAL
  rw [pc12_bs2 h12]
  refine ct_cong (fun t ht => ?_)
  unfold qB
  rw [MET_bit hi]; rfl
/-- a score, reduced -/
def RD (q : Nat × Nat) : Nat × Nat := (q.1 / Nat.gcd q.2 q.1, q.2 / Nat.gcd q.2 q.1)
theorem SCU_of {N : Nat → Nat} {F : Nat → Fn} {M : Nat → Nat} {E : Nat → Fn} (h12 : N 3 ≤ 12) {i k a b : Nat} (hi : i < 24) (hg : GA N F M E) (ha : a = ct (qA N F i) (N 3)) (hb : b = ct (qB N F i) (N 3)) : SCU N F i k = scH (scU k a b (M 4) (M 5)) := by
  unfold SCU
  rw [sc_a h12 hi, sc_b h12 hi, ← ha, ← hb, ← hg.1, ← hg.2.1]
theorem ga_bd {N : Nat → Nat} {F : Nat → Fn} {M : Nat → Nat} {E : Nat → Fn} (hg : GA N F M E) : M 4 ≤ 12 ∧ M 5 ≤ 12 ∧ M 6 ≤ 12 := ⟨by rw [hg.1]; exact pc12_le _, by rw [hg.2.1]; exact pc12_le _, by rw [hg.2.2.1]; exact pc12_le _⟩
theorem mul12 {a b : Nat} (ha : a ≤ 12) (hb : b ≤ 24) : a * b ≤ 288 := by
  have := Nat.mul_le_mul ha hb
  omega
theorem frac_0 {p : Nat} : RD (scH (p, 0)) = (0, 1) := by unfold scH; rw [if_pos rfl]; decide
theorem frac_q {p q : Nat} (hq : 0 < q) : RD (scH (p, q)) = (p / Nat.gcd p q, q / Nat.gcd p q) := by
  unfold scH RD
  rw [if_neg (by show ¬ q = 0; omega)]
  show (p / Nat.gcd q p, q / Nat.gcd q p) = _
  rw [Nat.gcd_comm q p]
theorem cr_lt {u1 l1 u2 l2 : Nat} (h1 : 0 < l1) (h2 : 0 < l2) : ((RD (u1, l1)).1 * (RD (u2, l2)).2 < (RD (u2, l2)).1 * (RD (u1, l1)).2 ↔ u1 * l2 < u2 * l1) ∧ ((RD (u2, l2)).1 * (RD (u1, l1)).2 = (RD (u1, l1)).1 * (RD (u2, l2)).2 ↔ u2 * l1 = u1 * l2) := by
  have g1 : 0 < Nat.gcd l1 u1 := Nat.gcd_pos_of_pos_left _ h1
  have g2 : 0 < Nat.gcd l2 u2 := Nat.gcd_pos_of_pos_left _ h2
  have hg : 0 < Nat.gcd l1 u1 * Nat.gcd l2 u2 := Nat.mul_pos g1 g2
  have eu1 : u1 / Nat.gcd l1 u1 * Nat.gcd l1 u1 = u1 := Nat.div_mul_cancel (Nat.gcd_dvd_right _ _)
  have el1 : l1 / Nat.gcd l1 u1 * Nat.gcd l1 u1 = l1 := Nat.div_mul_cancel (Nat.gcd_dvd_left _ _)
  have eu2 : u2 / Nat.gcd l2 u2 * Nat.gcd l2 u2 = u2 := Nat.div_mul_cancel (Nat.gcd_dvd_right _ _)
  have el2 : l2 / Nat.gcd l2 u2 * Nat.gcd l2 u2 = l2 := Nat.div_mul_cancel (Nat.gcd_dvd_left _ _)
  have x1 : u1 * l2 = (u1 / Nat.gcd l1 u1 * (l2 / Nat.gcd l2 u2)) * (Nat.gcd l1 u1 * Nat.gcd l2 u2) := by
    rw [Nat.mul_mul_mul_comm, eu1, el2]
  have x2 : u2 * l1 = (u2 / Nat.gcd l2 u2 * (l1 / Nat.gcd l1 u1)) * (Nat.gcd l1 u1 * Nat.gcd l2 u2) := by
    rw [Nat.mul_comm (Nat.gcd l1 u1), Nat.mul_mul_mul_comm, eu2, el1]
  unfold RD
  dsimp only
  refine ⟨?_, ?_⟩
  · rw [x1, x2]; exact (Nat.mul_lt_mul_right hg).symm
  · rw [x1, x2]; exact ⟨fun h => by rw [h], fun h => Nat.eq_of_mul_eq_mul_right hg h⟩
theorem RD_bound {N : Nat → Nat} {F : Nat → Fn} (i k : Nat) : (RD (SCU N F i k)).1 ≤ 300 ∧ (RD (SCU N F i k)).2 ≤ 300 := by
  obtain ⟨h1, h2, h3⟩ := SCU_bound N F i k
  unfold RD
  exact ⟨Nat.le_trans (Nat.div_le_self _ _) (by omega), Nat.le_trans (Nat.div_le_self _ _) h1⟩
theorem sub_cmp {x y : Nat} (hx : x < 2 ^ 30) (hy : y < 2 ^ 30) : ((0 : Int32) < nI x - nI y ↔ y < x) ∧ (nI x - nI y = 0 ↔ x = y) := by
  have e0 : (0 : Int32).toInt = 0 := by decide
  have hs : (nI x - nI y).toInt = (x : Int) - y := by
    rw [Int32.toInt_sub, nI_toInt (by omega), nI_toInt (by omega)]
    dsimp only [Int.bmod]
    split <;> omega
  refine ⟨?_, ?_⟩
  · rw [Int32.lt_iff_toInt_lt, hs, e0]; omega
  · rw [← Int32.toInt_inj, hs, e0]; omega
theorem ahead_t {N : Nat → Nat} {F : Nat → Fn} {i k o : Nat} (h : (RD (SCU N F i k)).1 * (RD (SCU N F o k)).2 < (RD (SCU N F o k)).1 * (RD (SCU N F i k)).2) : ahead N F i k o = true := by
  unfold ahead
  have := (cr_lt (u1 := (SCU N F i k).1) (u2 := (SCU N F o k).1) (SCU_bound N F i k).2.2 (SCU_bound N F o k).2.2).1.mp h
  rw [decide_eq_true this]; rfl
theorem ahead_e {N : Nat → Nat} {F : Nat → Fn} {i k o : Nat} (h : (RD (SCU N F o k)).1 * (RD (SCU N F i k)).2 = (RD (SCU N F i k)).1 * (RD (SCU N F o k)).2) : ahead N F i k o = decide (o < i) := by
  unfold ahead
  have := (cr_lt (u1 := (SCU N F i k).1) (u2 := (SCU N F o k).1) (SCU_bound N F i k).2.2 (SCU_bound N F o k).2.2).2.mp h
  rw [decide_eq_true this, decide_eq_false (by omega)]; rfl
theorem ahead_f {N : Nat → Nat} {F : Nat → Fn} {i k o : Nat} (h : (RD (SCU N F o k)).1 * (RD (SCU N F i k)).2 < (RD (SCU N F i k)).1 * (RD (SCU N F o k)).2) : ahead N F i k o = false := by
  unfold ahead
  have c := cr_lt (u1 := (SCU N F i k).1) (u2 := (SCU N F o k).1) (SCU_bound N F i k).2.2 (SCU_bound N F o k).2.2
  rw [decide_eq_false (fun z => absurd (c.1.mpr z) (Nat.not_lt.mpr (Nat.le_of_lt h))), decide_eq_false (fun z => absurd (c.2.mpr z) (Nat.ne_of_lt h))]; rfl
