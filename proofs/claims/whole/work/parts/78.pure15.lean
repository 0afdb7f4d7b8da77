theorem w2_bv (w : Int64) : ∀ k, (w2 w k).toBitVec = w.toBitVec <<< k
  | 0 => by rw [BitVec.shiftLeft_zero]; rfl
  | k + 1 => by
    show (w2 w k * 2).toBitVec = _
    rw [Int64.toBitVec_mul, w2_bv w k]
    apply BitVec.eq_of_toNat_eq
    rw [BitVec.toNat_mul, BitVec.toNat_shiftLeft, BitVec.toNat_shiftLeft, Nat.shiftLeft_eq, Nat.shiftLeft_eq]
    show w.toBitVec.toNat * 2 ^ k % 2 ^ 64 * 2 % 2 ^ 64 = _
    rw [Nat.pow_succ 2 k, ← Nat.mul_assoc, Nat.mod_mul_mod]
theorem sm64 : ∀ k, k < 13 → (((nI k).toInt64 &&& 63).toBitVec.smod 64).toNat = k := by decide +kernel
theorem w2_shl (w : Int64) {k : Nat} (hk : k < 13) : w2 w k = w <<< ((nI k).toInt64 &&& 63) := by
  apply Int64.toBitVec_inj.mp
  rw [w2_bv, Int64.toBitVec_shiftLeft]
  show _ = w.toBitVec <<< (((nI k).toInt64 &&& 63).toBitVec.smod 64).toNat
  rw [sm64 k hk]
theorem pz_ct {N : Nat → Nat} {F : Nat → Fn} {x y : Nat} (h12 : N 3 ≤ 12) (h : RR N F x y) : pc12 (PAL N F &&& (y ^^^ 4294967295)) = ct (pz N F x) (N 3) := by
  unfold pc12
  rw [ct_cong (q := fun i => decide (i < N 3) && pz N F x i) (fun i hi => ?_)]
  · exact ct_cut h12
  · rw [Nat.testBit_and, PAL_bit, Nat.testBit_xor, show (4294967295 : Nat) = 2 ^ 32 - 1 from rfl, Nat.testBit_two_pow_sub_one, decide_eq_true (show i < 32 by omega)]
    by_cases q : i < N 3
    · rw [decide_eq_true q, h i q]
      unfold pz
      have e : decide (MET N F i &&& x = 0) = !decide (0 < MET N F i &&& x) := by
        by_cases z : MET N F i &&& x = 0
        · rw [z]; rfl
        · rw [decide_eq_false z, decide_eq_true (Nat.pos_of_ne_zero z)]; rfl
      rw [e]
      cases pP N F i <;> cases decide (0 < MET N F i &&& x) <;> rfl
    · rw [decide_eq_false q]; rfl
theorem chW_eq {N : Nat → Nat} {F : Nat → Fn} {x y : Nat} (h12 : N 3 ≤ 12) (h : RR N F x y) : chW N F x = wOf (F 27) (N 0) (PAL N F) x y := by
  unfold chW wOf
  rw [pz_ct h12 h]
  exact w2_shl _ (by have := ct_le (pz N F x) (N 3); omega)
/-- what the search for sets leaves -/
def FS (N : Nat → Nat) (F : Nat → Fn) (M : Nat → Nat) (E : Nat → Fn) (L : Nat → Int64) : Prop := GA N F M E ∧ M 9 = (SETS N F).length ∧ (∀ i, i < (SETS N F).length → E 7 i = nI ((SETS N F).getD i (0, 0)).1 ∧ L i = WI N F i) ∧ (SETS N F).length ≤ 2400
theorem SETS_le {N : Nat → Nat} {F : Nat → Fn} (hn : N 0 ≤ 24) : (SETS N F).length ≤ 2400 := by
  unfold SETS allS
  split
  · exact Nat.zero_le _
  · have h1 := aS_len (MBL N F) (FAL N F) (N 0)
    have h2 := aP_len (MBL N F) (FAL N F) (N 0)
    have h3 := aT_len (MBL N F) (FAL N F) (N 0)
    have h4 := tri_mono hn
    have h5 := tet_mono hn
    rw [tri_24] at h4
    rw [tet_24] at h5
    rw [List.length_append, List.length_append]; omega
theorem FS_of {N : Nat → Nat} {F : Nat → Fn} {M : Nat → Nat} {E : Nat → Fn} {L : Nat → Int64} (hn : N 0 ≤ 24) (h12 : N 3 ≤ 12) (hg : GA N F M E) (h9 : M 9 = (if FAL N F = 0 then [] else KALL N F (N 0)).length) (hs : SLW N F (E 7) L (if FAL N F = 0 then [] else KALL N F (N 0))) : FS N F M E L := by
  have hmap : (SETS N F).map Prod.fst = (if FAL N F = 0 then [] else KALL N F (N 0)) := by
    by_cases hF : FAL N F = 0
    · rw [if_pos hF]; unfold SETS allS; rw [if_pos hF]; rfl
    · rw [if_neg hF]; exact sets_map hF hn
  rw [← hmap] at h9 hs
  refine ⟨hg, by rw [h9, List.length_map], fun i hi => ?_, SETS_le hn⟩
  have e : (SETS N F)[i]? = some ((SETS N F).getD i (0, 0)) := by
    rw [List.getD_eq_getElem?_getD, List.getElem?_eq_getElem hi]; rfl
  obtain ⟨h1, h2⟩ := hs i ((SETS N F).getD i (0, 0)).1 (by rw [List.getElem?_map, e]; rfl)
  refine ⟨h1, ?_⟩
  rw [h2]
  unfold WI wI
  exact chW_eq h12 (RLs_sets hn _ (getD_mem hi))
/-- a long that is a number -/
def nL (k : Nat) : Int64 := Int64.ofNat k
theorem nL_pos {k : Nat} (h0 : 0 < k) (h : k < 2 ^ 63) : (0 : Int64) < nL k := by
  rw [Int64.lt_iff_toInt_lt]
  have e0 : (0 : Int64).toInt = 0 := by decide
  have e1 : (nL k).toInt = k := Int64.toInt_ofNat_of_lt h
  rw [e0, e1]; omega
theorem pr_L : ∀ k, k < 10 → 1 ≤ k → (nI k).toInt64 = nL k ∧ (nI 10 - nI k).toInt64 = nL (10 - k) := by decide +kernel
theorem wgt_nat {pr : Fn} {x : Nat} (hp : ∀ i, i < 24 → ∃ k, 1 ≤ k ∧ k ≤ 9 ∧ pr i = nI k) : ∀ l, l ≤ 12 → ∃ m, 0 < m ∧ m ≤ 9 ^ l ∧ wgt pr x l = nL m
  | 0, _ => ⟨1, by decide, by decide, rfl⟩
  | l + 1, h => by
    obtain ⟨m, h1, h2, h3⟩ := wgt_nat hp l (by omega)
    obtain ⟨k, k1, k9, ke⟩ := hp l (by omega)
    obtain ⟨p1, p2⟩ := pr_L k (by omega) k1
    have e9 : (9 : Nat) ^ (l + 1) = 9 ^ l * 9 := Nat.pow_succ 9 l
    cases hb : x.testBit l with
    | true =>
      refine ⟨m * k, Nat.mul_pos h1 (by omega), ?_, ?_⟩
      · rw [e9]; exact Nat.mul_le_mul h2 (by omega)
      · rw [wgt_y hb, h3, ke, p1]; exact (Int64.ofNat_mul m k).symm
    | false =>
      refine ⟨m * (10 - k), Nat.mul_pos h1 (by omega), ?_, ?_⟩
      · rw [e9]; exact Nat.mul_le_mul h2 (by omega)
      · rw [wgt_n hb, h3, ke, p2]; exact (Int64.ofNat_mul m (10 - k)).symm
theorem w2_nat {m : Nat} : ∀ k, w2 (nL m) k = nL (m * 2 ^ k)
  | 0 => by rw [Nat.pow_zero, Nat.mul_one]; rfl
  | k + 1 => by
    rw [w2, w2_nat k, Nat.pow_succ, ← Nat.mul_assoc]
    exact (Int64.ofNat_mul (m * 2 ^ k) 2).symm
theorem chW_pos {N : Nat → Nat} {F : Nat → Fn} (h12 : N 3 ≤ 12) (hp : ∀ i, i < 24 → ∃ k, 1 ≤ k ∧ k ≤ 9 ∧ F 27 i = nI k) (x : Nat) : 0 < chW N F x := by
  unfold chW
  obtain ⟨m, h1, h2, h3⟩ := wgt_nat (x := x) hp (min (N 0) 12) (by omega)
  rw [h3, w2_nat]
  have hc := ct_le (pz N F x) (N 3)
  have h4 : (2 : Nat) ^ ct (pz N F x) (N 3) ≤ 2 ^ 12 := Nat.pow_le_pow_right (by decide) (by omega)
  have h5 : (9 : Nat) ^ min (N 0) 12 ≤ 9 ^ 12 := Nat.pow_le_pow_right (by decide) (by omega)
  have h6 : m * 2 ^ ct (pz N F x) (N 3) ≤ 9 ^ 12 * 2 ^ 12 := Nat.mul_le_mul (by omega) h4
  exact nL_pos (Nat.mul_pos h1 (Nat.two_pow_pos _)) (Nat.lt_of_le_of_lt h6 (by decide))
theorem WI_pos {N : Nat → Nat} {F : Nat → Fn} (hn : N 0 ≤ 24) (h12 : N 3 ≤ 12) (hp : ∀ i, i < 24 → ∃ k, 1 ≤ k ∧ k ≤ 9 ∧ F 27 i = nI k) {i : Nat} (hi : i < (SETS N F).length) : 0 < WI N F i := by
  unfold WI wI
  rw [← chW_eq h12 (RLs_sets hn _ (getD_mem hi))]
  exact chW_pos h12 hp _
/-- the best so far, as the reference keeps it -/
def bInv (w : Nat → Int64) (s : Nat → Nat) (i : Nat) (bx : Int32) : Prop := (i = 0 ∧ bx = (-1)) ∨ ∃ j, j < i ∧ bx = nI j ∧ bestF w s i = (nI (s j), w j)
theorem bInv_new {w : Nat → Int64} {s : Nat → Nat} {i : Nat} (h : (bestF w s i).2 < w i) : bInv w s (i + 1) (nI i) := Or.inr ⟨i, Nat.lt_succ_self i, rfl, by rw [bestF, if_pos h]⟩
theorem bInv_old {w : Nat → Int64} {s : Nat → Nat} {i j : Nat} (hj : j < i) (e : bestF w s i = (nI (s j), w j)) (h : ¬ w j < w i) : bInv w s (i + 1) (nI j) := Or.inr ⟨j, Nat.lt_succ_of_lt hj, rfl, by rw [bestF, if_neg (by rw [e]; exact h), e]⟩
theorem open_ct {N : Nat → Nat} {F : Nat → Fn} (hLA : LA N F) : pc12 (N 2) = ct (fun t => (N 2).testBit t) (N 3) := by
  obtain ⟨h1, h2, h3, h4, h5⟩ := hLA
  unfold pc12
  rw [ct_cong (q := fun i => decide (i < N 3) && (N 2).testBit i) (fun i hi => ?_)]
  · exact ct_cut h3
  · by_cases q : i < N 3
    · rw [decide_eq_true q]; rfl
    · rw [decide_eq_false q]
      exact Nat.testBit_lt_two_pow (Nat.lt_of_lt_of_le h4 (Nat.pow_le_pow_right (by decide) (by omega)))
