theorem cT_f {nt : Nat} {p : Int32} (h : inR p nt = false) : cT nt p = (-1) := by unfold cT; rw [if_neg (by rw [h]; decide)]
def okOut (N : Nat → Nat) (F : Nat → Fn) (p k : Int32) : Bool := inR p (N 3) && inR k (RUNP N F (tn p)).2.2.1
def okMend (N : Nat → Nat) (F : Nat → Fn) (p q : Int32) : Bool := decide (mendF N F p q = nI 0) && !decide (mendR N F (tn p) (tn q) = nI 21)
/-- the values that are tried, in the reference's order -/
def mv (k : Nat) : Int32 := if k % 2 = 1 then -nI ((k + 1) / 2) else nI (k / 2)
theorem mv_odd : ∀ k, k < 41 → k % 2 = 1 → -nI (k + 1) / nI 2 = mv k := by decide +kernel
theorem mv_even {k : Nat} (h : ¬ k % 2 = 1) : nI (k / 2) = mv k := by unfold mv; rw [if_neg h]
theorem mv_lt : ∀ k, k < 41 → mv k < nI 100 ∧ ¬ mv k = nI 21 := by decide +kernel
def mInv (f : Int32 → Bool) (R : Int32) (k : Nat) : Prop := mendV f (21 - (k + 1) / 2) ((k + 1) / 2) = R ∧ (k % 2 = 0 → 0 < k → f (-nI (k / 2)) = false)
theorem mInv_t {f : Int32 → Bool} {R : Int32} {k : Nat} (h : mInv f R k) (hk : k < 41) (hf : f (mv k) = true) : mv k = R := by
  unfold mv at hf ⊢
  by_cases ho : k % 2 = 1
  · rw [if_pos ho] at hf ⊢
    exact mendV_1 h.1 (by omega) hf
  · rw [if_neg ho] at hf ⊢
    have e : (k + 1) / 2 = k / 2 := by omega
    have h1 := h.1
    rw [e] at h1
    by_cases h0 : 0 < k
    · exact mendV_2 h1 (by omega) (h.2 (by omega) h0) hf
    · have : k = 0 := by omega
      subst this
      have := mendV_1 h1 (by omega) (show f (-nI 0) = true from hf)
      exact this
theorem mInv_f {f : Int32 → Bool} {R : Int32} {k : Nat} (h : mInv f R k) (hk : k < 41) (hf : f (mv k) = false) : mInv f R (k + 1) := by
  unfold mv at hf
  by_cases ho : k % 2 = 1
  · rw [if_pos ho] at hf
    have e : (k + 1 + 1) / 2 = (k + 1) / 2 := by omega
    refine ⟨by rw [e]; exact h.1, fun _ _ => hf⟩
  · rw [if_neg ho] at hf
    have e : (k + 1) / 2 = k / 2 := by omega
    have e2 : (k + 1 + 1) / 2 = k / 2 + 1 := by omega
    have h1 := h.1
    rw [e] at h1
    refine ⟨?_, fun q => absurd q (by omega)⟩
    rw [e2]
    refine mendV_s h1 (by omega) ?_ hf
    by_cases h0 : 0 < k
    · exact h.2 (by omega) h0
    · have : k = 0 := by omega
      subst this
      exact hf
theorem mInv_0 (f : Int32 → Bool) : mInv f (mendV f 21 0) 0 := ⟨rfl, fun _ q => absurd q (Nat.lt_irrefl 0)⟩
theorem mInv_e {f : Int32 → Bool} {R : Int32} {k : Nat} (h : mInv f R k) (hk : k = 41) : R = nI 21 := by subst hk; exact h.1.symm
theorem vrun_now {N : Nat → Nat} {F : Nat → Fn} (hLA : LA N F) (t : Nat) : PAS N F t (VRUN N F (N 1) t) = PAS N F t (RUNP N F t) := by
  refine r_pass_ag (r_run_ag (fun i hi q => absurd q (nI_m1 (by have := hLA.1; omega))) ?_ ⟨fun i hi => ?_, fun _ _ => rfl⟩ _ _ _ _ _ _ _ _)
  · obtain ⟨h1, h2, h3, h4, h5, h6, h7, h8, h9, h10⟩ := hLA
    exact ver_ok h5 h7 (N 1) (Nat.le_refl _)
  · exact ⟨v4_now (j := 0) hLA hi (by decide), v4_now (j := 1) hLA hi (by decide), v4_now (j := 2) hLA hi (by decide), v4_now (j := 3) hLA hi (by decide)⟩
theorem hv_go2 {f : Nat → Bool} {lo hi lk : Nat} {R : Nat × Nat × Nat} (h : hv f (20 - lk) (lo, hi, lk) = R) (hg : hi ≤ lo + (20 - lk)) (hlt : lo + 1 < hi) :
    (f ((lo + hi) / 2) = true → hv f (20 - (lk + 1)) ((lo + hi) / 2, hi, lk + 1) = R) ∧ (f ((lo + hi) / 2) = false → hv f (20 - (lk + 1)) (lo, (lo + hi) / 2, lk + 1) = R) := by
  refine ⟨fun q => ?_, fun q => ?_⟩
  · have := hv_go h (by omega) hlt q
    simpa using this
  · have := hv_go h (by omega) hlt q
    simpa using this
theorem MR_line {N : Nat → Nat} {F : Nat → Fn} {T X B : Fn} {op x y z : Int32} (h : MR N F T X B) (hc : N 1 = 0) : MR (nLine N) (fLine N F op x y z) (upd (upd (upd (upd T (4 * N 0) op) (4 * N 0 + 1) x) (4 * N 0 + 2) y) (4 * N 0 + 3) z) X B := by
  refine ⟨?_, fun c hc2 => absurd hc2 (by show ¬ c < N 1; omega), h.2.2⟩
  intro i hi j hj
  have hi : i < N 0 + 1 := hi
  by_cases q : i = N 0
  · subst q
    rcases (show j = 0 ∨ j = 1 ∨ j = 2 ∨ j = 3 by omega) with rfl | rfl | rfl | rfl
    · show _ = upd (F 0) (N 0) op (N 0)
      rw [upd_n (by omega), upd_n (by omega), upd_n (by omega), Nat.add_zero, upd_s, upd_s]
    · show _ = upd (F 1) (N 0) x (N 0)
      rw [upd_n (by omega), upd_n (by omega), upd_s, upd_s]
    · show _ = upd (F 2) (N 0) y (N 0)
      rw [upd_n (by omega), upd_s, upd_s]
    · show _ = upd (F 3) (N 0) z (N 0)
      rw [upd_s, upd_s]
  · rw [upd_n (by omega), upd_n (by omega), upd_n (by omega), upd_n (by omega), h.1 i (by omega) j hj]
    rcases (show j = 0 ∨ j = 1 ∨ j = 2 ∨ j = 3 by omega) with rfl | rfl | rfl | rfl
    · show _ = upd (F 0) (N 0) op i
      rw [upd_n q]
    · show _ = upd (F 1) (N 0) x i
      rw [upd_n q]
    · show _ = upd (F 2) (N 0) y i
      rw [upd_n q]
    · show _ = upd (F 3) (N 0) z i
      rw [upd_n q]
theorem MR_change {N : Nat → Nat} {F : Nat → Fn} {T X B : Fn} {t : Nat} {op x y z : Int32} (h : MR N F T X B) : MR (nChange N) (fChange N F t op x y z) T (upd (upd (upd (upd (upd X (5 * N 1) (nI t)) (5 * N 1 + 1) op) (5 * N 1 + 1 + 1) x) (5 * N 1 + 1 + 2) y) (5 * N 1 + 1 + 3) z) B := by
  refine ⟨?_, ?_, h.2.2⟩
  · intro i hi j hj
    rw [h.1 i hi j hj]
    rcases (show j = 0 ∨ j = 1 ∨ j = 2 ∨ j = 3 by omega) with rfl | rfl | rfl | rfl <;> rfl
  intro c hc
  have hc : c < N 1 + 1 := hc
  by_cases q : c = N 1
  · subst q
    refine ⟨?_, fun j hj => ?_⟩
    · show _ = upd (F 16) (N 1) (nI t) (N 1)
      rw [upd_n (by omega), upd_n (by omega), upd_n (by omega), upd_n (by omega), upd_s, upd_s]
    · rcases (show j = 0 ∨ j = 1 ∨ j = 2 ∨ j = 3 by omega) with rfl | rfl | rfl | rfl
      · show _ = upd (F 12) (N 1) op (N 1)
        rw [upd_n (by omega), upd_n (by omega), upd_n (by omega), Nat.add_zero, upd_s, upd_s]
      · show _ = upd (F 13) (N 1) x (N 1)
        rw [upd_n (by omega), upd_n (by omega), upd_s, upd_s]
      · show _ = upd (F 14) (N 1) y (N 1)
        rw [upd_n (by omega), upd_s, upd_s]
      · show _ = upd (F 15) (N 1) z (N 1)
        rw [upd_s, upd_s]
  · have hh := h.2.1 c (by omega)
    refine ⟨?_, fun j hj => ?_⟩
    · show _ = upd (F 16) (N 1) (nI t) c
      rw [upd_n (by omega), upd_n (by omega), upd_n (by omega), upd_n (by omega), upd_n (by omega), upd_n q]
      exact hh.1
    · rw [upd_n (by omega), upd_n (by omega), upd_n (by omega), upd_n (by omega), upd_n (by omega), hh.2 j hj]
      rcases (show j = 0 ∨ j = 1 ∨ j = 2 ∨ j = 3 by omega) with rfl | rfl | rfl | rfl
      · show _ = upd (F 12) (N 1) op c
        rw [upd_n q]
      · show _ = upd (F 13) (N 1) x c
        rw [upd_n q]
      · show _ = upd (F 14) (N 1) y c
        rw [upd_n q]
      · show _ = upd (F 15) (N 1) z c
        rw [upd_n q]
theorem MR_open {N : Nat → Nat} {F : Nat → Fn} {T X B : Fn} {t : Nat} {b : Bool} (h : MR N F T X B) : MR (nOpen N t b) F T X (upd B t (bI b)) := by
  unfold nOpen
  split
  · rename_i e
    refine ⟨h.1, h.2.1, fun i hi => ?_⟩
    by_cases q : i = t
    · subst q; rw [upd_s, e]
    · rw [upd_n q]; exact h.2.2 i hi
  · rename_i e
    refine ⟨h.1, h.2.1, fun i hi => ?_⟩
    show _ = bI ((N 2 ^^^ 2 ^ t).testBit i)
    rw [Nat.testBit_xor, Nat.testBit_two_pow]
    by_cases q : i = t
    · subst q
      rw [upd_s]
      cases b <;> cases hq : (N 2).testBit i <;> simp_all
    · rw [upd_n q, decide_eq_false (fun z => q z.symm), Bool.xor_false]; exact h.2.2 i hi
theorem MR_test {N : Nat → Nat} {F : Nat → Fn} {T X B : Fn} {a b c d : Int32} (h : MR N F T X B) : MR (nTest N) (fTest N F a b c d) T X B := by
  refine ⟨fun i hi j hj => ?_, fun c hc => ⟨(h.2.1 c hc).1, fun j hj => ?_⟩, h.2.2⟩
  · rw [h.1 i hi j hj]
    rcases (show j = 0 ∨ j = 1 ∨ j = 2 ∨ j = 3 by omega) with rfl | rfl | rfl | rfl <;> rfl
  · rw [(h.2.1 c hc).2 j hj]
    rcases (show j = 0 ∨ j = 1 ∨ j = 2 ∨ j = 3 by omega) with rfl | rfl | rfl | rfl <;> rfl
theorem MR_wants {N : Nat → Nat} {F : Nat → Fn} {T X B : Fn} {t : Nat} {v : Int32} (h : MR N F T X B) : MR N (fWants F t v) T X B := by
  refine ⟨fun i hi j hj => ?_, fun c hc => ⟨(h.2.1 c hc).1, fun j hj => ?_⟩, h.2.2⟩
  · rw [h.1 i hi j hj]
    rcases (show j = 0 ∨ j = 1 ∨ j = 2 ∨ j = 3 by omega) with rfl | rfl | rfl | rfl <;> rfl
  · rw [(h.2.1 c hc).2 j hj]
    rcases (show j = 0 ∨ j = 1 ∨ j = 2 ∨ j = 3 by omega) with rfl | rfl | rfl | rfl <;> rfl
theorem MR_prior {N : Nat → Nat} {F : Nat → Fn} {T X B : Fn} {t : Nat} {v : Int32} (h : MR N F T X B) : MR N (fPrior F t v) T X B := by
  refine ⟨fun i hi j hj => ?_, fun c hc => ⟨(h.2.1 c hc).1, fun j hj => ?_⟩, h.2.2⟩
  · rw [h.1 i hi j hj]
    rcases (show j = 0 ∨ j = 1 ∨ j = 2 ∨ j = 3 by omega) with rfl | rfl | rfl | rfl <;> rfl
  · rw [(h.2.1 c hc).2 j hj]
    rcases (show j = 0 ∨ j = 1 ∨ j = 2 ∨ j = 3 by omega) with rfl | rfl | rfl | rfl <;> rfl
/-- what a call leaves in the reference -/
def GQ (N' : Nat → Nat) (F' : Nat → Fn) (n1 nt1 nc1 : Nat) (T1 X1 B1 pr1 in1 wn1 wt1 : Fn) : Prop := n1 = N' 0 ∧ nt1 = N' 3 ∧ nc1 = N' 1 ∧ pr1 = F' 27 ∧ in1 = F' 17 ∧ wn1 = F' 18 ∧ wt1 = F' 19 ∧ MR N' F' T1 X1 B1
theorem GQ_no {c x : Int32} (hc : c = x) (hx : ¬ x = nI 0) {N N' : Nat → Nat} {F F' : Nat → Fn} {T X B : Fn} (h : MR N F T X B) : GQ (if c = nI 0 then N' else N) (if c = nI 0 then F' else F) (N 0) (N 3) (N 1) T X B (F 27) (F 17) (F 18) (F 19) := by
  rw [hc, if_neg hx, if_neg hx]; exact ⟨rfl, rfl, rfl, rfl, rfl, rfl, rfl, h⟩
