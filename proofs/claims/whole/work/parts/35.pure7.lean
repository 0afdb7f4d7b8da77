theorem verF_fl {chl g t b : Fn} {n : Nat} : ∀ (v i : Nat), i < n → verF chl g (fl t b n) v i = verF chl g t v i
  | 0, i, h => fl_in h
  | v + 1, i, h => by
    unfold verF upd
    by_cases q : i = tn (chl v)
    · simp [q]
    · simp only [q, if_false]; exact verF_fl v i h
theorem ver_ok {chl c0 c1 c2 c3 t0 t1 t2 t3 : Fn} {n m : Nat} (ht : ∀ i, i < n → rowOk (t0 i) (t1 i) (t2 i) (t3 i)) (hc : ∀ i, i < m → ix (chl i) n ∧ rowOk (c0 i) (c1 i) (c2 i) (c3 i)) : ∀ (v : Nat), v ≤ m → ∀ i, i < n → rowOk (verF chl c0 t0 v i) (verF chl c1 t1 v i) (verF chl c2 t2 v i) (verF chl c3 t3 v i)
  | 0, _, i, h => ht i h
  | v + 1, hv, i, h => by
    unfold verF upd
    by_cases q : i = tn (chl v)
    · simp only [q, if_true]; exact (hc v (by omega)).2
    · simp only [q, if_false]; exact ver_ok ht hc v (by omega) i h
/-- the run of a test in a version -/
def VRUN (N : Nat → Nat) (F : Nat → Fn) (v t : Nat) : RS := rp (N 0) (verF (F 16) (F 12) (F 0) v) (verF (F 16) (F 13) (F 1) v) (verF (F 16) (F 14) (F 2) v) (verF (F 16) (F 15) (F 3) v) (F 17) t
theorem EqE.vrun {N N1 : Nat → Nat} {F F1 : Nat → Fn} (e : EqE N N1 F F1) (v t : Nat) : VRUN N1 F1 v t = VRUN N F v t := by
  obtain ⟨h1, h2, h3, h4, h5, h6, h7, h8, h9, h10, h11, h12, h13, h14, h15, h16, h17, h18, h19, h20, h21⟩ := e
  unfold VRUN
  rw [h1, h5, h6, h7, h8, h13, h14, h15, h16, h17, h18]
/-- the answer of a call that may be refused -/
def rA (c ans : Int32) : Int32 := if c = nI 0 then ans else c
/-- how the refusals are counted -/
def rfU (f : Fn) (c : Int32) : Fn := if c = nI 0 then f else upd f (tn (-c)) (f (tn (-c)) + nI 1)
theorem rA_0 {c ans : Int32} (h : c = nI 0) : rA c ans = ans := by unfold rA; rw [if_pos h]
theorem rA_c {c ans x : Int32} (h : c = x) (hx : ¬ x = nI 0) : rA c ans = x := by unfold rA; rw [h, if_neg hx]
theorem rfU_0 {c : Int32} {f : Fn} (h : c = nI 0) : rfU f c = f := by unfold rfU; rw [if_pos h]
theorem rfU_c {c x : Int32} {f : Fn} {k : Nat} (h : c = x) (hx : ¬ x = nI 0) (hk : -x = nI k) (h7 : k < 7) : rfU f c = upd f k (f k + nI 1) := by unfold rfU; rw [h, if_neg hx, hk, tn_nI (by omega)]
theorem rfU_cc {c : Int32} {f : Fn} {k : Nat} (hx : ¬ c = nI 0) (hk : -c = nI k) (h7 : k < 7) : rfU f c = upd f k (f k + nI 1) := rfU_c rfl hx hk h7
def cT (nt : Nat) (p : Int32) : Int32 := if inR p nt = true then nI 0 else (-1)
theorem cT_y {nt j : Nat} (hn : nt < 2 ^ 31) (h : j < nt) : cT nt (nI j) = nI 0 := by unfold cT; rw [if_pos (inR_t hn h rfl)]
theorem cT_n {nt : Nat} {p : Int32} (hn : nt < 2 ^ 31) (h : ∀ j, j < nt → p ≠ nI j) : cT nt p = (-1) := by unfold cT; rw [if_neg (by rw [inR_f hn h]; decide)]
def cTL (nt n : Nat) (p q : Int32) : Int32 := if (inR p nt && inR q n) = true then nI 0 else (-1)
theorem cTL_y {nt n j i : Nat} (h1 : nt < 2 ^ 31) (h2 : n < 2 ^ 31) (hj : j < nt) (hi : i < n) : cTL nt n (nI j) (nI i) = nI 0 := by unfold cTL; rw [inR_t h1 hj rfl, inR_t h2 hi rfl]; rfl
theorem cTL_p {nt n : Nat} {p q : Int32} (h1 : nt < 2 ^ 31) (h : ∀ j, j < nt → p ≠ nI j) : cTL nt n p q = (-1) := by unfold cTL; rw [inR_f h1 h]; rfl
theorem cTL_q {nt n : Nat} {p q : Int32} (h2 : n < 2 ^ 31) (h : ∀ j, j < n → q ≠ nI j) : cTL nt n p q = (-1) := by unfold cTL; rw [inR_f h2 h, Bool.and_false]; rfl
/-- what bars a mending -/
def mendF (N : Nat → Nat) (F : Nat → Fn) (p q : Int32) : Int32 := if (inR p (N 3) && inR q (N 0)) = true then (if (decide (tn (F 4 (tn q)) < 5) && !PAS N F (tn p) (RUNP N F (tn p))) = true then nI 0 else (-3)) else (-1)
def mendV (f : Int32 → Bool) : Nat → Nat → Int32
  | 0, _ => nI 21
  | fu + 1, k => if f (-nI k) = true then -nI k else if f (nI k) = true then nI k else mendV f fu (k + 1)
theorem mendV_s {f : Int32 → Bool} {k : Nat} {R : Int32} (h : mendV f (21 - k) k = R) (hk : k < 21) (h1 : f (-nI k) = false) (h2 : f (nI k) = false) : mendV f (21 - (k + 1)) (k + 1) = R := by
  rw [show 21 - k = (21 - (k + 1)) + 1 by omega, mendV, if_neg (by rw [h1]; decide), if_neg (by rw [h2]; decide)] at h; exact h
theorem mendV_1 {f : Int32 → Bool} {k : Nat} {R : Int32} (h : mendV f (21 - k) k = R) (hk : k < 21) (h1 : f (-nI k) = true) : -nI k = R := by
  rw [show 21 - k = (21 - (k + 1)) + 1 by omega, mendV, if_pos h1] at h; exact h
theorem mendV_2 {f : Int32 → Bool} {k : Nat} {R : Int32} (h : mendV f (21 - k) k = R) (hk : k < 21) (h1 : f (-nI k) = false) (h2 : f (nI k) = true) : nI k = R := by
  rw [show 21 - k = (21 - (k + 1)) + 1 by omega, mendV, if_neg (by rw [h1]; decide), if_pos h2] at h; exact h
def mendR (N : Nat → Nat) (F : Nat → Fn) (t i : Nat) : Int32 := mendV (fun v => PAS N F t (RUN N F t (-1) (nI i) v)) 21 0
def brkF (N : Nat → Nat) (F : Nat → Fn) (p : Int32) : Int32 := if inR p (N 3) = true then (if (PAS N F (tn p) (RUNP N F (tn p)) || !PAS N F (tn p) (VRUN N F 0 (tn p))) = true then (-3) else nI 0) else (-1)
/-- the search by halves -/
def hv (f : Nat → Bool) : Nat → Nat × Nat × Nat → Nat × Nat × Nat
  | 0, s => s
  | fu + 1, s => if s.1 + 1 < s.2.1 then hv f fu (if f ((s.1 + s.2.1) / 2) = true then ((s.1 + s.2.1) / 2, s.2.1, s.2.2 + 1) else (s.1, (s.1 + s.2.1) / 2, s.2.2 + 1)) else s
theorem hv_end {f : Nat → Bool} {k : Nat} {s : Nat × Nat × Nat} (h : ¬ s.1 + 1 < s.2.1) : hv f k s = s := by
  cases k with
  | zero => rfl
  | succ k => rw [hv, if_neg h]
theorem hv_go {f : Nat → Bool} {i lo hi lk : Nat} {R : Nat × Nat × Nat} (h : hv f (20 - i) (lo, hi, lk) = R) (hi20 : i < 20) (hlt : lo + 1 < hi) {b : Bool} (hb : f ((lo + hi) / 2) = b) : hv f (20 - (i + 1)) (if b = true then (lo + hi) / 2 else lo, if b = true then hi else (lo + hi) / 2, lk + 1) = R := by
  rw [show 20 - i = (20 - (i + 1)) + 1 by omega, hv, if_pos hlt] at h
  rw [← h]
  dsimp only
  rw [hb]
  cases b <;> rfl
def HV (N : Nat → Nat) (F : Nat → Fn) (t : Nat) : Nat × Nat × Nat := hv (fun v => PAS N F t (VRUN N F v t)) 20 (0, N 1, 0)
