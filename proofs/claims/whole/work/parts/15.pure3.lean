/-- two runs that agree where it counts -/
def r_ag (a b : RS) : Prop := a.1 = b.1 ∧ a.2.1 = b.2.1 ∧ a.2.2.1 = b.2.2.1 ∧ a.2.2.2.1 = b.2.2.2.1 ∧ (∀ k, k < a.2.1 → a.2.2.2.2.1 k = b.2.2.2.2.1 k) ∧ (∀ v, v < 8 → a.2.2.2.2.2.1 v = b.2.2.2.2.2.1 v) ∧ (∀ j, j < a.2.2.1 → a.2.2.2.2.2.2.1 j = b.2.2.2.2.2.2.1 j) ∧ (∀ j, j < a.2.2.1 → a.2.2.2.2.2.2.2 j = b.2.2.2.2.2.2.2 j)
/-- two programs that agree on their lines -/
def p_ag (n : Nat) (ops xs ys zs inp ops' xs' ys' zs' inp' : Fn) : Prop := (∀ i, i < n → ops i = ops' i ∧ xs i = xs' i ∧ ys i = ys' i ∧ zs i = zs' i) ∧ ∀ y, y < 4 → inp y = inp' y
theorem p_ag.rf {n : Nat} {ops xs ys zs inp : Fn} : p_ag n ops xs ys zs inp ops xs ys zs inp := ⟨fun _ _ => ⟨rfl, rfl, rfl, rfl⟩, fun _ _ => rfl⟩
theorem upd_ag {f g : Fn} {m k : Nat} {x y : Int32} (h : ∀ j, j < m → f j = g j) (e : x = y) : ∀ j, j < m → upd f k x j = upd g k y j := fun j hj => by
  unfold upd
  by_cases q : j = k
  · simp [q, e]
  · simp [q, h j hj]
theorem upd_ag1 {f g : Fn} {m : Nat} {x y : Int32} (h : ∀ j, j < m → f j = g j) (e : x = y) : ∀ j, j < m + 1 → upd f m x j = upd g m y j := fun j hj => by
  unfold upd
  by_cases q : j = m
  · simp [q, e]
  · simp [q, h j (by omega)]
theorem r_val_ag {ops ys zs inp vr ops' ys' zs' inp' vr' : Fn} {l k : Nat} (hop : ops l = nI k) (hk : k < 5) (h123 : (k = 1 ∨ k = 2 ∨ k = 3) → ix (ys l) 8 ∧ ix (zs l) 8) (h4 : k = 4 → ix (ys l) 4) (e1 : ops l = ops' l) (e2 : ys l = ys' l) (e3 : zs l = zs' l) (ei : ∀ y, y < 4 → inp y = inp' y) (ev : ∀ v, v < 8 → vr v = vr' v) : r_val ops ys zs inp vr l = r_val ops' ys' zs' inp' vr' l := by
  have hop' : ops' l = nI k := by rw [← e1]; exact hop
  rcases (show k = 0 ∨ k = 1 ∨ k = 2 ∨ k = 3 ∨ k = 4 by omega) with rfl | rfl | rfl | rfl | rfl
  · rw [r_val_0 hop, r_val_0 hop', e2]
  · obtain ⟨a, b⟩ := h123 (by omega)
    rw [r_val_1 hop, r_val_1 hop', ← e2, ← e3, ev _ (a.lt (by decide)), ev _ (b.lt (by decide))]
  · obtain ⟨a, b⟩ := h123 (by omega)
    rw [r_val_2 hop, r_val_2 hop', ← e2, ← e3, ev _ (a.lt (by decide)), ev _ (b.lt (by decide))]
  · obtain ⟨a, b⟩ := h123 (by omega)
    rw [r_val_3 hop, r_val_3 hop', ← e2, ← e3, ev _ (a.lt (by decide)), ev _ (b.lt (by decide))]
  · have a := h4 rfl
    rw [r_val_4 hop, r_val_4 hop', ← e2, ei _ (a.lt (by decide))]
theorem r_os_7 {ops os : Fn} {l sc oc : Nat} (h : ops l = nI 7) : r_os ops l sc oc os = upd os oc (nI sc) := by unfold r_os; rw [if_pos h]
theorem r_os_n {ops os : Fn} {l sc oc : Nat} (h : ¬ ops l = nI 7) : r_os ops l sc oc os = os := by unfold r_os; rw [if_neg h]
theorem r_step_ag {n : Nat} {ops xs ys zs inp ops' xs' ys' zs' inp' : Fn} {ti sl sv sv' : Int32} (hsv : ∀ i, i < n → nI i = sl → sv = sv') (hok : ∀ i, i < n → rowOk (ops i) (xs i) (ys i) (zs i)) (hp : p_ag n ops xs ys zs inp ops' xs' ys' zs' inp') {a b : RS} (h : r_ag a b) (hon : r_on n a = true) :
    r_ag (r_step ops xs ys zs inp ti sl sv a) (r_step ops' xs' ys' zs' inp' ti sl sv' b) := by
  obtain ⟨l, sc, oc, ic, tr, vr, ou, os⟩ := a
  obtain ⟨l', sc', oc', ic', tr', vr', ou', os'⟩ := b
  obtain ⟨h1, h2, h3, h4, h5, h6, h7, h8⟩ := h
  dsimp only at h1 h2 h3 h4 h5 h6 h7 h8
  subst h1; subst h2; subst h3; subst h4
  have hl : l < n := by
    have := (Bool.and_eq_true _ _).mp hon
    exact of_decide_eq_true this.1
  obtain ⟨k, hk8, hop, hx8, h123, hh4, hh5, hh6⟩ := hok l hl
  obtain ⟨e1, e2, e3, e4⟩ := hp.1 l hl
  have hop' : ops' l = nI k := by rw [← e1]; exact hop
  have htr : ∀ k, k < sc + 1 → upd tr sc (nI l) k = upd tr' sc (nI l) k := upd_ag1 h5 rfl
  unfold r_step
  dsimp only
  rcases (show k < 5 ∨ k = 5 ∨ k = 6 ∨ k = 7 by omega) with hk5 | rfl | rfl | rfl
  · have ho7 : ¬ ops l = nI 7 := by rw [hop]; exact nI_small (by omega) (by omega) (by omega)
    have ho7' : ¬ ops' l = nI 7 := by rw [← e1]; exact ho7
    rw [r_act_w hop hk5, r_act_w hop' hk5]
    rw [r_os_n ho7, r_os_n ho7']
    refine ⟨rfl, rfl, rfl, rfl, htr, ?_, h7, h8⟩
    dsimp only
    rw [← e2]
    refine upd_ag h6 ?_
    rw [r_val_ag hop hk5 h123 hh4 e1 e3 e4 hp.2 h6]
    by_cases hq : nI l = sl
    · rw [if_pos hq, if_pos hq, hsv l hl hq]
    · rw [if_neg hq, if_neg hq]
  · obtain ⟨hy8, hz25⟩ := hh5 rfl
    have hx8 := hx8 (by decide)
    rw [r_act_5 hop, r_act_5 hop']
    rw [r_os_n (ops := ops) (by rw [hop]; decide), r_os_n (ops := ops') (by rw [hop']; decide)]
    refine ⟨?_, rfl, rfl, rfl, htr, h6, h7, h8⟩
    dsimp only
    rw [← e2, ← e3, ← e4, h6 _ (hx8.lt (by decide)), h6 _ (hy8.lt (by decide))]
  · rw [r_act_6 hop, r_act_6 hop']
    rw [r_os_n (ops := ops) (by rw [hop]; decide), r_os_n (ops := ops') (by rw [hop']; decide)]
    exact ⟨by dsimp only; rw [e4], rfl, rfl, rfl, htr, h6, h7, h8⟩
  · have hx8 := hx8 (by decide)
    rw [r_act_7 hop, r_act_7 hop']
    rw [r_os_7 hop, r_os_7 hop']
    refine ⟨rfl, rfl, rfl, rfl, htr, h6, upd_ag1 h7 ?_, upd_ag1 h8 rfl⟩
    rw [← e2, h6 _ (hx8.lt (by decide))]
theorem r_on_ag {n : Nat} {a b : RS} (h : r_ag a b) : r_on n a = r_on n b := by unfold r_on; rw [h.1, h.2.2.1]
theorem r_loop_ag {n : Nat} {ops xs ys zs inp ops' xs' ys' zs' inp' : Fn} {ti sl sv sv' : Int32} (hsv : ∀ i, i < n → nI i = sl → sv = sv') (hok : ∀ i, i < n → rowOk (ops i) (xs i) (ys i) (zs i)) (hp : p_ag n ops xs ys zs inp ops' xs' ys' zs' inp') : ∀ (k : Nat) (a b : RS), r_ag a b → r_ag (r_loop n ops xs ys zs inp ti sl sv k a) (r_loop n ops' xs' ys' zs' inp' ti sl sv' k b)
  | 0, _, _, h => h
  | k + 1, a, b, h => by
    unfold r_loop
    rw [← r_on_ag h]
    by_cases hon : r_on n a = true
    · rw [if_pos hon, if_pos hon]; exact r_loop_ag hsv hok hp k _ _ (r_step_ag hsv hok hp h hon)
    · rw [if_neg hon, if_neg hon]; exact h
theorem r_run_ag {n : Nat} {ops xs ys zs inp ops' xs' ys' zs' inp' : Fn} {ti sl sv sv' : Int32} (hsv : ∀ i, i < n → nI i = sl → sv = sv') (hok : ∀ i, i < n → rowOk (ops i) (xs i) (ys i) (zs i)) (hp : p_ag n ops xs ys zs inp ops' xs' ys' zs' inp') (tr vr ou os tr' vr' ou' os' : Fn) :
    r_ag (r_run n ops xs ys zs inp ti sl sv tr vr ou os) (r_run n ops' xs' ys' zs' inp' ti sl sv' tr' vr' ou' os') := by
  refine r_loop_ag hsv hok hp 300 _ _ ⟨rfl, rfl, rfl, rfl, fun k h => absurd h (Nat.not_lt_zero k), fun v hv => ?_, fun k h => absurd h (Nat.not_lt_zero k), fun k h => absurd h (Nat.not_lt_zero k)⟩
  dsimp only
  rw [fl_in hv, fl_in hv]
def Z0 : Fn := fun _ => nI 0
/-- the run of a test, from clean rows -/
def rr (n : Nat) (ops xs ys zs inp : Fn) (t : Nat) (ti sl sv : Int32) : RS := r_run n ops xs ys zs (fun y => inp (t * 4 + y)) ti sl sv Z0 Z0 Z0 Z0
theorem r_ag.symm {a b : RS} (h : r_ag a b) : r_ag b a := by
  obtain ⟨h1, h2, h3, h4, h5, h6, h7, h8⟩ := h
  exact ⟨h1.symm, h2.symm, h3.symm, h4.symm, fun k hk => (h5 k (by rw [h2]; exact hk)).symm, fun v hv => (h6 v hv).symm, fun j hj => (h7 j (by rw [h3]; exact hj)).symm, fun j hj => (h8 j (by rw [h3]; exact hj)).symm⟩
theorem r_ag.trans {a b c : RS} (h : r_ag a b) (g : r_ag b c) : r_ag a c := by
  obtain ⟨h1, h2, h3, h4, h5, h6, h7, h8⟩ := h
  obtain ⟨g1, g2, g3, g4, g5, g6, g7, g8⟩ := g
  exact ⟨h1.trans g1, h2.trans g2, h3.trans g3, h4.trans g4, fun k hk => (h5 k hk).trans (g5 k (by rw [← h2]; exact hk)), fun v hv => (h6 v hv).trans (g6 v hv), fun j hj => (h7 j hj).trans (g7 j (by rw [← h3]; exact hj)), fun j hj => (h8 j hj).trans (g8 j (by rw [← h3]; exact hj))⟩
theorem r_run_rr {n : Nat} {ops xs ys zs inp : Fn} {t : Nat} {ti sl sv : Int32} (hok : ∀ i, i < n → rowOk (ops i) (xs i) (ys i) (zs i)) {tr vr ou os : Fn} {u : RS} (h : u = r_run n ops xs ys zs (fun y => inp (t * 4 + y)) ti sl sv tr vr ou os) : r_ag u (rr n ops xs ys zs inp t ti sl sv) := by
  rw [h]; exact r_run_ag (fun _ _ _ => rfl) hok p_ag.rf _ _ _ _ _ _ _ _
theorem eqN_ag {f g f' : Fn} : ∀ {n : Nat}, (∀ j, j < n → f j = f' j) → eqN f g n = eqN f' g n
  | 0, _ => rfl
  | n + 1, h => by unfold eqN; rw [eqN_ag (fun j hj => h j (by omega)), h n (by omega)]
/-- whether a run's end is what a test wants -/
def r_pass (n : Nat) (ln : Int32) (row : Fn) (r : RS) : Bool := r_well (r_on n r) r.2.2.1 r.2.2.2.2.2.2.1 ln row
theorem r_pass_ag {n : Nat} {ln : Int32} {row : Fn} {a b : RS} (h : r_ag a b) : r_pass n ln row a = r_pass n ln row b := by
  unfold r_pass r_well
  rw [r_on_ag h, eqN_ag h.2.2.2.2.2.2.1, h.2.2.1]
/-- every step's line is a line that there is -/
def r_lin (n : Nat) (r : RS) : Prop := ∀ k, k < r.2.1 → ∃ j, j < n ∧ r.2.2.2.2.1 k = nI j
theorem r_step_lin {n : Nat} {ops xs ys zs inp : Fn} {ti sl sv : Int32} {a : RS} (h : r_lin n a) (hon : r_on n a = true) : r_lin n (r_step ops xs ys zs inp ti sl sv a) := by
  obtain ⟨l, sc, oc, ic, tr, vr, ou, os⟩ := a
  have hl : l < n := by
    have := (Bool.and_eq_true _ _).mp hon
    exact of_decide_eq_true this.1
  intro k hk
  have hk : k < sc + 1 := hk
  show ∃ j, j < n ∧ upd tr sc (nI l) k = nI j
  unfold upd
  by_cases q : k = sc
  · exact ⟨l, hl, by simp [q]⟩
  · obtain ⟨j, h1, h2⟩ := h k (by show k < sc; omega)
    exact ⟨j, h1, by simp only [q, if_false]; exact h2⟩
theorem r_loop_lin {n : Nat} {ops xs ys zs inp : Fn} {ti sl sv : Int32} : ∀ (k : Nat) (a : RS), r_lin n a → r_lin n (r_loop n ops xs ys zs inp ti sl sv k a)
  | 0, _, h => h
  | k + 1, a, h => by
    unfold r_loop
    by_cases hon : r_on n a = true
    · rw [if_pos hon]; exact r_loop_lin k _ (r_step_lin h hon)
    · rw [if_neg hon]; exact h
theorem r_run_lin {n : Nat} {ops xs ys zs inp : Fn} {ti sl sv : Int32} {tr vr ou os : Fn} : r_lin n (r_run n ops xs ys zs inp ti sl sv tr vr ou os) := r_loop_lin 300 _ (fun k h => absurd h (Nat.not_lt_zero k))
theorem nI_m1 {i : Nat} (h : i < 2 ^ 31) : ¬ nI i = (-1) := fun q => by
  have h1 := nI_toInt h
  rw [q] at h1
  have h2 : (-1 : Int32).toInt = -1 := by decide
  omega
/-- the plain run of a test -/
def rp (n : Nat) (ops xs ys zs inp : Fn) (t : Nat) : RS := rr n ops xs ys zs inp t (-1) (-1) (nI 0)
theorem r_run_rp {n : Nat} (hn : n ≤ 24) {ops xs ys zs inp : Fn} {t : Nat} {sv : Int32} (hok : ∀ i, i < n → rowOk (ops i) (xs i) (ys i) (zs i)) {tr vr ou os : Fn} {u : RS} (h : u = r_run n ops xs ys zs (fun y => inp (t * 4 + y)) (-1) (-1) sv tr vr ou os) : r_ag u (rp n ops xs ys zs inp t) := by
  rw [h]; exact r_run_ag (fun i hi q => absurd q (nI_m1 (by omega))) hok p_ag.rf _ _ _ _ _ _ _ _
def hasE (f : Fn) (p : Int32) : Nat → Bool | 0 => false | n + 1 => hasE f p n || decide (f n = p)
theorem hasE_ag {f g : Fn} {p : Int32} : ∀ {n : Nat}, (∀ j, j < n → f j = g j) → hasE f p n = hasE g p n
  | 0, _ => rfl
  | n + 1, h => by unfold hasE; rw [hasE_ag (fun j hj => h j (by omega)), h n (by omega)]
theorem cntE_ag {f g : Fn} {p : Int32} : ∀ {n : Nat}, (∀ j, j < n → f j = g j) → cntE f p n = cntE g p n
  | 0, _ => rfl
  | n + 1, h => by unfold cntE; rw [cntE_ag (fun j hj => h j (by omega)), h n (by omega)]
/-- the set of those below n that have p, as bits -/
def bs (p : Nat → Bool) : Nat → Nat | 0 => 0 | t + 1 => bs p t ||| (if p t = true then 2 ^ t else 0)
theorem bs_y {p : Nat → Bool} {t : Nat} (h : p t = true) : bs p (t + 1) = bs p t ||| 2 ^ t := by rw [bs, if_pos h]
theorem bs_n {p : Nat → Bool} {t : Nat} (h : p t = false) : bs p (t + 1) = bs p t := by rw [bs, if_neg (by rw [h]; decide), Nat.or_zero]
theorem bs_lt (p : Nat → Bool) : ∀ t, bs p t < 2 ^ t
  | 0 => by simp [bs]
  | t + 1 => by
    have h1 := bs_lt p t
    have h2 : (2 : Nat) ^ t < 2 ^ (t + 1) := Nat.pow_lt_pow_right (by decide) (by omega)
    unfold bs
    split
    · exact Nat.or_lt_two_pow (Nat.lt_trans h1 h2) h2
    · rw [Nat.or_zero]; exact Nat.lt_trans h1 h2
theorem bs_bit (p : Nat → Bool) (i : Nat) : ∀ t, (bs p t).testBit i = (decide (i < t) && p i)
  | 0 => by simp [bs]
  | t + 1 => by
    unfold bs
    rw [Nat.testBit_or, bs_bit p i t]
    by_cases hp : p t = true
    · rw [if_pos hp, Nat.testBit_two_pow]
      by_cases hi : t = i
      · subst hi; simp [hp]
      · have e : decide (i < t + 1) = decide (i < t) := by
          have : (i < t + 1) ↔ (i < t) := by omega
          simp [this]
        rw [decide_eq_false hi, Bool.or_false, e]
    · rw [if_neg hp, Nat.zero_testBit, Bool.or_false]
      by_cases hi : i = t
      · subst hi; simp [hp]
      · have e : decide (i < t + 1) = decide (i < t) := by
          have : (i < t + 1) ↔ (i < t) := by omega
          simp [this]
        rw [e]
theorem bs_cong {p q : Nat → Bool} : ∀ {t : Nat}, (∀ i, i < t → p i = q i) → bs p t = bs q t
  | 0, _ => rfl
  | t + 1, h => by unfold bs; rw [bs_cong (fun i hi => h i (by omega)), h t (by omega)]
theorem bs_lt12 (p : Nat → Bool) {t : Nat} (h : t ≤ 12) : bs p t < 4096 := by
  have h1 := bs_lt p t
  have h2 : (2 : Nat) ^ t ≤ 2 ^ 12 := Nat.pow_le_pow_right (by decide) h
  omega
theorem or_lt12 {a b : Nat} (ha : a < 4096) (hb : b < 4096) : a ||| b < 4096 := Nat.or_lt_two_pow (n := 12) ha hb
theorem p2_12 {t : Nat} (h : t < 12) : 2 ^ t < 4096 := by
  have : (2 : Nat) ^ t < 2 ^ 12 := Nat.pow_lt_pow_right (by decide) h
  simpa using this
/-- the versions of a column: the first k changes made -/
def verF (chl g base : Fn) : Nat → Fn | 0 => base | i + 1 => upd (verF chl g base i) (tn (chl i)) (g i)
