theorem ct_mono {p q : Nat → Bool} (h : ∀ i, p i = true → q i = true) : ∀ n, ct p n ≤ ct q n
  | 0 => Nat.le_refl 0
  | n + 1 => by
    have h1 := ct_mono h n
    unfold ct
    by_cases hp : p n = true
    · rw [if_pos hp, if_pos (h n hp)]; omega
    · rw [if_neg hp]; omega
theorem pc12_and (x y : Nat) : pc12 (x &&& y) ≤ pc12 y := ct_mono (fun i h => by rw [Nat.testBit_and] at h; exact ((Bool.and_eq_true _ _).mp h).2) 12
theorem sc_bound (k : Nat) {a b f p : Nat} (haf : a ≤ f) (hf : f ≤ 12) (hb : b ≤ 12) (hp : p ≤ 12) : (scH (scU k a b f p)).2 ≤ 300 ∧ (scH (scU k a b f p)).1 ≤ (scH (scU k a b f p)).2 ∧ 0 < (scH (scU k a b f p)).2 := by
  have key : (scU k a b f p).2 ≤ 300 ∧ (scU k a b f p).1 ≤ (scU k a b f p).2 := by
    have m1 : a * a ≤ f * (a + b) := Nat.mul_le_mul haf (by omega)
    have m2 : f * (a + b) ≤ 12 * 24 := Nat.mul_le_mul hf (by omega)
    have m3 : a * p ≤ 12 * 12 := Nat.mul_le_mul (by omega) hp
    have m4 : b * f ≤ 12 * 12 := Nat.mul_le_mul hb hf
    unfold scU
    split
    · exact ⟨by dsimp only; omega, by dsimp only; omega⟩
    · split
      · exact ⟨by dsimp only; omega, by dsimp only; omega⟩
      · split
        · exact ⟨by dsimp only; omega, by dsimp only; omega⟩
        · exact ⟨by dsimp only; omega, by dsimp only; omega⟩
  unfold scH
  split
  · exact ⟨by decide, by decide, by decide⟩
  · exact ⟨key.1, key.2, by omega⟩
def cScore (n : Nat) (q kind part : Int32) : Int32 := if inR q n = true then (if (inR kind 3 && inR part 2) = true then nI 0 else (-2)) else (-1)
def cRank (n : Nat) (q kind : Int32) : Int32 := if inR q n = true then (if inR kind 3 = true then nI 0 else (-2)) else (-1)
def SCU (N : Nat → Nat) (F : Nat → Fn) (i k : Nat) : Nat × Nat := scH (scU k (pc12 (MBL N F i &&& FAL N F)) (pc12 (MBL N F i &&& PAL N F)) (pc12 (FAL N F)) (pc12 (PAL N F)))
theorem SCU_bound (N : Nat → Nat) (F : Nat → Fn) (i k : Nat) : (SCU N F i k).2 ≤ 300 ∧ (SCU N F i k).1 ≤ (SCU N F i k).2 ∧ 0 < (SCU N F i k).2 := sc_bound k (pc12_and _ _) (pc12_le _) (pc12_le _) (pc12_le _)
theorem EqE.scu {N N1 : Nat → Nat} {F F1 : Nat → Fn} (e : EqE N N1 F F1) (i k : Nat) : SCU N1 F1 i k = SCU N F i k := by unfold SCU; rw [e.mbl, e.fal, e.pal]
def ansScore (N : Nat → Nat) (F : Nat → Fn) (i k : Nat) (part : Int32) : Int32 := if part = nI 0 then nI ((SCU N F i k).1 / Nat.gcd (SCU N F i k).2 (SCU N F i k).1) else nI ((SCU N F i k).2 / Nat.gcd (SCU N F i k).2 (SCU N F i k).1)
/-- whether line o stands ahead of line i -/
def ahead (N : Nat → Nat) (F : Nat → Fn) (i k o : Nat) : Bool := decide ((SCU N F i k).1 * (SCU N F o k).2 < (SCU N F o k).1 * (SCU N F i k).2) || (decide ((SCU N F o k).1 * (SCU N F i k).2 = (SCU N F i k).1 * (SCU N F o k).2) && decide (o < i))
def ansRank (N : Nat → Nat) (F : Nat → Fn) (i k : Nat) : Int32 := nI (ct (ahead N F i k) (N 0))
theorem ct_y {p : Nat → Bool} {n : Nat} (h : p n = true) : ct p (n + 1) = ct p n + 1 := by rw [ct, if_pos h]
theorem ct_n {p : Nat → Bool} {n : Nat} (h : p n = false) : ct p (n + 1) = ct p n := by rw [ct, if_neg (by rw [h]; decide)]; rfl
theorem cmp_3 {x y : Nat} (hx : x < 2 ^ 31) (hy : y < 2 ^ 31) : (y < x ∧ cmpI (nI x) (nI y) = nI 1) ∨ (x = y ∧ cmpI (nI x) (nI y) = nI 0) ∨ (x < y ∧ cmpI (nI x) (nI y) = (-1)) := by
  unfold cmpI
  rcases Nat.lt_trichotomy x y with h | h | h
  · exact Or.inr (Or.inr ⟨h, by rw [if_pos ((nI_ltI hx hy).mpr h)]⟩)
  · subst h
    exact Or.inr (Or.inl ⟨rfl, by rw [if_neg (fun q => Nat.lt_irrefl _ ((nI_ltI hx hx).mp q)), if_pos rfl]⟩)
  · exact Or.inl ⟨h, by rw [if_neg (fun q => by have := (nI_ltI hx hy).mp q; omega), if_neg (fun q => by have := (nI_eq hx hy).mp q; omega)]⟩
def cPrior (n : Nat) (q v : Int32) : Int32 := if inR q n = true then (if v < nI 1 then (-4) else if nI 9 < v then (-6) else nI 0) else (-1)
def WI (N : Nat → Nat) (F : Nat → Fn) (i : Nat) : Int64 := wI (F 27) (N 0) (PAL N F) (SETS N F) i
theorem EqE.wi {N N1 : Nat → Nat} {F F1 : Nat → Fn} (e : EqE N N1 F F1) (i : Nat) : WI N1 F1 i = WI N F i := by
  unfold WI; rw [e.pal, e.sets, e.1, e.2.2.2.2.2.2.2.2.2.2.2.2.2.2.2.2.2.2.2.2]
def ansSuspect (N : Nat → Nat) (F : Nat → Fn) (p : Int32) : Int32 := if inR p (SETS N F).length = true then nI ((SETS N F).getD (tn p) (0, 0)).1 else (-9)
def ansOdds (N : Nat → Nat) (F : Nat → Fn) (p : Int32) : Int64 := if inR p (SETS N F).length = true then WI N F (tn p) else 0
def bestF (w : Nat → Int64) (s : Nat → Nat) : Nat → Int32 × Int64
  | 0 => ((-9), 0)
  | i + 1 => if (bestF w s i).2 < w i then (nI (s i), w i) else bestF w s i
def ansBest (N : Nat → Nat) (F : Nat → Fn) : Int32 := (bestF (WI N F) (fun i => ((SETS N F).getD i (0, 0)).1) (SETS N F).length).1
theorem s_go_ag {ops xs ys zs tr tr' : Fn} {i : Nat} : ∀ (fu k : Nat) (V : Nat → Nat) (F seen : Nat), (∀ j, k ≤ j → j < k + fu → tr j = tr' j) → s_go ops xs ys zs tr i fu k V F seen = s_go ops xs ys zs tr' i fu k V F seen
  | 0, _, _, _, _, _ => rfl
  | fu + 1, k, V, F, seen, h => by
    have e := h k (Nat.le_refl k) (by omega)
    unfold s_go
    rw [← e]
    have h' : ∀ j, k + 1 ≤ j → j < k + 1 + fu → tr j = tr' j := fun j h1 h2 => h j (by omega) (by omega)
    split
    · exact s_go_ag fu _ _ _ _ h'
    · split
      · split
        · rfl
        · exact s_go_ag fu _ _ _ _ h'
      · split
        · exact s_go_ag fu _ _ _ _ h'
        · exact s_go_ag fu _ _ _ _ h'
def cIx (nt m : Nat) (p k : Int32) : Int32 := if (inR p nt && inR k m) = true then nI 0 else (-1)
def ansSlice (N : Nat → Nat) (F : Nat → Fn) (t i : Nat) : Int32 := nI (s_go (F 4) (F 5) (F 6) (F 7) (RUNP N F t).2.2.2.2.1 i (RUNP N F t).2.1 0 (fun _ => 0) 0 0)
/-- the least that has f, of m -/
def firstF (f : Nat → Bool) : Nat → Nat → Int32
  | 0, _ => (-9)
  | fu + 1, k => if f k = true then nI k else firstF f fu (k + 1)
theorem firstF_s {f : Nat → Bool} {m k : Nat} {R : Int32} (h : firstF f (m - k) k = R) (hk : k < m) (h1 : f k = false) : firstF f (m - (k + 1)) (k + 1) = R := by
  rw [show m - k = (m - (k + 1)) + 1 by omega, firstF, if_neg (by rw [h1]; decide)] at h; exact h
theorem firstF_y {f : Nat → Bool} {m k : Nat} {R : Int32} (h : firstF f (m - k) k = R) (hk : k < m) (h1 : f k = true) : nI k = R := by
  rw [show m - k = (m - (k + 1)) + 1 by omega, firstF, if_pos h1] at h; exact h
def cTF (N : Nat → Nat) (F : Nat → Fn) (p : Int32) : Int32 := if inR p (N 3) = true then (if PAS N F (tn p) (RUNP N F (tn p)) = true then (-3) else nI 0) else (-1)
def ansTF (N : Nat → Nat) (F : Nat → Fn) (t : Nat) : Int32 := firstF (fun k => PAS N F t (RUN N F t (nI k) (-1) (nI 0))) (RUNP N F t).2.2.2.1 0
def cVer (nc nt : Nat) (v p : Int32) : Int32 := if (inR v (nc + 1) && inR p nt) = true then nI 0 else (-1)
/-- the test that parts best -/
def partF (op : Nat → Bool) (g : Nat → Int64) : Nat → Int32 × Int64
  | 0 => ((-9), 0)
  | t + 1 => if (op t && (decide ((partF op g t).1 = (-9)) || decide (g t < (partF op g t).2))) = true then (nI t, g t) else partF op g t
def AWAY (N : Nat → Nat) (F : Nat → Fn) (t : Nat) : Int64 := lAbs (2 * sL (fun i => if ((SETS N F).getD i (0, 0)).2.testBit t = true then WI N F i else 0) (SETS N F).length - sL (WI N F) (SETS N F).length)
def ansPart (N : Nat → Nat) (F : Nat → Fn) : Int32 := if (SETS N F).length = 0 then (-9) else (partF (fun t => (N 2).testBit t) (AWAY N F) (N 3)).1
def ansCount (N : Nat → Nat) (F : Nat → Fn) (w : Int32) : Int32 :=
  if w = nI 0 then nI (N 0) else if w = nI 1 then nI (N 3) else if w = nI 2 then nI (pc12 (FAL N F)) else if w = nI 3 then nI (pc12 (PAL N F)) else if w = nI 4 then nI (pc12 (N 2)) else if w = nI 5 then nI (N 1) else if w = nI 6 then nI (pc12 (CUL N F)) else if (decide (nI 11 ≤ w) && decide (w ≤ nI 16)) = true then F 28 (tn (w - nI 10)) else (-9)
/-- the calls that change the state, on the places -/
def updF (F : Nat → Fn) (k : Nat) (f : Fn) : Nat → Fn := fun j => if j = k then f else F j
def cLine (n nc : Nat) (op x y z : Int32) : Int32 := if rowF op x y z = nI 0 then (if 0 < nc then (-3) else if 24 ≤ n then (-6) else nI 0) else rowF op x y z
def nLine (N : Nat → Nat) : Nat → Nat := updN N 0 (N 0 + 1)
def fLine (N : Nat → Nat) (F : Nat → Fn) (op x y z : Int32) : Nat → Fn := updF (updF (updF (updF (updF (updF (updF (updF F 0 (upd (F 0) (N 0) op)) 1 (upd (F 1) (N 0) x)) 2 (upd (F 2) (N 0) y)) 3 (upd (F 3) (N 0) z)) 4 (upd (F 4) (N 0) op)) 5 (upd (F 5) (N 0) x)) 6 (upd (F 6) (N 0) y)) 7 (upd (F 7) (N 0) z)
def cTest (nt : Nat) : Int32 := if 12 ≤ nt then (-6) else nI 0
def nTest (N : Nat → Nat) : Nat → Nat := updN N 3 (N 3 + 1)
def fTest (N : Nat → Nat) (F : Nat → Fn) (a b c d : Int32) : Nat → Fn := updF F 17 (upd (upd (upd (upd (F 17) (N 3 * 4) a) (N 3 * 4 + 1) b) (N 3 * 4 + 2) c) (N 3 * 4 + 3) d)
def cWants (nt : Nat) (len : Fn) (p : Int32) : Int32 := if inR p nt = true then (if 6 ≤ tn (len (tn p)) then (-6) else nI 0) else (-1)
def fWants (F : Nat → Fn) (t : Nat) (v : Int32) : Nat → Fn := updF (updF F 18 (upd (F 18) (t * 6 + tn (F 19 t)) v)) 19 (upd (F 19) t (nI (tn (F 19 t) + 1)))
def nOpen (N : Nat → Nat) (t : Nat) (b : Bool) : Nat → Nat := if (N 2).testBit t = b then N else updN N 2 (N 2 ^^^ 2 ^ t)
def fPrior (F : Nat → Fn) (i : Nat) (v : Int32) : Nat → Fn := updF F 27 (upd (F 27) i v)
def cChange (n nc : Nat) (q op x y z : Int32) : Int32 := if inR q n = true then (if rowF op x y z = nI 0 then (if 20 ≤ nc then (-6) else nI 0) else rowF op x y z) else (-1)
def nChange (N : Nat → Nat) : Nat → Nat := updN N 1 (N 1 + 1)
def fChange (N : Nat → Nat) (F : Nat → Fn) (t : Nat) (op x y z : Int32) : Nat → Fn := updF (updF (updF (updF (updF (updF (updF (updF (updF F 4 (upd (F 4) t op)) 5 (upd (F 5) t x)) 6 (upd (F 6) t y)) 7 (upd (F 7) t z)) 12 (upd (F 12) (N 1) op)) 13 (upd (F 13) (N 1) x)) 14 (upd (F 14) (N 1) y)) 15 (upd (F 15) (N 1) z)) 16 (upd (F 16) (N 1) (nI t))
theorem upd_s {f : Fn} {k : Nat} {x : Int32} : upd f k x k = x := by simp [upd]
theorem upd_n {f : Fn} {k j : Nat} {x : Int32} (h : ¬ j = k) : upd f k x j = f j := by simp [upd, h]
theorem row_upd {a b c d : Fn} {n t : Nat} {op x y z : Int32} (h : ∀ i, i < n → rowOk (a i) (b i) (c i) (d i)) (hr : rowOk op x y z) : ∀ i, i < n → rowOk (upd a t op i) (upd b t x i) (upd c t y i) (upd d t z i) := fun i hi => by
  by_cases q : i = t
  · subst q; rw [upd_s, upd_s, upd_s, upd_s]; exact hr
  · rw [upd_n q, upd_n q, upd_n q, upd_n q]; exact h i hi
theorem row_push {a b c d : Fn} {n : Nat} {op x y z : Int32} (h : ∀ i, i < n → rowOk (a i) (b i) (c i) (d i)) (hr : rowOk op x y z) : ∀ i, i < n + 1 → rowOk (upd a n op i) (upd b n x i) (upd c n y i) (upd d n z i) := fun i hi => by
  by_cases q : i = n
  · subst q; rw [upd_s, upd_s, upd_s, upd_s]; exact hr
  · rw [upd_n q, upd_n q, upd_n q, upd_n q]; exact h i (by omega)
theorem verF_new {chl g base : Fn} {m : Nat} {x y : Int32} : ∀ v, v ≤ m → verF (upd chl m x) (upd g m y) base v = verF chl g base v
  | 0, _ => rfl
  | v + 1, h => by
    have q : ¬ v = m := by omega
    rw [verF, verF, verF_new v (by omega), upd_n q, upd_n q]
theorem verF_last {chl g base : Fn} {m t : Nat} {y : Int32} (ht : t < 2 ^ 31) : verF (upd chl m (nI t)) (upd g m y) base (m + 1) = upd (verF chl g base m) t y := by
  rw [verF, verF_new m (Nat.le_refl m), upd_s, upd_s, tn_nI ht]
theorem LA_line {N : Nat → Nat} {F : Nat → Fn} {op x y z : Int32} (h : LA N F) (hr : rowOk op x y z) (hc : N 1 = 0) (hn : N 0 < 24) : LA (nLine N) (fLine N F op x y z) := by
  obtain ⟨h1, h2, h3, h4, h5, h6, h7, h8, h9, h10⟩ := h
  refine ⟨by show N 0 + 1 ≤ 24; omega, h2, h3, h4, row_push h5 hr, row_push h6 hr, fun i hi => absurd hi (by show ¬ i < N 1; omega), ?_, h9, h10⟩
  intro i hi
  have hi : i < N 0 + 1 := hi
  show upd (F 4) (N 0) op i = verF (F 16) (F 12) (upd (F 0) (N 0) op) (N 1) i ∧ upd (F 5) (N 0) x i = verF (F 16) (F 13) (upd (F 1) (N 0) x) (N 1) i ∧ upd (F 6) (N 0) y i = verF (F 16) (F 14) (upd (F 2) (N 0) y) (N 1) i ∧ upd (F 7) (N 0) z i = verF (F 16) (F 15) (upd (F 3) (N 0) z) (N 1) i
  rw [hc]
  show upd (F 4) (N 0) op i = upd (F 0) (N 0) op i ∧ upd (F 5) (N 0) x i = upd (F 1) (N 0) x i ∧ upd (F 6) (N 0) y i = upd (F 2) (N 0) y i ∧ upd (F 7) (N 0) z i = upd (F 3) (N 0) z i
  by_cases q : i = N 0
  · subst q; exact ⟨by rw [upd_s, upd_s], by rw [upd_s, upd_s], by rw [upd_s, upd_s], by rw [upd_s, upd_s]⟩
  · have := h8 i (by omega)
    rw [hc] at this
    rw [upd_n q, upd_n q, upd_n q, upd_n q, upd_n q, upd_n q, upd_n q, upd_n q]
    exact this
theorem LA_test {N : Nat → Nat} {F : Nat → Fn} {a b c d : Int32} (h : LA N F) (hn : N 3 < 12) : LA (nTest N) (fTest N F a b c d) := by
  obtain ⟨h1, h2, h3, h4, h5, h6, h7, h8, h9, h10⟩ := h
  refine ⟨h1, h2, by show N 3 + 1 ≤ 12; omega, ?_, h5, h6, h7, h8, h9, h10⟩
  show N 2 < 2 ^ (N 3 + 1)
  rw [Nat.pow_succ]; omega
theorem LA_wants {N : Nat → Nat} {F : Nat → Fn} {t : Nat} {v : Int32} (h : LA N F) (ht : t < 12) (hk : tn (F 19 t) < 6) : LA N (fWants F t v) := by
  obtain ⟨h1, h2, h3, h4, h5, h6, h7, h8, h9, h10⟩ := h
  refine ⟨h1, h2, h3, h4, h5, h6, h7, h8, ?_, h10⟩
  intro i hi
  show ix (upd (F 19) t (nI (tn (F 19 t) + 1)) i) 7
  by_cases q : i = t
  · subst q; rw [upd_s]; exact ⟨_, by omega, rfl⟩
  · rw [upd_n q]; exact h9 i hi
theorem LA_open {N : Nat → Nat} {F : Nat → Fn} {t : Nat} {b : Bool} (h : LA N F) (ht : t < N 3) : LA (nOpen N t b) F := by
  unfold nOpen
  split
  · exact h
  · obtain ⟨h1, h2, h3, h4, h5, h6, h7, h8, h9, h10⟩ := h
    refine ⟨h1, h2, h3, ?_, h5, h6, h7, h8, h9, h10⟩
    show N 2 ^^^ 2 ^ t < 2 ^ N 3
    exact Nat.xor_lt_two_pow h4 (Nat.pow_lt_pow_right (by decide) ht)
theorem LA_prior {N : Nat → Nat} {F : Nat → Fn} {i k : Nat} (h : LA N F) (h1k : 1 ≤ k) (hk9 : k ≤ 9) : LA N (fPrior F i (nI k)) := by
  obtain ⟨h1, h2, h3, h4, h5, h6, h7, h8, h9, h10⟩ := h
  refine ⟨h1, h2, h3, h4, h5, h6, h7, h8, h9, ?_⟩
  intro j hj
  show ∃ m, 1 ≤ m ∧ m ≤ 9 ∧ upd (F 27) i (nI k) j = nI m
  by_cases q : j = i
  · subst q; rw [upd_s]; exact ⟨k, h1k, hk9, rfl⟩
  · rw [upd_n q]; exact h10 j hj
theorem LA_change {N : Nat → Nat} {F : Nat → Fn} {t : Nat} {op x y z : Int32} (h : LA N F) (hr : rowOk op x y z) (ht : t < N 0) (hc : N 1 < 20) : LA (nChange N) (fChange N F t op x y z) := by
  obtain ⟨h1, h2, h3, h4, h5, h6, h7, h8, h9, h10⟩ := h
  refine ⟨h1, by show N 1 + 1 ≤ 20; omega, h3, h4, h5, row_upd h6 hr, ?_, ?_, h9, h10⟩
  · intro i hi
    have hi : i < N 1 + 1 := hi
    show ix (upd (F 16) (N 1) (nI t) i) (N 0) ∧ rowOk (upd (F 12) (N 1) op i) (upd (F 13) (N 1) x i) (upd (F 14) (N 1) y i) (upd (F 15) (N 1) z i)
    by_cases q : i = N 1
    · subst q; rw [upd_s, upd_s, upd_s, upd_s, upd_s]; exact ⟨⟨t, ht, rfl⟩, hr⟩
    · rw [upd_n q, upd_n q, upd_n q, upd_n q, upd_n q]; exact h7 i (by omega)
  · intro i hi
    have hi : i < N 0 := hi
    show upd (F 4) t op i = verF (upd (F 16) (N 1) (nI t)) (upd (F 12) (N 1) op) (F 0) (N 1 + 1) i ∧ upd (F 5) t x i = verF (upd (F 16) (N 1) (nI t)) (upd (F 13) (N 1) x) (F 1) (N 1 + 1) i ∧ upd (F 6) t y i = verF (upd (F 16) (N 1) (nI t)) (upd (F 14) (N 1) y) (F 2) (N 1 + 1) i ∧ upd (F 7) t z i = verF (upd (F 16) (N 1) (nI t)) (upd (F 15) (N 1) z) (F 3) (N 1 + 1) i
    rw [verF_last (by omega), verF_last (by omega), verF_last (by omega), verF_last (by omega)]
    have := h8 i hi
    by_cases q : i = t
    · subst q; exact ⟨by rw [upd_s, upd_s], by rw [upd_s, upd_s], by rw [upd_s, upd_s], by rw [upd_s, upd_s]⟩
    · rw [upd_n q, upd_n q, upd_n q, upd_n q, upd_n q, upd_n q, upd_n q, upd_n q]; exact this
