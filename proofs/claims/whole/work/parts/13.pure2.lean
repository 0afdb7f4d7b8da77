def tn (x : Int32) : Nat := x.toNatClampNeg
theorem tn_nI {j : Nat} (h : j < 2 ^ 31) : tn (nI j) = j := nI_clamp h
/-- an int that is one of 0 .. n - 1 -/
def ix (x : Int32) (n : Nat) : Prop := ∃ j, j < n ∧ x = nI j
theorem ix.eq {x : Int32} {n : Nat} (h : ix x n) (hn : n < 2 ^ 31) : x = nI (tn x) := by
  obtain ⟨j, h1, rfl⟩ := h
  rw [tn_nI (by omega)]
theorem ix.lt {x : Int32} {n : Nat} (h : ix x n) (hn : n < 2 ^ 31) : tn x < n := by
  obtain ⟨j, h1, rfl⟩ := h
  rw [tn_nI (by omega)]; exact h1
/-- a row of a program that the class lets in -/
def rowOk (op x y z : Int32) : Prop := ∃ k, k < 8 ∧ op = nI k ∧ (k ≠ 6 → ix x 8) ∧ ((k = 1 ∨ k = 2 ∨ k = 3) → ix y 8 ∧ ix z 8) ∧ (k = 4 → ix y 4) ∧ (k = 5 → ix y 8 ∧ ix z 25) ∧ (k = 6 → ix z 25)
/-- what a line of ops 0 to 4 gives -/
def r_val (ops ys zs inp vr : Fn) (l : Nat) : Int32 :=
  if ops l = nI 1 then vr (tn (ys l)) + vr (tn (zs l)) else if ops l = nI 2 then vr (tn (ys l)) - vr (tn (zs l)) else if ops l = nI 3 then vr (tn (ys l)) * vr (tn (zs l)) else if ops l = nI 4 then inp (tn (ys l)) else ys l
section
variable {ops xs ys zs inp vr ou os : Fn} {l oc ic k : Nat} {ti sl sv v : Int32}
theorem r_val_0 (h : ops l = nI 0) : r_val ops ys zs inp vr l = ys l := by
  unfold r_val
  rw [if_neg (by rw [h]; decide), if_neg (by rw [h]; decide), if_neg (by rw [h]; decide), if_neg (by rw [h]; decide)]
theorem r_val_1 (h : ops l = nI 1) : r_val ops ys zs inp vr l = vr (tn (ys l)) + vr (tn (zs l)) := by unfold r_val; rw [if_pos h]
theorem r_val_2 (h : ops l = nI 2) : r_val ops ys zs inp vr l = vr (tn (ys l)) - vr (tn (zs l)) := by unfold r_val; rw [if_neg (by rw [h]; decide), if_pos h]
theorem r_val_3 (h : ops l = nI 3) : r_val ops ys zs inp vr l = vr (tn (ys l)) * vr (tn (zs l)) := by unfold r_val; rw [if_neg (by rw [h]; decide), if_neg (by rw [h]; decide), if_pos h]
theorem r_val_4 (h : ops l = nI 4) : r_val ops ys zs inp vr l = inp (tn (ys l)) := by unfold r_val; rw [if_neg (by rw [h]; decide), if_neg (by rw [h]; decide), if_neg (by rw [h]; decide), if_pos h]
end
/-- one line done: the next line, numbers put out, ifs, variables, the row put out -/
def r_act (ops xs ys zs inp : Fn) (ti sl sv : Int32) (l oc ic : Nat) (vr ou : Fn) : Nat × Nat × Nat × Fn × Fn :=
  if ops l = nI 5 then (if (decide (vr (tn (xs l)) < vr (tn (ys l))) != decide (nI ic = ti)) = true then tn (zs l) else l + 1, oc, ic + 1, vr, ou)
  else if ops l = nI 6 then (tn (zs l), oc, ic, vr, ou)
  else if ops l = nI 7 then (l + 1, oc + 1, ic, vr, upd ou oc (vr (tn (xs l))))
  else (l + 1, oc, ic, upd vr (tn (xs l)) (if nI l = sl then sv else r_val ops ys zs inp vr l), ou)
section
variable {ops xs ys zs inp vr ou os : Fn} {l oc ic k : Nat} {ti sl sv v : Int32}
theorem r_act_5 (h : ops l = nI 5) : r_act ops xs ys zs inp ti sl sv l oc ic vr ou = (if (decide (vr (tn (xs l)) < vr (tn (ys l))) != decide (nI ic = ti)) = true then tn (zs l) else l + 1, oc, ic + 1, vr, ou) := by unfold r_act; rw [if_pos h]
theorem r_act_6 (h : ops l = nI 6) : r_act ops xs ys zs inp ti sl sv l oc ic vr ou = (tn (zs l), oc, ic, vr, ou) := by unfold r_act; rw [if_neg (by rw [h]; decide), if_pos h]
theorem r_act_7 (h : ops l = nI 7) : r_act ops xs ys zs inp ti sl sv l oc ic vr ou = (l + 1, oc + 1, ic, vr, upd ou oc (vr (tn (xs l)))) := by unfold r_act; rw [if_neg (by rw [h]; decide), if_neg (by rw [h]; decide), if_pos h]
theorem nI_small {k j : Nat} (hk : k < 2 ^ 31) (hj : j < 2 ^ 31) (h : k ≠ j) : ¬ nI k = nI j := fun q => h ((nI_eq hk hj).mp q)
theorem r_act_w (h : ops l = nI k) (hk : k < 5) : r_act ops xs ys zs inp ti sl sv l oc ic vr ou = (l + 1, oc, ic, upd vr (tn (xs l)) (if nI l = sl then sv else r_val ops ys zs inp vr l), ou) := by
  unfold r_act
  rw [if_neg (by rw [h]; exact nI_small (by omega) (by omega) (by omega)), if_neg (by rw [h]; exact nI_small (by omega) (by omega) (by omega)), if_neg (by rw [h]; exact nI_small (by omega) (by omega) (by omega))]
end
/-- a run's state: line, steps, numbers out, ifs; steps' lines, variables, the row out, the steps that put out -/
abbrev RS : Type := Nat × Nat × Nat × Nat × Fn × Fn × Fn × Fn
def r_os (ops : Fn) (l sc oc : Nat) (os : Fn) : Fn := if ops l = nI 7 then upd os oc (nI sc) else os
def r_step (ops xs ys zs inp : Fn) (ti sl sv : Int32) (r : RS) : RS := match r with
  | (l, sc, oc, ic, tr, vr, ou, os) => match r_act ops xs ys zs inp ti sl sv l oc ic vr ou with
    | (l1, oc1, ic1, vr1, ou1) => (l1, sc + 1, oc1, ic1, upd tr sc (nI l), vr1, ou1, r_os ops l sc oc os)
def r_on (n : Nat) (r : RS) : Bool := decide (r.1 < n) && decide (r.2.2.1 < 6)
def r_loop (n : Nat) (ops xs ys zs inp : Fn) (ti sl sv : Int32) : Nat → RS → RS
  | 0, r => r
  | k + 1, r => if r_on n r = true then r_loop n ops xs ys zs inp ti sl sv k (r_step ops xs ys zs inp ti sl sv r) else r
def r_run (n : Nat) (ops xs ys zs inp : Fn) (ti sl sv : Int32) (tr vr ou os : Fn) : RS := r_loop n ops xs ys zs inp ti sl sv 300 (0, 0, 0, 0, tr, fl (fun _ => nI 0) vr 8, ou, os)
section
variable {n k : Nat} {ops xs ys zs inp tr vr ou os tr1 vr1 ou1 : Fn} {l sc oc ic l1 oc1 ic1 : Nat} {ti sl sv : Int32} {F : RS}
theorem r_loop_end {r : RS} (h : r_on n r = false) : r_loop n ops xs ys zs inp ti sl sv k r = r := by
  cases k with
  | zero => rfl
  | succ k => unfold r_loop; rw [if_neg (by rw [h]; decide)]
theorem r_loop_go (h : r_loop n ops xs ys zs inp ti sl sv (300 - sc) (l, sc, oc, ic, tr, vr, ou, os) = F) (hsc : sc < 300) (hon : r_on n (l, sc, oc, ic, tr, vr, ou, os) = true) (ha : (l1, oc1, ic1, vr1, ou1) = r_act ops xs ys zs inp ti sl sv l oc ic vr ou) :
    r_loop n ops xs ys zs inp ti sl sv (300 - (sc + 1)) (l1, sc + 1, oc1, ic1, upd tr sc (nI l), vr1, ou1, r_os ops l sc oc os) = F := by
  obtain ⟨k, hk⟩ : ∃ k, 300 - sc = k + 1 := ⟨300 - sc - 1, by omega⟩
  rw [hk] at h
  rw [show 300 - (sc + 1) = k by omega]
  unfold r_loop at h
  rw [if_pos hon] at h
  rw [← h]
  unfold r_step
  dsimp only
  rw [← ha]
theorem r_on_t (h1 : l < n) (h2 : oc < 6) : r_on n (l, sc, oc, ic, tr, vr, ou, os) = true := by simp [r_on, h1, h2]
theorem r_on_l (h1 : n ≤ l) : r_on n (l, sc, oc, ic, tr, vr, ou, os) = false := by simp [r_on, Nat.not_lt.mpr h1]
theorem r_on_o (h2 : 6 ≤ oc) : r_on n (l, sc, oc, ic, tr, vr, ou, os) = false := by simp [r_on, Nat.not_lt.mpr h2]
end
/-- whether two rows are the same up to n -/
def eqN (f g : Fn) : Nat → Bool | 0 => true | n + 1 => eqN f g n && decide (f n = g n)
theorem eqN_false {f g : Fn} : ∀ {n i : Nat}, i < n → ¬ f i = g i → eqN f g n = false
  | 0, i, h, _ => absurd h (Nat.not_lt_zero i)
  | n + 1, i, h, hne => by
    unfold eqN
    by_cases hi : i = n
    · subst hi; simp [hne]
    · rw [eqN_false (by omega : i < n) hne]; rfl
theorem eqN_succ {f g : Fn} {n : Nat} (h : eqN f g n = true) (e : f n = g n) : eqN f g (n + 1) = true := by unfold eqN; rw [h]; simp [e]
def r_well (cut : Bool) (oc : Nat) (ou : Fn) (ln : Int32) (rw_ : Fn) : Bool := !cut && (decide (nI oc = ln) && eqN ou rw_ oc)
/-- how often p stands among the first n -/
def cntE (f : Fn) (p : Int32) : Nat → Nat | 0 => 0 | n + 1 => cntE f p n + (if f n = p then 1 else 0)
theorem cntE_le (f : Fn) (p : Int32) : ∀ n, cntE f p n ≤ n
  | 0 => Nat.le_refl 0
  | n + 1 => by have := cntE_le f p n; unfold cntE; split <;> omega
theorem cntE_y {f : Fn} {p : Int32} {n : Nat} (h : f n = p) : cntE f p (n + 1) = cntE f p n + 1 := by rw [cntE, if_pos h]
theorem cntE_n {f : Fn} {p : Int32} {n : Nat} (h : ¬ f n = p) : cntE f p (n + 1) = cntE f p n := by rw [cntE, if_neg h]; rfl
