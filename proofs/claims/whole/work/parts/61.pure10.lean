/-- told rows, changes, open tests of the reference, against the class's places -/
def MR (N : Nat → Nat) (F : Nat → Fn) (T X B : Fn) : Prop := (∀ i, i < N 0 → ∀ j, j < 4 → T (4 * i + j) = F j i) ∧ (∀ c, c < N 1 → X (5 * c) = F 16 c ∧ ∀ j, j < 4 → X (5 * c + 1 + j) = F (12 + j) c) ∧ (∀ t, t < 12 → B t = bI ((N 2).testBit t))
/-- a column of the version after v changes -/
def v4 (F : Nat → Fn) (v j : Nat) : Fn := verF (F 16) (F (12 + j)) (F j) v
def VER (N : Nat → Nat) (F : Nat → Fn) (v : Nat) (nw : Fn) : Prop := ∀ l, l < N 0 → ∀ j, j < 4 → nw (4 * l + j) = v4 F v j l
def c4 (nw : Fn) (j : Nat) : Fn := fun l => nw (4 * l + j)
theorem v4_now {N : Nat → Nat} {F : Nat → Fn} (h : LA N F) {l j : Nat} (hl : l < N 0) (hj : j < 4) : v4 F (N 1) j l = F (4 + j) l := by
  obtain ⟨h1, h2, h3, h4, h5, h6, h7, h8, h9, h10⟩ := h
  obtain ⟨a, b, c, d⟩ := h8 l hl
  rcases (show j = 0 ∨ j = 1 ∨ j = 2 ∨ j = 3 by omega) with rfl | rfl | rfl | rfl
  · exact a.symm
  · exact b.symm
  · exact c.symm
  · exact d.symm
theorem tk_0 {N : Nat → Nat} {F : Nat → Fn} {T X B nw y : Fn} {k : Nat} (h : MR N F T X B) (hy : y = fl T nw k) (hk : k = 4 * N 0) : VER N F 0 y := fun l hl j hj => by
  subst hy
  rw [fl_in (by omega), h.1 l hl j hj]
  rfl
theorem tk_in {N : Nat → Nat} {F : Nat → Fn} {c : Nat} {y : Fn} (h : VER N F c y) : ∀ l, l < N 0 → ∀ j, j < 4 → y (4 * l + j) = if j < 0 then v4 F (c + 1) j l else v4 F c j l := fun l hl j hj => by
  rw [if_neg (Nat.not_lt_zero j)]; exact h l hl j hj
theorem tk_out {N : Nat → Nat} {F : Nat → Fn} {c k : Nat} {z : Fn} (hk : k = 4) (h : ∀ l, l < N 0 → ∀ j, j < 4 → z (4 * l + j) = if j < k then v4 F (c + 1) j l else v4 F c j l) : VER N F (c + 1) z := fun l hl j hj => by
  subst hk
  rw [h l hl j hj, if_pos hj]
theorem v4_s {F : Nat → Fn} {c j l : Nat} : v4 F (c + 1) j l = if l = tn (F 16 c) then F (12 + j) c else v4 F c j l := by
  unfold v4
  rw [verF]
  rfl
theorem tk_step {N : Nat → Nat} {F : Nat → Fn} {c k : Nat} {z : Fn} {x : Int32} (hk : k < 4) (hx : x = F (12 + k) c) (h : ∀ l, l < N 0 → ∀ j, j < 4 → z (4 * l + j) = if j < k then v4 F (c + 1) j l else v4 F c j l) :
    ∀ l, l < N 0 → ∀ j, j < 4 → upd z (4 * tn (F 16 c) + k) x (4 * l + j) = if j < k + 1 then v4 F (c + 1) j l else v4 F c j l := fun l hl j hj => by
  by_cases e : l = tn (F 16 c) ∧ j = k
  · obtain ⟨rfl, rfl⟩ := e
    rw [upd_s, if_pos (by omega), v4_s, if_pos rfl, hx]
  · rw [upd_n (by omega), h l hl j hj]
    by_cases q : j < k
    · rw [if_pos q, if_pos (by omega)]
    · rw [if_neg q]
      by_cases q2 : j = k
      · rw [if_pos (by omega), v4_s, if_neg (fun z => e ⟨z, q2⟩)]
      · rw [if_neg (by omega)]
theorem ver_row {N : Nat → Nat} {F : Nat → Fn} {v : Nat} {nw : Fn} (hLA : LA N F) (hv : v ≤ N 1) (h : VER N F v nw) : ∀ i, i < N 0 → rowOk (c4 nw 0 i) (c4 nw 1 i) (c4 nw 2 i) (c4 nw 3 i) := fun i hi => by
  obtain ⟨h1, h2, h3, h4, h5, h6, h7, h8, h9, h10⟩ := hLA
  have := ver_ok h5 h7 v hv i hi
  have e : ∀ j, j < 4 → c4 nw j i = v4 F v j i := fun j hj => h i hi j hj
  rw [e 0 (by decide), e 1 (by decide), e 2 (by decide), e 3 (by decide)]
  exact this
theorem ver_pag {N : Nat → Nat} {F : Nat → Fn} {v : Nat} {nw inp : Fn} (h : VER N F v nw) : p_ag (N 0) (c4 nw 0) (c4 nw 1) (c4 nw 2) (c4 nw 3) inp (v4 F v 0) (v4 F v 1) (v4 F v 2) (v4 F v 3) inp := ⟨fun i hi => ⟨h i hi 0 (by decide), h i hi 1 (by decide), h i hi 2 (by decide), h i hi 3 (by decide)⟩, fun _ _ => rfl⟩
theorem now_pag {N : Nat → Nat} {F : Nat → Fn} {nw inp : Fn} (hLA : LA N F) (h : VER N F (N 1) nw) : p_ag (N 0) (c4 nw 0) (c4 nw 1) (c4 nw 2) (c4 nw 3) inp (F 4) (F 5) (F 6) (F 7) inp := ⟨fun i hi => ⟨(h i hi 0 (by decide)).trans (v4_now hLA hi (by decide)), (h i hi 1 (by decide)).trans (v4_now hLA hi (by decide)), (h i hi 2 (by decide)).trans (v4_now hLA hi (by decide)), (h i hi 3 (by decide)).trans (v4_now hLA hi (by decide))⟩, fun _ _ => rfl⟩
/-- the reference's run -/
def MRUN (N : Nat → Nat) (F : Nat → Fn) (nw : Fn) (t : Nat) (ti sl sv : Int32) (at_ vr ou os : Fn) : RS := r_run (N 0) (c4 nw 0) (c4 nw 1) (c4 nw 2) (c4 nw 3) (fun y => F 17 (t * 4 + y)) ti sl sv at_ vr ou os
theorem mrun_v {N : Nat → Nat} {F : Nat → Fn} {nw : Fn} {t v : Nat} {sv : Int32} {at_ vr ou os : Fn} {u : RS} (hLA : LA N F) (hv : v ≤ N 1) (h : VER N F v nw) (hu : u = MRUN N F nw t (-1) (-1) sv at_ vr ou os) : r_ag u (VRUN N F v t) := by
  rw [hu]
  exact r_run_ag (fun i hi q => absurd q (nI_m1 (by have := hLA.1; omega))) (ver_row hLA hv h) (ver_pag h) _ _ _ _ _ _ _ _
theorem mrun_p {N : Nat → Nat} {F : Nat → Fn} {nw : Fn} {t : Nat} {sv : Int32} {at_ vr ou os : Fn} {u : RS} (hLA : LA N F) (h : VER N F (N 1) nw) (hu : u = MRUN N F nw t (-1) (-1) sv at_ vr ou os) : r_ag u (RUNP N F t) := by
  rw [hu]
  exact r_run_ag (fun i hi q => absurd q (nI_m1 (by have := hLA.1; omega))) (ver_row hLA (Nat.le_refl _) h) (now_pag hLA h) _ _ _ _ _ _ _ _
theorem mrun_t {N : Nat → Nat} {F : Nat → Fn} {nw : Fn} {t : Nat} {ti sv : Int32} {at_ vr ou os : Fn} {u : RS} (hLA : LA N F) (h : VER N F (N 1) nw) (hu : u = MRUN N F nw t ti (-1) sv at_ vr ou os) : r_ag u (RUN N F t ti (-1) (nI 0)) := by
  rw [hu]
  exact r_run_ag (fun i hi q => absurd q (nI_m1 (by have := hLA.1; omega))) (ver_row hLA (Nat.le_refl _) h) (now_pag hLA h) _ _ _ _ _ _ _ _
theorem mrun_s {N : Nat → Nat} {F : Nat → Fn} {nw : Fn} {t : Nat} {ti sl sv : Int32} {at_ vr ou os : Fn} {u : RS} (hLA : LA N F) (h : VER N F (N 1) nw) (hu : u = MRUN N F nw t ti sl sv at_ vr ou os) : r_ag u (RUN N F t ti sl sv) := by
  rw [hu]
  exact r_run_ag (fun i hi q => rfl) (ver_row hLA (Nat.le_refl _) h) (now_pag hLA h) _ _ _ _ _ _ _ _
theorem upd_upd {f : Fn} {k : Nat} {x y : Int32} : upd (upd f k x) k y = upd f k y := by
  funext j
  unfold upd
  by_cases h : j = k <;> simp [h]
/-- a line done without a set value, and the value set behind it -/
theorem r_act_set {ops xs ys zs inp vr ou : Fn} {l oc ic k : Nat} {ti sl sv : Int32} (hop : ops l = nI k) (hk : k < 5) (hs : nI l = sl) {a : Nat × Nat × Nat × Fn × Fn} (ha : a = r_act ops xs ys zs inp ti (-1) (nI 0) l oc ic vr ou) : (a.1, a.2.1, a.2.2.1, upd a.2.2.2.1 (tn (xs l)) sv, a.2.2.2.2) = r_act ops xs ys zs inp ti sl sv l oc ic vr ou := by
  rw [ha, r_act_w hop hk, r_act_w hop hk, if_pos hs]
  dsimp only
  rw [upd_upd]
theorem r_act_noset {ops xs ys zs inp vr ou : Fn} {l oc ic k : Nat} {ti sl sv : Int32} (hop : ops l = nI k) (h : ¬ nI l = sl ∨ 5 ≤ k) (hl : l < 2 ^ 31) (hk : k < 8) {a : Nat × Nat × Nat × Fn × Fn} (ha : a = r_act ops xs ys zs inp ti (-1) (nI 0) l oc ic vr ou) : a = r_act ops xs ys zs inp ti sl sv l oc ic vr ou := by
  rw [ha]
  rcases (show k < 5 ∨ k = 5 ∨ k = 6 ∨ k = 7 by omega) with hk5 | rfl | rfl | rfl
  · rw [r_act_w hop hk5, r_act_w hop hk5, if_neg (nI_m1 hl), if_neg (h.resolve_right (by omega))]
  · rw [r_act_5 hop, r_act_5 hop]
  · rw [r_act_6 hop, r_act_6 hop]
  · rw [r_act_7 hop, r_act_7 hop]
theorem eqN_down {f g : Fn} : ∀ {n m : Nat}, n ≤ m → eqN f g n = false → eqN f g m = false
  | n, 0, h, e => by have : n = 0 := by omega
                     subst this; exact e
  | n, m + 1, h, e => by
    by_cases q : n = m + 1
    · subst q; exact e
    · unfold eqN; rw [eqN_down (by omega : n ≤ m) e]; rfl
theorem tbl_7 {op : Int32} (h : inR op 8 = false) : op.toInt < 0 ∨ 7 < op.toInt := by have := inR_out h; omega
theorem bI_z {b : Bool} (h : bI b = 0) : b = false := by cases b with | true => exact absurd h (by decide) | false => rfl
theorem bI_nz {b : Bool} (h : ¬ bI b = 0) : b = true := by cases b with | true => rfl | false => exact absurd (by decide) h
theorem run_end {n sc : Nat} {ops xs ys zs inp : Fn} {ti sl sv : Int32} {r R : RS} (hinv : r_loop n ops xs ys zs inp ti sl sv (300 - sc) r = R) (hoff : sc < 300 → r_on n r = false) : r = R := by
  rw [← hinv]
  rcases Nat.lt_or_ge sc 300 with hh | hh
  · exact (r_loop_end (hoff hh)).symm
  · rw [show 300 - sc = 0 by omega]; rfl
