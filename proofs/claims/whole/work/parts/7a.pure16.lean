/-- the slices ahead of a step: of each variable, of the latest if -/
def VF (F : Nat → Fn) (TR : Fn) : Nat → (Nat → Nat) × Nat
  | 0 => (fun _ => 0, 0)
  | k + 1 => if F 4 (tn (TR k)) = nI 5 then ((VF F TR k).1, s_lines (F 4) (F 5) (F 6) (F 7) (VF F TR k).1 (VF F TR k).2 (tn (TR k)))
    else if F 4 (tn (TR k)) = nI 7 then VF F TR k
    else if F 4 (tn (TR k)) = nI 6 then VF F TR k
    else (updN (VF F TR k).1 (tn (F 5 (tn (TR k)))) (s_lines (F 4) (F 5) (F 6) (F 7) (VF F TR k).1 (VF F TR k).2 (tn (TR k))), (VF F TR k).2)
/-- the slice of a step -/
def SS (F : Nat → Fn) (TR : Fn) (k : Nat) : Nat := s_lines (F 4) (F 5) (F 6) (F 7) (VF F TR k).1 (VF F TR k).2 (tn (TR k))
section
variable {F : Nat → Fn} {TR : Fn} {k l q v : Nat}
theorem VF_5 (hl : tn (TR k) = l) (h : F 4 l = nI 5) : VF F TR (k + 1) = ((VF F TR k).1, SS F TR k) := by
  rw [VF, if_pos (by rw [hl]; exact h)]; rfl
theorem VF_7 (hl : tn (TR k) = l) (h : F 4 l = nI 7) : VF F TR (k + 1) = VF F TR k := by
  rw [VF, if_neg (by rw [hl, h]; decide), if_pos (by rw [hl]; exact h)]
theorem VF_6 (hl : tn (TR k) = l) (h : F 4 l = nI 6) : VF F TR (k + 1) = VF F TR k := by
  rw [VF, if_neg (by rw [hl, h]; decide), if_neg (by rw [hl, h]; decide), if_pos (by rw [hl]; exact h)]
theorem VF_w (hl : tn (TR k) = l) (h : F 4 l = nI q) (hq : q < 5) : VF F TR (k + 1) = (updN (VF F TR k).1 (tn (F 5 l)) (SS F TR k), (VF F TR k).2) := by
  rw [VF, if_neg (by rw [hl, h]; exact nI_small (by omega) (by omega) (by omega)), if_neg (by rw [hl, h]; exact nI_small (by omega) (by omega) (by omega)), if_neg (by rw [hl, h]; exact nI_small (by omega) (by omega) (by omega)), hl]
  unfold SS
  rw [hl]
theorem VF_hit (hl : tn (TR k) = l) (h : F 4 l = nI q) (hq : q < 5) (hv : F 5 l = nI v) (hv8 : v < 8) : (VF F TR (k + 1)).1 v = SS F TR k := by
  rw [VF_w hl h hq]
  show updN _ _ _ v = _
  unfold updN
  rw [hv, tn_nI (by omega), if_pos rfl]
theorem VF_miss (hl : tn (TR k) = l) (h : F 4 l = nI q) (hq : q < 8) (hx8 : q ≠ 6 → ix (F 5 l) 8) (hm : 4 < q ∨ ¬ F 5 l = nI v) : (VF F TR (k + 1)).1 v = (VF F TR k).1 v := by
  rcases (show q < 5 ∨ q = 5 ∨ q = 6 ∨ q = 7 by omega) with h5 | rfl | rfl | rfl
  · rw [VF_w hl h h5]
    show updN _ _ _ v = _
    unfold updN
    have hne : ¬ v = tn (F 5 l) := fun z => (hm.resolve_left (by omega)) (by rw [z]; exact (hx8 (by omega)).eq (by decide))
    rw [if_neg hne]
  · rw [VF_5 hl h]
  · rw [VF_6 hl h]
  · rw [VF_7 hl h]
theorem VF_if (hl : tn (TR k) = l) (h : F 4 l = nI 5) : (VF F TR (k + 1)).2 = SS F TR k := by rw [VF_5 hl h]
theorem VF_noif (hl : tn (TR k) = l) (h : F 4 l = nI q) (hq : q < 8) (hm : ¬ q = 5) : (VF F TR (k + 1)).2 = (VF F TR k).2 := by
  rcases (show q < 5 ∨ q = 6 ∨ q = 7 by omega) with h5 | rfl | rfl
  · rw [VF_w hl h h5]
  · rw [VF_6 hl h]
  · rw [VF_7 hl h]
/-- the slices of the steps below k that hang -/
def UU (F : Nat → Fn) (TR hg : Fn) : Nat → Nat | 0 => 0 | k + 1 => UU F TR hg k ||| (if hg k = 0 then 0 else SS F TR k)
theorem UU_n {hg : Fn} (h : hg k = 0) : UU F TR hg (k + 1) = UU F TR hg k := by rw [UU, if_pos h, Nat.or_zero]
theorem UU_y {hg : Fn} (h : ¬ hg k = 0) : UU F TR hg (k + 1) = UU F TR hg k ||| SS F TR k := by rw [UU, if_neg h]
theorem UU_cong {hg hg' : Fn} : ∀ {k : Nat}, (∀ j, j < k → hg j = hg' j) → UU F TR hg k = UU F TR hg' k
  | 0, _ => rfl
  | k + 1, h => by rw [UU, UU, UU_cong (fun j hj => h j (by omega)), h k (by omega)]
theorem UU_mark {hg : Fn} {i : Nat} : ∀ {k : Nat}, i < k → UU F TR (upd hg i (nI 1)) k = UU F TR hg k ||| SS F TR i
  | 0, h => absurd h (Nat.not_lt_zero i)
  | k + 1, h => by
    by_cases q : i = k
    · subst q
      rw [UU_y (by rw [upd_s]; decide), UU_cong (hg' := hg) (fun j hj => upd_n (by omega))]
      by_cases z : hg i = 0
      · rw [UU_n z]
      · rw [UU_y z, Nat.or_assoc, Nat.or_self]
    · have ih := UU_mark (hg := hg) (i := i) (k := k) (by omega)
      rw [UU, UU, ih, upd_n (fun z => q z.symm), Nat.or_assoc, Nat.or_assoc, Nat.or_comm (SS F TR i)]
theorem UU_none {hg : Fn} {o : Nat} (h : ∀ j, j < o → hg j = nI 0) : UU F TR hg o = 0 := by
  induction o with
  | zero => rfl
  | succ o ih => rw [UU_n (h o (by omega)), ih (fun j hj => h j (by omega))]
theorem UU_one {hg : Fn} {o n : Nat} (ho : o < n) (h : ∀ j, j < n → hg j = if j = o then nI 1 else nI 0) : UU F TR hg (o + 1) = SS F TR o := by
  rw [UU_y (by rw [h o ho, if_pos rfl]; decide), UU_none (fun j hj => by rw [h j (by omega), if_neg (by omega)]), Nat.zero_or]
end
/-- the steps that put out -/
def isO (F : Nat → Fn) (TR : Fn) (k : Nat) : Bool := decide (F 4 (tn (TR k)) = nI 7)
theorem s_go_S {F : Nat → Fn} {TR : Fn} {sc o i : Nat} (ho : o < sc) (h7 : F 4 (tn (TR o)) = nI 7) (hi : ct (isO F TR) o = i) (hrow : ∀ k, k < sc → ∃ q, q < 8 ∧ F 4 (tn (TR k)) = nI q) : s_go (F 4) (F 5) (F 6) (F 7) TR i sc 0 (fun _ => 0) 0 0 = SS F TR o := by
  have key : ∀ m, m ≤ o → s_go (F 4) (F 5) (F 6) (F 7) TR i (sc - m) m (VF F TR m).1 (VF F TR m).2 (ct (isO F TR) m) = s_go (F 4) (F 5) (F 6) (F 7) TR i sc 0 (fun _ => 0) 0 0 := by
    intro m
    induction m with
    | zero => intro _; rfl
    | succ m ih =>
      intro hm
      have h := ih (by omega)
      obtain ⟨q, hq8, hq⟩ := hrow m (by omega)
      have mono : ∀ a b, a ≤ b → ct (isO F TR) a ≤ ct (isO F TR) b := by
        intro a b hab
        induction b with
        | zero => have : a = 0 := by omega
                  subst this; exact Nat.le_refl _
        | succ b ihb =>
          by_cases e : a = b + 1
          · subst e; exact Nat.le_refl _
          · have := ihb (by omega)
            rw [ct]; omega
      rcases (show q < 5 ∨ q = 5 ∨ q = 6 ∨ q = 7 by omega) with h5 | rfl | rfl | rfl
      · rw [VF_w rfl hq h5, ct_n (show isO F TR m = false from decide_eq_false (by rw [hq]; exact nI_small (by omega) (by omega) (by omega)))]
        exact s_go_w h (by omega) hq h5
      · rw [VF_5 rfl hq, ct_n (show isO F TR m = false from decide_eq_false (by rw [hq]; decide))]
        exact s_go_5 h (by omega) hq
      · rw [VF_6 rfl hq, ct_n (show isO F TR m = false from decide_eq_false (by rw [hq]; decide))]
        exact s_go_6 h (by omega) hq
      · have hy : isO F TR m = true := decide_eq_true hq
        rw [VF_7 rfl hq, ct_y hy]
        refine s_go_7f h (by omega) hq (fun z => ?_)
        have := mono (m + 1) o hm
        rw [ct_y hy] at this; omega
  rw [← key o (Nat.le_refl o)]
  exact (s_go_7t rfl ho h7 hi).symm
/-- which step put out which number -/
def OSI (ops : Fn) (r : RS) : Prop := r.2.2.1 = ct (fun k => decide (ops (tn (r.2.2.2.2.1 k)) = nI 7)) r.2.1 ∧ ∀ j, j < r.2.2.1 → ∃ o, o < r.2.1 ∧ r.2.2.2.2.2.2.2 j = nI o ∧ ops (tn (r.2.2.2.2.1 o)) = nI 7 ∧ ct (fun k => decide (ops (tn (r.2.2.2.2.1 k)) = nI 7)) o = j
theorem osi_step {n : Nat} (hn : n ≤ 24) {ops xs ys zs inp : Fn} {ti sl sv : Int32} (hok : ∀ i, i < n → rowOk (ops i) (xs i) (ys i) (zs i)) {a : RS} (h : OSI ops a) (hon : r_on n a = true) : OSI ops (r_step ops xs ys zs inp ti sl sv a) := by
  obtain ⟨l, sc, oc, ic, tr, vr, ou, os⟩ := a
  have hl : l < n := by
    have := (Bool.and_eq_true _ _).mp hon
    exact of_decide_eq_true this.1
  obtain ⟨h1, h2⟩ := h
  dsimp only at h1 h2
  have hcg : ∀ m, m ≤ sc → ct (fun k => decide (ops (tn (upd tr sc (nI l) k)) = nI 7)) m = ct (fun k => decide (ops (tn (tr k)) = nI 7)) m := fun m hm => ct_cong (fun i hi => by rw [upd_n (by omega)])
  have hlast : ops (tn (upd tr sc (nI l) sc)) = ops l := by rw [upd_s, tn_nI (by omega)]
  obtain ⟨k, hk8, hop, -⟩ := hok l hl
  have old : ∀ j, j < oc → ∃ o, o < sc + 1 ∧ os j = nI o ∧ ops (tn (upd tr sc (nI l) o)) = nI 7 ∧ ct (fun k => decide (ops (tn (upd tr sc (nI l) k)) = nI 7)) o = j := fun j hj => by
    obtain ⟨o, o1, o2, o3, o4⟩ := h2 j hj
    exact ⟨o, by omega, o2, by rw [upd_n (by omega)]; exact o3, by rw [hcg o (by omega)]; exact o4⟩
  by_cases h7 : k = 7
  · subst h7
    unfold r_step
    dsimp only
    rw [r_act_7 hop, r_os_7 hop]
    refine ⟨?_, fun j hj => ?_⟩
    · show oc + 1 = ct _ (sc + 1)
      rw [ct_y (by rw [hlast, hop]; rfl), hcg sc (Nat.le_refl _), ← h1]
    · have hj : j < oc + 1 := hj
      by_cases q : j = oc
      · subst q
        exact ⟨sc, Nat.lt_succ_self _, upd_s, by show ops (tn (upd tr sc (nI l) sc)) = nI 7; rw [hlast]; exact hop, by show ct (fun k => decide (ops (tn (upd tr sc (nI l) k)) = nI 7)) sc = j; rw [hcg sc (Nat.le_refl _), ← h1]⟩
      · obtain ⟨o, o1, o2, o3, o4⟩ := old j (by omega)
        exact ⟨o, o1, by show upd os oc (nI sc) j = nI o; rw [upd_n q]; exact o2, o3, o4⟩
  · have hne : ¬ ops l = nI 7 := by rw [hop]; exact nI_small (by omega) (by omega) h7
    have hct : ct (fun k => decide (ops (tn (upd tr sc (nI l) k)) = nI 7)) (sc + 1) = oc := by
      rw [ct_n (by rw [hlast]; exact decide_eq_false hne), hcg sc (Nat.le_refl _), ← h1]
    unfold r_step
    dsimp only
    rw [r_os_n hne]
    rcases (show k < 5 ∨ k = 5 ∨ k = 6 by omega) with h5 | rfl | rfl
    · rw [r_act_w hop h5]; exact ⟨hct.symm, old⟩
    · rw [r_act_5 hop]; exact ⟨hct.symm, old⟩
    · rw [r_act_6 hop]; exact ⟨hct.symm, old⟩
theorem osi_loop {n : Nat} (hn : n ≤ 24) {ops xs ys zs inp : Fn} {ti sl sv : Int32} (hok : ∀ i, i < n → rowOk (ops i) (xs i) (ys i) (zs i)) : ∀ (k : Nat) (a : RS), OSI ops a → OSI ops (r_loop n ops xs ys zs inp ti sl sv k a)
  | 0, _, h => h
  | k + 1, a, h => by
    unfold r_loop
    by_cases hon : r_on n a = true
    · rw [if_pos hon]; exact osi_loop hn hok k _ (osi_step hn hok h hon)
    · rw [if_neg hon]; exact h
theorem osi_run {N : Nat → Nat} {F : Nat → Fn} (hLA : LA N F) (t : Nat) : OSI (F 4) (RUNP N F t) := by
  obtain ⟨h1, h2, h3, h4, h5, h6, h7⟩ := hLA
  exact osi_loop h1 h6 300 _ ⟨rfl, fun j hj => absurd hj (Nat.not_lt_zero j)⟩
theorem or_lc (a b c : Nat) : a ||| (b ||| c) = b ||| (a ||| c) := by rw [← Nat.or_assoc, Nat.or_comm a b, Nat.or_assoc]
theorem or_ac1 {s u b F y z R : Nat} (h : s ||| (u ||| ((b ||| F) ||| (y ||| z))) = R) : (s ||| b) ||| (((u ||| y) ||| z) ||| F) = R := by
  rw [← h]
  simp only [Nat.or_assoc, Nat.or_comm, or_lc]
theorem or_ac2 {s u b F y R : Nat} (h : s ||| (u ||| ((b ||| F) ||| y)) = R) : (s ||| b) ||| ((u ||| y) ||| F) = R := by
  rw [← h]
  simp only [Nat.or_assoc, Nat.or_comm, or_lc]
theorem or_ac3 {s u b F R : Nat} (h : s ||| (u ||| ((b ||| F) ||| 0)) = R) : (s ||| b) ||| (u ||| F) = R := by
  rw [← h, Nat.or_zero]
  simp only [Nat.or_assoc, Nat.or_comm, or_lc]
theorem m_dec (m : Nat) : nI m + (-1) = nI m - nI 1 := by rw [Int32.sub_eq_add_neg]; rfl
theorem m_0 : nI 0 - nI 1 = (-1) := by decide
theorem m_s (m : Nat) : nI (m + 1) - nI 1 = nI m := by rw [pk_sub (by omega), Nat.add_sub_cancel]
/-- the steps of a run, in the reference's row and in the class's -/
def TRK (N : Nat → Nat) (at_ TR : Fn) (sc : Nat) : Prop := ∀ j, j < sc → ∃ l, l < N 0 ∧ at_ j = nI l ∧ TR j = nI l
theorem ver_at {N : Nat → Nat} {F : Nat → Fn} {nw : Fn} (hLA : LA N F) (hV : VER N F (N 1) nw) {l j : Nat} (hl : l < N 0) (hj : j < 4) : nw (4 * l + j) = F (4 + j) l := (hV l hl j hj).trans (v4_now hLA hl hj)
