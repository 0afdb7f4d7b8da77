theorem SL.at {se sm : Fn} {L : List (Nat × Nat)} (h : SL se sm L) {i : Nat} (hi : i < L.length) : se i = nI (L.getD i (0, 0)).1 ∧ sm i = nI (L.getD i (0, 0)).2 := by
  have e : L[i]? = some (L.getD i (0, 0)) := by
    rw [List.getD_eq_getElem?_getD, List.getElem?_eq_getElem hi]; rfl
  exact h i _ e
theorem getD_mem {L : List (Nat × Nat)} {i : Nat} (hi : i < L.length) : L.getD i (0, 0) ∈ L := by
  rw [List.getD_eq_getElem?_getD, List.getElem?_eq_getElem hi]
  exact List.getElem_mem hi
def wI (pr : Fn) (ln pa : Nat) (L : List (Nat × Nat)) (i : Nat) : Int64 := wOf pr ln pa (L.getD i (0, 0)).1 (L.getD i (0, 0)).2
/-- every set of a list is small -/
def smL (L : List (Nat × Nat)) : Prop := ∀ q ∈ L, q.1 < 2 ^ 24 ∧ q.2 < 4096
theorem sm_append {L K : List (Nat × Nat)} (h : smL L) (k : smL K) : smL (L ++ K) := fun q hq => (List.mem_append.mp hq).elim (h q) (k q)
theorem sm_fm {g : Nat → List (Nat × Nat)} : ∀ (k : Nat), (∀ i, i < k → smL (g i)) → smL (fm g k)
  | 0, _ => fun q hq => absurd hq List.not_mem_nil
  | k + 1, h => sm_append (sm_fm k (fun i hi => h i (by omega))) (h k (by omega))
theorem p2_24 {t : Nat} (h : t < 24) : 2 ^ t < 2 ^ 24 := Nat.pow_lt_pow_right (by decide) h
theorem sm_one {c : Prop} [Decidable c] {x y : Nat} (hx : x < 2 ^ 24) (hy : y < 4096) : smL (if c then [(x, y)] else []) := by
  split
  · intro q hq
    rw [List.mem_singleton] at hq
    subst hq; exact ⟨hx, hy⟩
  · exact fun q hq => absurd hq List.not_mem_nil
theorem sm_allS {M : Nat → Nat} (hM : ∀ i, M i < 4096) {fa n : Nat} (hn : n ≤ 24) : smL (allS M fa n) := by
  unfold allS
  split
  · exact fun q hq => absurd hq List.not_mem_nil
  · refine sm_append (sm_fm n (fun c hc => sm_one (p2_24 (by omega)) (hM c))) (sm_append (sm_fm n (fun c hc => sm_fm c (fun b hb => sm_one (Nat.or_lt_two_pow (p2_24 (by omega)) (p2_24 (by omega))) (or_lt12 (hM _) (hM _))))) (sm_fm n (fun c hc => sm_fm c (fun b hb => sm_fm b (fun a ha => sm_one (Nat.or_lt_two_pow (Nat.or_lt_two_pow (p2_24 (by omega)) (p2_24 (by omega))) (p2_24 (by omega))) (or_lt12 (hM _) (or_lt12 (hM _) (hM _))))))))
theorem sT0 {M : Nat → Nat} {fa : Nat} : fm (sTs M fa) 2 = [] := rfl
theorem sT1 {M : Nat → Nat} {fa : Nat} : fm (sTs M fa) 1 = [] := rfl
/-- the lines behind what a line reads -/
def s_reads (ops xs ys zs : Fn) (V : Nat → Nat) (l : Nat) : Nat :=
  if ops l = nI 1 ∨ ops l = nI 2 ∨ ops l = nI 3 then V (tn (ys l)) ||| V (tn (zs l)) else if ops l = nI 5 then V (tn (xs l)) ||| V (tn (ys l)) else if ops l = nI 7 then V (tn (xs l)) else 0
def updN (V : Nat → Nat) (k x : Nat) : Nat → Nat := fun j => if j = k then x else V j
def s_lines (ops xs ys zs : Fn) (V : Nat → Nat) (F l : Nat) : Nat := (2 ^ l ||| F) ||| s_reads ops xs ys zs V l
/-- slices carried forward through a run -/
def s_go (ops xs ys zs tr : Fn) (i : Nat) : Nat → Nat → (Nat → Nat) → Nat → Nat → Nat
  | 0, _, _, _, _ => 0
  | fu + 1, k, V, F, seen =>
    if ops (tn (tr k)) = nI 5 then s_go ops xs ys zs tr i fu (k + 1) V (s_lines ops xs ys zs V F (tn (tr k))) seen
    else if ops (tn (tr k)) = nI 7 then (if seen = i then s_lines ops xs ys zs V F (tn (tr k)) else s_go ops xs ys zs tr i fu (k + 1) V F (seen + 1))
    else if ops (tn (tr k)) = nI 6 then s_go ops xs ys zs tr i fu (k + 1) V F seen
    else s_go ops xs ys zs tr i fu (k + 1) (updN V (tn (xs (tn (tr k)))) (s_lines ops xs ys zs V F (tn (tr k)))) F seen
section
variable {ops xs ys zs tr : Fn} {i k sc F seen l q R : Nat} {V : Nat → Nat}
theorem s_reads_p (h : ops l = nI 1 ∨ ops l = nI 2 ∨ ops l = nI 3) : s_reads ops xs ys zs V l = V (tn (ys l)) ||| V (tn (zs l)) := by unfold s_reads; rw [if_pos h]
theorem s_reads_k {k : Nat} (hop : ops l = nI k) (hk : k < 8) : s_reads ops xs ys zs V l = if k = 1 ∨ k = 2 ∨ k = 3 then V (tn (ys l)) ||| V (tn (zs l)) else if k = 5 then V (tn (xs l)) ||| V (tn (ys l)) else if k = 7 then V (tn (xs l)) else 0 := by
  unfold s_reads
  rw [hop]
  have e : ∀ j, j < 8 → ((nI k = nI j) ↔ k = j) := fun j hj => nI_eq (by omega) (by omega)
  simp only [e 1 (by omega), e 2 (by omega), e 3 (by omega), e 5 (by omega), e 7 (by omega)]
theorem s_sub (hk : k < sc) : sc - k = (sc - (k + 1)) + 1 := by omega
theorem s_go_5 (h : s_go ops xs ys zs tr i (sc - k) k V F seen = R) (hk : k < sc) (hop : ops (tn (tr k)) = nI 5) : s_go ops xs ys zs tr i (sc - (k + 1)) (k + 1) V (s_lines ops xs ys zs V F (tn (tr k))) seen = R := by
  rw [s_sub hk, s_go, if_pos hop] at h; exact h
theorem s_go_7t (h : s_go ops xs ys zs tr i (sc - k) k V F seen = R) (hk : k < sc) (hop : ops (tn (tr k)) = nI 7) (hs : seen = i) : s_lines ops xs ys zs V F (tn (tr k)) = R := by
  rw [s_sub hk, s_go, if_neg (by rw [hop]; decide), if_pos hop, if_pos hs] at h; exact h
theorem s_go_7f (h : s_go ops xs ys zs tr i (sc - k) k V F seen = R) (hk : k < sc) (hop : ops (tn (tr k)) = nI 7) (hs : ¬ seen = i) : s_go ops xs ys zs tr i (sc - (k + 1)) (k + 1) V F (seen + 1) = R := by
  rw [s_sub hk, s_go, if_neg (by rw [hop]; decide), if_pos hop, if_neg hs] at h; exact h
theorem s_go_6 (h : s_go ops xs ys zs tr i (sc - k) k V F seen = R) (hk : k < sc) (hop : ops (tn (tr k)) = nI 6) : s_go ops xs ys zs tr i (sc - (k + 1)) (k + 1) V F seen = R := by
  rw [s_sub hk, s_go, if_neg (by rw [hop]; decide), if_neg (by rw [hop]; decide), if_pos hop] at h; exact h
theorem s_go_w (h : s_go ops xs ys zs tr i (sc - k) k V F seen = R) (hk : k < sc) (hop : ops (tn (tr k)) = nI q) (hq : q < 5) : s_go ops xs ys zs tr i (sc - (k + 1)) (k + 1) (updN V (tn (xs (tn (tr k)))) (s_lines ops xs ys zs V F (tn (tr k)))) F seen = R := by
  rw [s_sub hk, s_go, if_neg (by rw [hop]; exact nI_small (by omega) (by omega) (by omega)), if_neg (by rw [hop]; exact nI_small (by omega) (by omega) (by omega)), if_neg (by rw [hop]; exact nI_small (by omega) (by omega) (by omega))] at h; exact h
end
theorem nF_upd {bv : Fn} {V : Nat → Nat} {m j x : Nat} (h : ∀ v, v < m → bv v = nI (V v)) : ∀ v, v < m → upd bv j (nI x) v = nI (updN V j x v) := fun v hv => by
  unfold upd updN
  by_cases q : v = j
  · simp [q]
  · simp [q, h v hv]
