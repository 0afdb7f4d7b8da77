def R_law : String := "LineFinderLaw"
def lw_P (b : Addr) (xs : List Int32) (args : Array Value) (s : State) : Prop := args = #[.ref b] ∧ s.IntsAt b xs ∧ xs.length ≤ 3072 ∧ (Jvm.Cond.and given_1 narrow_1).before args s = true
def lw_Q (_ : Array Value) (s : State) (o : Outcome) (t : State) : Prop := o = .returned (some (.int 1)) ∧ Framed s o t [] 1091 19791
def lw_Z (below : List Frame) (a : Array Value) (s : State) : State → Prop := fun t => ∃ o, t.status = .running ∧ Ended t below o ∧ lw_Q a s o t
/-- the law's own end, with 1 on the stack, nothing written that was there before, its room as the claim has it -/
theorem lw_ret {p : Program} {l : Launch} {e : Env} {s : State} {m : MethodId} {below : List Frame} {meth : Method} {c : Code} {b : Nat} (hx : p.tables.exec = Jvm.exec) (hb : c.code = code) (hr : meth.sig.returnType = ret) (hlocks : meth.locks = false) {pc : Nat} {H : Heap} {ls : Array Slot} (hdg : decode code pc = .ok (.ireturn, 1)) : W p l e room_1 s m #[Value.ref b] below meth c H [] 1091 19791 (lw_Z below #[Value.ref b] s) (F0 m pc ls [.int 1]) := by
  intro T hT X
  obtain ⟨fs, hret, hrun, hended, hW, hframe⟩ := X.leave (v := some (.int 1)) (hlocks := hlocks) (fun h => by rw [hr] at h; cases h)
  have hmeth' : T.vm.method? m = some meth := X.method'
  refine ⟨T.setFrames fs, ?_, .returned (some (.int 1)), hrun, hended, rfl, ⟨_, rfl⟩, hW, hframe⟩
  jvm_step X.here [X.here.top, hx, hb, hdg, hmeth', hr, ret, narrow_b1]
  (try refine ⟨rfl, ?_⟩); (try refine ⟨rfl, ?_⟩)
  first | (intro acts; rw [hret _ acts rfl rfl rfl]) | rw [hret _ _ rfl rfl rfl]
  exact Steps.refl _
/-- what holds at the law's entry: the machine, the code, the tables' words (any of lw_tbl by 'hts w (by decide +kernel)'), the script of L ints xs at the cell b, what the Statement gives of the start (any of its parts by flat_of_before) -/
def lw_At (p : Program) (s : State) (m : MethodId) (meth : Method) (c : Code) (b L : Nat) (xs : Nat → Int32) : Prop :=
  p.tables.exec = Jvm.exec ∧ c.code = code ∧ meth.sig.returnType = ret ∧ c.maxLocals = 7 ∧ s.vm.findClass R_law = some m.cls ∧ (∀ w ∈ lw_tbl, w.before #[Value.ref b] s = true) ∧ va_X b L xs s s.heap ∧ b < s.heap.size ∧ meth.locks = false ∧ (Jvm.Cond.and given_1 narrow_1).before #[Value.ref b] s = true
theorem lw_sub6 {L : Nat} (h : L ≤ 3072) : (nI L - nI 6).toInt = (L : Int) - 6 := by
  rw [Int32.toInt_sub, nI_toInt (by omega), nI_toInt (by omega)]
  dsimp only [Int.bmod]
  split <;> omega
theorem lw_gt {L i : Nat} (h : L ≤ 3072) (hi : i ≤ 3072) : (nI L - nI 6 < nI i) ↔ L < i + 6 := by
  rw [Int32.lt_iff_toInt_lt, lw_sub6 h, nI_toInt (by omega)]
  omega
theorem and_31 (v : Int32) : ∃ k, k < 32 ∧ v &&& nI 31 = nI k := by
  refine ⟨(v.toBitVec &&& 31#32).toNat, ?_, ?_⟩
  · rw [BitVec.toNat_and]
    exact Nat.lt_of_le_of_lt Nat.and_le_right (by decide)
  · apply Int32.toBitVec_inj.mp
    show v.toBitVec &&& BitVec.ofNat 32 31 = BitVec.ofNat 32 (v.toBitVec &&& 31#32).toNat
    rw [BitVec.ofNat_toNat, BitVec.setWidth_eq]
set_option maxHeartbeats 4000000 in
set_option maxRecDepth 100000 in
/-- the law's loop -/
theorem law_loop {jp : Program} {jl : Launch} {je : Env} {js : State} {jm : MethodId} {jb : List Frame} {jt : Method} {jc : Code} {G : va_G} {cI cZ cJ : ClassId} {sb Ls : Nat} {xs : Nat → Int32} {ad ma : Nat → Nat} {o : Nat} (hc : LC jp jl js jm #[Value.ref sb] jc (fun q : Nat => js.heap.size ≤ q) G cI cZ cJ sb Ls xs) (hr : jt.sig.returnType = ret) (hlocks : jt.locks = false) : ∀ (fu i k cells slots : Nat), i = 6 * k → cells = 63 + k → slots = 11575 + 6 * k → i ≤ Ls → Ls < i + fu → LAt jp jl je js jm #[Value.ref sb] jb jt jc (fun q : Nat => js.heap.size ≤ q) (lw_Z jb #[Value.ref sb] js) G cI cZ cJ sb ad ma o i cells slots 23 := by
  intro fu
  induction fu with
  | zero => intro i k cells slots hik hce hsl hi hfu; exact absurd hfu (by omega)
  | succ fu ih =>
    intro i k cells slots hik hce hsl hi hfu
    obtain ⟨cx, hXS, hXZ, hX, hbl, hbA, hL, hlt⟩ := id hc
    obtain ⟨hx, hb, hml, hown, hts, hK, hA⟩ := id cx
    intro N Y F n nt nc rf T X B pr inn wn wt M C E Lo O hLA hLJ hGQ hrf H locs ls hP hD hS hl
    refine lv_iload hx hb dL_law_23 (lv_at hl 4 rfl) ?_
    refine lv_aload_n hx hb dL_law_25 rfl (lv_at hl 0 rfl) ?_
    refine va_slen hx hb hX hbl hbA hS dL_law_26 ?_
    refine lv_bipush (v := nI 6) hx hb dL_law_27 (by decide) ?_
    refine lv_isub hx hb dL_law_29 ?_
    refine lv_icmp_gt (tgt := 1234) hx hb dL_law_30 (by decide) (fun cgt => ?_) (fun cgt => ?_)
    · refine lv_iconst (v := 1) hx hb dL_law_1234 (by decide) ?_
      refine va_forget hS.2.2 ?_
      refine W.widen (k := 1091) (n := 19791) (by omega) (by omega) ?_
      exact lw_ret hx hb hr hlocks dL_law_1235
    · have hi6 : i + 6 ≤ Ls := Nat.not_lt.mp (fun q => cgt ((lw_gt hL (by omega)).mpr q))
      have hcl : cells + 1 ≤ 1091 := by omega
      have hsl2 : slots + 6 ≤ 19791 := by omega
      have hk : LAt jp jl je js jm #[Value.ref sb] jb jt jc (fun q : Nat => js.heap.size ≤ q) (lw_Z jb #[Value.ref sb] js) G cI cZ cJ sb ad ma o i (cells + 1) (slots + 6) 1228 := by
        clear hLA hLJ hGQ hrf hP hD hS hl
        intro N Y F n nt nc rf T X B pr inn wn wt M C E Lo O hLA hLJ hGQ hrf H locs ls hP hD hS hl
        refine lv_iinc (v := nI (i + 6)) (lv' := [(4, .int (nI (i + 6))), (0, .ref sb), (1, .ref (ad 0)), (2, .ref (ma 0)), (3, .ref o)]) hx hb dL_law_1228 hl (k := 4) rfl (nI_add i 6) (by decide) rfl (fun ls hl => ?_)
        refine lv_goto (tgt := 23) hx hb dL_law_1231 (by decide) ?_
        exact ih (i + 6) (k + 1) (cells + 1) (slots + 6) (by omega) (by omega) (by omega) hi6 (by omega) N Y F n nt nc rf T X B pr inn wn wt M C E Lo O hLA hLJ hGQ hrf _ _ _ hP hD hS (lv_sub hl [1, 2, 3, 4, 0] rfl)
      refine lv_aload_n hx hb dL_law_33 rfl (lv_at hl 0 rfl) ?_
      refine lv_iload hx hb dL_law_34 (lv_at hl 4 rfl) ?_
      refine k_sld hx hb hX hbl hbA hS (by omega) hL dL_law_36 ?_
      refine lv_bipush (v := nI 31) hx hb dL_law_37 (by decide) ?_
      refine lv_iand hx hb dL_law_39 ?_
      obtain ⟨v, hv, ev⟩ := and_31 (xs i)
      refine k_topN ev ?_
      have hcs : v < 29 ∨ 28 < v := by omega
      rcases hcs with hvs | hvs
      · rcases (show v = 0 ∨ v = 1 ∨ v = 2 ∨ v = 3 ∨ v = 4 ∨ v = 5 ∨ v = 6 ∨ v = 7 ∨ v = 8 ∨ v = 9 ∨ v = 10 ∨ v = 11 ∨ v = 12 ∨ v = 13 ∨ v = 14 ∨ v = 15 ∨ v = 16 ∨ v = 17 ∨ v = 18 ∨ v = 19 ∨ v = 20 ∨ v = 21 ∨ v = 22 ∨ v = 23 ∨ v = 24 ∨ v = 25 ∨ v = 26 ∨ v = 27 ∨ v = 28 by omega) with rfl | rfl | rfl | rfl | rfl | rfl | rfl | rfl | rfl | rfl | rfl | rfl | rfl | rfl | rfl | rfl | rfl | rfl | rfl | rfl | rfl | rfl | rfl | rfl | rfl | rfl | rfl | rfl | rfl
        · refine lv_tableIn (tgt := 172) (off := 132) hx hb dL_law_40 (by decide) (by decide) (by decide) (by decide) ?_
          exact lc_line hc hi6 hcl hsl2 hk N Y F n nt nc rf T X B pr inn wn wt M C E Lo O hLA hLJ hGQ hrf _ _ _ hP hD hS hl
        · refine lv_tableIn (tgt := 233) (off := 193) hx hb dL_law_40 (by decide) (by decide) (by decide) (by decide) ?_
          exact lc_test hc hi6 hcl hsl2 hk N Y F n nt nc rf T X B pr inn wn wt M C E Lo O hLA hLJ hGQ hrf _ _ _ hP hD hS hl
        · refine lv_tableIn (tgt := 294) (off := 254) hx hb dL_law_40 (by decide) (by decide) (by decide) (by decide) ?_
          exact lc_wants hc hi6 hcl hsl2 hk N Y F n nt nc rf T X B pr inn wn wt M C E Lo O hLA hLJ hGQ hrf _ _ _ hP hD hS hl
        · refine lv_tableIn (tgt := 331) (off := 291) hx hb dL_law_40 (by decide) (by decide) (by decide) (by decide) ?_
          exact lc_open hc hi6 hcl hsl2 hk N Y F n nt nc rf T X B pr inn wn wt M C E Lo O hLA hLJ hGQ hrf _ _ _ hP hD hS hl
        · refine lv_tableIn (tgt := 384) (off := 344) hx hb dL_law_40 (by decide) (by decide) (by decide) (by decide) ?_
          exact lc_passes hc hi6 hcl hsl2 hk N Y F n nt nc rf T X B pr inn wn wt M C E Lo O hLA hLJ hGQ hrf _ _ _ hP hD hS hl
        · refine lv_tableIn (tgt := 409) (off := 369) hx hb dL_law_40 (by decide) (by decide) (by decide) (by decide) ?_
          exact lc_outs hc hi6 hcl hsl2 hk N Y F n nt nc rf T X B pr inn wn wt M C E Lo O hLA hLJ hGQ hrf _ _ _ hP hD hS hl
        · refine lv_tableIn (tgt := 434) (off := 394) hx hb dL_law_40 (by decide) (by decide) (by decide) (by decide) ?_
          exact lc_out hc hi6 hcl hsl2 hk N Y F n nt nc rf T X B pr inn wn wt M C E Lo O hLA hLJ hGQ hrf _ _ _ hP hD hS hl
        · refine lv_tableIn (tgt := 502) (off := 462) hx hb dL_law_40 (by decide) (by decide) (by decide) (by decide) ?_
          exact lc_steps hc hi6 hcl hsl2 hk N Y F n nt nc rf T X B pr inn wn wt M C E Lo O hLA hLJ hGQ hrf _ _ _ hP hD hS hl
        · refine lv_tableIn (tgt := 527) (off := 487) hx hb dL_law_40 (by decide) (by decide) (by decide) (by decide) ?_
          exact lc_step hc hi6 hcl hsl2 hk N Y F n nt nc rf T X B pr inn wn wt M C E Lo O hLA hLJ hGQ hrf _ _ _ hP hD hS hl
        · refine lv_tableIn (tgt := 564) (off := 524) hx hb dL_law_40 (by decide) (by decide) (by decide) (by decide) ?_
          exact lc_met hc hi6 hcl hsl2 hk N Y F n nt nc rf T X B pr inn wn wt M C E Lo O hLA hLJ hGQ hrf _ _ _ hP hD hS hl
        · refine lv_tableIn (tgt := 601) (off := 561) hx hb dL_law_40 (by decide) (by decide) (by decide) (by decide) ?_
          exact lc_score hc hi6 hcl hsl2 hk N Y F n nt nc rf T X B pr inn wn wt M C E Lo O hLA hLJ hGQ hrf _ _ _ hP hD hS hl
        · refine lv_tableIn (tgt := 650) (off := 610) hx hb dL_law_40 (by decide) (by decide) (by decide) (by decide) ?_
          exact lc_rank hc hi6 hcl hsl2 hk N Y F n nt nc rf T X B pr inn wn wt M C E Lo O hLA hLJ hGQ hrf _ _ _ hP hD hS hl
        · refine lv_tableIn (tgt := 687) (off := 647) hx hb dL_law_40 (by decide) (by decide) (by decide) (by decide) ?_
          exact lc_prior hc hi6 hcl hsl2 hk N Y F n nt nc rf T X B pr inn wn wt M C E Lo O hLA hLJ hGQ hrf _ _ _ hP hD hS hl
        · refine lv_tableIn (tgt := 724) (off := 684) hx hb dL_law_40 (by decide) (by decide) (by decide) (by decide) ?_
          exact lc_suspects hc hi6 hcl hsl2 hk N Y F n nt nc rf T X B pr inn wn wt M C E Lo O hLA hLJ hGQ hrf _ _ _ hP hD hS hl
        · refine lv_tableIn (tgt := 737) (off := 697) hx hb dL_law_40 (by decide) (by decide) (by decide) (by decide) ?_
          exact lc_suspect hc hi6 hcl hsl2 hk N Y F n nt nc rf T X B pr inn wn wt M C E Lo O hLA hLJ hGQ hrf _ _ _ hP hD hS hl
        · refine lv_tableIn (tgt := 762) (off := 722) hx hb dL_law_40 (by decide) (by decide) (by decide) (by decide) ?_
          exact lc_odds hc hi6 hcl hsl2 hk N Y F n nt nc rf T X B pr inn wn wt M C E Lo O hLA hLJ hGQ hrf _ _ _ hP hD hS hl
        · refine lv_tableIn (tgt := 788) (off := 748) hx hb dL_law_40 (by decide) (by decide) (by decide) (by decide) ?_
          exact lc_best hc hi6 hcl hsl2 hk N Y F n nt nc rf T X B pr inn wn wt M C E Lo O hLA hLJ hGQ hrf _ _ _ hP hD hS hl
        · refine lv_tableIn (tgt := 801) (off := 761) hx hb dL_law_40 (by decide) (by decide) (by decide) (by decide) ?_
          exact lc_slice hc hi6 hcl hsl2 hk N Y F n nt nc rf T X B pr inn wn wt M C E Lo O hLA hLJ hGQ hrf _ _ _ hP hD hS hl
        · refine lv_tableIn (tgt := 838) (off := 798) hx hb dL_law_40 (by decide) (by decide) (by decide) (by decide) ?_
          exact lc_ifs hc hi6 hcl hsl2 hk N Y F n nt nc rf T X B pr inn wn wt M C E Lo O hLA hLJ hGQ hrf _ _ _ hP hD hS hl
        · refine lv_tableIn (tgt := 863) (off := 823) hx hb dL_law_40 (by decide) (by decide) (by decide) (by decide) ?_
          exact lc_turn hc hi6 hcl hsl2 hk N Y F n nt nc rf T X B pr inn wn wt M C E Lo O hLA hLJ hGQ hrf _ _ _ hP hD hS hl
        · refine lv_tableIn (tgt := 900) (off := 860) hx hb dL_law_40 (by decide) (by decide) (by decide) (by decide) ?_
          exact lc_turnFor hc hi6 hcl hsl2 hk N Y F n nt nc rf T X B pr inn wn wt M C E Lo O hLA hLJ hGQ hrf _ _ _ hP hD hS hl
        · refine lv_tableIn (tgt := 925) (off := 885) hx hb dL_law_40 (by decide) (by decide) (by decide) (by decide) ?_
          exact lc_mends hc hi6 hcl hsl2 hk N Y F n nt nc rf T X B pr inn wn wt M C E Lo O hLA hLJ hGQ hrf _ _ _ hP hD hS hl
        · refine lv_tableIn (tgt := 962) (off := 922) hx hb dL_law_40 (by decide) (by decide) (by decide) (by decide) ?_
          exact lc_mendBy hc hi6 hcl hsl2 hk N Y F n nt nc rf T X B pr inn wn wt M C E Lo O hLA hLJ hGQ hrf _ _ _ hP hD hS hl
        · refine lv_tableIn (tgt := 1030) (off := 990) hx hb dL_law_40 (by decide) (by decide) (by decide) (by decide) ?_
          exact lc_change hc hi6 hcl hsl2 hk N Y F n nt nc rf T X B pr inn wn wt M C E Lo O hLA hLJ hGQ hrf _ _ _ hP hD hS hl
        · refine lv_tableIn (tgt := 1103) (off := 1063) hx hb dL_law_40 (by decide) (by decide) (by decide) (by decide) ?_
          exact lc_passesIn hc hi6 hcl hsl2 hk N Y F n nt nc rf T X B pr inn wn wt M C E Lo O hLA hLJ hGQ hrf _ _ _ hP hD hS hl
        · refine lv_tableIn (tgt := 1140) (off := 1100) hx hb dL_law_40 (by decide) (by decide) (by decide) (by decide) ?_
          exact lc_broke hc hi6 hcl hsl2 hk N Y F n nt nc rf T X B pr inn wn wt M C E Lo O hLA hLJ hGQ hrf _ _ _ hP hD hS hl
        · refine lv_tableIn (tgt := 1165) (off := 1125) hx hb dL_law_40 (by decide) (by decide) (by decide) (by decide) ?_
          exact lc_looks hc hi6 hcl hsl2 hk N Y F n nt nc rf T X B pr inn wn wt M C E Lo O hLA hLJ hGQ hrf _ _ _ hP hD hS hl
        · refine lv_tableIn (tgt := 1190) (off := 1150) hx hb dL_law_40 (by decide) (by decide) (by decide) (by decide) ?_
          exact lc_parting hc hi6 hcl hsl2 hk N Y F n nt nc rf T X B pr inn wn wt M C E Lo O hLA hLJ hGQ hrf _ _ _ hP hD hS hl
        · refine lv_tableIn (tgt := 1203) (off := 1163) hx hb dL_law_40 (by decide) (by decide) (by decide) (by decide) ?_
          exact lc_count hc hi6 hcl hsl2 hk N Y F n nt nc rf T X B pr inn wn wt M C E Lo O hLA hLJ hGQ hrf _ _ _ hP hD hS hl
      · refine lv_tableOut (tgt := 1228) hx hb dL_law_40 (Or.inr (by rw [nI_toInt (by omega)]; omega)) (by decide) ?_
        refine W.widen (k := cells + 1) (n := slots + 6) (Nat.le_succ _) (Nat.le_add_right _ _) ?_
        exact hk N Y F n nt nc rf T X B pr inn wn wt M C E Lo O hLA hLJ hGQ hrf _ _ _ hP hD hS hl
