theorem iX10_explains_10 : ∀ w ∈ wsX100, w ∈ wsX10_explains := by decide +kernel
theorem mX10_explains_34 : Cond.fieldLink RX10 34 "LineFinderModel" "isOpen" "[Z" ∈ wsX10_explains := List.mem_of_getElem? (i := 2) rfl
theorem mX10_explains_50 : Cond.fieldLink RX10 50 "LineFinderModel" "meets" "[I" ∈ wsX10_explains := List.mem_of_getElem? (i := 4) rfl
theorem mX10_explains_53 : Cond.fieldLink RX10 53 "LineFinderModel" "isPass" "[Z" ∈ wsX10_explains := List.mem_of_getElem? (i := 3) rfl
theorem mX10_explains_100 : Cond.fieldLink RX10 100 "LineFinderModel" "tests" "I" ∈ wsX10_explains := List.mem_of_getElem? (i := 1) rfl
abbrev rCX10_explains : Room := { frames := 0, cells := 0, slots := 0, locals := 0 }
set_option maxHeartbeats 4000000 in
set_option maxRecDepth 100000 in
theorem CX10_explains (jl : Launch) (G : va_G) (cI cZ cJ : ClassId) (ma : Nat → Nat) (N : Nat → Nat) (F : Nat → Fn) (rf T X B : Fn) (M : Nat → Nat) (C : Int32) (E : Nat → Fn) (L : Nat → Int64) (hLA : LA N F) (hMR : MR N F T X B) (x : Nat) (hx24 : x < 2 ^ 24) (hg : GA N F M E) : Ki jl yX10_explains wsX10_explains rCX10_explains G cI cZ cJ [.ref (ma 0), .int (nI x)] [oB (ma 0) 10 [.ref (ma 1), .int (nI (N 0)), .int (nI (N 3)), .int (nI (N 1)), .int (nI (M 0)), .ref (ma 2), .ref (ma 3), .ref (ma 4), .ref (ma 5), .ref (ma 6), .ref (ma 7), .ref (ma 8), .ref (ma 9), .ref (ma 10), .ref (ma 11), .ref (ma 12), .ref (ma 13), .int (nI (M 1)), .int (nI (M 2)), .int (nI (M 3)), .int C, .ref (ma 14), .ref (ma 15), .int (nI (M 4)), .int (nI (M 5)), .int (nI (M 6)), .int (nI (M 7)), .int (nI (M 8)), .ref (ma 16), .ref (ma 17), .int (nI (M 9)), .ref (ma 18), .int (nI (M 10))], aI cI (ma 1) 7 rf, aI cI (ma 2) 96 T, aI cI (ma 3) 96 (E 0), aI cI (ma 4) 100 X, aI cI (ma 5) 24 (F 27), aI cI (ma 6) 48 (F 17), aI cI (ma 7) 72 (F 18), aI cI (ma 8) 12 (F 19), aI cZ (ma 9) 12 B, aI cI (ma 10) 300 (E 1), aI cI (ma 11) 6 (E 2), aI cI (ma 12) 6 (E 3), aI cI (ma 13) 8 (E 4), aI cI (ma 14) 12 (E 5), aI cZ (ma 15) 12 (E 6), aI cI (ma 16) 2400 (E 7), aJ cJ (ma 17) 2400 L, aI cZ (ma 18) 300 (E 8)] (S := Unit) (fun (r : Int32) (_ : Unit) => r = bI (exM N F x)) (fun (_ : Unit) => [oB (ma 0) 10 [.ref (ma 1), .int (nI (N 0)), .int (nI (N 3)), .int (nI (N 1)), .int (nI (M 0)), .ref (ma 2), .ref (ma 3), .ref (ma 4), .ref (ma 5), .ref (ma 6), .ref (ma 7), .ref (ma 8), .ref (ma 9), .ref (ma 10), .ref (ma 11), .ref (ma 12), .ref (ma 13), .int (nI (M 1)), .int (nI (M 2)), .int (nI (M 3)), .int C, .ref (ma 14), .ref (ma 15), .int (nI (M 4)), .int (nI (M 5)), .int (nI (M 6)), .int (nI (M 7)), .int (nI (M 8)), .ref (ma 16), .ref (ma 17), .int (nI (M 9)), .ref (ma 18), .int (nI (M 10))], aI cI (ma 1) 7 rf, aI cI (ma 2) 96 T, aI cI (ma 3) 96 (E 0), aI cI (ma 4) 100 X, aI cI (ma 5) 24 (F 27), aI cI (ma 6) 48 (F 17), aI cI (ma 7) 72 (F 18), aI cI (ma 8) 12 (F 19), aI cZ (ma 9) 12 B, aI cI (ma 10) 300 (E 1), aI cI (ma 11) 6 (E 2), aI cI (ma 12) 6 (E 3), aI cI (ma 13) 8 (E 4), aI cI (ma 14) 12 (E 5), aI cZ (ma 15) 12 (E 6), aI cI (ma 16) 2400 (E 7), aJ cJ (ma 17) 2400 L, aI cZ (ma 18) 300 (E 8)]) := by
  refine Ki.ofZ (cc := cX10_explains) (maxL := 4) (by decide +kernel) rfl (Nat.le_of_ble_eq_true rfl) ?_
  intro jp je js jm ja jb jt jc jA jQ ls cx hnm hP hD hS hl hret
  obtain ⟨hx, hb, hml, hown, hts, hK, hA⟩ := id cx
  have hl : lv_has ls 4 [(0, .ref (ma 0)), (1, .int (nI x))] := hl
  obtain ⟨H, hH⟩ : ∃ H, H = js.heap := ⟨_, rfl⟩
  obtain ⟨locs, hlocs⟩ : ∃ z : List Loc, z = [] := ⟨_, rfl⟩
  have hP : va_P G vwCl [oB (ma 0) 10 [.ref (ma 1), .int (nI (N 0)), .int (nI (N 3)), .int (nI (N 1)), .int (nI (M 0)), .ref (ma 2), .ref (ma 3), .ref (ma 4), .ref (ma 5), .ref (ma 6), .ref (ma 7), .ref (ma 8), .ref (ma 9), .ref (ma 10), .ref (ma 11), .ref (ma 12), .ref (ma 13), .int (nI (M 1)), .int (nI (M 2)), .int (nI (M 3)), .int C, .ref (ma 14), .ref (ma 15), .int (nI (M 4)), .int (nI (M 5)), .int (nI (M 6)), .int (nI (M 7)), .int (nI (M 8)), .ref (ma 16), .ref (ma 17), .int (nI (M 9)), .ref (ma 18), .int (nI (M 10))], aI cI (ma 1) 7 rf, aI cI (ma 2) 96 T, aI cI (ma 3) 96 (E 0), aI cI (ma 4) 100 X, aI cI (ma 5) 24 (F 27), aI cI (ma 6) 48 (F 17), aI cI (ma 7) 72 (F 18), aI cI (ma 8) 12 (F 19), aI cZ (ma 9) 12 B, aI cI (ma 10) 300 (E 1), aI cI (ma 11) 6 (E 2), aI cI (ma 12) 6 (E 3), aI cI (ma 13) 8 (E 4), aI cI (ma 14) 12 (E 5), aI cZ (ma 15) 12 (E 6), aI cI (ma 16) 2400 (E 7), aJ cJ (ma 17) 2400 L, aI cZ (ma 18) 300 (E 8)] H := by rw [hH]; exact hP
  have hS : va_S jA js.heap H locs := by rw [hH, hlocs]; exact hS
  rw [← hlocs]; rw [show W jp jl je rCX10_explains js jm ja jb jt jc js.heap locs 0 0 jQ (F0 jm 0 ls []) = W jp jl je rCX10_explains js jm ja jb jt jc H locs 0 0 jQ (F0 jm 0 ls []) by rw [hH]]
  clear hH hlocs
  obtain ⟨hn24, hc20, hnt12, hob2, hokT, hokN, hokC, hver, hlen7, hpri⟩ := id hLA
  refine lv_iconst (v := nI 1) hx hb dX10_explains_0 (by decide) ?_
  refine lv_istore_n (lv' := [(2, .int (nI 1)), (0, .ref (ma 0)), (1, .int (nI x))]) hx hb dX10_explains_1 rfl hl (by decide) rfl (fun ls hl => ?_)
  refine lv_iconst (v := nI 0) hx hb dX10_explains_2 (by decide) ?_
  refine lv_istore_n (lv' := [(3, .int (nI 0)), (2, .int (nI 1)), (0, .ref (ma 0)), (1, .int (nI x))]) hx hb dX10_explains_3 rfl hl (by decide) rfl (fun ls hl => ?_)
  have L4 : ∀ (fu : Nat), ∀ (t : Nat), ∀ (b : Bool), (N 3 < t + fu) → (t ≤ N 3) → (b = allB (exq N F x) t) → ∀ (H : Heap) (locs : List Loc) (ls : Array Slot), va_P G vwCl [oB (ma 0) 10 [.ref (ma 1), .int (nI (N 0)), .int (nI (N 3)), .int (nI (N 1)), .int (nI (M 0)), .ref (ma 2), .ref (ma 3), .ref (ma 4), .ref (ma 5), .ref (ma 6), .ref (ma 7), .ref (ma 8), .ref (ma 9), .ref (ma 10), .ref (ma 11), .ref (ma 12), .ref (ma 13), .int (nI (M 1)), .int (nI (M 2)), .int (nI (M 3)), .int C, .ref (ma 14), .ref (ma 15), .int (nI (M 4)), .int (nI (M 5)), .int (nI (M 6)), .int (nI (M 7)), .int (nI (M 8)), .ref (ma 16), .ref (ma 17), .int (nI (M 9)), .ref (ma 18), .int (nI (M 10))], aI cI (ma 1) 7 rf, aI cI (ma 2) 96 T, aI cI (ma 3) 96 (E 0), aI cI (ma 4) 100 X, aI cI (ma 5) 24 (F 27), aI cI (ma 6) 48 (F 17), aI cI (ma 7) 72 (F 18), aI cI (ma 8) 12 (F 19), aI cZ (ma 9) 12 B, aI cI (ma 10) 300 (E 1), aI cI (ma 11) 6 (E 2), aI cI (ma 12) 6 (E 3), aI cI (ma 13) 8 (E 4), aI cI (ma 14) 12 (E 5), aI cZ (ma 15) 12 (E 6), aI cI (ma 16) 2400 (E 7), aJ cJ (ma 17) 2400 L, aI cZ (ma 18) 300 (E 8)] H → va_D jA [oB (ma 0) 10 [.ref (ma 1), .int (nI (N 0)), .int (nI (N 3)), .int (nI (N 1)), .int (nI (M 0)), .ref (ma 2), .ref (ma 3), .ref (ma 4), .ref (ma 5), .ref (ma 6), .ref (ma 7), .ref (ma 8), .ref (ma 9), .ref (ma 10), .ref (ma 11), .ref (ma 12), .ref (ma 13), .int (nI (M 1)), .int (nI (M 2)), .int (nI (M 3)), .int C, .ref (ma 14), .ref (ma 15), .int (nI (M 4)), .int (nI (M 5)), .int (nI (M 6)), .int (nI (M 7)), .int (nI (M 8)), .ref (ma 16), .ref (ma 17), .int (nI (M 9)), .ref (ma 18), .int (nI (M 10))], aI cI (ma 1) 7 rf, aI cI (ma 2) 96 T, aI cI (ma 3) 96 (E 0), aI cI (ma 4) 100 X, aI cI (ma 5) 24 (F 27), aI cI (ma 6) 48 (F 17), aI cI (ma 7) 72 (F 18), aI cI (ma 8) 12 (F 19), aI cZ (ma 9) 12 B, aI cI (ma 10) 300 (E 1), aI cI (ma 11) 6 (E 2), aI cI (ma 12) 6 (E 3), aI cI (ma 13) 8 (E 4), aI cI (ma 14) 12 (E 5), aI cZ (ma 15) 12 (E 6), aI cI (ma 16) 2400 (E 7), aJ cJ (ma 17) 2400 L, aI cZ (ma 18) 300 (E 8)] → va_S jA js.heap H locs → lv_has ls 4 [(0, .ref (ma 0)), (1, .int (nI x)), (2, .int (bI b)), (3, .int (nI t))] → W jp jl je rCX10_explains js jm ja jb jt jc H locs 0 0 jQ (F0 jm 4 ls []) := by
    intro fu
    induction fu with
    | zero =>
      intro t b hfu hT hbb H locs ls hP hD hS hl
      exact absurd hfu (by omega)
    | succ fu ih4 =>
      intro t b hfu hT hbb H locs ls hP hD hS hl
      refine lv_iload_n hx hb dX10_explains_4 rfl (lv_at hl 3 rfl) ?_
      refine lv_aload_n hx hb dX10_explains_5 rfl (lv_at hl 0 rfl) ?_
      refine va_get (C := RX10) (T := TX10) (N := 33) (ci := 10) hx hb hts iX10_explains_10 hown hK.1 hP 0 rfl rfl 2 (Nat.le_of_ble_eq_true rfl) (hts _ mX10_explains_100) (fun _ h9 => h9) rfl dX10_explains_6 ?_
      refine k_cmp_ge (tgt := 57) hx hb dX10_explains_9 (by decide) (by omega) (by omega) (fun ht => ?_) (fun ht => ?_)
      · skip
        refine lv_iload_n hx hb dX10_explains_57 rfl (lv_at hl 2 rfl) ?_
        exact hret _ _ _ _ _ () dX10_explains_58 (bI_nar _) (by rw [hbb, show t = N 3 by omega]; rfl) hP hD hS
      · skip
        refine lv_iload_n hx hb dX10_explains_12 rfl (lv_at hl 2 rfl) ?_
        refine lv_if_eq (tgt := 57) hx hb dX10_explains_13 (by decide) (fun hb4 => ?_) (fun hb4 => ?_)
        · skip
          refine lv_iload_n hx hb dX10_explains_57 rfl (lv_at hl 2 rfl) ?_
          exact hret _ _ _ _ _ () dX10_explains_58 (bI_nar _) (by rw [bI_z hb4]; rw [bI_z hb4] at hbb; unfold exM; rw [allB_down hT hbb.symm]) hP hD hS
        · skip
          have hbt := bI_nz hb4
          rw [hbt] at hbb
          replace hbt := hbb
          have hop := hMR.2.2 t (by omega)
          have hmt := hg.2.2.2 t ht
          refine lv_aload_n hx hb dX10_explains_16 rfl (lv_at hl 0 rfl) ?_
          refine va_get (C := RX10) (T := TX10) (N := 33) (ci := 10) hx hb hts iX10_explains_10 hown hK.1 hP 0 rfl rfl 12 (Nat.le_of_ble_eq_true rfl) (hts _ mX10_explains_34) (fun _ h9 => h9) rfl dX10_explains_17 ?_
          refine lv_iload_n hx hb dX10_explains_20 rfl (lv_at hl 3 rfl) ?_
          refine k_zald hx hb hK.1 hP 9 1 rfl rfl (by omega) (by decide) dX10_explains_21 ?_
          rcases Bool.eq_false_or_eq_true ((N 2).testBit t) with ho | ho
          · skip
            refine k_topN (j := 1) (by rw [hop, ho]; rfl) ?_
            have hqq : exq N F x t = true := by unfold exq; rw [ho]; rfl
            refine k_if_ne_t (tgt := 45) hx hb dX10_explains_22 (by decide) (by decide) ?_
            refine lv_iconst (v := nI 1) hx hb dX10_explains_45 (by decide) ?_
            refine lv_goto (tgt := 50) hx hb dX10_explains_46 (by decide) ?_
            refine lv_istore_n (lv' := [(2, .int (nI 1)), (0, .ref (ma 0)), (1, .int (nI x)), (3, .int (nI t))]) hx hb dX10_explains_50 rfl hl (by decide) rfl (fun ls hl => ?_)
            refine lv_iinc (v := nI (t + 1)) (lv' := [(3, .int (nI (t + 1))), (2, .int (nI 1)), (0, .ref (ma 0)), (1, .int (nI x))]) hx hb dX10_explains_51 hl (k := 3) rfl (nI_add t 1) (by decide) rfl (fun ls hl => ?_)
            refine lv_goto (tgt := 4) hx hb dX10_explains_54 (by decide) ?_
            exact ih4 (t + 1) true (by omega) (by omega) (by rw [allB, ← hbt, hqq]; rfl) _ _ _ hP hD hS (lv_sub hl [2, 3, 1, 0] rfl)
          · skip
            refine k_topN (j := 0) (by rw [hop, ho]; rfl) ?_
            refine k_if_ne_f (tgt := 45) hx hb dX10_explains_22 (by decide) (by decide) ?_
            refine lv_aload_n hx hb dX10_explains_25 rfl (lv_at hl 0 rfl) ?_
            refine va_get (C := RX10) (T := TX10) (N := 33) (ci := 10) hx hb hts iX10_explains_10 hown hK.1 hP 0 rfl rfl 22 (Nat.le_of_ble_eq_true rfl) (hts _ mX10_explains_53) (fun _ h9 => h9) rfl dX10_explains_26 ?_
            refine lv_iload_n hx hb dX10_explains_29 rfl (lv_at hl 3 rfl) ?_
            refine k_zald hx hb hK.1 hP 15 1 rfl rfl (by omega) (by decide) dX10_explains_30 ?_
            rcases Bool.eq_false_or_eq_true (PAS N F t (RUNP N F t)) with hps | hps
            · skip
              refine k_topN (j := 1) (by rw [hmt.2, hps]; rfl) ?_
              have hqq : exq N F x t = true := by unfold exq; rw [hps, Bool.true_or, Bool.or_true]
              refine k_if_ne_t (tgt := 45) hx hb dX10_explains_31 (by decide) (by decide) ?_
              refine lv_iconst (v := nI 1) hx hb dX10_explains_45 (by decide) ?_
              refine lv_goto (tgt := 50) hx hb dX10_explains_46 (by decide) ?_
              refine lv_istore_n (lv' := [(2, .int (nI 1)), (0, .ref (ma 0)), (1, .int (nI x)), (3, .int (nI t))]) hx hb dX10_explains_50 rfl hl (by decide) rfl (fun ls hl => ?_)
              refine lv_iinc (v := nI (t + 1)) (lv' := [(3, .int (nI (t + 1))), (2, .int (nI 1)), (0, .ref (ma 0)), (1, .int (nI x))]) hx hb dX10_explains_51 hl (k := 3) rfl (nI_add t 1) (by decide) rfl (fun ls hl => ?_)
              refine lv_goto (tgt := 4) hx hb dX10_explains_54 (by decide) ?_
              exact ih4 (t + 1) true (by omega) (by omega) (by rw [allB, ← hbt, hqq]; rfl) _ _ _ hP hD hS (lv_sub hl [2, 3, 1, 0] rfl)
            · skip
              refine k_topN (j := 0) (by rw [hmt.2, hps]; rfl) ?_
              refine k_if_ne_f (tgt := 45) hx hb dX10_explains_31 (by decide) (by decide) ?_
              refine lv_aload_n hx hb dX10_explains_34 rfl (lv_at hl 0 rfl) ?_
              refine va_get (C := RX10) (T := TX10) (N := 33) (ci := 10) hx hb hts iX10_explains_10 hown hK.1 hP 0 rfl rfl 21 (Nat.le_of_ble_eq_true rfl) (hts _ mX10_explains_50) (fun _ h9 => h9) rfl dX10_explains_35 ?_
              refine lv_iload_n hx hb dX10_explains_38 rfl (lv_at hl 3 rfl) ?_
              refine k_iald hx hb hK.1 hP 14 0 rfl rfl (by omega) (by decide) dX10_explains_39 ?_
              refine k_topN hmt.1 ?_
              refine lv_iload_n hx hb dX10_explains_40 rfl (lv_at hl 1 rfl) ?_
              refine k_iand hx hb dX10_explains_41 ?_
              refine k_if_eq (tgt := 49) hx hb dX10_explains_42 (by decide) (by exact Nat.lt_of_le_of_lt Nat.and_le_right (by omega)) (fun hz => ?_) (fun hz => ?_)
              · skip
                have hqq : exq N F x t = false := by unfold exq; rw [ho, hps, hz]; rfl
                refine lv_iconst (v := nI 0) hx hb dX10_explains_49 (by decide) ?_
                refine lv_istore_n (lv' := [(2, .int (nI 0)), (0, .ref (ma 0)), (1, .int (nI x)), (3, .int (nI t))]) hx hb dX10_explains_50 rfl hl (by decide) rfl (fun ls hl => ?_)
                refine lv_iinc (v := nI (t + 1)) (lv' := [(3, .int (nI (t + 1))), (2, .int (nI 0)), (0, .ref (ma 0)), (1, .int (nI x))]) hx hb dX10_explains_51 hl (k := 3) rfl (nI_add t 1) (by decide) rfl (fun ls hl => ?_)
                refine lv_goto (tgt := 4) hx hb dX10_explains_54 (by decide) ?_
                exact ih4 (t + 1) false (by omega) (by omega) (by rw [allB, ← hbt, hqq]; rfl) _ _ _ hP hD hS (lv_sub hl [2, 3, 1, 0] rfl)
              · skip
                have hqq : exq N F x t = true := by unfold exq; rw [decide_eq_true hz, Bool.or_true, Bool.or_true]
                refine lv_iconst (v := nI 1) hx hb dX10_explains_45 (by decide) ?_
                refine lv_goto (tgt := 50) hx hb dX10_explains_46 (by decide) ?_
                refine lv_istore_n (lv' := [(2, .int (nI 1)), (0, .ref (ma 0)), (1, .int (nI x)), (3, .int (nI t))]) hx hb dX10_explains_50 rfl hl (by decide) rfl (fun ls hl => ?_)
                refine lv_iinc (v := nI (t + 1)) (lv' := [(3, .int (nI (t + 1))), (2, .int (nI 1)), (0, .ref (ma 0)), (1, .int (nI x))]) hx hb dX10_explains_51 hl (k := 3) rfl (nI_add t 1) (by decide) rfl (fun ls hl => ?_)
                refine lv_goto (tgt := 4) hx hb dX10_explains_54 (by decide) ?_
                exact ih4 (t + 1) true (by omega) (by omega) (by rw [allB, ← hbt, hqq]; rfl) _ _ _ hP hD hS (lv_sub hl [2, 3, 1, 0] rfl)
  exact L4 (N 3 + 1) 0 true (by omega) (by omega) (rfl) _ _ _ hP hD hS (lv_sub hl [2, 3, 1, 0] rfl)

theorem iX10_isLeast_10 : ∀ w ∈ wsX100, w ∈ wsX10_isLeast := by decide +kernel
theorem mX10_isLeast_85 : Cond.fieldLink RX10 85 "LineFinderModel" "lines" "I" ∈ wsX10_isLeast := List.mem_of_getElem? (i := 1) rfl
theorem hdX10_explains : yX10_explains.cls = RX10 ∧ yX10_explains.cls ≠ "java/lang/invoke/MethodHandle" ∧ yX10_explains.cls ≠ "java/lang/invoke/VarHandle" ∧ (parseMethodDescriptor yX10_explains.desc).map (fun d => d.parameters.length) = some 1 := by decide +kernel
abbrev rCX10_isLeast : Room := { frames := 1, cells := 0, slots := 0, locals := 23 }
set_option maxHeartbeats 4000000 in
set_option maxRecDepth 100000 in
theorem CX10_isLeast (jl : Launch) (G : va_G) (cI cZ cJ : ClassId) (ma : Nat → Nat) (N : Nat → Nat) (F : Nat → Fn) (rf T X B : Fn) (M : Nat → Nat) (C : Int32) (E : Nat → Fn) (L : Nat → Int64) (hLA : LA N F) (hMR : MR N F T X B) (x : Nat) (hx24 : x < 2 ^ 24) (hg : GA N F M E) : Ki jl yX10_isLeast wsX10_isLeast rCX10_isLeast G cI cZ cJ [.ref (ma 0), .int (nI x)] [oB (ma 0) 10 [.ref (ma 1), .int (nI (N 0)), .int (nI (N 3)), .int (nI (N 1)), .int (nI (M 0)), .ref (ma 2), .ref (ma 3), .ref (ma 4), .ref (ma 5), .ref (ma 6), .ref (ma 7), .ref (ma 8), .ref (ma 9), .ref (ma 10), .ref (ma 11), .ref (ma 12), .ref (ma 13), .int (nI (M 1)), .int (nI (M 2)), .int (nI (M 3)), .int C, .ref (ma 14), .ref (ma 15), .int (nI (M 4)), .int (nI (M 5)), .int (nI (M 6)), .int (nI (M 7)), .int (nI (M 8)), .ref (ma 16), .ref (ma 17), .int (nI (M 9)), .ref (ma 18), .int (nI (M 10))], aI cI (ma 1) 7 rf, aI cI (ma 2) 96 T, aI cI (ma 3) 96 (E 0), aI cI (ma 4) 100 X, aI cI (ma 5) 24 (F 27), aI cI (ma 6) 48 (F 17), aI cI (ma 7) 72 (F 18), aI cI (ma 8) 12 (F 19), aI cZ (ma 9) 12 B, aI cI (ma 10) 300 (E 1), aI cI (ma 11) 6 (E 2), aI cI (ma 12) 6 (E 3), aI cI (ma 13) 8 (E 4), aI cI (ma 14) 12 (E 5), aI cZ (ma 15) 12 (E 6), aI cI (ma 16) 2400 (E 7), aJ cJ (ma 17) 2400 L, aI cZ (ma 18) 300 (E 8)] (S := Unit) (fun (r : Int32) (_ : Unit) => r = bI (lst N F x)) (fun (_ : Unit) => [oB (ma 0) 10 [.ref (ma 1), .int (nI (N 0)), .int (nI (N 3)), .int (nI (N 1)), .int (nI (M 0)), .ref (ma 2), .ref (ma 3), .ref (ma 4), .ref (ma 5), .ref (ma 6), .ref (ma 7), .ref (ma 8), .ref (ma 9), .ref (ma 10), .ref (ma 11), .ref (ma 12), .ref (ma 13), .int (nI (M 1)), .int (nI (M 2)), .int (nI (M 3)), .int C, .ref (ma 14), .ref (ma 15), .int (nI (M 4)), .int (nI (M 5)), .int (nI (M 6)), .int (nI (M 7)), .int (nI (M 8)), .ref (ma 16), .ref (ma 17), .int (nI (M 9)), .ref (ma 18), .int (nI (M 10))], aI cI (ma 1) 7 rf, aI cI (ma 2) 96 T, aI cI (ma 3) 96 (E 0), aI cI (ma 4) 100 X, aI cI (ma 5) 24 (F 27), aI cI (ma 6) 48 (F 17), aI cI (ma 7) 72 (F 18), aI cI (ma 8) 12 (F 19), aI cZ (ma 9) 12 B, aI cI (ma 10) 300 (E 1), aI cI (ma 11) 6 (E 2), aI cI (ma 12) 6 (E 3), aI cI (ma 13) 8 (E 4), aI cI (ma 14) 12 (E 5), aI cZ (ma 15) 12 (E 6), aI cI (ma 16) 2400 (E 7), aJ cJ (ma 17) 2400 L, aI cZ (ma 18) 300 (E 8)]) := by
  refine Ki.ofZ (cc := cX10_isLeast) (maxL := 3) (by decide +kernel) rfl (Nat.le_of_ble_eq_true rfl) ?_
  intro jp je js jm ja jb jt jc jA jQ ls cx hnm hP hD hS hl hret
  obtain ⟨hx, hb, hml, hown, hts, hK, hA⟩ := id cx
  have hl : lv_has ls 3 [(0, .ref (ma 0)), (1, .int (nI x))] := hl
  obtain ⟨H, hH⟩ : ∃ H, H = js.heap := ⟨_, rfl⟩
  obtain ⟨locs, hlocs⟩ : ∃ z : List Loc, z = [] := ⟨_, rfl⟩
  have hP : va_P G vwCl [oB (ma 0) 10 [.ref (ma 1), .int (nI (N 0)), .int (nI (N 3)), .int (nI (N 1)), .int (nI (M 0)), .ref (ma 2), .ref (ma 3), .ref (ma 4), .ref (ma 5), .ref (ma 6), .ref (ma 7), .ref (ma 8), .ref (ma 9), .ref (ma 10), .ref (ma 11), .ref (ma 12), .ref (ma 13), .int (nI (M 1)), .int (nI (M 2)), .int (nI (M 3)), .int C, .ref (ma 14), .ref (ma 15), .int (nI (M 4)), .int (nI (M 5)), .int (nI (M 6)), .int (nI (M 7)), .int (nI (M 8)), .ref (ma 16), .ref (ma 17), .int (nI (M 9)), .ref (ma 18), .int (nI (M 10))], aI cI (ma 1) 7 rf, aI cI (ma 2) 96 T, aI cI (ma 3) 96 (E 0), aI cI (ma 4) 100 X, aI cI (ma 5) 24 (F 27), aI cI (ma 6) 48 (F 17), aI cI (ma 7) 72 (F 18), aI cI (ma 8) 12 (F 19), aI cZ (ma 9) 12 B, aI cI (ma 10) 300 (E 1), aI cI (ma 11) 6 (E 2), aI cI (ma 12) 6 (E 3), aI cI (ma 13) 8 (E 4), aI cI (ma 14) 12 (E 5), aI cZ (ma 15) 12 (E 6), aI cI (ma 16) 2400 (E 7), aJ cJ (ma 17) 2400 L, aI cZ (ma 18) 300 (E 8)] H := by rw [hH]; exact hP
  have hS : va_S jA js.heap H locs := by rw [hH, hlocs]; exact hS
  rw [← hlocs]; rw [show W jp jl je rCX10_isLeast js jm ja jb jt jc js.heap locs 0 0 jQ (F0 jm 0 ls []) = W jp jl je rCX10_isLeast js jm ja jb jt jc H locs 0 0 jQ (F0 jm 0 ls []) by rw [hH]]
  clear hH hlocs
  obtain ⟨hn24, hc20, hnt12, hob2, hokT, hokN, hokC, hver, hlen7, hpri⟩ := id hLA
  refine lv_aload_n hx hb dX10_isLeast_0 rfl (lv_at hl 0 rfl) ?_
  refine lv_iload_n hx hb dX10_isLeast_1 rfl (lv_at hl 1 rfl) ?_
  refine Ki.callV (wr := []) (rest := []) (CX10_explains jl G cI cZ cJ ma N F rf T X B M C E L hLA hMR x hx24 hg) cx hP hD hS hl [0, 1, 2, 3, 4, 5, 6, 7, 8, 9, 10, 11, 12, 13, 14, 15, 16, 17, 18] [] (ci := 10) (q0 := 0) gX10_isLeast_X10_explains hdX10_explains rfl rfl rfl ⟨Nat.le_of_ble_eq_true rfl, Nat.le_of_ble_eq_true rfl⟩ rfl rfl (by decide) (by decide) (by decide) dX10_isLeast_2 rfl rfl (Nat.le_of_ble_eq_true rfl) ⟨Nat.le_of_ble_eq_true rfl, Nat.le_of_ble_eq_true rfl⟩ (fun r_1 u H locs hw_2 hP hD hS => ?_)
  have hP : va_P G vwCl [oB (ma 0) 10 [.ref (ma 1), .int (nI (N 0)), .int (nI (N 3)), .int (nI (N 1)), .int (nI (M 0)), .ref (ma 2), .ref (ma 3), .ref (ma 4), .ref (ma 5), .ref (ma 6), .ref (ma 7), .ref (ma 8), .ref (ma 9), .ref (ma 10), .ref (ma 11), .ref (ma 12), .ref (ma 13), .int (nI (M 1)), .int (nI (M 2)), .int (nI (M 3)), .int C, .ref (ma 14), .ref (ma 15), .int (nI (M 4)), .int (nI (M 5)), .int (nI (M 6)), .int (nI (M 7)), .int (nI (M 8)), .ref (ma 16), .ref (ma 17), .int (nI (M 9)), .ref (ma 18), .int (nI (M 10))], aI cI (ma 1) 7 rf, aI cI (ma 2) 96 T, aI cI (ma 3) 96 (E 0), aI cI (ma 4) 100 X, aI cI (ma 5) 24 (F 27), aI cI (ma 6) 48 (F 17), aI cI (ma 7) 72 (F 18), aI cI (ma 8) 12 (F 19), aI cZ (ma 9) 12 B, aI cI (ma 10) 300 (E 1), aI cI (ma 11) 6 (E 2), aI cI (ma 12) 6 (E 3), aI cI (ma 13) 8 (E 4), aI cI (ma 14) 12 (E 5), aI cZ (ma 15) 12 (E 6), aI cI (ma 16) 2400 (E 7), aJ cJ (ma 17) 2400 L, aI cZ (ma 18) 300 (E 8)] H := hP
  have hD : va_D jA [oB (ma 0) 10 [.ref (ma 1), .int (nI (N 0)), .int (nI (N 3)), .int (nI (N 1)), .int (nI (M 0)), .ref (ma 2), .ref (ma 3), .ref (ma 4), .ref (ma 5), .ref (ma 6), .ref (ma 7), .ref (ma 8), .ref (ma 9), .ref (ma 10), .ref (ma 11), .ref (ma 12), .ref (ma 13), .int (nI (M 1)), .int (nI (M 2)), .int (nI (M 3)), .int C, .ref (ma 14), .ref (ma 15), .int (nI (M 4)), .int (nI (M 5)), .int (nI (M 6)), .int (nI (M 7)), .int (nI (M 8)), .ref (ma 16), .ref (ma 17), .int (nI (M 9)), .ref (ma 18), .int (nI (M 10))], aI cI (ma 1) 7 rf, aI cI (ma 2) 96 T, aI cI (ma 3) 96 (E 0), aI cI (ma 4) 100 X, aI cI (ma 5) 24 (F 27), aI cI (ma 6) 48 (F 17), aI cI (ma 7) 72 (F 18), aI cI (ma 8) 12 (F 19), aI cZ (ma 9) 12 B, aI cI (ma 10) 300 (E 1), aI cI (ma 11) 6 (E 2), aI cI (ma 12) 6 (E 3), aI cI (ma 13) 8 (E 4), aI cI (ma 14) 12 (E 5), aI cZ (ma 15) 12 (E 6), aI cI (ma 16) 2400 (E 7), aJ cJ (ma 17) 2400 L, aI cZ (ma 18) 300 (E 8)] := hD
  rcases Bool.eq_false_or_eq_true (exM N F x) with hex | hex
  · skip
    rw [hex] at hw_2
    subst hw_2
    refine k_if_ne_t (tgt := 10) hx hb dX10_isLeast_5 (by decide) (by decide) ?_
    refine lv_iconst (v := nI 0) hx hb dX10_isLeast_10 (by decide) ?_
    refine lv_istore_n (lv' := [(2, .int (nI 0)), (0, .ref (ma 0)), (1, .int (nI x))]) hx hb dX10_isLeast_11 rfl hl (by decide) rfl (fun ls hl => ?_)
    have L12 : ∀ (fu : Nat), ∀ (k : Nat), (N 0 < k + fu) → (k ≤ N 0) → (allB (lsq N F x) k = true) → ∀ (H : Heap) (locs : List Loc) (ls : Array Slot), va_P G vwCl [oB (ma 0) 10 [.ref (ma 1), .int (nI (N 0)), .int (nI (N 3)), .int (nI (N 1)), .int (nI (M 0)), .ref (ma 2), .ref (ma 3), .ref (ma 4), .ref (ma 5), .ref (ma 6), .ref (ma 7), .ref (ma 8), .ref (ma 9), .ref (ma 10), .ref (ma 11), .ref (ma 12), .ref (ma 13), .int (nI (M 1)), .int (nI (M 2)), .int (nI (M 3)), .int C, .ref (ma 14), .ref (ma 15), .int (nI (M 4)), .int (nI (M 5)), .int (nI (M 6)), .int (nI (M 7)), .int (nI (M 8)), .ref (ma 16), .ref (ma 17), .int (nI (M 9)), .ref (ma 18), .int (nI (M 10))], aI cI (ma 1) 7 rf, aI cI (ma 2) 96 T, aI cI (ma 3) 96 (E 0), aI cI (ma 4) 100 X, aI cI (ma 5) 24 (F 27), aI cI (ma 6) 48 (F 17), aI cI (ma 7) 72 (F 18), aI cI (ma 8) 12 (F 19), aI cZ (ma 9) 12 B, aI cI (ma 10) 300 (E 1), aI cI (ma 11) 6 (E 2), aI cI (ma 12) 6 (E 3), aI cI (ma 13) 8 (E 4), aI cI (ma 14) 12 (E 5), aI cZ (ma 15) 12 (E 6), aI cI (ma 16) 2400 (E 7), aJ cJ (ma 17) 2400 L, aI cZ (ma 18) 300 (E 8)] H → va_D jA [oB (ma 0) 10 [.ref (ma 1), .int (nI (N 0)), .int (nI (N 3)), .int (nI (N 1)), .int (nI (M 0)), .ref (ma 2), .ref (ma 3), .ref (ma 4), .ref (ma 5), .ref (ma 6), .ref (ma 7), .ref (ma 8), .ref (ma 9), .ref (ma 10), .ref (ma 11), .ref (ma 12), .ref (ma 13), .int (nI (M 1)), .int (nI (M 2)), .int (nI (M 3)), .int C, .ref (ma 14), .ref (ma 15), .int (nI (M 4)), .int (nI (M 5)), .int (nI (M 6)), .int (nI (M 7)), .int (nI (M 8)), .ref (ma 16), .ref (ma 17), .int (nI (M 9)), .ref (ma 18), .int (nI (M 10))], aI cI (ma 1) 7 rf, aI cI (ma 2) 96 T, aI cI (ma 3) 96 (E 0), aI cI (ma 4) 100 X, aI cI (ma 5) 24 (F 27), aI cI (ma 6) 48 (F 17), aI cI (ma 7) 72 (F 18), aI cI (ma 8) 12 (F 19), aI cZ (ma 9) 12 B, aI cI (ma 10) 300 (E 1), aI cI (ma 11) 6 (E 2), aI cI (ma 12) 6 (E 3), aI cI (ma 13) 8 (E 4), aI cI (ma 14) 12 (E 5), aI cZ (ma 15) 12 (E 6), aI cI (ma 16) 2400 (E 7), aJ cJ (ma 17) 2400 L, aI cZ (ma 18) 300 (E 8)] → va_S jA js.heap H locs → lv_has ls 3 [(0, .ref (ma 0)), (1, .int (nI x)), (2, .int (nI k))] → W jp jl je rCX10_isLeast js jm ja jb jt jc H locs 0 0 jQ (F0 jm 12 ls []) := by
      intro fu
      induction fu with
      | zero =>
        intro k hfu hk hal H locs ls hP hD hS hl
        exact absurd hfu (by omega)
      | succ fu ih12 =>
        intro k hfu hk hal H locs ls hP hD hS hl
        refine lv_iload_n hx hb dX10_isLeast_12 rfl (lv_at hl 2 rfl) ?_
        refine lv_aload_n hx hb dX10_isLeast_13 rfl (lv_at hl 0 rfl) ?_
        refine va_get (C := RX10) (T := TX10) (N := 33) (ci := 10) hx hb hts iX10_isLeast_10 hown hK.1 hP 0 rfl rfl 1 (Nat.le_of_ble_eq_true rfl) (hts _ mX10_isLeast_85) (fun _ h9 => h9) rfl dX10_isLeast_14 ?_
        refine k_cmp_ge (tgt := 51) hx hb dX10_isLeast_17 (by decide) (by omega) (by omega) (fun hkn => ?_) (fun hkn => ?_)
        · skip
          refine lv_iconst (v := nI 1) hx hb dX10_isLeast_51 (by decide) ?_
          exact hret _ _ _ _ _ () dX10_isLeast_52 (by decide) (by unfold lst; rw [hex, show N 0 = k by omega, hal]; rfl) hP hD hS
        · skip
          refine lv_iload_n hx hb dX10_isLeast_20 rfl (lv_at hl 1 rfl) ?_
          refine lv_iload_n hx hb dX10_isLeast_21 rfl (lv_at hl 2 rfl) ?_
          refine k_ishr hx hb dX10_isLeast_22 (by omega) (by omega) ?_
          refine lv_iconst (v := nI 1) hx hb dX10_isLeast_23 (by decide) ?_
          refine k_iand hx hb dX10_isLeast_24 ?_
          refine lv_iconst (v := nI 1) hx hb dX10_isLeast_25 (by decide) ?_
          refine k_cmp_ne (tgt := 45) hx hb dX10_isLeast_26 (by decide) (by exact Nat.lt_of_le_of_lt Nat.and_le_right (by decide)) (by decide) (fun hbit => ?_) (fun hbit => ?_)
          · skip
            have hql : lsq N F x k = true := by unfold lsq; rw [tb_none hbit]; rfl
            refine lv_iinc (v := nI (k + 1)) (lv' := [(2, .int (nI (k + 1))), (0, .ref (ma 0)), (1, .int (nI x))]) hx hb dX10_isLeast_45 hl (k := 2) rfl (nI_add k 1) (by decide) rfl (fun ls hl => ?_)
            refine lv_goto (tgt := 12) hx hb dX10_isLeast_48 (by decide) ?_
            exact ih12 (k + 1) (by omega) (by omega) (by rw [allB, hal, hql]; rfl) _ _ _ hP hD hS (lv_sub hl [1, 2, 0] rfl)
          · skip
            have hp2 := p2_31 (show k < 31 by omega)
            refine lv_aload_n hx hb dX10_isLeast_29 rfl (lv_at hl 0 rfl) ?_
            refine lv_iload_n hx hb dX10_isLeast_30 rfl (lv_at hl 1 rfl) ?_
            refine lv_iconst (v := nI 1) hx hb dX10_isLeast_31 (by decide) ?_
            refine lv_iload_n hx hb dX10_isLeast_32 rfl (lv_at hl 2 rfl) ?_
            refine k_ishl hx hb dX10_isLeast_33 (by omega) (by omega) ?_
            refine lv_iconst (v := (-1)) hx hb dX10_isLeast_34 (by decide) ?_
            rw [nb_m1]
            refine k_ixor hx hb dX10_isLeast_35 ?_
            refine k_iand hx hb dX10_isLeast_36 ?_
            refine k_topI (y := nI (rem_ x k)) rfl ?_
            refine Ki.callV (wr := []) (rest := []) (CX10_explains jl G cI cZ cJ ma N F rf T X B M C E L hLA hMR (rem_ x k) (Nat.lt_of_le_of_lt Nat.and_le_left hx24) hg) cx hP hD hS hl [0, 1, 2, 3, 4, 5, 6, 7, 8, 9, 10, 11, 12, 13, 14, 15, 16, 17, 18] [] (ci := 10) (q0 := 0) gX10_isLeast_X10_explains hdX10_explains rfl rfl rfl ⟨Nat.le_of_ble_eq_true rfl, Nat.le_of_ble_eq_true rfl⟩ rfl rfl (by decide) (by decide) (by decide) dX10_isLeast_37 rfl rfl (Nat.le_of_ble_eq_true rfl) ⟨Nat.le_of_ble_eq_true rfl, Nat.le_of_ble_eq_true rfl⟩ (fun r9 u H locs hw9 hP hD hS => ?_)
            have hP : va_P G vwCl [oB (ma 0) 10 [.ref (ma 1), .int (nI (N 0)), .int (nI (N 3)), .int (nI (N 1)), .int (nI (M 0)), .ref (ma 2), .ref (ma 3), .ref (ma 4), .ref (ma 5), .ref (ma 6), .ref (ma 7), .ref (ma 8), .ref (ma 9), .ref (ma 10), .ref (ma 11), .ref (ma 12), .ref (ma 13), .int (nI (M 1)), .int (nI (M 2)), .int (nI (M 3)), .int C, .ref (ma 14), .ref (ma 15), .int (nI (M 4)), .int (nI (M 5)), .int (nI (M 6)), .int (nI (M 7)), .int (nI (M 8)), .ref (ma 16), .ref (ma 17), .int (nI (M 9)), .ref (ma 18), .int (nI (M 10))], aI cI (ma 1) 7 rf, aI cI (ma 2) 96 T, aI cI (ma 3) 96 (E 0), aI cI (ma 4) 100 X, aI cI (ma 5) 24 (F 27), aI cI (ma 6) 48 (F 17), aI cI (ma 7) 72 (F 18), aI cI (ma 8) 12 (F 19), aI cZ (ma 9) 12 B, aI cI (ma 10) 300 (E 1), aI cI (ma 11) 6 (E 2), aI cI (ma 12) 6 (E 3), aI cI (ma 13) 8 (E 4), aI cI (ma 14) 12 (E 5), aI cZ (ma 15) 12 (E 6), aI cI (ma 16) 2400 (E 7), aJ cJ (ma 17) 2400 L, aI cZ (ma 18) 300 (E 8)] H := hP
            have hD : va_D jA [oB (ma 0) 10 [.ref (ma 1), .int (nI (N 0)), .int (nI (N 3)), .int (nI (N 1)), .int (nI (M 0)), .ref (ma 2), .ref (ma 3), .ref (ma 4), .ref (ma 5), .ref (ma 6), .ref (ma 7), .ref (ma 8), .ref (ma 9), .ref (ma 10), .ref (ma 11), .ref (ma 12), .ref (ma 13), .int (nI (M 1)), .int (nI (M 2)), .int (nI (M 3)), .int C, .ref (ma 14), .ref (ma 15), .int (nI (M 4)), .int (nI (M 5)), .int (nI (M 6)), .int (nI (M 7)), .int (nI (M 8)), .ref (ma 16), .ref (ma 17), .int (nI (M 9)), .ref (ma 18), .int (nI (M 10))], aI cI (ma 1) 7 rf, aI cI (ma 2) 96 T, aI cI (ma 3) 96 (E 0), aI cI (ma 4) 100 X, aI cI (ma 5) 24 (F 27), aI cI (ma 6) 48 (F 17), aI cI (ma 7) 72 (F 18), aI cI (ma 8) 12 (F 19), aI cZ (ma 9) 12 B, aI cI (ma 10) 300 (E 1), aI cI (ma 11) 6 (E 2), aI cI (ma 12) 6 (E 3), aI cI (ma 13) 8 (E 4), aI cI (ma 14) 12 (E 5), aI cZ (ma 15) 12 (E 6), aI cI (ma 16) 2400 (E 7), aJ cJ (ma 17) 2400 L, aI cZ (ma 18) 300 (E 8)] := hD
            rcases Bool.eq_false_or_eq_true (exM N F (rem_ x k)) with hex2 | hex2
            · skip
              rw [hex2] at hw9
              subst hw9
              refine k_if_eq_f (tgt := 45) hx hb dX10_isLeast_40 (by decide) (by decide) ?_
              refine lv_iconst (v := nI 0) hx hb dX10_isLeast_43 (by decide) ?_
              exact hret _ _ _ _ _ () dX10_isLeast_44 (by decide) (by unfold lst; rw [allB_down (show k + 1 ≤ N 0 by omega) (by rw [allB, show lsq N F x k = false by unfold lsq; rw [tb_one hbit, hex2]; rfl, Bool.and_false]), Bool.and_false]; rfl) hP hD hS
            · skip
              rw [hex2] at hw9
              subst hw9
              refine k_if_eq_t (tgt := 45) hx hb dX10_isLeast_40 (by decide) (by decide) ?_
              have hql : lsq N F x k = true := by unfold lsq; rw [hex2, Bool.and_false]; rfl
              refine lv_iinc (v := nI (k + 1)) (lv' := [(2, .int (nI (k + 1))), (0, .ref (ma 0)), (1, .int (nI x))]) hx hb dX10_isLeast_45 hl (k := 2) rfl (nI_add k 1) (by decide) rfl (fun ls hl => ?_)
              refine lv_goto (tgt := 12) hx hb dX10_isLeast_48 (by decide) ?_
              exact ih12 (k + 1) (by omega) (by omega) (by rw [allB, hal, hql]; rfl) _ _ _ hP hD hS (lv_sub hl [1, 2, 0] rfl)
    exact L12 (N 0 + 1) 0 (by omega) (by omega) (rfl) _ _ _ hP hD hS (lv_sub hl [1, 2, 0] rfl)
  · skip
    rw [hex] at hw_2
    subst hw_2
    refine k_if_ne_f (tgt := 10) hx hb dX10_isLeast_5 (by decide) (by decide) ?_
    refine lv_iconst (v := nI 0) hx hb dX10_isLeast_8 (by decide) ?_
    exact hret _ _ _ _ _ () dX10_isLeast_9 (by decide) (by unfold lst; rw [hex]; rfl) hP hD hS

theorem iX10_adds_10 : ∀ w ∈ wsX100, w ∈ wsX10_adds := by decide +kernel
theorem mX10_adds_22 : Cond.fieldLink RX10 22 "LineFinderModel" "priors" "[I" ∈ wsX10_adds := List.mem_of_getElem? (i := 2) rfl
theorem mX10_adds_34 : Cond.fieldLink RX10 34 "LineFinderModel" "isOpen" "[Z" ∈ wsX10_adds := List.mem_of_getElem? (i := 4) rfl
theorem mX10_adds_50 : Cond.fieldLink RX10 50 "LineFinderModel" "meets" "[I" ∈ wsX10_adds := List.mem_of_getElem? (i := 6) rfl
theorem mX10_adds_53 : Cond.fieldLink RX10 53 "LineFinderModel" "isPass" "[Z" ∈ wsX10_adds := List.mem_of_getElem? (i := 5) rfl
theorem mX10_adds_56 : Cond.fieldLink RX10 56 "LineFinderModel" "sets" "[I" ∈ wsX10_adds := List.mem_of_getElem? (i := 8) rfl
theorem mX10_adds_59 : Cond.fieldLink RX10 59 "LineFinderModel" "chances" "[J" ∈ wsX10_adds := List.mem_of_getElem? (i := 10) rfl
theorem mX10_adds_85 : Cond.fieldLink RX10 85 "LineFinderModel" "lines" "I" ∈ wsX10_adds := List.mem_of_getElem? (i := 1) rfl
theorem mX10_adds_100 : Cond.fieldLink RX10 100 "LineFinderModel" "tests" "I" ∈ wsX10_adds := List.mem_of_getElem? (i := 3) rfl
theorem mX10_adds_176 : Cond.fieldLink RX10 176 "LineFinderModel" "setMany" "I" ∈ wsX10_adds := List.mem_of_getElem? (i := 9) rfl
theorem wX10_adds_k174 : Cond.constantLong RX10 174 (2) ∈ wsX10_adds := List.mem_of_getElem? (i := 7) rfl
theorem hdX10_isLeast : yX10_isLeast.cls = RX10 ∧ yX10_isLeast.cls ≠ "java/lang/invoke/MethodHandle" ∧ yX10_isLeast.cls ≠ "java/lang/invoke/VarHandle" ∧ (parseMethodDescriptor yX10_isLeast.desc).map (fun d => d.parameters.length) = some 1 := by decide +kernel
abbrev rCX10_adds : Room := { frames := 2, cells := 0, slots := 0, locals := 45 }
set_option maxHeartbeats 4000000 in
set_option maxRecDepth 100000 in
theorem CX10_adds (jl : Launch) (G : va_G) (cI cZ cJ : ClassId) (ma : Nat → Nat) (N : Nat → Nat) (F : Nat → Fn) (rf T X B : Fn) (M : Nat → Nat) (C : Int32) (E : Nat → Fn) (L : Nat → Int64) (hLA : LA N F) (hMR : MR N F T X B) (x : Nat) (hx24 : x < 2 ^ 24) (hg : GA N F M E) (hsm : M 9 < 2400) : Kv jl yX10_adds wsX10_adds rCX10_adds G cI cZ cJ [.ref (ma 0), .int (nI x)] [oB (ma 0) 10 [.ref (ma 1), .int (nI (N 0)), .int (nI (N 3)), .int (nI (N 1)), .int (nI (M 0)), .ref (ma 2), .ref (ma 3), .ref (ma 4), .ref (ma 5), .ref (ma 6), .ref (ma 7), .ref (ma 8), .ref (ma 9), .ref (ma 10), .ref (ma 11), .ref (ma 12), .ref (ma 13), .int (nI (M 1)), .int (nI (M 2)), .int (nI (M 3)), .int C, .ref (ma 14), .ref (ma 15), .int (nI (M 4)), .int (nI (M 5)), .int (nI (M 6)), .int (nI (M 7)), .int (nI (M 8)), .ref (ma 16), .ref (ma 17), .int (nI (M 9)), .ref (ma 18), .int (nI (M 10))], aI cI (ma 1) 7 rf, aI cI (ma 2) 96 T, aI cI (ma 3) 96 (E 0), aI cI (ma 4) 100 X, aI cI (ma 5) 24 (F 27), aI cI (ma 6) 48 (F 17), aI cI (ma 7) 72 (F 18), aI cI (ma 8) 12 (F 19), aI cZ (ma 9) 12 B, aI cI (ma 10) 300 (E 1), aI cI (ma 11) 6 (E 2), aI cI (ma 12) 6 (E 3), aI cI (ma 13) 8 (E 4), aI cI (ma 14) 12 (E 5), aI cZ (ma 15) 12 (E 6), aI cI (ma 16) 2400 (E 7), aJ cJ (ma 17) 2400 L, aI cZ (ma 18) 300 (E 8)] (S := Fn × (Nat → Int64) × Nat) (fun (u : Fn × (Nat → Int64) × Nat) => match u with | (se1, L1, sm1) => (se1, L1, sm1) = addP N F (E 7) L (M 9) x) (fun (u : Fn × (Nat → Int64) × Nat) => match u with | (se1, L1, sm1) => [oB (ma 0) 10 [.ref (ma 1), .int (nI (N 0)), .int (nI (N 3)), .int (nI (N 1)), .int (nI (M 0)), .ref (ma 2), .ref (ma 3), .ref (ma 4), .ref (ma 5), .ref (ma 6), .ref (ma 7), .ref (ma 8), .ref (ma 9), .ref (ma 10), .ref (ma 11), .ref (ma 12), .ref (ma 13), .int (nI (M 1)), .int (nI (M 2)), .int (nI (M 3)), .int C, .ref (ma 14), .ref (ma 15), .int (nI (M 4)), .int (nI (M 5)), .int (nI (M 6)), .int (nI (M 7)), .int (nI (M 8)), .ref (ma 16), .ref (ma 17), .int (nI sm1), .ref (ma 18), .int (nI (M 10))], aI cI (ma 1) 7 rf, aI cI (ma 2) 96 T, aI cI (ma 3) 96 (E 0), aI cI (ma 4) 100 X, aI cI (ma 5) 24 (F 27), aI cI (ma 6) 48 (F 17), aI cI (ma 7) 72 (F 18), aI cI (ma 8) 12 (F 19), aI cZ (ma 9) 12 B, aI cI (ma 10) 300 (E 1), aI cI (ma 11) 6 (E 2), aI cI (ma 12) 6 (E 3), aI cI (ma 13) 8 (E 4), aI cI (ma 14) 12 (E 5), aI cZ (ma 15) 12 (E 6), aI cI (ma 16) 2400 se1, aJ cJ (ma 17) 2400 L1, aI cZ (ma 18) 300 (E 8)]) := by
  refine Kv.of (cc := cX10_adds) (maxL := 5) (by decide +kernel) rfl (Nat.le_of_ble_eq_true rfl) ?_
  intro jp je js jm ja jb jt jc jA jQ ls cx hnm hP hD hS hl hret
  obtain ⟨hx, hb, hml, hown, hts, hK, hA⟩ := id cx
  have hl : lv_has ls 5 [(0, .ref (ma 0)), (1, .int (nI x))] := hl
  obtain ⟨H, hH⟩ : ∃ H, H = js.heap := ⟨_, rfl⟩
  obtain ⟨locs, hlocs⟩ : ∃ z : List Loc, z = [] := ⟨_, rfl⟩
  have hP : va_P G vwCl [oB (ma 0) 10 [.ref (ma 1), .int (nI (N 0)), .int (nI (N 3)), .int (nI (N 1)), .int (nI (M 0)), .ref (ma 2), .ref (ma 3), .ref (ma 4), .ref (ma 5), .ref (ma 6), .ref (ma 7), .ref (ma 8), .ref (ma 9), .ref (ma 10), .ref (ma 11), .ref (ma 12), .ref (ma 13), .int (nI (M 1)), .int (nI (M 2)), .int (nI (M 3)), .int C, .ref (ma 14), .ref (ma 15), .int (nI (M 4)), .int (nI (M 5)), .int (nI (M 6)), .int (nI (M 7)), .int (nI (M 8)), .ref (ma 16), .ref (ma 17), .int (nI (M 9)), .ref (ma 18), .int (nI (M 10))], aI cI (ma 1) 7 rf, aI cI (ma 2) 96 T, aI cI (ma 3) 96 (E 0), aI cI (ma 4) 100 X, aI cI (ma 5) 24 (F 27), aI cI (ma 6) 48 (F 17), aI cI (ma 7) 72 (F 18), aI cI (ma 8) 12 (F 19), aI cZ (ma 9) 12 B, aI cI (ma 10) 300 (E 1), aI cI (ma 11) 6 (E 2), aI cI (ma 12) 6 (E 3), aI cI (ma 13) 8 (E 4), aI cI (ma 14) 12 (E 5), aI cZ (ma 15) 12 (E 6), aI cI (ma 16) 2400 (E 7), aJ cJ (ma 17) 2400 L, aI cZ (ma 18) 300 (E 8)] H := by rw [hH]; exact hP
  have hS : va_S jA js.heap H locs := by rw [hH, hlocs]; exact hS
  rw [← hlocs]; rw [show W jp jl je rCX10_adds js jm ja jb jt jc js.heap locs 0 0 jQ (F0 jm 0 ls []) = W jp jl je rCX10_adds js jm ja jb jt jc H locs 0 0 jQ (F0 jm 0 ls []) by rw [hH]]
  clear hH hlocs
  obtain ⟨hn24, hc20, hnt12, hob2, hokT, hokN, hokC, hver, hlen7, hpri⟩ := id hLA
  refine lv_aload_n hx hb dX10_adds_0 rfl (lv_at hl 0 rfl) ?_
  refine lv_iload_n hx hb dX10_adds_1 rfl (lv_at hl 1 rfl) ?_
  refine Ki.callV (wr := []) (rest := []) (CX10_isLeast jl G cI cZ cJ ma N F rf T X B M C E L hLA hMR x hx24 hg) cx hP hD hS hl [0, 1, 2, 3, 4, 5, 6, 7, 8, 9, 10, 11, 12, 13, 14, 15, 16, 17, 18] [] (ci := 10) (q0 := 0) gX10_adds_X10_isLeast hdX10_isLeast rfl rfl rfl ⟨Nat.le_of_ble_eq_true rfl, Nat.le_of_ble_eq_true rfl⟩ rfl rfl (by decide) (by decide) (by decide) dX10_adds_2 rfl rfl (Nat.le_of_ble_eq_true rfl) ⟨Nat.le_of_ble_eq_true rfl, Nat.le_of_ble_eq_true rfl⟩ (fun r_1 u H locs hw_2 hP hD hS => ?_)
  have hP : va_P G vwCl [oB (ma 0) 10 [.ref (ma 1), .int (nI (N 0)), .int (nI (N 3)), .int (nI (N 1)), .int (nI (M 0)), .ref (ma 2), .ref (ma 3), .ref (ma 4), .ref (ma 5), .ref (ma 6), .ref (ma 7), .ref (ma 8), .ref (ma 9), .ref (ma 10), .ref (ma 11), .ref (ma 12), .ref (ma 13), .int (nI (M 1)), .int (nI (M 2)), .int (nI (M 3)), .int C, .ref (ma 14), .ref (ma 15), .int (nI (M 4)), .int (nI (M 5)), .int (nI (M 6)), .int (nI (M 7)), .int (nI (M 8)), .ref (ma 16), .ref (ma 17), .int (nI (M 9)), .ref (ma 18), .int (nI (M 10))], aI cI (ma 1) 7 rf, aI cI (ma 2) 96 T, aI cI (ma 3) 96 (E 0), aI cI (ma 4) 100 X, aI cI (ma 5) 24 (F 27), aI cI (ma 6) 48 (F 17), aI cI (ma 7) 72 (F 18), aI cI (ma 8) 12 (F 19), aI cZ (ma 9) 12 B, aI cI (ma 10) 300 (E 1), aI cI (ma 11) 6 (E 2), aI cI (ma 12) 6 (E 3), aI cI (ma 13) 8 (E 4), aI cI (ma 14) 12 (E 5), aI cZ (ma 15) 12 (E 6), aI cI (ma 16) 2400 (E 7), aJ cJ (ma 17) 2400 L, aI cZ (ma 18) 300 (E 8)] H := hP
  have hD : va_D jA [oB (ma 0) 10 [.ref (ma 1), .int (nI (N 0)), .int (nI (N 3)), .int (nI (N 1)), .int (nI (M 0)), .ref (ma 2), .ref (ma 3), .ref (ma 4), .ref (ma 5), .ref (ma 6), .ref (ma 7), .ref (ma 8), .ref (ma 9), .ref (ma 10), .ref (ma 11), .ref (ma 12), .ref (ma 13), .int (nI (M 1)), .int (nI (M 2)), .int (nI (M 3)), .int C, .ref (ma 14), .ref (ma 15), .int (nI (M 4)), .int (nI (M 5)), .int (nI (M 6)), .int (nI (M 7)), .int (nI (M 8)), .ref (ma 16), .ref (ma 17), .int (nI (M 9)), .ref (ma 18), .int (nI (M 10))], aI cI (ma 1) 7 rf, aI cI (ma 2) 96 T, aI cI (ma 3) 96 (E 0), aI cI (ma 4) 100 X, aI cI (ma 5) 24 (F 27), aI cI (ma 6) 48 (F 17), aI cI (ma 7) 72 (F 18), aI cI (ma 8) 12 (F 19), aI cZ (ma 9) 12 B, aI cI (ma 10) 300 (E 1), aI cI (ma 11) 6 (E 2), aI cI (ma 12) 6 (E 3), aI cI (ma 13) 8 (E 4), aI cI (ma 14) 12 (E 5), aI cZ (ma 15) 12 (E 6), aI cI (ma 16) 2400 (E 7), aJ cJ (ma 17) 2400 L, aI cZ (ma 18) 300 (E 8)] := hD
  rcases Bool.eq_false_or_eq_true (lst N F x) with hls | hls
  · skip
    rw [hls] at hw_2
    subst hw_2
    refine k_if_ne_t (tgt := 9) hx hb dX10_adds_5 (by decide) (by decide) ?_
    refine lv_lconst (v := 1) hx hb dX10_adds_9 (by decide) ?_
    refine lv_lstore_n (lv' := [(2, .long 1), (0, .ref (ma 0)), (1, .int (nI x))]) hx hb dX10_adds_10 rfl hl (by decide) rfl (fun ls hl => ?_)
    refine lv_iconst (v := nI 0) hx hb dX10_adds_11 (by decide) ?_
    refine lv_istore (lv' := [(4, .int (nI 0)), (2, .long 1), (0, .ref (ma 0)), (1, .int (nI x))]) hx hb dX10_adds_12 hl (by decide) rfl (fun ls hl => ?_)
    have L14 : ∀ (fu : Nat), ∀ (l : Nat), ∀ (v : Int64), (12 < l + fu) → (l ≤ N 0) → (l ≤ 12) → (v = wgt (F 27) x l) → ∀ (H : Heap) (locs : List Loc) (ls : Array Slot), va_P G vwCl [oB (ma 0) 10 [.ref (ma 1), .int (nI (N 0)), .int (nI (N 3)), .int (nI (N 1)), .int (nI (M 0)), .ref (ma 2), .ref (ma 3), .ref (ma 4), .ref (ma 5), .ref (ma 6), .ref (ma 7), .ref (ma 8), .ref (ma 9), .ref (ma 10), .ref (ma 11), .ref (ma 12), .ref (ma 13), .int (nI (M 1)), .int (nI (M 2)), .int (nI (M 3)), .int C, .ref (ma 14), .ref (ma 15), .int (nI (M 4)), .int (nI (M 5)), .int (nI (M 6)), .int (nI (M 7)), .int (nI (M 8)), .ref (ma 16), .ref (ma 17), .int (nI (M 9)), .ref (ma 18), .int (nI (M 10))], aI cI (ma 1) 7 rf, aI cI (ma 2) 96 T, aI cI (ma 3) 96 (E 0), aI cI (ma 4) 100 X, aI cI (ma 5) 24 (F 27), aI cI (ma 6) 48 (F 17), aI cI (ma 7) 72 (F 18), aI cI (ma 8) 12 (F 19), aI cZ (ma 9) 12 B, aI cI (ma 10) 300 (E 1), aI cI (ma 11) 6 (E 2), aI cI (ma 12) 6 (E 3), aI cI (ma 13) 8 (E 4), aI cI (ma 14) 12 (E 5), aI cZ (ma 15) 12 (E 6), aI cI (ma 16) 2400 (E 7), aJ cJ (ma 17) 2400 L, aI cZ (ma 18) 300 (E 8)] H → va_D jA [oB (ma 0) 10 [.ref (ma 1), .int (nI (N 0)), .int (nI (N 3)), .int (nI (N 1)), .int (nI (M 0)), .ref (ma 2), .ref (ma 3), .ref (ma 4), .ref (ma 5), .ref (ma 6), .ref (ma 7), .ref (ma 8), .ref (ma 9), .ref (ma 10), .ref (ma 11), .ref (ma 12), .ref (ma 13), .int (nI (M 1)), .int (nI (M 2)), .int (nI (M 3)), .int C, .ref (ma 14), .ref (ma 15), .int (nI (M 4)), .int (nI (M 5)), .int (nI (M 6)), .int (nI (M 7)), .int (nI (M 8)), .ref (ma 16), .ref (ma 17), .int (nI (M 9)), .ref (ma 18), .int (nI (M 10))], aI cI (ma 1) 7 rf, aI cI (ma 2) 96 T, aI cI (ma 3) 96 (E 0), aI cI (ma 4) 100 X, aI cI (ma 5) 24 (F 27), aI cI (ma 6) 48 (F 17), aI cI (ma 7) 72 (F 18), aI cI (ma 8) 12 (F 19), aI cZ (ma 9) 12 B, aI cI (ma 10) 300 (E 1), aI cI (ma 11) 6 (E 2), aI cI (ma 12) 6 (E 3), aI cI (ma 13) 8 (E 4), aI cI (ma 14) 12 (E 5), aI cZ (ma 15) 12 (E 6), aI cI (ma 16) 2400 (E 7), aJ cJ (ma 17) 2400 L, aI cZ (ma 18) 300 (E 8)] → va_S jA js.heap H locs → lv_has ls 5 [(0, .ref (ma 0)), (1, .int (nI x)), (2, .long v), (4, .int (nI l))] → W jp jl je rCX10_adds js jm ja jb jt jc H locs 0 0 jQ (F0 jm 14 ls []) := by
      intro fu
      induction fu with
      | zero =>
        intro l v hfu hl1 hl2 hv H locs ls hP hD hS hl
        exact absurd hfu (by omega)
      | succ fu ih14 =>
        intro l v hfu hl1 hl2 hv H locs ls hP hD hS hl
        refine lv_iload hx hb dX10_adds_14 (lv_at hl 3 rfl) ?_
        refine lv_aload_n hx hb dX10_adds_16 rfl (lv_at hl 0 rfl) ?_
        refine va_get (C := RX10) (T := TX10) (N := 33) (ci := 10) hx hb hts iX10_adds_10 hown hK.1 hP 0 rfl rfl 1 (Nat.le_of_ble_eq_true rfl) (hts _ mX10_adds_85) (fun _ h9 => h9) rfl dX10_adds_17 ?_
        refine k_cmp_ge (tgt := 71) hx hb dX10_adds_20 (by decide) (by omega) (by omega) (fun hln => ?_) (fun hln => ?_)
        · skip
          have hle : l = min (N 0) 12 := by omega
          rw [hle] at hv
          refine lv_iconst (v := nI 0) hx hb dX10_adds_71 (by decide) ?_
          refine lv_istore (lv' := [(4, .int (nI 0)), (0, .ref (ma 0)), (1, .int (nI x)), (2, .long v)]) hx hb dX10_adds_72 hl (by decide) rfl (fun ls hl => ?_)
          have L74 : ∀ (fu : Nat), ∀ (t : Nat), ∀ (v2 : Int64), (N 3 < t + fu) → (t ≤ N 3) → (v2 = w2 (wgt (F 27) x (min (N 0) 12)) (ct (pz N F x) t)) → ∀ (H : Heap) (locs : List Loc) (ls : Array Slot), va_P G vwCl [oB (ma 0) 10 [.ref (ma 1), .int (nI (N 0)), .int (nI (N 3)), .int (nI (N 1)), .int (nI (M 0)), .ref (ma 2), .ref (ma 3), .ref (ma 4), .ref (ma 5), .ref (ma 6), .ref (ma 7), .ref (ma 8), .ref (ma 9), .ref (ma 10), .ref (ma 11), .ref (ma 12), .ref (ma 13), .int (nI (M 1)), .int (nI (M 2)), .int (nI (M 3)), .int C, .ref (ma 14), .ref (ma 15), .int (nI (M 4)), .int (nI (M 5)), .int (nI (M 6)), .int (nI (M 7)), .int (nI (M 8)), .ref (ma 16), .ref (ma 17), .int (nI (M 9)), .ref (ma 18), .int (nI (M 10))], aI cI (ma 1) 7 rf, aI cI (ma 2) 96 T, aI cI (ma 3) 96 (E 0), aI cI (ma 4) 100 X, aI cI (ma 5) 24 (F 27), aI cI (ma 6) 48 (F 17), aI cI (ma 7) 72 (F 18), aI cI (ma 8) 12 (F 19), aI cZ (ma 9) 12 B, aI cI (ma 10) 300 (E 1), aI cI (ma 11) 6 (E 2), aI cI (ma 12) 6 (E 3), aI cI (ma 13) 8 (E 4), aI cI (ma 14) 12 (E 5), aI cZ (ma 15) 12 (E 6), aI cI (ma 16) 2400 (E 7), aJ cJ (ma 17) 2400 L, aI cZ (ma 18) 300 (E 8)] H → va_D jA [oB (ma 0) 10 [.ref (ma 1), .int (nI (N 0)), .int (nI (N 3)), .int (nI (N 1)), .int (nI (M 0)), .ref (ma 2), .ref (ma 3), .ref (ma 4), .ref (ma 5), .ref (ma 6), .ref (ma 7), .ref (ma 8), .ref (ma 9), .ref (ma 10), .ref (ma 11), .ref (ma 12), .ref (ma 13), .int (nI (M 1)), .int (nI (M 2)), .int (nI (M 3)), .int C, .ref (ma 14), .ref (ma 15), .int (nI (M 4)), .int (nI (M 5)), .int (nI (M 6)), .int (nI (M 7)), .int (nI (M 8)), .ref (ma 16), .ref (ma 17), .int (nI (M 9)), .ref (ma 18), .int (nI (M 10))], aI cI (ma 1) 7 rf, aI cI (ma 2) 96 T, aI cI (ma 3) 96 (E 0), aI cI (ma 4) 100 X, aI cI (ma 5) 24 (F 27), aI cI (ma 6) 48 (F 17), aI cI (ma 7) 72 (F 18), aI cI (ma 8) 12 (F 19), aI cZ (ma 9) 12 B, aI cI (ma 10) 300 (E 1), aI cI (ma 11) 6 (E 2), aI cI (ma 12) 6 (E 3), aI cI (ma 13) 8 (E 4), aI cI (ma 14) 12 (E 5), aI cZ (ma 15) 12 (E 6), aI cI (ma 16) 2400 (E 7), aJ cJ (ma 17) 2400 L, aI cZ (ma 18) 300 (E 8)] → va_S jA js.heap H locs → lv_has ls 5 [(0, .ref (ma 0)), (1, .int (nI x)), (2, .long v2), (4, .int (nI t))] → W jp jl je rCX10_adds js jm ja jb jt jc H locs 0 0 jQ (F0 jm 74 ls []) := by
            intro fu
            induction fu with
            | zero =>
              intro t v2 hfu hT hv2 H locs ls hP hD hS hl
              exact absurd hfu (by omega)
            | succ fu ih74 =>
              intro t v2 hfu hT hv2 H locs ls hP hD hS hl
              refine lv_iload hx hb dX10_adds_74 (lv_at hl 3 rfl) ?_
              refine lv_aload_n hx hb dX10_adds_76 rfl (lv_at hl 0 rfl) ?_
              refine va_get (C := RX10) (T := TX10) (N := 33) (ci := 10) hx hb hts iX10_adds_10 hown hK.1 hP 0 rfl rfl 2 (Nat.le_of_ble_eq_true rfl) (hts _ mX10_adds_100) (fun _ h9 => h9) rfl dX10_adds_77 ?_
              refine k_cmp_ge (tgt := 127) hx hb dX10_adds_80 (by decide) (by omega) (by omega) (fun ht => ?_) (fun ht => ?_)
              · skip
                refine lv_aload_n hx hb dX10_adds_127 rfl (lv_at hl 0 rfl) ?_
                refine va_get (C := RX10) (T := TX10) (N := 33) (ci := 10) hx hb hts iX10_adds_10 hown hK.1 hP 0 rfl rfl 28 (Nat.le_of_ble_eq_true rfl) (hts _ mX10_adds_56) (fun _ h9 => h9) rfl dX10_adds_128 ?_
                refine lv_aload_n hx hb dX10_adds_131 rfl (lv_at hl 0 rfl) ?_
                refine va_get (C := RX10) (T := TX10) (N := 33) (ci := 10) hx hb hts iX10_adds_10 hown hK.1 hP 0 rfl rfl 30 (Nat.le_of_ble_eq_true rfl) (hts _ mX10_adds_176) (fun _ h9 => h9) rfl dX10_adds_132 ?_
                refine lv_iload_n hx hb dX10_adds_135 rfl (lv_at hl 1 rfl) ?_
                refine k_iast hx hb hK.1 hP hD hS 16 0 rfl rfl (by omega) (by decide) dX10_adds_136 (fun H locs hP hD hS => ?_)
                have hP : va_P G vwCl [oB (ma 0) 10 [.ref (ma 1), .int (nI (N 0)), .int (nI (N 3)), .int (nI (N 1)), .int (nI (M 0)), .ref (ma 2), .ref (ma 3), .ref (ma 4), .ref (ma 5), .ref (ma 6), .ref (ma 7), .ref (ma 8), .ref (ma 9), .ref (ma 10), .ref (ma 11), .ref (ma 12), .ref (ma 13), .int (nI (M 1)), .int (nI (M 2)), .int (nI (M 3)), .int C, .ref (ma 14), .ref (ma 15), .int (nI (M 4)), .int (nI (M 5)), .int (nI (M 6)), .int (nI (M 7)), .int (nI (M 8)), .ref (ma 16), .ref (ma 17), .int (nI (M 9)), .ref (ma 18), .int (nI (M 10))], aI cI (ma 1) 7 rf, aI cI (ma 2) 96 T, aI cI (ma 3) 96 (E 0), aI cI (ma 4) 100 X, aI cI (ma 5) 24 (F 27), aI cI (ma 6) 48 (F 17), aI cI (ma 7) 72 (F 18), aI cI (ma 8) 12 (F 19), aI cZ (ma 9) 12 B, aI cI (ma 10) 300 (E 1), aI cI (ma 11) 6 (E 2), aI cI (ma 12) 6 (E 3), aI cI (ma 13) 8 (E 4), aI cI (ma 14) 12 (E 5), aI cZ (ma 15) 12 (E 6), aI cI (ma 16) 2400 (upd (E 7) (M 9) (nI x)), aJ cJ (ma 17) 2400 L, aI cZ (ma 18) 300 (E 8)] H := hP
                have hD : va_D jA [oB (ma 0) 10 [.ref (ma 1), .int (nI (N 0)), .int (nI (N 3)), .int (nI (N 1)), .int (nI (M 0)), .ref (ma 2), .ref (ma 3), .ref (ma 4), .ref (ma 5), .ref (ma 6), .ref (ma 7), .ref (ma 8), .ref (ma 9), .ref (ma 10), .ref (ma 11), .ref (ma 12), .ref (ma 13), .int (nI (M 1)), .int (nI (M 2)), .int (nI (M 3)), .int C, .ref (ma 14), .ref (ma 15), .int (nI (M 4)), .int (nI (M 5)), .int (nI (M 6)), .int (nI (M 7)), .int (nI (M 8)), .ref (ma 16), .ref (ma 17), .int (nI (M 9)), .ref (ma 18), .int (nI (M 10))], aI cI (ma 1) 7 rf, aI cI (ma 2) 96 T, aI cI (ma 3) 96 (E 0), aI cI (ma 4) 100 X, aI cI (ma 5) 24 (F 27), aI cI (ma 6) 48 (F 17), aI cI (ma 7) 72 (F 18), aI cI (ma 8) 12 (F 19), aI cZ (ma 9) 12 B, aI cI (ma 10) 300 (E 1), aI cI (ma 11) 6 (E 2), aI cI (ma 12) 6 (E 3), aI cI (ma 13) 8 (E 4), aI cI (ma 14) 12 (E 5), aI cZ (ma 15) 12 (E 6), aI cI (ma 16) 2400 (upd (E 7) (M 9) (nI x)), aJ cJ (ma 17) 2400 L, aI cZ (ma 18) 300 (E 8)] := hD
                refine lv_aload_n hx hb dX10_adds_137 rfl (lv_at hl 0 rfl) ?_
                refine va_get (C := RX10) (T := TX10) (N := 33) (ci := 10) hx hb hts iX10_adds_10 hown hK.1 hP 0 rfl rfl 29 (Nat.le_of_ble_eq_true rfl) (hts _ mX10_adds_59) (fun _ h9 => h9) rfl dX10_adds_138 ?_
                refine lv_aload_n hx hb dX10_adds_141 rfl (lv_at hl 0 rfl) ?_
                refine va_get (C := RX10) (T := TX10) (N := 33) (ci := 10) hx hb hts iX10_adds_10 hown hK.1 hP 0 rfl rfl 30 (Nat.le_of_ble_eq_true rfl) (hts _ mX10_adds_176) (fun _ h9 => h9) rfl dX10_adds_142 ?_
                refine lv_lload_n hx hb dX10_adds_145 rfl (lv_at hl 2 rfl) ?_
                refine k_last hx hb hK.1 hP hD hS 17 2 rfl rfl (by omega) (by decide) dX10_adds_146 (fun H locs hP hD hS => ?_)
                have hP : va_P G vwCl [oB (ma 0) 10 [.ref (ma 1), .int (nI (N 0)), .int (nI (N 3)), .int (nI (N 1)), .int (nI (M 0)), .ref (ma 2), .ref (ma 3), .ref (ma 4), .ref (ma 5), .ref (ma 6), .ref (ma 7), .ref (ma 8), .ref (ma 9), .ref (ma 10), .ref (ma 11), .ref (ma 12), .ref (ma 13), .int (nI (M 1)), .int (nI (M 2)), .int (nI (M 3)), .int C, .ref (ma 14), .ref (ma 15), .int (nI (M 4)), .int (nI (M 5)), .int (nI (M 6)), .int (nI (M 7)), .int (nI (M 8)), .ref (ma 16), .ref (ma 17), .int (nI (M 9)), .ref (ma 18), .int (nI (M 10))], aI cI (ma 1) 7 rf, aI cI (ma 2) 96 T, aI cI (ma 3) 96 (E 0), aI cI (ma 4) 100 X, aI cI (ma 5) 24 (F 27), aI cI (ma 6) 48 (F 17), aI cI (ma 7) 72 (F 18), aI cI (ma 8) 12 (F 19), aI cZ (ma 9) 12 B, aI cI (ma 10) 300 (E 1), aI cI (ma 11) 6 (E 2), aI cI (ma 12) 6 (E 3), aI cI (ma 13) 8 (E 4), aI cI (ma 14) 12 (E 5), aI cZ (ma 15) 12 (E 6), aI cI (ma 16) 2400 (upd (E 7) (M 9) (nI x)), aJ cJ (ma 17) 2400 (vp_updL L (M 9) v2), aI cZ (ma 18) 300 (E 8)] H := hP
                have hD : va_D jA [oB (ma 0) 10 [.ref (ma 1), .int (nI (N 0)), .int (nI (N 3)), .int (nI (N 1)), .int (nI (M 0)), .ref (ma 2), .ref (ma 3), .ref (ma 4), .ref (ma 5), .ref (ma 6), .ref (ma 7), .ref (ma 8), .ref (ma 9), .ref (ma 10), .ref (ma 11), .ref (ma 12), .ref (ma 13), .int (nI (M 1)), .int (nI (M 2)), .int (nI (M 3)), .int C, .ref (ma 14), .ref (ma 15), .int (nI (M 4)), .int (nI (M 5)), .int (nI (M 6)), .int (nI (M 7)), .int (nI (M 8)), .ref (ma 16), .ref (ma 17), .int (nI (M 9)), .ref (ma 18), .int (nI (M 10))], aI cI (ma 1) 7 rf, aI cI (ma 2) 96 T, aI cI (ma 3) 96 (E 0), aI cI (ma 4) 100 X, aI cI (ma 5) 24 (F 27), aI cI (ma 6) 48 (F 17), aI cI (ma 7) 72 (F 18), aI cI (ma 8) 12 (F 19), aI cZ (ma 9) 12 B, aI cI (ma 10) 300 (E 1), aI cI (ma 11) 6 (E 2), aI cI (ma 12) 6 (E 3), aI cI (ma 13) 8 (E 4), aI cI (ma 14) 12 (E 5), aI cZ (ma 15) 12 (E 6), aI cI (ma 16) 2400 (upd (E 7) (M 9) (nI x)), aJ cJ (ma 17) 2400 (vp_updL L (M 9) v2), aI cZ (ma 18) 300 (E 8)] := hD
                refine lv_aload_n hx hb dX10_adds_147 rfl (lv_at hl 0 rfl) ?_
                refine lv_dup hx hb dX10_adds_148 rfl ?_
                refine va_get (C := RX10) (T := TX10) (N := 33) (ci := 10) hx hb hts iX10_adds_10 hown hK.1 hP 0 rfl rfl 30 (Nat.le_of_ble_eq_true rfl) (hts _ mX10_adds_176) (fun _ h9 => h9) rfl dX10_adds_149 ?_
                refine lv_iconst (v := nI 1) hx hb dX10_adds_152 (by decide) ?_
                refine k_iadd hx hb dX10_adds_153 ?_
                refine va_put (C := RX10) (T := TX10) (N := 33) (ci := 10) (v := .int (nI ((M 9) + 1))) (ty := tyX10 30) hx hb hts iX10_adds_10 tyX10 tyX10_ok nmX10 hown hK.1 hP hD hS 0 rfl rfl 30 (Nat.le_of_ble_eq_true rfl) (hts _ mX10_adds_176) (fun _ h9 => h9) rfl (tyX10_ok 30 (Nat.le_of_ble_eq_true rfl)) (rfl) (rfl) (Nat.le_of_ble_eq_true rfl) dX10_adds_154 (fun H locs hP hD hS => ?_)
                have hP : va_P G vwCl [oB (ma 0) 10 [.ref (ma 1), .int (nI (N 0)), .int (nI (N 3)), .int (nI (N 1)), .int (nI (M 0)), .ref (ma 2), .ref (ma 3), .ref (ma 4), .ref (ma 5), .ref (ma 6), .ref (ma 7), .ref (ma 8), .ref (ma 9), .ref (ma 10), .ref (ma 11), .ref (ma 12), .ref (ma 13), .int (nI (M 1)), .int (nI (M 2)), .int (nI (M 3)), .int C, .ref (ma 14), .ref (ma 15), .int (nI (M 4)), .int (nI (M 5)), .int (nI (M 6)), .int (nI (M 7)), .int (nI (M 8)), .ref (ma 16), .ref (ma 17), .int (nI ((M 9) + 1)), .ref (ma 18), .int (nI (M 10))], aI cI (ma 1) 7 rf, aI cI (ma 2) 96 T, aI cI (ma 3) 96 (E 0), aI cI (ma 4) 100 X, aI cI (ma 5) 24 (F 27), aI cI (ma 6) 48 (F 17), aI cI (ma 7) 72 (F 18), aI cI (ma 8) 12 (F 19), aI cZ (ma 9) 12 B, aI cI (ma 10) 300 (E 1), aI cI (ma 11) 6 (E 2), aI cI (ma 12) 6 (E 3), aI cI (ma 13) 8 (E 4), aI cI (ma 14) 12 (E 5), aI cZ (ma 15) 12 (E 6), aI cI (ma 16) 2400 (upd (E 7) (M 9) (nI x)), aJ cJ (ma 17) 2400 (vp_updL L (M 9) v2), aI cZ (ma 18) 300 (E 8)] H := hP
                have hD : va_D jA [oB (ma 0) 10 [.ref (ma 1), .int (nI (N 0)), .int (nI (N 3)), .int (nI (N 1)), .int (nI (M 0)), .ref (ma 2), .ref (ma 3), .ref (ma 4), .ref (ma 5), .ref (ma 6), .ref (ma 7), .ref (ma 8), .ref (ma 9), .ref (ma 10), .ref (ma 11), .ref (ma 12), .ref (ma 13), .int (nI (M 1)), .int (nI (M 2)), .int (nI (M 3)), .int C, .ref (ma 14), .ref (ma 15), .int (nI (M 4)), .int (nI (M 5)), .int (nI (M 6)), .int (nI (M 7)), .int (nI (M 8)), .ref (ma 16), .ref (ma 17), .int (nI ((M 9) + 1)), .ref (ma 18), .int (nI (M 10))], aI cI (ma 1) 7 rf, aI cI (ma 2) 96 T, aI cI (ma 3) 96 (E 0), aI cI (ma 4) 100 X, aI cI (ma 5) 24 (F 27), aI cI (ma 6) 48 (F 17), aI cI (ma 7) 72 (F 18), aI cI (ma 8) 12 (F 19), aI cZ (ma 9) 12 B, aI cI (ma 10) 300 (E 1), aI cI (ma 11) 6 (E 2), aI cI (ma 12) 6 (E 3), aI cI (ma 13) 8 (E 4), aI cI (ma 14) 12 (E 5), aI cZ (ma 15) 12 (E 6), aI cI (ma 16) 2400 (upd (E 7) (M 9) (nI x)), aJ cJ (ma 17) 2400 (vp_updL L (M 9) v2), aI cZ (ma 18) 300 (E 8)] := hD
                exact hret _ _ _ _ (upd (E 7) (M 9) (nI x), vp_updL L (M 9) v2, (M 9) + 1) dX10_adds_157 (by unfold addP; rw [if_pos hls, hv2, show t = N 3 by omega]; rfl) hP hD hS
              · skip
                have hop := hMR.2.2 t (by omega)
                have hmt := hg.2.2.2 t ht
                refine lv_aload_n hx hb dX10_adds_83 rfl (lv_at hl 0 rfl) ?_
                refine va_get (C := RX10) (T := TX10) (N := 33) (ci := 10) hx hb hts iX10_adds_10 hown hK.1 hP 0 rfl rfl 12 (Nat.le_of_ble_eq_true rfl) (hts _ mX10_adds_34) (fun _ h9 => h9) rfl dX10_adds_84 ?_
                refine lv_iload hx hb dX10_adds_87 (lv_at hl 3 rfl) ?_
                refine k_zald hx hb hK.1 hP 9 1 rfl rfl (by omega) (by decide) dX10_adds_89 ?_
                rcases Bool.eq_false_or_eq_true ((N 2).testBit t) with ho | ho
                · skip
                  refine k_topN (j := 1) (by rw [hop, ho]; rfl) ?_
                  have hqz : pz N F x t = false := by unfold pz pP; rw [ho, Bool.not_true, Bool.false_and, Bool.false_and]
                  refine k_if_ne_t (tgt := 121) hx hb dX10_adds_90 (by decide) (by decide) ?_
                  refine lv_iinc (v := nI (t + 1)) (lv' := [(4, .int (nI (t + 1))), (0, .ref (ma 0)), (1, .int (nI x)), (2, .long v2)]) hx hb dX10_adds_121 hl (k := 3) rfl (nI_add t 1) (by decide) rfl (fun ls hl => ?_)
                  refine lv_goto (tgt := 74) hx hb dX10_adds_124 (by decide) ?_
                  exact ih74 (t + 1) v2 (by omega) (by omega) (by rw [ct_n hqz, hv2]) _ _ _ hP hD hS (lv_sub hl [1, 2, 3, 0] rfl)
                · skip
                  refine k_topN (j := 0) (by rw [hop, ho]; rfl) ?_
                  refine k_if_ne_f (tgt := 121) hx hb dX10_adds_90 (by decide) (by decide) ?_
                  refine lv_aload_n hx hb dX10_adds_93 rfl (lv_at hl 0 rfl) ?_
                  refine va_get (C := RX10) (T := TX10) (N := 33) (ci := 10) hx hb hts iX10_adds_10 hown hK.1 hP 0 rfl rfl 22 (Nat.le_of_ble_eq_true rfl) (hts _ mX10_adds_53) (fun _ h9 => h9) rfl dX10_adds_94 ?_
                  refine lv_iload hx hb dX10_adds_97 (lv_at hl 3 rfl) ?_
                  refine k_zald hx hb hK.1 hP 15 1 rfl rfl (by omega) (by decide) dX10_adds_99 ?_
                  rcases Bool.eq_false_or_eq_true (PAS N F t (RUNP N F t)) with hps | hps
                  · skip
                    refine k_topN (j := 1) (by rw [hmt.2, hps]; rfl) ?_
                    refine k_if_eq_f (tgt := 121) hx hb dX10_adds_100 (by decide) (by decide) ?_
                    refine lv_aload_n hx hb dX10_adds_103 rfl (lv_at hl 0 rfl) ?_
                    refine va_get (C := RX10) (T := TX10) (N := 33) (ci := 10) hx hb hts iX10_adds_10 hown hK.1 hP 0 rfl rfl 21 (Nat.le_of_ble_eq_true rfl) (hts _ mX10_adds_50) (fun _ h9 => h9) rfl dX10_adds_104 ?_
                    refine lv_iload hx hb dX10_adds_107 (lv_at hl 3 rfl) ?_
                    refine k_iald hx hb hK.1 hP 14 0 rfl rfl (by omega) (by decide) dX10_adds_109 ?_
                    refine k_topN hmt.1 ?_
                    refine lv_iload_n hx hb dX10_adds_110 rfl (lv_at hl 1 rfl) ?_
                    refine k_iand hx hb dX10_adds_111 ?_
                    refine k_if_ne (tgt := 121) hx hb dX10_adds_112 (by decide) (by exact Nat.lt_of_le_of_lt Nat.and_le_right (by omega)) (fun hz => ?_) (fun hz => ?_)
                    · skip
                      have hqz : pz N F x t = false := by unfold pz pP; rw [decide_eq_false (by omega), Bool.and_false]
                      refine lv_iinc (v := nI (t + 1)) (lv' := [(4, .int (nI (t + 1))), (0, .ref (ma 0)), (1, .int (nI x)), (2, .long v2)]) hx hb dX10_adds_121 hl (k := 3) rfl (nI_add t 1) (by decide) rfl (fun ls hl => ?_)
                      refine lv_goto (tgt := 74) hx hb dX10_adds_124 (by decide) ?_
                      exact ih74 (t + 1) v2 (by omega) (by omega) (by rw [ct_n hqz, hv2]) _ _ _ hP hD hS (lv_sub hl [1, 2, 3, 0] rfl)
                    · skip
                      have hqz : pz N F x t = true := by unfold pz pP; rw [ho, hps, decide_eq_true hz]; rfl
                      refine lv_lload_n hx hb dX10_adds_115 rfl (lv_at hl 2 rfl) ?_
                      refine lv_ldc2 (own := RX10) (v := 2) hx hb hown (hts _ wX10_adds_k174) dX10_adds_116 ?_
                      refine lv_lmul hx hb dX10_adds_119 ?_
                      refine lv_lstore_n (lv' := [(2, .long (v2 * 2)), (0, .ref (ma 0)), (1, .int (nI x)), (4, .int (nI t))]) hx hb dX10_adds_120 rfl hl (by decide) rfl (fun ls hl => ?_)
                      refine lv_iinc (v := nI (t + 1)) (lv' := [(4, .int (nI (t + 1))), (2, .long (v2 * 2)), (0, .ref (ma 0)), (1, .int (nI x))]) hx hb dX10_adds_121 hl (k := 3) rfl (nI_add t 1) (by decide) rfl (fun ls hl => ?_)
                      refine lv_goto (tgt := 74) hx hb dX10_adds_124 (by decide) ?_
                      exact ih74 (t + 1) (v2 * 2) (by omega) (by omega) (by rw [ct_y hqz, hv2]; rfl) _ _ _ hP hD hS (lv_sub hl [2, 3, 1, 0] rfl)
                  · skip
                    refine k_topN (j := 0) (by rw [hmt.2, hps]; rfl) ?_
                    have hqz : pz N F x t = false := by unfold pz pP; rw [hps, Bool.and_false, Bool.false_and]
                    refine k_if_eq_t (tgt := 121) hx hb dX10_adds_100 (by decide) (by decide) ?_
                    refine lv_iinc (v := nI (t + 1)) (lv' := [(4, .int (nI (t + 1))), (0, .ref (ma 0)), (1, .int (nI x)), (2, .long v2)]) hx hb dX10_adds_121 hl (k := 3) rfl (nI_add t 1) (by decide) rfl (fun ls hl => ?_)
                    refine lv_goto (tgt := 74) hx hb dX10_adds_124 (by decide) ?_
                    exact ih74 (t + 1) v2 (by omega) (by omega) (by rw [ct_n hqz, hv2]) _ _ _ hP hD hS (lv_sub hl [1, 2, 3, 0] rfl)
          exact L74 (N 3 + 1) 0 v (by omega) (by omega) (hv) _ _ _ hP hD hS (lv_sub hl [1, 2, 3, 0] rfl)
        · skip
          refine lv_iload hx hb dX10_adds_23 (lv_at hl 3 rfl) ?_
          refine lv_bipush (v := nI 12) hx hb dX10_adds_25 (by decide) ?_
          refine k_cmp_ge (tgt := 71) hx hb dX10_adds_27 (by decide) (by omega) (by omega) (fun hl12 => ?_) (fun hl12 => ?_)
          · skip
            have hle : l = min (N 0) 12 := by omega
            rw [hle] at hv
            refine lv_iconst (v := nI 0) hx hb dX10_adds_71 (by decide) ?_
            refine lv_istore (lv' := [(4, .int (nI 0)), (0, .ref (ma 0)), (1, .int (nI x)), (2, .long v)]) hx hb dX10_adds_72 hl (by decide) rfl (fun ls hl => ?_)
            have L74 : ∀ (fu : Nat), ∀ (t : Nat), ∀ (v2 : Int64), (N 3 < t + fu) → (t ≤ N 3) → (v2 = w2 (wgt (F 27) x (min (N 0) 12)) (ct (pz N F x) t)) → ∀ (H : Heap) (locs : List Loc) (ls : Array Slot), va_P G vwCl [oB (ma 0) 10 [.ref (ma 1), .int (nI (N 0)), .int (nI (N 3)), .int (nI (N 1)), .int (nI (M 0)), .ref (ma 2), .ref (ma 3), .ref (ma 4), .ref (ma 5), .ref (ma 6), .ref (ma 7), .ref (ma 8), .ref (ma 9), .ref (ma 10), .ref (ma 11), .ref (ma 12), .ref (ma 13), .int (nI (M 1)), .int (nI (M 2)), .int (nI (M 3)), .int C, .ref (ma 14), .ref (ma 15), .int (nI (M 4)), .int (nI (M 5)), .int (nI (M 6)), .int (nI (M 7)), .int (nI (M 8)), .ref (ma 16), .ref (ma 17), .int (nI (M 9)), .ref (ma 18), .int (nI (M 10))], aI cI (ma 1) 7 rf, aI cI (ma 2) 96 T, aI cI (ma 3) 96 (E 0), aI cI (ma 4) 100 X, aI cI (ma 5) 24 (F 27), aI cI (ma 6) 48 (F 17), aI cI (ma 7) 72 (F 18), aI cI (ma 8) 12 (F 19), aI cZ (ma 9) 12 B, aI cI (ma 10) 300 (E 1), aI cI (ma 11) 6 (E 2), aI cI (ma 12) 6 (E 3), aI cI (ma 13) 8 (E 4), aI cI (ma 14) 12 (E 5), aI cZ (ma 15) 12 (E 6), aI cI (ma 16) 2400 (E 7), aJ cJ (ma 17) 2400 L, aI cZ (ma 18) 300 (E 8)] H → va_D jA [oB (ma 0) 10 [.ref (ma 1), .int (nI (N 0)), .int (nI (N 3)), .int (nI (N 1)), .int (nI (M 0)), .ref (ma 2), .ref (ma 3), .ref (ma 4), .ref (ma 5), .ref (ma 6), .ref (ma 7), .ref (ma 8), .ref (ma 9), .ref (ma 10), .ref (ma 11), .ref (ma 12), .ref (ma 13), .int (nI (M 1)), .int (nI (M 2)), .int (nI (M 3)), .int C, .ref (ma 14), .ref (ma 15), .int (nI (M 4)), .int (nI (M 5)), .int (nI (M 6)), .int (nI (M 7)), .int (nI (M 8)), .ref (ma 16), .ref (ma 17), .int (nI (M 9)), .ref (ma 18), .int (nI (M 10))], aI cI (ma 1) 7 rf, aI cI (ma 2) 96 T, aI cI (ma 3) 96 (E 0), aI cI (ma 4) 100 X, aI cI (ma 5) 24 (F 27), aI cI (ma 6) 48 (F 17), aI cI (ma 7) 72 (F 18), aI cI (ma 8) 12 (F 19), aI cZ (ma 9) 12 B, aI cI (ma 10) 300 (E 1), aI cI (ma 11) 6 (E 2), aI cI (ma 12) 6 (E 3), aI cI (ma 13) 8 (E 4), aI cI (ma 14) 12 (E 5), aI cZ (ma 15) 12 (E 6), aI cI (ma 16) 2400 (E 7), aJ cJ (ma 17) 2400 L, aI cZ (ma 18) 300 (E 8)] → va_S jA js.heap H locs → lv_has ls 5 [(0, .ref (ma 0)), (1, .int (nI x)), (2, .long v2), (4, .int (nI t))] → W jp jl je rCX10_adds js jm ja jb jt jc H locs 0 0 jQ (F0 jm 74 ls []) := by
              intro fu
              induction fu with
              | zero =>
                intro t v2 hfu hT hv2 H locs ls hP hD hS hl
                exact absurd hfu (by omega)
              | succ fu ih74 =>
                intro t v2 hfu hT hv2 H locs ls hP hD hS hl
                refine lv_iload hx hb dX10_adds_74 (lv_at hl 3 rfl) ?_
                refine lv_aload_n hx hb dX10_adds_76 rfl (lv_at hl 0 rfl) ?_
                refine va_get (C := RX10) (T := TX10) (N := 33) (ci := 10) hx hb hts iX10_adds_10 hown hK.1 hP 0 rfl rfl 2 (Nat.le_of_ble_eq_true rfl) (hts _ mX10_adds_100) (fun _ h9 => h9) rfl dX10_adds_77 ?_
                refine k_cmp_ge (tgt := 127) hx hb dX10_adds_80 (by decide) (by omega) (by omega) (fun ht => ?_) (fun ht => ?_)
                · skip
                  refine lv_aload_n hx hb dX10_adds_127 rfl (lv_at hl 0 rfl) ?_
                  refine va_get (C := RX10) (T := TX10) (N := 33) (ci := 10) hx hb hts iX10_adds_10 hown hK.1 hP 0 rfl rfl 28 (Nat.le_of_ble_eq_true rfl) (hts _ mX10_adds_56) (fun _ h9 => h9) rfl dX10_adds_128 ?_
                  refine lv_aload_n hx hb dX10_adds_131 rfl (lv_at hl 0 rfl) ?_
                  refine va_get (C := RX10) (T := TX10) (N := 33) (ci := 10) hx hb hts iX10_adds_10 hown hK.1 hP 0 rfl rfl 30 (Nat.le_of_ble_eq_true rfl) (hts _ mX10_adds_176) (fun _ h9 => h9) rfl dX10_adds_132 ?_
                  refine lv_iload_n hx hb dX10_adds_135 rfl (lv_at hl 1 rfl) ?_
                  refine k_iast hx hb hK.1 hP hD hS 16 0 rfl rfl (by omega) (by decide) dX10_adds_136 (fun H locs hP hD hS => ?_)
                  have hP : va_P G vwCl [oB (ma 0) 10 [.ref (ma 1), .int (nI (N 0)), .int (nI (N 3)), .int (nI (N 1)), .int (nI (M 0)), .ref (ma 2), .ref (ma 3), .ref (ma 4), .ref (ma 5), .ref (ma 6), .ref (ma 7), .ref (ma 8), .ref (ma 9), .ref (ma 10), .ref (ma 11), .ref (ma 12), .ref (ma 13), .int (nI (M 1)), .int (nI (M 2)), .int (nI (M 3)), .int C, .ref (ma 14), .ref (ma 15), .int (nI (M 4)), .int (nI (M 5)), .int (nI (M 6)), .int (nI (M 7)), .int (nI (M 8)), .ref (ma 16), .ref (ma 17), .int (nI (M 9)), .ref (ma 18), .int (nI (M 10))], aI cI (ma 1) 7 rf, aI cI (ma 2) 96 T, aI cI (ma 3) 96 (E 0), aI cI (ma 4) 100 X, aI cI (ma 5) 24 (F 27), aI cI (ma 6) 48 (F 17), aI cI (ma 7) 72 (F 18), aI cI (ma 8) 12 (F 19), aI cZ (ma 9) 12 B, aI cI (ma 10) 300 (E 1), aI cI (ma 11) 6 (E 2), aI cI (ma 12) 6 (E 3), aI cI (ma 13) 8 (E 4), aI cI (ma 14) 12 (E 5), aI cZ (ma 15) 12 (E 6), aI cI (ma 16) 2400 (upd (E 7) (M 9) (nI x)), aJ cJ (ma 17) 2400 L, aI cZ (ma 18) 300 (E 8)] H := hP
                  have hD : va_D jA [oB (ma 0) 10 [.ref (ma 1), .int (nI (N 0)), .int (nI (N 3)), .int (nI (N 1)), .int (nI (M 0)), .ref (ma 2), .ref (ma 3), .ref (ma 4), .ref (ma 5), .ref (ma 6), .ref (ma 7), .ref (ma 8), .ref (ma 9), .ref (ma 10), .ref (ma 11), .ref (ma 12), .ref (ma 13), .int (nI (M 1)), .int (nI (M 2)), .int (nI (M 3)), .int C, .ref (ma 14), .ref (ma 15), .int (nI (M 4)), .int (nI (M 5)), .int (nI (M 6)), .int (nI (M 7)), .int (nI (M 8)), .ref (ma 16), .ref (ma 17), .int (nI (M 9)), .ref (ma 18), .int (nI (M 10))], aI cI (ma 1) 7 rf, aI cI (ma 2) 96 T, aI cI (ma 3) 96 (E 0), aI cI (ma 4) 100 X, aI cI (ma 5) 24 (F 27), aI cI (ma 6) 48 (F 17), aI cI (ma 7) 72 (F 18), aI cI (ma 8) 12 (F 19), aI cZ (ma 9) 12 B, aI cI (ma 10) 300 (E 1), aI cI (ma 11) 6 (E 2), aI cI (ma 12) 6 (E 3), aI cI (ma 13) 8 (E 4), aI cI (ma 14) 12 (E 5), aI cZ (ma 15) 12 (E 6), aI cI (ma 16) 2400 (upd (E 7) (M 9) (nI x)), aJ cJ (ma 17) 2400 L, aI cZ (ma 18) 300 (E 8)] := hD
                  refine lv_aload_n hx hb dX10_adds_137 rfl (lv_at hl 0 rfl) ?_
                  refine va_get (C := RX10) (T := TX10) (N := 33) (ci := 10) hx hb hts iX10_adds_10 hown hK.1 hP 0 rfl rfl 29 (Nat.le_of_ble_eq_true rfl) (hts _ mX10_adds_59) (fun _ h9 => h9) rfl dX10_adds_138 ?_
                  refine lv_aload_n hx hb dX10_adds_141 rfl (lv_at hl 0 rfl) ?_
                  refine va_get (C := RX10) (T := TX10) (N := 33) (ci := 10) hx hb hts iX10_adds_10 hown hK.1 hP 0 rfl rfl 30 (Nat.le_of_ble_eq_true rfl) (hts _ mX10_adds_176) (fun _ h9 => h9) rfl dX10_adds_142 ?_
                  refine lv_lload_n hx hb dX10_adds_145 rfl (lv_at hl 2 rfl) ?_
                  refine k_last hx hb hK.1 hP hD hS 17 2 rfl rfl (by omega) (by decide) dX10_adds_146 (fun H locs hP hD hS => ?_)
                  have hP : va_P G vwCl [oB (ma 0) 10 [.ref (ma 1), .int (nI (N 0)), .int (nI (N 3)), .int (nI (N 1)), .int (nI (M 0)), .ref (ma 2), .ref (ma 3), .ref (ma 4), .ref (ma 5), .ref (ma 6), .ref (ma 7), .ref (ma 8), .ref (ma 9), .ref (ma 10), .ref (ma 11), .ref (ma 12), .ref (ma 13), .int (nI (M 1)), .int (nI (M 2)), .int (nI (M 3)), .int C, .ref (ma 14), .ref (ma 15), .int (nI (M 4)), .int (nI (M 5)), .int (nI (M 6)), .int (nI (M 7)), .int (nI (M 8)), .ref (ma 16), .ref (ma 17), .int (nI (M 9)), .ref (ma 18), .int (nI (M 10))], aI cI (ma 1) 7 rf, aI cI (ma 2) 96 T, aI cI (ma 3) 96 (E 0), aI cI (ma 4) 100 X, aI cI (ma 5) 24 (F 27), aI cI (ma 6) 48 (F 17), aI cI (ma 7) 72 (F 18), aI cI (ma 8) 12 (F 19), aI cZ (ma 9) 12 B, aI cI (ma 10) 300 (E 1), aI cI (ma 11) 6 (E 2), aI cI (ma 12) 6 (E 3), aI cI (ma 13) 8 (E 4), aI cI (ma 14) 12 (E 5), aI cZ (ma 15) 12 (E 6), aI cI (ma 16) 2400 (upd (E 7) (M 9) (nI x)), aJ cJ (ma 17) 2400 (vp_updL L (M 9) v2), aI cZ (ma 18) 300 (E 8)] H := hP
                  have hD : va_D jA [oB (ma 0) 10 [.ref (ma 1), .int (nI (N 0)), .int (nI (N 3)), .int (nI (N 1)), .int (nI (M 0)), .ref (ma 2), .ref (ma 3), .ref (ma 4), .ref (ma 5), .ref (ma 6), .ref (ma 7), .ref (ma 8), .ref (ma 9), .ref (ma 10), .ref (ma 11), .ref (ma 12), .ref (ma 13), .int (nI (M 1)), .int (nI (M 2)), .int (nI (M 3)), .int C, .ref (ma 14), .ref (ma 15), .int (nI (M 4)), .int (nI (M 5)), .int (nI (M 6)), .int (nI (M 7)), .int (nI (M 8)), .ref (ma 16), .ref (ma 17), .int (nI (M 9)), .ref (ma 18), .int (nI (M 10))], aI cI (ma 1) 7 rf, aI cI (ma 2) 96 T, aI cI (ma 3) 96 (E 0), aI cI (ma 4) 100 X, aI cI (ma 5) 24 (F 27), aI cI (ma 6) 48 (F 17), aI cI (ma 7) 72 (F 18), aI cI (ma 8) 12 (F 19), aI cZ (ma 9) 12 B, aI cI (ma 10) 300 (E 1), aI cI (ma 11) 6 (E 2), aI cI (ma 12) 6 (E 3), aI cI (ma 13) 8 (E 4), aI cI (ma 14) 12 (E 5), aI cZ (ma 15) 12 (E 6), aI cI (ma 16) 2400 (upd (E 7) (M 9) (nI x)), aJ cJ (ma 17) 2400 (vp_updL L (M 9) v2), aI cZ (ma 18) 300 (E 8)] := hD
                  refine lv_aload_n hx hb dX10_adds_147 rfl (lv_at hl 0 rfl) ?_
                  refine lv_dup hx hb dX10_adds_148 rfl ?_
                  refine va_get (C := RX10) (T := TX10) (N := 33) (ci := 10) hx hb hts iX10_adds_10 hown hK.1 hP 0 rfl rfl 30 (Nat.le_of_ble_eq_true rfl) (hts _ mX10_adds_176) (fun _ h9 => h9) rfl dX10_adds_149 ?_
                  refine lv_iconst (v := nI 1) hx hb dX10_adds_152 (by decide) ?_
                  refine k_iadd hx hb dX10_adds_153 ?_
                  refine va_put (C := RX10) (T := TX10) (N := 33) (ci := 10) (v := .int (nI ((M 9) + 1))) (ty := tyX10 30) hx hb hts iX10_adds_10 tyX10 tyX10_ok nmX10 hown hK.1 hP hD hS 0 rfl rfl 30 (Nat.le_of_ble_eq_true rfl) (hts _ mX10_adds_176) (fun _ h9 => h9) rfl (tyX10_ok 30 (Nat.le_of_ble_eq_true rfl)) (rfl) (rfl) (Nat.le_of_ble_eq_true rfl) dX10_adds_154 (fun H locs hP hD hS => ?_)
                  have hP : va_P G vwCl [oB (ma 0) 10 [.ref (ma 1), .int (nI (N 0)), .int (nI (N 3)), .int (nI (N 1)), .int (nI (M 0)), .ref (ma 2), .ref (ma 3), .ref (ma 4), .ref (ma 5), .ref (ma 6), .ref (ma 7), .ref (ma 8), .ref (ma 9), .ref (ma 10), .ref (ma 11), .ref (ma 12), .ref (ma 13), .int (nI (M 1)), .int (nI (M 2)), .int (nI (M 3)), .int C, .ref (ma 14), .ref (ma 15), .int (nI (M 4)), .int (nI (M 5)), .int (nI (M 6)), .int (nI (M 7)), .int (nI (M 8)), .ref (ma 16), .ref (ma 17), .int (nI ((M 9) + 1)), .ref (ma 18), .int (nI (M 10))], aI cI (ma 1) 7 rf, aI cI (ma 2) 96 T, aI cI (ma 3) 96 (E 0), aI cI (ma 4) 100 X, aI cI (ma 5) 24 (F 27), aI cI (ma 6) 48 (F 17), aI cI (ma 7) 72 (F 18), aI cI (ma 8) 12 (F 19), aI cZ (ma 9) 12 B, aI cI (ma 10) 300 (E 1), aI cI (ma 11) 6 (E 2), aI cI (ma 12) 6 (E 3), aI cI (ma 13) 8 (E 4), aI cI (ma 14) 12 (E 5), aI cZ (ma 15) 12 (E 6), aI cI (ma 16) 2400 (upd (E 7) (M 9) (nI x)), aJ cJ (ma 17) 2400 (vp_updL L (M 9) v2), aI cZ (ma 18) 300 (E 8)] H := hP
                  have hD : va_D jA [oB (ma 0) 10 [.ref (ma 1), .int (nI (N 0)), .int (nI (N 3)), .int (nI (N 1)), .int (nI (M 0)), .ref (ma 2), .ref (ma 3), .ref (ma 4), .ref (ma 5), .ref (ma 6), .ref (ma 7), .ref (ma 8), .ref (ma 9), .ref (ma 10), .ref (ma 11), .ref (ma 12), .ref (ma 13), .int (nI (M 1)), .int (nI (M 2)), .int (nI (M 3)), .int C, .ref (ma 14), .ref (ma 15), .int (nI (M 4)), .int (nI (M 5)), .int (nI (M 6)), .int (nI (M 7)), .int (nI (M 8)), .ref (ma 16), .ref (ma 17), .int (nI ((M 9) + 1)), .ref (ma 18), .int (nI (M 10))], aI cI (ma 1) 7 rf, aI cI (ma 2) 96 T, aI cI (ma 3) 96 (E 0), aI cI (ma 4) 100 X, aI cI (ma 5) 24 (F 27), aI cI (ma 6) 48 (F 17), aI cI (ma 7) 72 (F 18), aI cI (ma 8) 12 (F 19), aI cZ (ma 9) 12 B, aI cI (ma 10) 300 (E 1), aI cI (ma 11) 6 (E 2), aI cI (ma 12) 6 (E 3), aI cI (ma 13) 8 (E 4), aI cI (ma 14) 12 (E 5), aI cZ (ma 15) 12 (E 6), aI cI (ma 16) 2400 (upd (E 7) (M 9) (nI x)), aJ cJ (ma 17) 2400 (vp_updL L (M 9) v2), aI cZ (ma 18) 300 (E 8)] := hD
                  exact hret _ _ _ _ (upd (E 7) (M 9) (nI x), vp_updL L (M 9) v2, (M 9) + 1) dX10_adds_157 (by unfold addP; rw [if_pos hls, hv2, show t = N 3 by omega]; rfl) hP hD hS
                · skip
                  have hop := hMR.2.2 t (by omega)
                  have hmt := hg.2.2.2 t ht
                  refine lv_aload_n hx hb dX10_adds_83 rfl (lv_at hl 0 rfl) ?_
                  refine va_get (C := RX10) (T := TX10) (N := 33) (ci := 10) hx hb hts iX10_adds_10 hown hK.1 hP 0 rfl rfl 12 (Nat.le_of_ble_eq_true rfl) (hts _ mX10_adds_34) (fun _ h9 => h9) rfl dX10_adds_84 ?_
                  refine lv_iload hx hb dX10_adds_87 (lv_at hl 3 rfl) ?_
                  refine k_zald hx hb hK.1 hP 9 1 rfl rfl (by omega) (by decide) dX10_adds_89 ?_
                  rcases Bool.eq_false_or_eq_true ((N 2).testBit t) with ho | ho
                  · skip
                    refine k_topN (j := 1) (by rw [hop, ho]; rfl) ?_
                    have hqz : pz N F x t = false := by unfold pz pP; rw [ho, Bool.not_true, Bool.false_and, Bool.false_and]
                    refine k_if_ne_t (tgt := 121) hx hb dX10_adds_90 (by decide) (by decide) ?_
                    refine lv_iinc (v := nI (t + 1)) (lv' := [(4, .int (nI (t + 1))), (0, .ref (ma 0)), (1, .int (nI x)), (2, .long v2)]) hx hb dX10_adds_121 hl (k := 3) rfl (nI_add t 1) (by decide) rfl (fun ls hl => ?_)
                    refine lv_goto (tgt := 74) hx hb dX10_adds_124 (by decide) ?_
                    exact ih74 (t + 1) v2 (by omega) (by omega) (by rw [ct_n hqz, hv2]) _ _ _ hP hD hS (lv_sub hl [1, 2, 3, 0] rfl)
                  · skip
                    refine k_topN (j := 0) (by rw [hop, ho]; rfl) ?_
                    refine k_if_ne_f (tgt := 121) hx hb dX10_adds_90 (by decide) (by decide) ?_
                    refine lv_aload_n hx hb dX10_adds_93 rfl (lv_at hl 0 rfl) ?_
                    refine va_get (C := RX10) (T := TX10) (N := 33) (ci := 10) hx hb hts iX10_adds_10 hown hK.1 hP 0 rfl rfl 22 (Nat.le_of_ble_eq_true rfl) (hts _ mX10_adds_53) (fun _ h9 => h9) rfl dX10_adds_94 ?_
                    refine lv_iload hx hb dX10_adds_97 (lv_at hl 3 rfl) ?_
                    refine k_zald hx hb hK.1 hP 15 1 rfl rfl (by omega) (by decide) dX10_adds_99 ?_
                    rcases Bool.eq_false_or_eq_true (PAS N F t (RUNP N F t)) with hps | hps
                    · skip
                      refine k_topN (j := 1) (by rw [hmt.2, hps]; rfl) ?_
                      refine k_if_eq_f (tgt := 121) hx hb dX10_adds_100 (by decide) (by decide) ?_
                      refine lv_aload_n hx hb dX10_adds_103 rfl (lv_at hl 0 rfl) ?_
                      refine va_get (C := RX10) (T := TX10) (N := 33) (ci := 10) hx hb hts iX10_adds_10 hown hK.1 hP 0 rfl rfl 21 (Nat.le_of_ble_eq_true rfl) (hts _ mX10_adds_50) (fun _ h9 => h9) rfl dX10_adds_104 ?_
                      refine lv_iload hx hb dX10_adds_107 (lv_at hl 3 rfl) ?_
                      refine k_iald hx hb hK.1 hP 14 0 rfl rfl (by omega) (by decide) dX10_adds_109 ?_
                      refine k_topN hmt.1 ?_
                      refine lv_iload_n hx hb dX10_adds_110 rfl (lv_at hl 1 rfl) ?_
                      refine k_iand hx hb dX10_adds_111 ?_
                      refine k_if_ne (tgt := 121) hx hb dX10_adds_112 (by decide) (by exact Nat.lt_of_le_of_lt Nat.and_le_right (by omega)) (fun hz => ?_) (fun hz => ?_)
                      · skip
                        have hqz : pz N F x t = false := by unfold pz pP; rw [decide_eq_false (by omega), Bool.and_false]
                        refine lv_iinc (v := nI (t + 1)) (lv' := [(4, .int (nI (t + 1))), (0, .ref (ma 0)), (1, .int (nI x)), (2, .long v2)]) hx hb dX10_adds_121 hl (k := 3) rfl (nI_add t 1) (by decide) rfl (fun ls hl => ?_)
                        refine lv_goto (tgt := 74) hx hb dX10_adds_124 (by decide) ?_
                        exact ih74 (t + 1) v2 (by omega) (by omega) (by rw [ct_n hqz, hv2]) _ _ _ hP hD hS (lv_sub hl [1, 2, 3, 0] rfl)
                      · skip
                        have hqz : pz N F x t = true := by unfold pz pP; rw [ho, hps, decide_eq_true hz]; rfl
                        refine lv_lload_n hx hb dX10_adds_115 rfl (lv_at hl 2 rfl) ?_
                        refine lv_ldc2 (own := RX10) (v := 2) hx hb hown (hts _ wX10_adds_k174) dX10_adds_116 ?_
                        refine lv_lmul hx hb dX10_adds_119 ?_
                        refine lv_lstore_n (lv' := [(2, .long (v2 * 2)), (0, .ref (ma 0)), (1, .int (nI x)), (4, .int (nI t))]) hx hb dX10_adds_120 rfl hl (by decide) rfl (fun ls hl => ?_)
                        refine lv_iinc (v := nI (t + 1)) (lv' := [(4, .int (nI (t + 1))), (2, .long (v2 * 2)), (0, .ref (ma 0)), (1, .int (nI x))]) hx hb dX10_adds_121 hl (k := 3) rfl (nI_add t 1) (by decide) rfl (fun ls hl => ?_)
                        refine lv_goto (tgt := 74) hx hb dX10_adds_124 (by decide) ?_
                        exact ih74 (t + 1) (v2 * 2) (by omega) (by omega) (by rw [ct_y hqz, hv2]; rfl) _ _ _ hP hD hS (lv_sub hl [2, 3, 1, 0] rfl)
                    · skip
                      refine k_topN (j := 0) (by rw [hmt.2, hps]; rfl) ?_
                      have hqz : pz N F x t = false := by unfold pz pP; rw [hps, Bool.and_false, Bool.false_and]
                      refine k_if_eq_t (tgt := 121) hx hb dX10_adds_100 (by decide) (by decide) ?_
                      refine lv_iinc (v := nI (t + 1)) (lv' := [(4, .int (nI (t + 1))), (0, .ref (ma 0)), (1, .int (nI x)), (2, .long v2)]) hx hb dX10_adds_121 hl (k := 3) rfl (nI_add t 1) (by decide) rfl (fun ls hl => ?_)
                      refine lv_goto (tgt := 74) hx hb dX10_adds_124 (by decide) ?_
                      exact ih74 (t + 1) v2 (by omega) (by omega) (by rw [ct_n hqz, hv2]) _ _ _ hP hD hS (lv_sub hl [1, 2, 3, 0] rfl)
            exact L74 (N 3 + 1) 0 v (by omega) (by omega) (hv) _ _ _ hP hD hS (lv_sub hl [1, 2, 3, 0] rfl)
          · skip
            refine lv_lload_n hx hb dX10_adds_30 rfl (lv_at hl 2 rfl) ?_
            refine lv_iload_n hx hb dX10_adds_31 rfl (lv_at hl 1 rfl) ?_
            refine lv_iload hx hb dX10_adds_32 (lv_at hl 3 rfl) ?_
            refine k_ishr hx hb dX10_adds_34 (by omega) (by omega) ?_
            refine lv_iconst (v := nI 1) hx hb dX10_adds_35 (by decide) ?_
            refine k_iand hx hb dX10_adds_36 ?_
            refine lv_iconst (v := nI 1) hx hb dX10_adds_37 (by decide) ?_
            refine k_cmp_ne (tgt := 52) hx hb dX10_adds_38 (by decide) (by exact Nat.lt_of_le_of_lt Nat.and_le_right (by decide)) (by decide) (fun hbit => ?_) (fun hbit => ?_)
            · skip
              have hb9 := tb_none hbit
              refine lv_bipush (v := nI 10) hx hb dX10_adds_52 (by decide) ?_
              refine lv_aload_n hx hb dX10_adds_54 rfl (lv_at hl 0 rfl) ?_
              refine va_get (C := RX10) (T := TX10) (N := 33) (ci := 10) hx hb hts iX10_adds_10 hown hK.1 hP 0 rfl rfl 8 (Nat.le_of_ble_eq_true rfl) (hts _ mX10_adds_22) (fun _ h9 => h9) rfl dX10_adds_55 ?_
              refine lv_iload hx hb dX10_adds_58 (lv_at hl 3 rfl) ?_
              refine k_iald hx hb hK.1 hP 5 0 rfl rfl (by omega) (by decide) dX10_adds_60 ?_
              refine lv_isub hx hb dX10_adds_61 ?_
              refine lv_i2l hx hb dX10_adds_62 rfl ?_
              refine lv_lmul hx hb dX10_adds_63 ?_
              refine lv_lstore_n (lv' := [(2, .long (v * (((nI 10) - ((F 27) l)).toInt64))), (0, .ref (ma 0)), (1, .int (nI x)), (4, .int (nI l))]) hx hb dX10_adds_64 rfl hl (by decide) rfl (fun ls hl => ?_)
              refine lv_iinc (v := nI (l + 1)) (lv' := [(4, .int (nI (l + 1))), (2, .long (v * (((nI 10) - ((F 27) l)).toInt64))), (0, .ref (ma 0)), (1, .int (nI x))]) hx hb dX10_adds_65 hl (k := 3) rfl (nI_add l 1) (by decide) rfl (fun ls hl => ?_)
              refine lv_goto (tgt := 14) hx hb dX10_adds_68 (by decide) ?_
              exact ih14 (l + 1) (v * (((nI 10) - ((F 27) l)).toInt64)) (by omega) (by omega) (by omega) (by rw [wgt_n hb9, hv]) _ _ _ hP hD hS (lv_sub hl [2, 3, 1, 0] rfl)
            · skip
              have hb9 := tb_one hbit
              refine lv_aload_n hx hb dX10_adds_41 rfl (lv_at hl 0 rfl) ?_
              refine va_get (C := RX10) (T := TX10) (N := 33) (ci := 10) hx hb hts iX10_adds_10 hown hK.1 hP 0 rfl rfl 8 (Nat.le_of_ble_eq_true rfl) (hts _ mX10_adds_22) (fun _ h9 => h9) rfl dX10_adds_42 ?_
              refine lv_iload hx hb dX10_adds_45 (lv_at hl 3 rfl) ?_
              refine k_iald hx hb hK.1 hP 5 0 rfl rfl (by omega) (by decide) dX10_adds_47 ?_
              refine lv_i2l hx hb dX10_adds_48 rfl ?_
              refine lv_goto (tgt := 63) hx hb dX10_adds_49 (by decide) ?_
              refine lv_lmul hx hb dX10_adds_63 ?_
              refine lv_lstore_n (lv' := [(2, .long (v * (((F 27) l).toInt64))), (0, .ref (ma 0)), (1, .int (nI x)), (4, .int (nI l))]) hx hb dX10_adds_64 rfl hl (by decide) rfl (fun ls hl => ?_)
              refine lv_iinc (v := nI (l + 1)) (lv' := [(4, .int (nI (l + 1))), (2, .long (v * (((F 27) l).toInt64))), (0, .ref (ma 0)), (1, .int (nI x))]) hx hb dX10_adds_65 hl (k := 3) rfl (nI_add l 1) (by decide) rfl (fun ls hl => ?_)
              refine lv_goto (tgt := 14) hx hb dX10_adds_68 (by decide) ?_
              exact ih14 (l + 1) (v * (((F 27) l).toInt64)) (by omega) (by omega) (by omega) (by rw [wgt_y hb9, hv]) _ _ _ hP hD hS (lv_sub hl [2, 3, 1, 0] rfl)
    exact L14 13 0 1 (by omega) (by omega) (by omega) (rfl) _ _ _ hP hD hS (lv_sub hl [2, 3, 1, 0] rfl)
  · skip
    rw [hls] at hw_2
    subst hw_2
    refine k_if_ne_f (tgt := 9) hx hb dX10_adds_5 (by decide) (by decide) ?_
    exact hret _ _ _ _ (E 7, L, M 9) dX10_adds_8 (by unfold addP; rw [if_neg (by rw [hls]; decide)]) hP hD hS
