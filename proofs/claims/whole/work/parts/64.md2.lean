theorem iX10_goes_10 : ∀ w ∈ wsX100, w ∈ wsX10_goes := by decide +kernel
theorem mX10_goes_16 : Cond.fieldLink RX10 16 "LineFinderModel" "now" "[I" ∈ wsX10_goes := List.mem_of_getElem? (i := 1) rfl
theorem mX10_goes_25 : Cond.fieldLink RX10 25 "LineFinderModel" "inputs" "[I" ∈ wsX10_goes := List.mem_of_getElem? (i := 3) rfl
theorem mX10_goes_41 : Cond.fieldLink RX10 41 "LineFinderModel" "outs" "[I" ∈ wsX10_goes := List.mem_of_getElem? (i := 5) rfl
theorem mX10_goes_44 : Cond.fieldLink RX10 44 "LineFinderModel" "outStep" "[I" ∈ wsX10_goes := List.mem_of_getElem? (i := 7) rfl
theorem mX10_goes_47 : Cond.fieldLink RX10 47 "LineFinderModel" "vars" "[I" ∈ wsX10_goes := List.mem_of_getElem? (i := 2) rfl
theorem mX10_goes_106 : Cond.fieldLink RX10 106 "LineFinderModel" "steps" "I" ∈ wsX10_goes := List.mem_of_getElem? (i := 8) rfl
theorem mX10_goes_109 : Cond.fieldLink RX10 109 "LineFinderModel" "outMany" "I" ∈ wsX10_goes := List.mem_of_getElem? (i := 6) rfl
theorem mX10_goes_112 : Cond.fieldLink RX10 112 "LineFinderModel" "ifs" "I" ∈ wsX10_goes := List.mem_of_getElem? (i := 4) rfl
abbrev rCX10_goes : Room := { frames := 0, cells := 0, slots := 0, locals := 0 }
set_option maxHeartbeats 4000000 in
set_option maxRecDepth 100000 in
theorem CX10_goes (jl : Launch) (G : va_G) (cI cZ cJ : ClassId) (ma : Nat → Nat) (N : Nat → Nat) (F : Nat → Fn) (rf T X B : Fn) (M : Nat → Nat) (C : Int32) (E : Nat → Fn) (L : Nat → Int64) (hLA : LA N F) (hMR : MR N F T X B) (t l sc : Nat) (kk : Int32) (ht : t < 12) (hl24 : l < 24) (hoc : M 2 < 6) (hsc : M 1 = sc + 1) (hok : rowOk (c4 (E 0) 0 l) (c4 (E 0) 1 l) (c4 (E 0) 2 l) (c4 (E 0) 3 l)) : Ki jl yX10_goes wsX10_goes rCX10_goes G cI cZ cJ [.ref (ma 0), .int (nI t), .int (nI l), .int kk] [oB (ma 0) 10 [.ref (ma 1), .int (nI (N 0)), .int (nI (N 3)), .int (nI (N 1)), .int (nI (M 0)), .ref (ma 2), .ref (ma 3), .ref (ma 4), .ref (ma 5), .ref (ma 6), .ref (ma 7), .ref (ma 8), .ref (ma 9), .ref (ma 10), .ref (ma 11), .ref (ma 12), .ref (ma 13), .int (nI (M 1)), .int (nI (M 2)), .int (nI (M 3)), .int C, .ref (ma 14), .ref (ma 15), .int (nI (M 4)), .int (nI (M 5)), .int (nI (M 6)), .int (nI (M 7)), .int (nI (M 8)), .ref (ma 16), .ref (ma 17), .int (nI (M 9)), .ref (ma 18), .int (nI (M 10))], aI cI (ma 1) 7 rf, aI cI (ma 2) 96 T, aI cI (ma 3) 96 (E 0), aI cI (ma 4) 100 X, aI cI (ma 5) 24 (F 27), aI cI (ma 6) 48 (F 17), aI cI (ma 7) 72 (F 18), aI cI (ma 8) 12 (F 19), aI cZ (ma 9) 12 B, aI cI (ma 10) 300 (E 1), aI cI (ma 11) 6 (E 2), aI cI (ma 12) 6 (E 3), aI cI (ma 13) 8 (E 4), aI cI (ma 14) 12 (E 5), aI cZ (ma 15) 12 (E 6), aI cI (ma 16) 2400 (E 7), aJ cJ (ma 17) 2400 L, aI cZ (ma 18) 300 (E 8)] (S := Nat × Nat × Nat × Fn × Fn × Fn) (fun (r : Int32) (u : Nat × Nat × Nat × Fn × Fn × Fn) => match u with | (l1, oc1, ic1, vr1, ou1, os1) => r = nI l1 ∧ (l1, oc1, ic1, vr1, ou1) = r_act (c4 (E 0) 0) (c4 (E 0) 1) (c4 (E 0) 2) (c4 (E 0) 3) (fun y => F 17 (t * 4 + y)) kk (-1) (nI 0) l (M 2) (M 3) (E 4) (E 2) ∧ os1 = r_os (c4 (E 0) 0) l sc (M 2) (E 3) ∧ l1 ≤ 24 ∧ oc1 ≤ M 2 + 1 ∧ ic1 ≤ M 3 + 1) (fun (u : Nat × Nat × Nat × Fn × Fn × Fn) => match u with | (l1, oc1, ic1, vr1, ou1, os1) => [oB (ma 0) 10 [.ref (ma 1), .int (nI (N 0)), .int (nI (N 3)), .int (nI (N 1)), .int (nI (M 0)), .ref (ma 2), .ref (ma 3), .ref (ma 4), .ref (ma 5), .ref (ma 6), .ref (ma 7), .ref (ma 8), .ref (ma 9), .ref (ma 10), .ref (ma 11), .ref (ma 12), .ref (ma 13), .int (nI (M 1)), .int (nI oc1), .int (nI ic1), .int C, .ref (ma 14), .ref (ma 15), .int (nI (M 4)), .int (nI (M 5)), .int (nI (M 6)), .int (nI (M 7)), .int (nI (M 8)), .ref (ma 16), .ref (ma 17), .int (nI (M 9)), .ref (ma 18), .int (nI (M 10))], aI cI (ma 1) 7 rf, aI cI (ma 2) 96 T, aI cI (ma 3) 96 (E 0), aI cI (ma 4) 100 X, aI cI (ma 5) 24 (F 27), aI cI (ma 6) 48 (F 17), aI cI (ma 7) 72 (F 18), aI cI (ma 8) 12 (F 19), aI cZ (ma 9) 12 B, aI cI (ma 10) 300 (E 1), aI cI (ma 11) 6 ou1, aI cI (ma 12) 6 os1, aI cI (ma 13) 8 vr1, aI cI (ma 14) 12 (E 5), aI cZ (ma 15) 12 (E 6), aI cI (ma 16) 2400 (E 7), aJ cJ (ma 17) 2400 L, aI cZ (ma 18) 300 (E 8)]) := by
  refine Ki.of (cc := cX10_goes) (maxL := 8) (by decide +kernel) rfl (Nat.le_of_ble_eq_true rfl) ?_
  intro jp je js jm ja jb jt jc jA jQ ls cx hnm hP hD hS hl hret
  obtain ⟨hx, hb, hml, hown, hts, hK, hA⟩ := id cx
  have hl : lv_has ls 8 [(0, .ref (ma 0)), (1, .int (nI t)), (2, .int (nI l)), (3, .int kk)] := hl
  obtain ⟨H, hH⟩ : ∃ H, H = js.heap := ⟨_, rfl⟩
  obtain ⟨locs, hlocs⟩ : ∃ z : List Loc, z = [] := ⟨_, rfl⟩
  have hP : va_P G vwCl [oB (ma 0) 10 [.ref (ma 1), .int (nI (N 0)), .int (nI (N 3)), .int (nI (N 1)), .int (nI (M 0)), .ref (ma 2), .ref (ma 3), .ref (ma 4), .ref (ma 5), .ref (ma 6), .ref (ma 7), .ref (ma 8), .ref (ma 9), .ref (ma 10), .ref (ma 11), .ref (ma 12), .ref (ma 13), .int (nI (M 1)), .int (nI (M 2)), .int (nI (M 3)), .int C, .ref (ma 14), .ref (ma 15), .int (nI (M 4)), .int (nI (M 5)), .int (nI (M 6)), .int (nI (M 7)), .int (nI (M 8)), .ref (ma 16), .ref (ma 17), .int (nI (M 9)), .ref (ma 18), .int (nI (M 10))], aI cI (ma 1) 7 rf, aI cI (ma 2) 96 T, aI cI (ma 3) 96 (E 0), aI cI (ma 4) 100 X, aI cI (ma 5) 24 (F 27), aI cI (ma 6) 48 (F 17), aI cI (ma 7) 72 (F 18), aI cI (ma 8) 12 (F 19), aI cZ (ma 9) 12 B, aI cI (ma 10) 300 (E 1), aI cI (ma 11) 6 (E 2), aI cI (ma 12) 6 (E 3), aI cI (ma 13) 8 (E 4), aI cI (ma 14) 12 (E 5), aI cZ (ma 15) 12 (E 6), aI cI (ma 16) 2400 (E 7), aJ cJ (ma 17) 2400 L, aI cZ (ma 18) 300 (E 8)] H := by rw [hH]; exact hP
  have hS : va_S jA js.heap H locs := by rw [hH, hlocs]; exact hS
  rw [← hlocs]; rw [show W jp jl je rCX10_goes js jm ja jb jt jc js.heap locs 0 0 jQ (F0 jm 0 ls []) = W jp jl je rCX10_goes js jm ja jb jt jc H locs 0 0 jQ (F0 jm 0 ls []) by rw [hH]]
  clear hH hlocs
  obtain ⟨k, hk8, hop, hx8, h123, h4, h5, h6⟩ := hok
  have hnl : nI l = (-1) → False := nI_m1 (by omega)
  refine lv_aload_n hx hb dX10_goes_0 rfl (lv_at hl 0 rfl) ?_
  refine va_get (C := RX10) (T := TX10) (N := 33) (ci := 10) hx hb hts iX10_goes_10 hown hK.1 hP 0 rfl rfl 6 (Nat.le_of_ble_eq_true rfl) (hts _ mX10_goes_16) (fun _ h9 => h9) rfl dX10_goes_1 ?_
  refine lv_iconst (v := nI 4) hx hb dX10_goes_4 (by decide) ?_
  refine lv_iload_n hx hb dX10_goes_5 rfl (lv_at hl 2 rfl) ?_
  refine k_imul hx hb dX10_goes_6 ?_
  refine lv_iconst (v := nI 1) hx hb dX10_goes_7 (by decide) ?_
  refine k_iadd hx hb dX10_goes_8 ?_
  refine k_iald hx hb hK.1 hP 3 0 rfl rfl (by omega) (by decide) dX10_goes_9 ?_
  refine lv_istore (lv' := [(4, .int ((E 0) ((4 * l) + 1))), (0, .ref (ma 0)), (1, .int (nI t)), (2, .int (nI l)), (3, .int kk)]) hx hb dX10_goes_10 hl (by decide) rfl (fun ls hl => ?_)
  refine lv_aload_n hx hb dX10_goes_12 rfl (lv_at hl 1 rfl) ?_
  refine va_get (C := RX10) (T := TX10) (N := 33) (ci := 10) hx hb hts iX10_goes_10 hown hK.1 hP 0 rfl rfl 6 (Nat.le_of_ble_eq_true rfl) (hts _ mX10_goes_16) (fun _ h9 => h9) rfl dX10_goes_13 ?_
  refine lv_iconst (v := nI 4) hx hb dX10_goes_16 (by decide) ?_
  refine lv_iload_n hx hb dX10_goes_17 rfl (lv_at hl 3 rfl) ?_
  refine k_imul hx hb dX10_goes_18 ?_
  refine lv_iconst (v := nI 2) hx hb dX10_goes_19 (by decide) ?_
  refine k_iadd hx hb dX10_goes_20 ?_
  refine k_iald hx hb hK.1 hP 3 0 rfl rfl (by omega) (by decide) dX10_goes_21 ?_
  refine lv_istore (lv' := [(5, .int ((E 0) ((4 * l) + 2))), (4, .int ((E 0) ((4 * l) + 1))), (0, .ref (ma 0)), (1, .int (nI t)), (2, .int (nI l)), (3, .int kk)]) hx hb dX10_goes_22 hl (by decide) rfl (fun ls hl => ?_)
  refine lv_aload_n hx hb dX10_goes_24 rfl (lv_at hl 2 rfl) ?_
  refine va_get (C := RX10) (T := TX10) (N := 33) (ci := 10) hx hb hts iX10_goes_10 hown hK.1 hP 0 rfl rfl 6 (Nat.le_of_ble_eq_true rfl) (hts _ mX10_goes_16) (fun _ h9 => h9) rfl dX10_goes_25 ?_
  refine lv_iconst (v := nI 4) hx hb dX10_goes_28 (by decide) ?_
  refine lv_iload_n hx hb dX10_goes_29 rfl (lv_at hl 4 rfl) ?_
  refine k_imul hx hb dX10_goes_30 ?_
  refine lv_iconst (v := nI 3) hx hb dX10_goes_31 (by decide) ?_
  refine k_iadd hx hb dX10_goes_32 ?_
  refine k_iald hx hb hK.1 hP 3 0 rfl rfl (by omega) (by decide) dX10_goes_33 ?_
  refine lv_istore (lv' := [(6, .int ((E 0) ((4 * l) + 3))), (5, .int ((E 0) ((4 * l) + 2))), (4, .int ((E 0) ((4 * l) + 1))), (0, .ref (ma 0)), (1, .int (nI t)), (2, .int (nI l)), (3, .int kk)]) hx hb dX10_goes_34 hl (by decide) rfl (fun ls hl => ?_)
  refine lv_aload_n hx hb dX10_goes_36 rfl (lv_at hl 3 rfl) ?_
  refine va_get (C := RX10) (T := TX10) (N := 33) (ci := 10) hx hb hts iX10_goes_10 hown hK.1 hP 0 rfl rfl 6 (Nat.le_of_ble_eq_true rfl) (hts _ mX10_goes_16) (fun _ h9 => h9) rfl dX10_goes_37 ?_
  refine lv_iconst (v := nI 4) hx hb dX10_goes_40 (by decide) ?_
  refine lv_iload_n hx hb dX10_goes_41 rfl (lv_at hl 5 rfl) ?_
  refine k_imul hx hb dX10_goes_42 ?_
  refine k_iald hx hb hK.1 hP 3 0 rfl rfl (by omega) (by decide) dX10_goes_43 ?_
  refine k_topN hop ?_
  rcases (show k = 0 ∨ k = 1 ∨ k = 2 ∨ k = 3 ∨ k = 4 ∨ k = 5 ∨ k = 6 ∨ k = 7 by omega) with rfl | rfl | rfl | rfl | rfl | rfl | rfl | rfl
  · skip
    refine lv_tableIn (tgt := 88) (off := 44) hx hb dX10_goes_44 (by decide) (by decide) (by decide) (by decide) ?_
    have hx8 := hx8 (by decide)
    have e4 : c4 (E 0) 1 l = nI (tn (c4 (E 0) 1 l)) := hx8.eq (by decide)
    have lx : tn (c4 (E 0) 1 l) < 8 := hx8.lt (by decide)
    have hl : lv_has ls 8 [(6, .int ((E 0) ((4 * l) + 3))), (5, .int ((E 0) ((4 * l) + 2))), (4, .int (nI (tn (c4 (E 0) 1 l)))), (0, .ref (ma 0)), (1, .int (nI t)), (2, .int (nI l)), (3, .int kk)] := by rw [← e4]; exact hl
    refine lv_aload_n hx hb dX10_goes_88 rfl (lv_at hl 3 rfl) ?_
    refine va_get (C := RX10) (T := TX10) (N := 33) (ci := 10) hx hb hts iX10_goes_10 hown hK.1 hP 0 rfl rfl 16 (Nat.le_of_ble_eq_true rfl) (hts _ mX10_goes_47) (fun _ h9 => h9) rfl dX10_goes_89 ?_
    refine lv_iload hx hb dX10_goes_92 (lv_at hl 2 rfl) ?_
    refine lv_iload hx hb dX10_goes_94 (lv_at hl 1 rfl) ?_
    refine k_iast hx hb hK.1 hP hD hS 13 0 rfl rfl (by omega) (by decide) dX10_goes_96 (fun H locs hP hD hS => ?_)
    have hP : va_P G vwCl [oB (ma 0) 10 [.ref (ma 1), .int (nI (N 0)), .int (nI (N 3)), .int (nI (N 1)), .int (nI (M 0)), .ref (ma 2), .ref (ma 3), .ref (ma 4), .ref (ma 5), .ref (ma 6), .ref (ma 7), .ref (ma 8), .ref (ma 9), .ref (ma 10), .ref (ma 11), .ref (ma 12), .ref (ma 13), .int (nI (M 1)), .int (nI (M 2)), .int (nI (M 3)), .int C, .ref (ma 14), .ref (ma 15), .int (nI (M 4)), .int (nI (M 5)), .int (nI (M 6)), .int (nI (M 7)), .int (nI (M 8)), .ref (ma 16), .ref (ma 17), .int (nI (M 9)), .ref (ma 18), .int (nI (M 10))], aI cI (ma 1) 7 rf, aI cI (ma 2) 96 T, aI cI (ma 3) 96 (E 0), aI cI (ma 4) 100 X, aI cI (ma 5) 24 (F 27), aI cI (ma 6) 48 (F 17), aI cI (ma 7) 72 (F 18), aI cI (ma 8) 12 (F 19), aI cZ (ma 9) 12 B, aI cI (ma 10) 300 (E 1), aI cI (ma 11) 6 (E 2), aI cI (ma 12) 6 (E 3), aI cI (ma 13) 8 (upd (E 4) (tn (c4 (E 0) 1 l)) ((E 0) ((4 * l) + 2))), aI cI (ma 14) 12 (E 5), aI cZ (ma 15) 12 (E 6), aI cI (ma 16) 2400 (E 7), aJ cJ (ma 17) 2400 L, aI cZ (ma 18) 300 (E 8)] H := hP
    have hD : va_D jA [oB (ma 0) 10 [.ref (ma 1), .int (nI (N 0)), .int (nI (N 3)), .int (nI (N 1)), .int (nI (M 0)), .ref (ma 2), .ref (ma 3), .ref (ma 4), .ref (ma 5), .ref (ma 6), .ref (ma 7), .ref (ma 8), .ref (ma 9), .ref (ma 10), .ref (ma 11), .ref (ma 12), .ref (ma 13), .int (nI (M 1)), .int (nI (M 2)), .int (nI (M 3)), .int C, .ref (ma 14), .ref (ma 15), .int (nI (M 4)), .int (nI (M 5)), .int (nI (M 6)), .int (nI (M 7)), .int (nI (M 8)), .ref (ma 16), .ref (ma 17), .int (nI (M 9)), .ref (ma 18), .int (nI (M 10))], aI cI (ma 1) 7 rf, aI cI (ma 2) 96 T, aI cI (ma 3) 96 (E 0), aI cI (ma 4) 100 X, aI cI (ma 5) 24 (F 27), aI cI (ma 6) 48 (F 17), aI cI (ma 7) 72 (F 18), aI cI (ma 8) 12 (F 19), aI cZ (ma 9) 12 B, aI cI (ma 10) 300 (E 1), aI cI (ma 11) 6 (E 2), aI cI (ma 12) 6 (E 3), aI cI (ma 13) 8 (upd (E 4) (tn (c4 (E 0) 1 l)) ((E 0) ((4 * l) + 2))), aI cI (ma 14) 12 (E 5), aI cZ (ma 15) 12 (E 6), aI cI (ma 16) 2400 (E 7), aJ cJ (ma 17) 2400 L, aI cZ (ma 18) 300 (E 8)] := hD
    refine lv_goto (tgt := 309) hx hb dX10_goes_97 (by decide) ?_
    refine lv_iload_n hx hb dX10_goes_309 rfl (lv_at hl 5 rfl) ?_
    refine lv_iconst (v := nI 1) hx hb dX10_goes_310 (by decide) ?_
    refine k_iadd hx hb dX10_goes_311 ?_
    exact hret _ _ _ _ _ (l + 1, M 2, M 3, upd (E 4) (tn (c4 (E 0) 1 l)) ((E 0) ((4 * l) + 2)), E 2, E 3) dX10_goes_312 (⟨rfl, by rw [r_act_w hop (by decide), if_neg hnl, r_val_0 hop]; rfl, (r_os_n (by rw [hop]; decide)).symm, by omega, by omega, by omega⟩) hP hD hS
  · skip
    refine lv_tableIn (tgt := 100) (off := 56) hx hb dX10_goes_44 (by decide) (by decide) (by decide) (by decide) ?_
    have hx8 := hx8 (by decide)
    have e4 : c4 (E 0) 1 l = nI (tn (c4 (E 0) 1 l)) := hx8.eq (by decide)
    have lx : tn (c4 (E 0) 1 l) < 8 := hx8.lt (by decide)
    obtain ⟨hy8, hz8⟩ := h123 (by decide)
    have e5 : c4 (E 0) 2 l = nI (tn (c4 (E 0) 2 l)) := hy8.eq (by decide)
    have e6 : c4 (E 0) 3 l = nI (tn (c4 (E 0) 3 l)) := hz8.eq (by decide)
    have ly : tn (c4 (E 0) 2 l) < 8 := hy8.lt (by decide)
    have lz : tn (c4 (E 0) 3 l) < 8 := hz8.lt (by decide)
    have hl : lv_has ls 8 [(6, .int (nI (tn (c4 (E 0) 3 l)))), (5, .int (nI (tn (c4 (E 0) 2 l)))), (4, .int (nI (tn (c4 (E 0) 1 l)))), (0, .ref (ma 0)), (1, .int (nI t)), (2, .int (nI l)), (3, .int kk)] := by rw [← e4, ← e5, ← e6]; exact hl
    refine lv_aload_n hx hb dX10_goes_100 rfl (lv_at hl 3 rfl) ?_
    refine va_get (C := RX10) (T := TX10) (N := 33) (ci := 10) hx hb hts iX10_goes_10 hown hK.1 hP 0 rfl rfl 16 (Nat.le_of_ble_eq_true rfl) (hts _ mX10_goes_47) (fun _ h9 => h9) rfl dX10_goes_101 ?_
    refine lv_iload hx hb dX10_goes_104 (lv_at hl 2 rfl) ?_
    refine lv_aload_n hx hb dX10_goes_106 rfl (lv_at hl 3 rfl) ?_
    refine va_get (C := RX10) (T := TX10) (N := 33) (ci := 10) hx hb hts iX10_goes_10 hown hK.1 hP 0 rfl rfl 16 (Nat.le_of_ble_eq_true rfl) (hts _ mX10_goes_47) (fun _ h9 => h9) rfl dX10_goes_107 ?_
    refine lv_iload hx hb dX10_goes_110 (lv_at hl 1 rfl) ?_
    refine k_iald hx hb hK.1 hP 13 0 rfl rfl (by omega) (by decide) dX10_goes_112 ?_
    refine lv_aload_n hx hb dX10_goes_113 rfl (lv_at hl 3 rfl) ?_
    refine va_get (C := RX10) (T := TX10) (N := 33) (ci := 10) hx hb hts iX10_goes_10 hown hK.1 hP 0 rfl rfl 16 (Nat.le_of_ble_eq_true rfl) (hts _ mX10_goes_47) (fun _ h9 => h9) rfl dX10_goes_114 ?_
    refine lv_iload hx hb dX10_goes_117 (lv_at hl 0 rfl) ?_
    refine k_iald hx hb hK.1 hP 13 0 rfl rfl (by omega) (by decide) dX10_goes_119 ?_
    refine lv_iadd hx hb dX10_goes_120 ?_
    refine k_iast hx hb hK.1 hP hD hS 13 0 rfl rfl (by omega) (by decide) dX10_goes_121 (fun H locs hP hD hS => ?_)
    have hP : va_P G vwCl [oB (ma 0) 10 [.ref (ma 1), .int (nI (N 0)), .int (nI (N 3)), .int (nI (N 1)), .int (nI (M 0)), .ref (ma 2), .ref (ma 3), .ref (ma 4), .ref (ma 5), .ref (ma 6), .ref (ma 7), .ref (ma 8), .ref (ma 9), .ref (ma 10), .ref (ma 11), .ref (ma 12), .ref (ma 13), .int (nI (M 1)), .int (nI (M 2)), .int (nI (M 3)), .int C, .ref (ma 14), .ref (ma 15), .int (nI (M 4)), .int (nI (M 5)), .int (nI (M 6)), .int (nI (M 7)), .int (nI (M 8)), .ref (ma 16), .ref (ma 17), .int (nI (M 9)), .ref (ma 18), .int (nI (M 10))], aI cI (ma 1) 7 rf, aI cI (ma 2) 96 T, aI cI (ma 3) 96 (E 0), aI cI (ma 4) 100 X, aI cI (ma 5) 24 (F 27), aI cI (ma 6) 48 (F 17), aI cI (ma 7) 72 (F 18), aI cI (ma 8) 12 (F 19), aI cZ (ma 9) 12 B, aI cI (ma 10) 300 (E 1), aI cI (ma 11) 6 (E 2), aI cI (ma 12) 6 (E 3), aI cI (ma 13) 8 (upd (E 4) (tn (c4 (E 0) 1 l)) (((E 4) (tn (c4 (E 0) 2 l))) + ((E 4) (tn (c4 (E 0) 3 l))))), aI cI (ma 14) 12 (E 5), aI cZ (ma 15) 12 (E 6), aI cI (ma 16) 2400 (E 7), aJ cJ (ma 17) 2400 L, aI cZ (ma 18) 300 (E 8)] H := hP
    have hD : va_D jA [oB (ma 0) 10 [.ref (ma 1), .int (nI (N 0)), .int (nI (N 3)), .int (nI (N 1)), .int (nI (M 0)), .ref (ma 2), .ref (ma 3), .ref (ma 4), .ref (ma 5), .ref (ma 6), .ref (ma 7), .ref (ma 8), .ref (ma 9), .ref (ma 10), .ref (ma 11), .ref (ma 12), .ref (ma 13), .int (nI (M 1)), .int (nI (M 2)), .int (nI (M 3)), .int C, .ref (ma 14), .ref (ma 15), .int (nI (M 4)), .int (nI (M 5)), .int (nI (M 6)), .int (nI (M 7)), .int (nI (M 8)), .ref (ma 16), .ref (ma 17), .int (nI (M 9)), .ref (ma 18), .int (nI (M 10))], aI cI (ma 1) 7 rf, aI cI (ma 2) 96 T, aI cI (ma 3) 96 (E 0), aI cI (ma 4) 100 X, aI cI (ma 5) 24 (F 27), aI cI (ma 6) 48 (F 17), aI cI (ma 7) 72 (F 18), aI cI (ma 8) 12 (F 19), aI cZ (ma 9) 12 B, aI cI (ma 10) 300 (E 1), aI cI (ma 11) 6 (E 2), aI cI (ma 12) 6 (E 3), aI cI (ma 13) 8 (upd (E 4) (tn (c4 (E 0) 1 l)) (((E 4) (tn (c4 (E 0) 2 l))) + ((E 4) (tn (c4 (E 0) 3 l))))), aI cI (ma 14) 12 (E 5), aI cZ (ma 15) 12 (E 6), aI cI (ma 16) 2400 (E 7), aJ cJ (ma 17) 2400 L, aI cZ (ma 18) 300 (E 8)] := hD
    refine lv_goto (tgt := 309) hx hb dX10_goes_122 (by decide) ?_
    refine lv_iload_n hx hb dX10_goes_309 rfl (lv_at hl 5 rfl) ?_
    refine lv_iconst (v := nI 1) hx hb dX10_goes_310 (by decide) ?_
    refine k_iadd hx hb dX10_goes_311 ?_
    exact hret _ _ _ _ _ (l + 1, M 2, M 3, upd (E 4) (tn (c4 (E 0) 1 l)) (((E 4) (tn (c4 (E 0) 2 l))) + ((E 4) (tn (c4 (E 0) 3 l)))), E 2, E 3) dX10_goes_312 (⟨rfl, by rw [r_act_w hop (by decide), if_neg hnl, r_val_1 hop], (r_os_n (by rw [hop]; decide)).symm, by omega, by omega, by omega⟩) hP hD hS
  · skip
    refine lv_tableIn (tgt := 125) (off := 81) hx hb dX10_goes_44 (by decide) (by decide) (by decide) (by decide) ?_
    have hx8 := hx8 (by decide)
    have e4 : c4 (E 0) 1 l = nI (tn (c4 (E 0) 1 l)) := hx8.eq (by decide)
    have lx : tn (c4 (E 0) 1 l) < 8 := hx8.lt (by decide)
    obtain ⟨hy8, hz8⟩ := h123 (by decide)
    have e5 : c4 (E 0) 2 l = nI (tn (c4 (E 0) 2 l)) := hy8.eq (by decide)
    have e6 : c4 (E 0) 3 l = nI (tn (c4 (E 0) 3 l)) := hz8.eq (by decide)
    have ly : tn (c4 (E 0) 2 l) < 8 := hy8.lt (by decide)
    have lz : tn (c4 (E 0) 3 l) < 8 := hz8.lt (by decide)
    have hl : lv_has ls 8 [(6, .int (nI (tn (c4 (E 0) 3 l)))), (5, .int (nI (tn (c4 (E 0) 2 l)))), (4, .int (nI (tn (c4 (E 0) 1 l)))), (0, .ref (ma 0)), (1, .int (nI t)), (2, .int (nI l)), (3, .int kk)] := by rw [← e4, ← e5, ← e6]; exact hl
    refine lv_aload_n hx hb dX10_goes_125 rfl (lv_at hl 3 rfl) ?_
    refine va_get (C := RX10) (T := TX10) (N := 33) (ci := 10) hx hb hts iX10_goes_10 hown hK.1 hP 0 rfl rfl 16 (Nat.le_of_ble_eq_true rfl) (hts _ mX10_goes_47) (fun _ h9 => h9) rfl dX10_goes_126 ?_
    refine lv_iload hx hb dX10_goes_129 (lv_at hl 2 rfl) ?_
    refine lv_aload_n hx hb dX10_goes_131 rfl (lv_at hl 3 rfl) ?_
    refine va_get (C := RX10) (T := TX10) (N := 33) (ci := 10) hx hb hts iX10_goes_10 hown hK.1 hP 0 rfl rfl 16 (Nat.le_of_ble_eq_true rfl) (hts _ mX10_goes_47) (fun _ h9 => h9) rfl dX10_goes_132 ?_
    refine lv_iload hx hb dX10_goes_135 (lv_at hl 1 rfl) ?_
    refine k_iald hx hb hK.1 hP 13 0 rfl rfl (by omega) (by decide) dX10_goes_137 ?_
    refine lv_aload_n hx hb dX10_goes_138 rfl (lv_at hl 3 rfl) ?_
    refine va_get (C := RX10) (T := TX10) (N := 33) (ci := 10) hx hb hts iX10_goes_10 hown hK.1 hP 0 rfl rfl 16 (Nat.le_of_ble_eq_true rfl) (hts _ mX10_goes_47) (fun _ h9 => h9) rfl dX10_goes_139 ?_
    refine lv_iload hx hb dX10_goes_142 (lv_at hl 0 rfl) ?_
    refine k_iald hx hb hK.1 hP 13 0 rfl rfl (by omega) (by decide) dX10_goes_144 ?_
    refine lv_isub hx hb dX10_goes_145 ?_
    refine k_iast hx hb hK.1 hP hD hS 13 0 rfl rfl (by omega) (by decide) dX10_goes_146 (fun H locs hP hD hS => ?_)
    have hP : va_P G vwCl [oB (ma 0) 10 [.ref (ma 1), .int (nI (N 0)), .int (nI (N 3)), .int (nI (N 1)), .int (nI (M 0)), .ref (ma 2), .ref (ma 3), .ref (ma 4), .ref (ma 5), .ref (ma 6), .ref (ma 7), .ref (ma 8), .ref (ma 9), .ref (ma 10), .ref (ma 11), .ref (ma 12), .ref (ma 13), .int (nI (M 1)), .int (nI (M 2)), .int (nI (M 3)), .int C, .ref (ma 14), .ref (ma 15), .int (nI (M 4)), .int (nI (M 5)), .int (nI (M 6)), .int (nI (M 7)), .int (nI (M 8)), .ref (ma 16), .ref (ma 17), .int (nI (M 9)), .ref (ma 18), .int (nI (M 10))], aI cI (ma 1) 7 rf, aI cI (ma 2) 96 T, aI cI (ma 3) 96 (E 0), aI cI (ma 4) 100 X, aI cI (ma 5) 24 (F 27), aI cI (ma 6) 48 (F 17), aI cI (ma 7) 72 (F 18), aI cI (ma 8) 12 (F 19), aI cZ (ma 9) 12 B, aI cI (ma 10) 300 (E 1), aI cI (ma 11) 6 (E 2), aI cI (ma 12) 6 (E 3), aI cI (ma 13) 8 (upd (E 4) (tn (c4 (E 0) 1 l)) (((E 4) (tn (c4 (E 0) 2 l))) - ((E 4) (tn (c4 (E 0) 3 l))))), aI cI (ma 14) 12 (E 5), aI cZ (ma 15) 12 (E 6), aI cI (ma 16) 2400 (E 7), aJ cJ (ma 17) 2400 L, aI cZ (ma 18) 300 (E 8)] H := hP
    have hD : va_D jA [oB (ma 0) 10 [.ref (ma 1), .int (nI (N 0)), .int (nI (N 3)), .int (nI (N 1)), .int (nI (M 0)), .ref (ma 2), .ref (ma 3), .ref (ma 4), .ref (ma 5), .ref (ma 6), .ref (ma 7), .ref (ma 8), .ref (ma 9), .ref (ma 10), .ref (ma 11), .ref (ma 12), .ref (ma 13), .int (nI (M 1)), .int (nI (M 2)), .int (nI (M 3)), .int C, .ref (ma 14), .ref (ma 15), .int (nI (M 4)), .int (nI (M 5)), .int (nI (M 6)), .int (nI (M 7)), .int (nI (M 8)), .ref (ma 16), .ref (ma 17), .int (nI (M 9)), .ref (ma 18), .int (nI (M 10))], aI cI (ma 1) 7 rf, aI cI (ma 2) 96 T, aI cI (ma 3) 96 (E 0), aI cI (ma 4) 100 X, aI cI (ma 5) 24 (F 27), aI cI (ma 6) 48 (F 17), aI cI (ma 7) 72 (F 18), aI cI (ma 8) 12 (F 19), aI cZ (ma 9) 12 B, aI cI (ma 10) 300 (E 1), aI cI (ma 11) 6 (E 2), aI cI (ma 12) 6 (E 3), aI cI (ma 13) 8 (upd (E 4) (tn (c4 (E 0) 1 l)) (((E 4) (tn (c4 (E 0) 2 l))) - ((E 4) (tn (c4 (E 0) 3 l))))), aI cI (ma 14) 12 (E 5), aI cZ (ma 15) 12 (E 6), aI cI (ma 16) 2400 (E 7), aJ cJ (ma 17) 2400 L, aI cZ (ma 18) 300 (E 8)] := hD
    refine lv_goto (tgt := 309) hx hb dX10_goes_147 (by decide) ?_
    refine lv_iload_n hx hb dX10_goes_309 rfl (lv_at hl 5 rfl) ?_
    refine lv_iconst (v := nI 1) hx hb dX10_goes_310 (by decide) ?_
    refine k_iadd hx hb dX10_goes_311 ?_
    exact hret _ _ _ _ _ (l + 1, M 2, M 3, upd (E 4) (tn (c4 (E 0) 1 l)) (((E 4) (tn (c4 (E 0) 2 l))) - ((E 4) (tn (c4 (E 0) 3 l)))), E 2, E 3) dX10_goes_312 (⟨rfl, by rw [r_act_w hop (by decide), if_neg hnl, r_val_2 hop], (r_os_n (by rw [hop]; decide)).symm, by omega, by omega, by omega⟩) hP hD hS
  · skip
    refine lv_tableIn (tgt := 150) (off := 106) hx hb dX10_goes_44 (by decide) (by decide) (by decide) (by decide) ?_
    have hx8 := hx8 (by decide)
    have e4 : c4 (E 0) 1 l = nI (tn (c4 (E 0) 1 l)) := hx8.eq (by decide)
    have lx : tn (c4 (E 0) 1 l) < 8 := hx8.lt (by decide)
    obtain ⟨hy8, hz8⟩ := h123 (by decide)
    have e5 : c4 (E 0) 2 l = nI (tn (c4 (E 0) 2 l)) := hy8.eq (by decide)
    have e6 : c4 (E 0) 3 l = nI (tn (c4 (E 0) 3 l)) := hz8.eq (by decide)
    have ly : tn (c4 (E 0) 2 l) < 8 := hy8.lt (by decide)
    have lz : tn (c4 (E 0) 3 l) < 8 := hz8.lt (by decide)
    have hl : lv_has ls 8 [(6, .int (nI (tn (c4 (E 0) 3 l)))), (5, .int (nI (tn (c4 (E 0) 2 l)))), (4, .int (nI (tn (c4 (E 0) 1 l)))), (0, .ref (ma 0)), (1, .int (nI t)), (2, .int (nI l)), (3, .int kk)] := by rw [← e4, ← e5, ← e6]; exact hl
    refine lv_aload_n hx hb dX10_goes_150 rfl (lv_at hl 3 rfl) ?_
    refine va_get (C := RX10) (T := TX10) (N := 33) (ci := 10) hx hb hts iX10_goes_10 hown hK.1 hP 0 rfl rfl 16 (Nat.le_of_ble_eq_true rfl) (hts _ mX10_goes_47) (fun _ h9 => h9) rfl dX10_goes_151 ?_
    refine lv_iload hx hb dX10_goes_154 (lv_at hl 2 rfl) ?_
    refine lv_aload_n hx hb dX10_goes_156 rfl (lv_at hl 3 rfl) ?_
    refine va_get (C := RX10) (T := TX10) (N := 33) (ci := 10) hx hb hts iX10_goes_10 hown hK.1 hP 0 rfl rfl 16 (Nat.le_of_ble_eq_true rfl) (hts _ mX10_goes_47) (fun _ h9 => h9) rfl dX10_goes_157 ?_
    refine lv_iload hx hb dX10_goes_160 (lv_at hl 1 rfl) ?_
    refine k_iald hx hb hK.1 hP 13 0 rfl rfl (by omega) (by decide) dX10_goes_162 ?_
    refine lv_aload_n hx hb dX10_goes_163 rfl (lv_at hl 3 rfl) ?_
    refine va_get (C := RX10) (T := TX10) (N := 33) (ci := 10) hx hb hts iX10_goes_10 hown hK.1 hP 0 rfl rfl 16 (Nat.le_of_ble_eq_true rfl) (hts _ mX10_goes_47) (fun _ h9 => h9) rfl dX10_goes_164 ?_
    refine lv_iload hx hb dX10_goes_167 (lv_at hl 0 rfl) ?_
    refine k_iald hx hb hK.1 hP 13 0 rfl rfl (by omega) (by decide) dX10_goes_169 ?_
    refine lv_imul hx hb dX10_goes_170 ?_
    refine k_iast hx hb hK.1 hP hD hS 13 0 rfl rfl (by omega) (by decide) dX10_goes_171 (fun H locs hP hD hS => ?_)
    have hP : va_P G vwCl [oB (ma 0) 10 [.ref (ma 1), .int (nI (N 0)), .int (nI (N 3)), .int (nI (N 1)), .int (nI (M 0)), .ref (ma 2), .ref (ma 3), .ref (ma 4), .ref (ma 5), .ref (ma 6), .ref (ma 7), .ref (ma 8), .ref (ma 9), .ref (ma 10), .ref (ma 11), .ref (ma 12), .ref (ma 13), .int (nI (M 1)), .int (nI (M 2)), .int (nI (M 3)), .int C, .ref (ma 14), .ref (ma 15), .int (nI (M 4)), .int (nI (M 5)), .int (nI (M 6)), .int (nI (M 7)), .int (nI (M 8)), .ref (ma 16), .ref (ma 17), .int (nI (M 9)), .ref (ma 18), .int (nI (M 10))], aI cI (ma 1) 7 rf, aI cI (ma 2) 96 T, aI cI (ma 3) 96 (E 0), aI cI (ma 4) 100 X, aI cI (ma 5) 24 (F 27), aI cI (ma 6) 48 (F 17), aI cI (ma 7) 72 (F 18), aI cI (ma 8) 12 (F 19), aI cZ (ma 9) 12 B, aI cI (ma 10) 300 (E 1), aI cI (ma 11) 6 (E 2), aI cI (ma 12) 6 (E 3), aI cI (ma 13) 8 (upd (E 4) (tn (c4 (E 0) 1 l)) (((E 4) (tn (c4 (E 0) 2 l))) * ((E 4) (tn (c4 (E 0) 3 l))))), aI cI (ma 14) 12 (E 5), aI cZ (ma 15) 12 (E 6), aI cI (ma 16) 2400 (E 7), aJ cJ (ma 17) 2400 L, aI cZ (ma 18) 300 (E 8)] H := hP
    have hD : va_D jA [oB (ma 0) 10 [.ref (ma 1), .int (nI (N 0)), .int (nI (N 3)), .int (nI (N 1)), .int (nI (M 0)), .ref (ma 2), .ref (ma 3), .ref (ma 4), .ref (ma 5), .ref (ma 6), .ref (ma 7), .ref (ma 8), .ref (ma 9), .ref (ma 10), .ref (ma 11), .ref (ma 12), .ref (ma 13), .int (nI (M 1)), .int (nI (M 2)), .int (nI (M 3)), .int C, .ref (ma 14), .ref (ma 15), .int (nI (M 4)), .int (nI (M 5)), .int (nI (M 6)), .int (nI (M 7)), .int (nI (M 8)), .ref (ma 16), .ref (ma 17), .int (nI (M 9)), .ref (ma 18), .int (nI (M 10))], aI cI (ma 1) 7 rf, aI cI (ma 2) 96 T, aI cI (ma 3) 96 (E 0), aI cI (ma 4) 100 X, aI cI (ma 5) 24 (F 27), aI cI (ma 6) 48 (F 17), aI cI (ma 7) 72 (F 18), aI cI (ma 8) 12 (F 19), aI cZ (ma 9) 12 B, aI cI (ma 10) 300 (E 1), aI cI (ma 11) 6 (E 2), aI cI (ma 12) 6 (E 3), aI cI (ma 13) 8 (upd (E 4) (tn (c4 (E 0) 1 l)) (((E 4) (tn (c4 (E 0) 2 l))) * ((E 4) (tn (c4 (E 0) 3 l))))), aI cI (ma 14) 12 (E 5), aI cZ (ma 15) 12 (E 6), aI cI (ma 16) 2400 (E 7), aJ cJ (ma 17) 2400 L, aI cZ (ma 18) 300 (E 8)] := hD
    refine lv_goto (tgt := 309) hx hb dX10_goes_172 (by decide) ?_
    refine lv_iload_n hx hb dX10_goes_309 rfl (lv_at hl 5 rfl) ?_
    refine lv_iconst (v := nI 1) hx hb dX10_goes_310 (by decide) ?_
    refine k_iadd hx hb dX10_goes_311 ?_
    exact hret _ _ _ _ _ (l + 1, M 2, M 3, upd (E 4) (tn (c4 (E 0) 1 l)) (((E 4) (tn (c4 (E 0) 2 l))) * ((E 4) (tn (c4 (E 0) 3 l)))), E 2, E 3) dX10_goes_312 (⟨rfl, by rw [r_act_w hop (by decide), if_neg hnl, r_val_3 hop], (r_os_n (by rw [hop]; decide)).symm, by omega, by omega, by omega⟩) hP hD hS
  · skip
    refine lv_tableIn (tgt := 175) (off := 131) hx hb dX10_goes_44 (by decide) (by decide) (by decide) (by decide) ?_
    have hx8 := hx8 (by decide)
    have e4 : c4 (E 0) 1 l = nI (tn (c4 (E 0) 1 l)) := hx8.eq (by decide)
    have lx : tn (c4 (E 0) 1 l) < 8 := hx8.lt (by decide)
    have hy4 := h4 rfl
    have e5 : c4 (E 0) 2 l = nI (tn (c4 (E 0) 2 l)) := hy4.eq (by decide)
    have ly : tn (c4 (E 0) 2 l) < 4 := hy4.lt (by decide)
    have hl : lv_has ls 8 [(6, .int ((E 0) ((4 * l) + 3))), (5, .int (nI (tn (c4 (E 0) 2 l)))), (4, .int (nI (tn (c4 (E 0) 1 l)))), (0, .ref (ma 0)), (1, .int (nI t)), (2, .int (nI l)), (3, .int kk)] := by rw [← e4, ← e5]; exact hl
    refine lv_aload_n hx hb dX10_goes_175 rfl (lv_at hl 3 rfl) ?_
    refine va_get (C := RX10) (T := TX10) (N := 33) (ci := 10) hx hb hts iX10_goes_10 hown hK.1 hP 0 rfl rfl 16 (Nat.le_of_ble_eq_true rfl) (hts _ mX10_goes_47) (fun _ h9 => h9) rfl dX10_goes_176 ?_
    refine lv_iload hx hb dX10_goes_179 (lv_at hl 2 rfl) ?_
    refine lv_aload_n hx hb dX10_goes_181 rfl (lv_at hl 3 rfl) ?_
    refine va_get (C := RX10) (T := TX10) (N := 33) (ci := 10) hx hb hts iX10_goes_10 hown hK.1 hP 0 rfl rfl 9 (Nat.le_of_ble_eq_true rfl) (hts _ mX10_goes_25) (fun _ h9 => h9) rfl dX10_goes_182 ?_
    refine lv_iconst (v := nI 4) hx hb dX10_goes_185 (by decide) ?_
    refine lv_iload_n hx hb dX10_goes_186 rfl (lv_at hl 4 rfl) ?_
    refine k_imul hx hb dX10_goes_187 ?_
    refine lv_iload hx hb dX10_goes_188 (lv_at hl 1 rfl) ?_
    refine k_iadd hx hb dX10_goes_190 ?_
    refine k_iald hx hb hK.1 hP 6 0 rfl rfl (by omega) (by decide) dX10_goes_191 ?_
    refine k_iast hx hb hK.1 hP hD hS 13 0 rfl rfl (by omega) (by decide) dX10_goes_192 (fun H locs hP hD hS => ?_)
    have hP : va_P G vwCl [oB (ma 0) 10 [.ref (ma 1), .int (nI (N 0)), .int (nI (N 3)), .int (nI (N 1)), .int (nI (M 0)), .ref (ma 2), .ref (ma 3), .ref (ma 4), .ref (ma 5), .ref (ma 6), .ref (ma 7), .ref (ma 8), .ref (ma 9), .ref (ma 10), .ref (ma 11), .ref (ma 12), .ref (ma 13), .int (nI (M 1)), .int (nI (M 2)), .int (nI (M 3)), .int C, .ref (ma 14), .ref (ma 15), .int (nI (M 4)), .int (nI (M 5)), .int (nI (M 6)), .int (nI (M 7)), .int (nI (M 8)), .ref (ma 16), .ref (ma 17), .int (nI (M 9)), .ref (ma 18), .int (nI (M 10))], aI cI (ma 1) 7 rf, aI cI (ma 2) 96 T, aI cI (ma 3) 96 (E 0), aI cI (ma 4) 100 X, aI cI (ma 5) 24 (F 27), aI cI (ma 6) 48 (F 17), aI cI (ma 7) 72 (F 18), aI cI (ma 8) 12 (F 19), aI cZ (ma 9) 12 B, aI cI (ma 10) 300 (E 1), aI cI (ma 11) 6 (E 2), aI cI (ma 12) 6 (E 3), aI cI (ma 13) 8 (upd (E 4) (tn (c4 (E 0) 1 l)) ((F 17) ((4 * t) + (tn (c4 (E 0) 2 l))))), aI cI (ma 14) 12 (E 5), aI cZ (ma 15) 12 (E 6), aI cI (ma 16) 2400 (E 7), aJ cJ (ma 17) 2400 L, aI cZ (ma 18) 300 (E 8)] H := hP
    have hD : va_D jA [oB (ma 0) 10 [.ref (ma 1), .int (nI (N 0)), .int (nI (N 3)), .int (nI (N 1)), .int (nI (M 0)), .ref (ma 2), .ref (ma 3), .ref (ma 4), .ref (ma 5), .ref (ma 6), .ref (ma 7), .ref (ma 8), .ref (ma 9), .ref (ma 10), .ref (ma 11), .ref (ma 12), .ref (ma 13), .int (nI (M 1)), .int (nI (M 2)), .int (nI (M 3)), .int C, .ref (ma 14), .ref (ma 15), .int (nI (M 4)), .int (nI (M 5)), .int (nI (M 6)), .int (nI (M 7)), .int (nI (M 8)), .ref (ma 16), .ref (ma 17), .int (nI (M 9)), .ref (ma 18), .int (nI (M 10))], aI cI (ma 1) 7 rf, aI cI (ma 2) 96 T, aI cI (ma 3) 96 (E 0), aI cI (ma 4) 100 X, aI cI (ma 5) 24 (F 27), aI cI (ma 6) 48 (F 17), aI cI (ma 7) 72 (F 18), aI cI (ma 8) 12 (F 19), aI cZ (ma 9) 12 B, aI cI (ma 10) 300 (E 1), aI cI (ma 11) 6 (E 2), aI cI (ma 12) 6 (E 3), aI cI (ma 13) 8 (upd (E 4) (tn (c4 (E 0) 1 l)) ((F 17) ((4 * t) + (tn (c4 (E 0) 2 l))))), aI cI (ma 14) 12 (E 5), aI cZ (ma 15) 12 (E 6), aI cI (ma 16) 2400 (E 7), aJ cJ (ma 17) 2400 L, aI cZ (ma 18) 300 (E 8)] := hD
    refine lv_goto (tgt := 309) hx hb dX10_goes_193 (by decide) ?_
    refine lv_iload_n hx hb dX10_goes_309 rfl (lv_at hl 5 rfl) ?_
    refine lv_iconst (v := nI 1) hx hb dX10_goes_310 (by decide) ?_
    refine k_iadd hx hb dX10_goes_311 ?_
    exact hret _ _ _ _ _ (l + 1, M 2, M 3, upd (E 4) (tn (c4 (E 0) 1 l)) ((F 17) ((4 * t) + (tn (c4 (E 0) 2 l)))), E 2, E 3) dX10_goes_312 (⟨rfl, by rw [r_act_w hop (by decide), if_neg hnl, r_val_4 hop]; rw [Nat.mul_comm t 4], (r_os_n (by rw [hop]; decide)).symm, by omega, by omega, by omega⟩) hP hD hS
  · skip
    refine lv_tableIn (tgt := 196) (off := 152) hx hb dX10_goes_44 (by decide) (by decide) (by decide) (by decide) ?_
    have hx8 := hx8 (by decide)
    have e4 : c4 (E 0) 1 l = nI (tn (c4 (E 0) 1 l)) := hx8.eq (by decide)
    have lx : tn (c4 (E 0) 1 l) < 8 := hx8.lt (by decide)
    obtain ⟨hy8, hz25⟩ := h5 rfl
    have e5 : c4 (E 0) 2 l = nI (tn (c4 (E 0) 2 l)) := hy8.eq (by decide)
    have e6 : c4 (E 0) 3 l = nI (tn (c4 (E 0) 3 l)) := hz25.eq (by decide)
    have ly : tn (c4 (E 0) 2 l) < 8 := hy8.lt (by decide)
    have lz : tn (c4 (E 0) 3 l) < 25 := hz25.lt (by decide)
    have hl : lv_has ls 8 [(6, .int (nI (tn (c4 (E 0) 3 l)))), (5, .int (nI (tn (c4 (E 0) 2 l)))), (4, .int (nI (tn (c4 (E 0) 1 l)))), (0, .ref (ma 0)), (1, .int (nI t)), (2, .int (nI l)), (3, .int kk)] := by rw [← e4, ← e5, ← e6]; exact hl
    refine lv_aload_n hx hb dX10_goes_196 rfl (lv_at hl 3 rfl) ?_
    refine va_get (C := RX10) (T := TX10) (N := 33) (ci := 10) hx hb hts iX10_goes_10 hown hK.1 hP 0 rfl rfl 16 (Nat.le_of_ble_eq_true rfl) (hts _ mX10_goes_47) (fun _ h9 => h9) rfl dX10_goes_197 ?_
    refine lv_iload hx hb dX10_goes_200 (lv_at hl 2 rfl) ?_
    refine k_iald hx hb hK.1 hP 13 0 rfl rfl (by omega) (by decide) dX10_goes_202 ?_
    refine lv_aload_n hx hb dX10_goes_203 rfl (lv_at hl 3 rfl) ?_
    refine va_get (C := RX10) (T := TX10) (N := 33) (ci := 10) hx hb hts iX10_goes_10 hown hK.1 hP 0 rfl rfl 16 (Nat.le_of_ble_eq_true rfl) (hts _ mX10_goes_47) (fun _ h9 => h9) rfl dX10_goes_204 ?_
    refine lv_iload hx hb dX10_goes_207 (lv_at hl 1 rfl) ?_
    refine k_iald hx hb hK.1 hP 13 0 rfl rfl (by omega) (by decide) dX10_goes_209 ?_
    refine lv_icmp_ge (tgt := 217) hx hb dX10_goes_210 (by decide) (fun h1 => ?_) (fun h1 => ?_)
    · skip
      refine lv_iconst (v := nI 0) hx hb dX10_goes_217 (by decide) ?_
      refine lv_aload_n hx hb dX10_goes_218 rfl (lv_at hl 3 rfl) ?_
      refine va_get (C := RX10) (T := TX10) (N := 33) (ci := 10) hx hb hts iX10_goes_10 hown hK.1 hP 0 rfl rfl 19 (Nat.le_of_ble_eq_true rfl) (hts _ mX10_goes_112) (fun _ h9 => h9) rfl dX10_goes_219 ?_
      refine lv_iload_n hx hb dX10_goes_222 rfl (lv_at hl 6 rfl) ?_
      refine lv_icmp_ne (tgt := 230) hx hb dX10_goes_223 (by decide) (fun h2 => ?_) (fun h2 => ?_)
      · skip
        refine lv_iconst (v := nI 0) hx hb dX10_goes_230 (by decide) ?_
        refine k_cmp_eq (tgt := 238) hx hb dX10_goes_231 (by decide) (by decide) (by decide) (fun c_1 => ?_) (fun c_1 => ?_)
        · skip
          refine lv_iconst (v := nI 0) hx hb dX10_goes_238 (by decide) ?_
          refine lv_istore (lv' := [(7, .int (nI 0)), (6, .int (nI (tn (c4 (E 0) 3 l)))), (5, .int (nI (tn (c4 (E 0) 2 l)))), (4, .int (nI (tn (c4 (E 0) 1 l)))), (0, .ref (ma 0)), (1, .int (nI t)), (2, .int (nI l)), (3, .int kk)]) hx hb dX10_goes_239 hl (by decide) rfl (fun ls hl => ?_)
          refine lv_aload_n hx hb dX10_goes_241 rfl (lv_at hl 4 rfl) ?_
          refine lv_dup hx hb dX10_goes_242 rfl ?_
          refine va_get (C := RX10) (T := TX10) (N := 33) (ci := 10) hx hb hts iX10_goes_10 hown hK.1 hP 0 rfl rfl 19 (Nat.le_of_ble_eq_true rfl) (hts _ mX10_goes_112) (fun _ h9 => h9) rfl dX10_goes_243 ?_
          refine lv_iconst (v := nI 1) hx hb dX10_goes_246 (by decide) ?_
          refine k_iadd hx hb dX10_goes_247 ?_
          refine va_put (C := RX10) (T := TX10) (N := 33) (ci := 10) (v := .int (nI ((M 3) + 1))) (ty := tyX10 19) hx hb hts iX10_goes_10 tyX10 tyX10_ok nmX10 hown hK.1 hP hD hS 0 rfl rfl 19 (Nat.le_of_ble_eq_true rfl) (hts _ mX10_goes_112) (fun _ h9 => h9) rfl (tyX10_ok 19 (Nat.le_of_ble_eq_true rfl)) (rfl) (rfl) (Nat.le_of_ble_eq_true rfl) dX10_goes_248 (fun H locs hP hD hS => ?_)
          have hP : va_P G vwCl [oB (ma 0) 10 [.ref (ma 1), .int (nI (N 0)), .int (nI (N 3)), .int (nI (N 1)), .int (nI (M 0)), .ref (ma 2), .ref (ma 3), .ref (ma 4), .ref (ma 5), .ref (ma 6), .ref (ma 7), .ref (ma 8), .ref (ma 9), .ref (ma 10), .ref (ma 11), .ref (ma 12), .ref (ma 13), .int (nI (M 1)), .int (nI (M 2)), .int (nI ((M 3) + 1)), .int C, .ref (ma 14), .ref (ma 15), .int (nI (M 4)), .int (nI (M 5)), .int (nI (M 6)), .int (nI (M 7)), .int (nI (M 8)), .ref (ma 16), .ref (ma 17), .int (nI (M 9)), .ref (ma 18), .int (nI (M 10))], aI cI (ma 1) 7 rf, aI cI (ma 2) 96 T, aI cI (ma 3) 96 (E 0), aI cI (ma 4) 100 X, aI cI (ma 5) 24 (F 27), aI cI (ma 6) 48 (F 17), aI cI (ma 7) 72 (F 18), aI cI (ma 8) 12 (F 19), aI cZ (ma 9) 12 B, aI cI (ma 10) 300 (E 1), aI cI (ma 11) 6 (E 2), aI cI (ma 12) 6 (E 3), aI cI (ma 13) 8 (E 4), aI cI (ma 14) 12 (E 5), aI cZ (ma 15) 12 (E 6), aI cI (ma 16) 2400 (E 7), aJ cJ (ma 17) 2400 L, aI cZ (ma 18) 300 (E 8)] H := hP
          have hD : va_D jA [oB (ma 0) 10 [.ref (ma 1), .int (nI (N 0)), .int (nI (N 3)), .int (nI (N 1)), .int (nI (M 0)), .ref (ma 2), .ref (ma 3), .ref (ma 4), .ref (ma 5), .ref (ma 6), .ref (ma 7), .ref (ma 8), .ref (ma 9), .ref (ma 10), .ref (ma 11), .ref (ma 12), .ref (ma 13), .int (nI (M 1)), .int (nI (M 2)), .int (nI ((M 3) + 1)), .int C, .ref (ma 14), .ref (ma 15), .int (nI (M 4)), .int (nI (M 5)), .int (nI (M 6)), .int (nI (M 7)), .int (nI (M 8)), .ref (ma 16), .ref (ma 17), .int (nI (M 9)), .ref (ma 18), .int (nI (M 10))], aI cI (ma 1) 7 rf, aI cI (ma 2) 96 T, aI cI (ma 3) 96 (E 0), aI cI (ma 4) 100 X, aI cI (ma 5) 24 (F 27), aI cI (ma 6) 48 (F 17), aI cI (ma 7) 72 (F 18), aI cI (ma 8) 12 (F 19), aI cZ (ma 9) 12 B, aI cI (ma 10) 300 (E 1), aI cI (ma 11) 6 (E 2), aI cI (ma 12) 6 (E 3), aI cI (ma 13) 8 (E 4), aI cI (ma 14) 12 (E 5), aI cZ (ma 15) 12 (E 6), aI cI (ma 16) 2400 (E 7), aJ cJ (ma 17) 2400 L, aI cZ (ma 18) 300 (E 8)] := hD
          refine lv_iload hx hb dX10_goes_251 (lv_at hl 0 rfl) ?_
          refine k_if_eq_t (tgt := 261) hx hb dX10_goes_253 (by decide) (by decide) ?_
          refine lv_iload_n hx hb dX10_goes_261 rfl (lv_at hl 6 rfl) ?_
          refine lv_iconst (v := nI 1) hx hb dX10_goes_262 (by decide) ?_
          refine k_iadd hx hb dX10_goes_263 ?_
          exact hret _ _ _ _ _ (l + 1, M 2, (M 3) + 1, E 4, E 2, E 3) dX10_goes_264 (⟨rfl, by rw [r_act_5 hop]; rw [decide_eq_false (Int32.not_lt.mpr h1), decide_eq_false h2]; rfl, (r_os_n (by rw [hop]; decide)).symm, by omega, by omega, by omega⟩) hP hD hS
        · skip
          exact absurd c_1 (by decide)
      · skip
        refine lv_iconst (v := nI 1) hx hb dX10_goes_226 (by decide) ?_
        refine lv_goto (tgt := 231) hx hb dX10_goes_227 (by decide) ?_
        refine k_cmp_eq (tgt := 238) hx hb dX10_goes_231 (by decide) (by decide) (by decide) (fun c_3 => ?_) (fun c_3 => ?_)
        · skip
          exact absurd c_3 (by decide)
        · skip
          refine lv_iconst (v := nI 1) hx hb dX10_goes_234 (by decide) ?_
          refine lv_goto (tgt := 239) hx hb dX10_goes_235 (by decide) ?_
          refine lv_istore (lv' := [(7, .int (nI 1)), (6, .int (nI (tn (c4 (E 0) 3 l)))), (5, .int (nI (tn (c4 (E 0) 2 l)))), (4, .int (nI (tn (c4 (E 0) 1 l)))), (0, .ref (ma 0)), (1, .int (nI t)), (2, .int (nI l)), (3, .int kk)]) hx hb dX10_goes_239 hl (by decide) rfl (fun ls hl => ?_)
          refine lv_aload_n hx hb dX10_goes_241 rfl (lv_at hl 4 rfl) ?_
          refine lv_dup hx hb dX10_goes_242 rfl ?_
          refine va_get (C := RX10) (T := TX10) (N := 33) (ci := 10) hx hb hts iX10_goes_10 hown hK.1 hP 0 rfl rfl 19 (Nat.le_of_ble_eq_true rfl) (hts _ mX10_goes_112) (fun _ h9 => h9) rfl dX10_goes_243 ?_
          refine lv_iconst (v := nI 1) hx hb dX10_goes_246 (by decide) ?_
          refine k_iadd hx hb dX10_goes_247 ?_
          refine va_put (C := RX10) (T := TX10) (N := 33) (ci := 10) (v := .int (nI ((M 3) + 1))) (ty := tyX10 19) hx hb hts iX10_goes_10 tyX10 tyX10_ok nmX10 hown hK.1 hP hD hS 0 rfl rfl 19 (Nat.le_of_ble_eq_true rfl) (hts _ mX10_goes_112) (fun _ h9 => h9) rfl (tyX10_ok 19 (Nat.le_of_ble_eq_true rfl)) (rfl) (rfl) (Nat.le_of_ble_eq_true rfl) dX10_goes_248 (fun H locs hP hD hS => ?_)
          have hP : va_P G vwCl [oB (ma 0) 10 [.ref (ma 1), .int (nI (N 0)), .int (nI (N 3)), .int (nI (N 1)), .int (nI (M 0)), .ref (ma 2), .ref (ma 3), .ref (ma 4), .ref (ma 5), .ref (ma 6), .ref (ma 7), .ref (ma 8), .ref (ma 9), .ref (ma 10), .ref (ma 11), .ref (ma 12), .ref (ma 13), .int (nI (M 1)), .int (nI (M 2)), .int (nI ((M 3) + 1)), .int C, .ref (ma 14), .ref (ma 15), .int (nI (M 4)), .int (nI (M 5)), .int (nI (M 6)), .int (nI (M 7)), .int (nI (M 8)), .ref (ma 16), .ref (ma 17), .int (nI (M 9)), .ref (ma 18), .int (nI (M 10))], aI cI (ma 1) 7 rf, aI cI (ma 2) 96 T, aI cI (ma 3) 96 (E 0), aI cI (ma 4) 100 X, aI cI (ma 5) 24 (F 27), aI cI (ma 6) 48 (F 17), aI cI (ma 7) 72 (F 18), aI cI (ma 8) 12 (F 19), aI cZ (ma 9) 12 B, aI cI (ma 10) 300 (E 1), aI cI (ma 11) 6 (E 2), aI cI (ma 12) 6 (E 3), aI cI (ma 13) 8 (E 4), aI cI (ma 14) 12 (E 5), aI cZ (ma 15) 12 (E 6), aI cI (ma 16) 2400 (E 7), aJ cJ (ma 17) 2400 L, aI cZ (ma 18) 300 (E 8)] H := hP
          have hD : va_D jA [oB (ma 0) 10 [.ref (ma 1), .int (nI (N 0)), .int (nI (N 3)), .int (nI (N 1)), .int (nI (M 0)), .ref (ma 2), .ref (ma 3), .ref (ma 4), .ref (ma 5), .ref (ma 6), .ref (ma 7), .ref (ma 8), .ref (ma 9), .ref (ma 10), .ref (ma 11), .ref (ma 12), .ref (ma 13), .int (nI (M 1)), .int (nI (M 2)), .int (nI ((M 3) + 1)), .int C, .ref (ma 14), .ref (ma 15), .int (nI (M 4)), .int (nI (M 5)), .int (nI (M 6)), .int (nI (M 7)), .int (nI (M 8)), .ref (ma 16), .ref (ma 17), .int (nI (M 9)), .ref (ma 18), .int (nI (M 10))], aI cI (ma 1) 7 rf, aI cI (ma 2) 96 T, aI cI (ma 3) 96 (E 0), aI cI (ma 4) 100 X, aI cI (ma 5) 24 (F 27), aI cI (ma 6) 48 (F 17), aI cI (ma 7) 72 (F 18), aI cI (ma 8) 12 (F 19), aI cZ (ma 9) 12 B, aI cI (ma 10) 300 (E 1), aI cI (ma 11) 6 (E 2), aI cI (ma 12) 6 (E 3), aI cI (ma 13) 8 (E 4), aI cI (ma 14) 12 (E 5), aI cZ (ma 15) 12 (E 6), aI cI (ma 16) 2400 (E 7), aJ cJ (ma 17) 2400 L, aI cZ (ma 18) 300 (E 8)] := hD
          refine lv_iload hx hb dX10_goes_251 (lv_at hl 0 rfl) ?_
          refine k_if_eq_f (tgt := 261) hx hb dX10_goes_253 (by decide) (by decide) ?_
          refine lv_iload hx hb dX10_goes_256 (lv_at hl 1 rfl) ?_
          refine lv_goto (tgt := 264) hx hb dX10_goes_258 (by decide) ?_
          exact hret _ _ _ _ _ (tn (c4 (E 0) 3 l), M 2, (M 3) + 1, E 4, E 2, E 3) dX10_goes_264 (⟨rfl, by rw [r_act_5 hop]; rw [decide_eq_false (Int32.not_lt.mpr h1), decide_eq_true h2]; rfl, (r_os_n (by rw [hop]; decide)).symm, by omega, by omega, by omega⟩) hP hD hS
    · skip
      refine lv_iconst (v := nI 1) hx hb dX10_goes_213 (by decide) ?_
      refine lv_goto (tgt := 218) hx hb dX10_goes_214 (by decide) ?_
      refine lv_aload_n hx hb dX10_goes_218 rfl (lv_at hl 3 rfl) ?_
      refine va_get (C := RX10) (T := TX10) (N := 33) (ci := 10) hx hb hts iX10_goes_10 hown hK.1 hP 0 rfl rfl 19 (Nat.le_of_ble_eq_true rfl) (hts _ mX10_goes_112) (fun _ h9 => h9) rfl dX10_goes_219 ?_
      refine lv_iload_n hx hb dX10_goes_222 rfl (lv_at hl 6 rfl) ?_
      refine lv_icmp_ne (tgt := 230) hx hb dX10_goes_223 (by decide) (fun h2 => ?_) (fun h2 => ?_)
      · skip
        refine lv_iconst (v := nI 0) hx hb dX10_goes_230 (by decide) ?_
        refine k_cmp_eq (tgt := 238) hx hb dX10_goes_231 (by decide) (by decide) (by decide) (fun c_5 => ?_) (fun c_5 => ?_)
        · skip
          exact absurd c_5 (by decide)
        · skip
          refine lv_iconst (v := nI 1) hx hb dX10_goes_234 (by decide) ?_
          refine lv_goto (tgt := 239) hx hb dX10_goes_235 (by decide) ?_
          refine lv_istore (lv' := [(7, .int (nI 1)), (6, .int (nI (tn (c4 (E 0) 3 l)))), (5, .int (nI (tn (c4 (E 0) 2 l)))), (4, .int (nI (tn (c4 (E 0) 1 l)))), (0, .ref (ma 0)), (1, .int (nI t)), (2, .int (nI l)), (3, .int kk)]) hx hb dX10_goes_239 hl (by decide) rfl (fun ls hl => ?_)
          refine lv_aload_n hx hb dX10_goes_241 rfl (lv_at hl 4 rfl) ?_
          refine lv_dup hx hb dX10_goes_242 rfl ?_
          refine va_get (C := RX10) (T := TX10) (N := 33) (ci := 10) hx hb hts iX10_goes_10 hown hK.1 hP 0 rfl rfl 19 (Nat.le_of_ble_eq_true rfl) (hts _ mX10_goes_112) (fun _ h9 => h9) rfl dX10_goes_243 ?_
          refine lv_iconst (v := nI 1) hx hb dX10_goes_246 (by decide) ?_
          refine k_iadd hx hb dX10_goes_247 ?_
          refine va_put (C := RX10) (T := TX10) (N := 33) (ci := 10) (v := .int (nI ((M 3) + 1))) (ty := tyX10 19) hx hb hts iX10_goes_10 tyX10 tyX10_ok nmX10 hown hK.1 hP hD hS 0 rfl rfl 19 (Nat.le_of_ble_eq_true rfl) (hts _ mX10_goes_112) (fun _ h9 => h9) rfl (tyX10_ok 19 (Nat.le_of_ble_eq_true rfl)) (rfl) (rfl) (Nat.le_of_ble_eq_true rfl) dX10_goes_248 (fun H locs hP hD hS => ?_)
          have hP : va_P G vwCl [oB (ma 0) 10 [.ref (ma 1), .int (nI (N 0)), .int (nI (N 3)), .int (nI (N 1)), .int (nI (M 0)), .ref (ma 2), .ref (ma 3), .ref (ma 4), .ref (ma 5), .ref (ma 6), .ref (ma 7), .ref (ma 8), .ref (ma 9), .ref (ma 10), .ref (ma 11), .ref (ma 12), .ref (ma 13), .int (nI (M 1)), .int (nI (M 2)), .int (nI ((M 3) + 1)), .int C, .ref (ma 14), .ref (ma 15), .int (nI (M 4)), .int (nI (M 5)), .int (nI (M 6)), .int (nI (M 7)), .int (nI (M 8)), .ref (ma 16), .ref (ma 17), .int (nI (M 9)), .ref (ma 18), .int (nI (M 10))], aI cI (ma 1) 7 rf, aI cI (ma 2) 96 T, aI cI (ma 3) 96 (E 0), aI cI (ma 4) 100 X, aI cI (ma 5) 24 (F 27), aI cI (ma 6) 48 (F 17), aI cI (ma 7) 72 (F 18), aI cI (ma 8) 12 (F 19), aI cZ (ma 9) 12 B, aI cI (ma 10) 300 (E 1), aI cI (ma 11) 6 (E 2), aI cI (ma 12) 6 (E 3), aI cI (ma 13) 8 (E 4), aI cI (ma 14) 12 (E 5), aI cZ (ma 15) 12 (E 6), aI cI (ma 16) 2400 (E 7), aJ cJ (ma 17) 2400 L, aI cZ (ma 18) 300 (E 8)] H := hP
          have hD : va_D jA [oB (ma 0) 10 [.ref (ma 1), .int (nI (N 0)), .int (nI (N 3)), .int (nI (N 1)), .int (nI (M 0)), .ref (ma 2), .ref (ma 3), .ref (ma 4), .ref (ma 5), .ref (ma 6), .ref (ma 7), .ref (ma 8), .ref (ma 9), .ref (ma 10), .ref (ma 11), .ref (ma 12), .ref (ma 13), .int (nI (M 1)), .int (nI (M 2)), .int (nI ((M 3) + 1)), .int C, .ref (ma 14), .ref (ma 15), .int (nI (M 4)), .int (nI (M 5)), .int (nI (M 6)), .int (nI (M 7)), .int (nI (M 8)), .ref (ma 16), .ref (ma 17), .int (nI (M 9)), .ref (ma 18), .int (nI (M 10))], aI cI (ma 1) 7 rf, aI cI (ma 2) 96 T, aI cI (ma 3) 96 (E 0), aI cI (ma 4) 100 X, aI cI (ma 5) 24 (F 27), aI cI (ma 6) 48 (F 17), aI cI (ma 7) 72 (F 18), aI cI (ma 8) 12 (F 19), aI cZ (ma 9) 12 B, aI cI (ma 10) 300 (E 1), aI cI (ma 11) 6 (E 2), aI cI (ma 12) 6 (E 3), aI cI (ma 13) 8 (E 4), aI cI (ma 14) 12 (E 5), aI cZ (ma 15) 12 (E 6), aI cI (ma 16) 2400 (E 7), aJ cJ (ma 17) 2400 L, aI cZ (ma 18) 300 (E 8)] := hD
          refine lv_iload hx hb dX10_goes_251 (lv_at hl 0 rfl) ?_
          refine k_if_eq_f (tgt := 261) hx hb dX10_goes_253 (by decide) (by decide) ?_
          refine lv_iload hx hb dX10_goes_256 (lv_at hl 1 rfl) ?_
          refine lv_goto (tgt := 264) hx hb dX10_goes_258 (by decide) ?_
          exact hret _ _ _ _ _ (tn (c4 (E 0) 3 l), M 2, (M 3) + 1, E 4, E 2, E 3) dX10_goes_264 (⟨rfl, by rw [r_act_5 hop]; rw [decide_eq_true (Int32.not_le.mp h1), decide_eq_false h2]; rfl, (r_os_n (by rw [hop]; decide)).symm, by omega, by omega, by omega⟩) hP hD hS
      · skip
        refine lv_iconst (v := nI 1) hx hb dX10_goes_226 (by decide) ?_
        refine lv_goto (tgt := 231) hx hb dX10_goes_227 (by decide) ?_
        refine k_cmp_eq (tgt := 238) hx hb dX10_goes_231 (by decide) (by decide) (by decide) (fun c_7 => ?_) (fun c_7 => ?_)
        · skip
          refine lv_iconst (v := nI 0) hx hb dX10_goes_238 (by decide) ?_
          refine lv_istore (lv' := [(7, .int (nI 0)), (6, .int (nI (tn (c4 (E 0) 3 l)))), (5, .int (nI (tn (c4 (E 0) 2 l)))), (4, .int (nI (tn (c4 (E 0) 1 l)))), (0, .ref (ma 0)), (1, .int (nI t)), (2, .int (nI l)), (3, .int kk)]) hx hb dX10_goes_239 hl (by decide) rfl (fun ls hl => ?_)
          refine lv_aload_n hx hb dX10_goes_241 rfl (lv_at hl 4 rfl) ?_
          refine lv_dup hx hb dX10_goes_242 rfl ?_
          refine va_get (C := RX10) (T := TX10) (N := 33) (ci := 10) hx hb hts iX10_goes_10 hown hK.1 hP 0 rfl rfl 19 (Nat.le_of_ble_eq_true rfl) (hts _ mX10_goes_112) (fun _ h9 => h9) rfl dX10_goes_243 ?_
          refine lv_iconst (v := nI 1) hx hb dX10_goes_246 (by decide) ?_
          refine k_iadd hx hb dX10_goes_247 ?_
          refine va_put (C := RX10) (T := TX10) (N := 33) (ci := 10) (v := .int (nI ((M 3) + 1))) (ty := tyX10 19) hx hb hts iX10_goes_10 tyX10 tyX10_ok nmX10 hown hK.1 hP hD hS 0 rfl rfl 19 (Nat.le_of_ble_eq_true rfl) (hts _ mX10_goes_112) (fun _ h9 => h9) rfl (tyX10_ok 19 (Nat.le_of_ble_eq_true rfl)) (rfl) (rfl) (Nat.le_of_ble_eq_true rfl) dX10_goes_248 (fun H locs hP hD hS => ?_)
          have hP : va_P G vwCl [oB (ma 0) 10 [.ref (ma 1), .int (nI (N 0)), .int (nI (N 3)), .int (nI (N 1)), .int (nI (M 0)), .ref (ma 2), .ref (ma 3), .ref (ma 4), .ref (ma 5), .ref (ma 6), .ref (ma 7), .ref (ma 8), .ref (ma 9), .ref (ma 10), .ref (ma 11), .ref (ma 12), .ref (ma 13), .int (nI (M 1)), .int (nI (M 2)), .int (nI ((M 3) + 1)), .int C, .ref (ma 14), .ref (ma 15), .int (nI (M 4)), .int (nI (M 5)), .int (nI (M 6)), .int (nI (M 7)), .int (nI (M 8)), .ref (ma 16), .ref (ma 17), .int (nI (M 9)), .ref (ma 18), .int (nI (M 10))], aI cI (ma 1) 7 rf, aI cI (ma 2) 96 T, aI cI (ma 3) 96 (E 0), aI cI (ma 4) 100 X, aI cI (ma 5) 24 (F 27), aI cI (ma 6) 48 (F 17), aI cI (ma 7) 72 (F 18), aI cI (ma 8) 12 (F 19), aI cZ (ma 9) 12 B, aI cI (ma 10) 300 (E 1), aI cI (ma 11) 6 (E 2), aI cI (ma 12) 6 (E 3), aI cI (ma 13) 8 (E 4), aI cI (ma 14) 12 (E 5), aI cZ (ma 15) 12 (E 6), aI cI (ma 16) 2400 (E 7), aJ cJ (ma 17) 2400 L, aI cZ (ma 18) 300 (E 8)] H := hP
          have hD : va_D jA [oB (ma 0) 10 [.ref (ma 1), .int (nI (N 0)), .int (nI (N 3)), .int (nI (N 1)), .int (nI (M 0)), .ref (ma 2), .ref (ma 3), .ref (ma 4), .ref (ma 5), .ref (ma 6), .ref (ma 7), .ref (ma 8), .ref (ma 9), .ref (ma 10), .ref (ma 11), .ref (ma 12), .ref (ma 13), .int (nI (M 1)), .int (nI (M 2)), .int (nI ((M 3) + 1)), .int C, .ref (ma 14), .ref (ma 15), .int (nI (M 4)), .int (nI (M 5)), .int (nI (M 6)), .int (nI (M 7)), .int (nI (M 8)), .ref (ma 16), .ref (ma 17), .int (nI (M 9)), .ref (ma 18), .int (nI (M 10))], aI cI (ma 1) 7 rf, aI cI (ma 2) 96 T, aI cI (ma 3) 96 (E 0), aI cI (ma 4) 100 X, aI cI (ma 5) 24 (F 27), aI cI (ma 6) 48 (F 17), aI cI (ma 7) 72 (F 18), aI cI (ma 8) 12 (F 19), aI cZ (ma 9) 12 B, aI cI (ma 10) 300 (E 1), aI cI (ma 11) 6 (E 2), aI cI (ma 12) 6 (E 3), aI cI (ma 13) 8 (E 4), aI cI (ma 14) 12 (E 5), aI cZ (ma 15) 12 (E 6), aI cI (ma 16) 2400 (E 7), aJ cJ (ma 17) 2400 L, aI cZ (ma 18) 300 (E 8)] := hD
          refine lv_iload hx hb dX10_goes_251 (lv_at hl 0 rfl) ?_
          refine k_if_eq_t (tgt := 261) hx hb dX10_goes_253 (by decide) (by decide) ?_
          refine lv_iload_n hx hb dX10_goes_261 rfl (lv_at hl 6 rfl) ?_
          refine lv_iconst (v := nI 1) hx hb dX10_goes_262 (by decide) ?_
          refine k_iadd hx hb dX10_goes_263 ?_
          exact hret _ _ _ _ _ (l + 1, M 2, (M 3) + 1, E 4, E 2, E 3) dX10_goes_264 (⟨rfl, by rw [r_act_5 hop]; rw [decide_eq_true (Int32.not_le.mp h1), decide_eq_true h2]; rfl, (r_os_n (by rw [hop]; decide)).symm, by omega, by omega, by omega⟩) hP hD hS
        · skip
          exact absurd c_7 (by decide)
  · skip
    refine lv_tableIn (tgt := 265) (off := 221) hx hb dX10_goes_44 (by decide) (by decide) (by decide) (by decide) ?_
    have hz25 := h6 rfl
    have e6 : c4 (E 0) 3 l = nI (tn (c4 (E 0) 3 l)) := hz25.eq (by decide)
    have lz : tn (c4 (E 0) 3 l) < 25 := hz25.lt (by decide)
    have hl : lv_has ls 8 [(6, .int (nI (tn (c4 (E 0) 3 l)))), (5, .int ((E 0) ((4 * l) + 2))), (4, .int ((E 0) ((4 * l) + 1))), (0, .ref (ma 0)), (1, .int (nI t)), (2, .int (nI l)), (3, .int kk)] := by rw [← e6]; exact hl
    refine lv_iload hx hb dX10_goes_265 (lv_at hl 0 rfl) ?_
    exact hret _ _ _ _ _ (tn (c4 (E 0) 3 l), M 2, M 3, E 4, E 2, E 3) dX10_goes_267 (⟨rfl, by rw [r_act_6 hop], (r_os_n (by rw [hop]; decide)).symm, by omega, by omega, by omega⟩) hP hD hS
  · skip
    refine lv_tableOut (tgt := 268) hx hb dX10_goes_44 (Or.inr (by decide)) (by decide) ?_
    have hx8 := hx8 (by decide)
    have e4 : c4 (E 0) 1 l = nI (tn (c4 (E 0) 1 l)) := hx8.eq (by decide)
    have lx : tn (c4 (E 0) 1 l) < 8 := hx8.lt (by decide)
    have hl : lv_has ls 8 [(6, .int ((E 0) ((4 * l) + 3))), (5, .int ((E 0) ((4 * l) + 2))), (4, .int (nI (tn (c4 (E 0) 1 l)))), (0, .ref (ma 0)), (1, .int (nI t)), (2, .int (nI l)), (3, .int kk)] := by rw [← e4]; exact hl
    refine lv_aload_n hx hb dX10_goes_268 rfl (lv_at hl 3 rfl) ?_
    refine va_get (C := RX10) (T := TX10) (N := 33) (ci := 10) hx hb hts iX10_goes_10 hown hK.1 hP 0 rfl rfl 14 (Nat.le_of_ble_eq_true rfl) (hts _ mX10_goes_41) (fun _ h9 => h9) rfl dX10_goes_269 ?_
    refine lv_aload_n hx hb dX10_goes_272 rfl (lv_at hl 3 rfl) ?_
    refine va_get (C := RX10) (T := TX10) (N := 33) (ci := 10) hx hb hts iX10_goes_10 hown hK.1 hP 0 rfl rfl 18 (Nat.le_of_ble_eq_true rfl) (hts _ mX10_goes_109) (fun _ h9 => h9) rfl dX10_goes_273 ?_
    refine lv_aload_n hx hb dX10_goes_276 rfl (lv_at hl 3 rfl) ?_
    refine va_get (C := RX10) (T := TX10) (N := 33) (ci := 10) hx hb hts iX10_goes_10 hown hK.1 hP 0 rfl rfl 16 (Nat.le_of_ble_eq_true rfl) (hts _ mX10_goes_47) (fun _ h9 => h9) rfl dX10_goes_277 ?_
    refine lv_iload hx hb dX10_goes_280 (lv_at hl 2 rfl) ?_
    refine k_iald hx hb hK.1 hP 13 0 rfl rfl (by omega) (by decide) dX10_goes_282 ?_
    refine k_iast hx hb hK.1 hP hD hS 11 0 rfl rfl (by omega) (by decide) dX10_goes_283 (fun H locs hP hD hS => ?_)
    have hP : va_P G vwCl [oB (ma 0) 10 [.ref (ma 1), .int (nI (N 0)), .int (nI (N 3)), .int (nI (N 1)), .int (nI (M 0)), .ref (ma 2), .ref (ma 3), .ref (ma 4), .ref (ma 5), .ref (ma 6), .ref (ma 7), .ref (ma 8), .ref (ma 9), .ref (ma 10), .ref (ma 11), .ref (ma 12), .ref (ma 13), .int (nI (M 1)), .int (nI (M 2)), .int (nI (M 3)), .int C, .ref (ma 14), .ref (ma 15), .int (nI (M 4)), .int (nI (M 5)), .int (nI (M 6)), .int (nI (M 7)), .int (nI (M 8)), .ref (ma 16), .ref (ma 17), .int (nI (M 9)), .ref (ma 18), .int (nI (M 10))], aI cI (ma 1) 7 rf, aI cI (ma 2) 96 T, aI cI (ma 3) 96 (E 0), aI cI (ma 4) 100 X, aI cI (ma 5) 24 (F 27), aI cI (ma 6) 48 (F 17), aI cI (ma 7) 72 (F 18), aI cI (ma 8) 12 (F 19), aI cZ (ma 9) 12 B, aI cI (ma 10) 300 (E 1), aI cI (ma 11) 6 (upd (E 2) (M 2) ((E 4) (tn (c4 (E 0) 1 l)))), aI cI (ma 12) 6 (E 3), aI cI (ma 13) 8 (E 4), aI cI (ma 14) 12 (E 5), aI cZ (ma 15) 12 (E 6), aI cI (ma 16) 2400 (E 7), aJ cJ (ma 17) 2400 L, aI cZ (ma 18) 300 (E 8)] H := hP
    have hD : va_D jA [oB (ma 0) 10 [.ref (ma 1), .int (nI (N 0)), .int (nI (N 3)), .int (nI (N 1)), .int (nI (M 0)), .ref (ma 2), .ref (ma 3), .ref (ma 4), .ref (ma 5), .ref (ma 6), .ref (ma 7), .ref (ma 8), .ref (ma 9), .ref (ma 10), .ref (ma 11), .ref (ma 12), .ref (ma 13), .int (nI (M 1)), .int (nI (M 2)), .int (nI (M 3)), .int C, .ref (ma 14), .ref (ma 15), .int (nI (M 4)), .int (nI (M 5)), .int (nI (M 6)), .int (nI (M 7)), .int (nI (M 8)), .ref (ma 16), .ref (ma 17), .int (nI (M 9)), .ref (ma 18), .int (nI (M 10))], aI cI (ma 1) 7 rf, aI cI (ma 2) 96 T, aI cI (ma 3) 96 (E 0), aI cI (ma 4) 100 X, aI cI (ma 5) 24 (F 27), aI cI (ma 6) 48 (F 17), aI cI (ma 7) 72 (F 18), aI cI (ma 8) 12 (F 19), aI cZ (ma 9) 12 B, aI cI (ma 10) 300 (E 1), aI cI (ma 11) 6 (upd (E 2) (M 2) ((E 4) (tn (c4 (E 0) 1 l)))), aI cI (ma 12) 6 (E 3), aI cI (ma 13) 8 (E 4), aI cI (ma 14) 12 (E 5), aI cZ (ma 15) 12 (E 6), aI cI (ma 16) 2400 (E 7), aJ cJ (ma 17) 2400 L, aI cZ (ma 18) 300 (E 8)] := hD
    refine lv_aload_n hx hb dX10_goes_284 rfl (lv_at hl 3 rfl) ?_
    refine va_get (C := RX10) (T := TX10) (N := 33) (ci := 10) hx hb hts iX10_goes_10 hown hK.1 hP 0 rfl rfl 15 (Nat.le_of_ble_eq_true rfl) (hts _ mX10_goes_44) (fun _ h9 => h9) rfl dX10_goes_285 ?_
    refine lv_aload_n hx hb dX10_goes_288 rfl (lv_at hl 3 rfl) ?_
    refine va_get (C := RX10) (T := TX10) (N := 33) (ci := 10) hx hb hts iX10_goes_10 hown hK.1 hP 0 rfl rfl 18 (Nat.le_of_ble_eq_true rfl) (hts _ mX10_goes_109) (fun _ h9 => h9) rfl dX10_goes_289 ?_
    refine lv_aload_n hx hb dX10_goes_292 rfl (lv_at hl 3 rfl) ?_
    refine va_get (C := RX10) (T := TX10) (N := 33) (ci := 10) hx hb hts iX10_goes_10 hown hK.1 hP 0 rfl rfl 17 (Nat.le_of_ble_eq_true rfl) (hts _ mX10_goes_106) (fun _ h9 => h9) rfl dX10_goes_293 ?_
    refine lv_iconst (v := nI 1) hx hb dX10_goes_296 (by decide) ?_
    refine k_isub hx hb dX10_goes_297 (by omega) ?_
    refine k_iast hx hb hK.1 hP hD hS 12 0 rfl rfl (by omega) (by decide) dX10_goes_298 (fun H locs hP hD hS => ?_)
    have hP : va_P G vwCl [oB (ma 0) 10 [.ref (ma 1), .int (nI (N 0)), .int (nI (N 3)), .int (nI (N 1)), .int (nI (M 0)), .ref (ma 2), .ref (ma 3), .ref (ma 4), .ref (ma 5), .ref (ma 6), .ref (ma 7), .ref (ma 8), .ref (ma 9), .ref (ma 10), .ref (ma 11), .ref (ma 12), .ref (ma 13), .int (nI (M 1)), .int (nI (M 2)), .int (nI (M 3)), .int C, .ref (ma 14), .ref (ma 15), .int (nI (M 4)), .int (nI (M 5)), .int (nI (M 6)), .int (nI (M 7)), .int (nI (M 8)), .ref (ma 16), .ref (ma 17), .int (nI (M 9)), .ref (ma 18), .int (nI (M 10))], aI cI (ma 1) 7 rf, aI cI (ma 2) 96 T, aI cI (ma 3) 96 (E 0), aI cI (ma 4) 100 X, aI cI (ma 5) 24 (F 27), aI cI (ma 6) 48 (F 17), aI cI (ma 7) 72 (F 18), aI cI (ma 8) 12 (F 19), aI cZ (ma 9) 12 B, aI cI (ma 10) 300 (E 1), aI cI (ma 11) 6 (upd (E 2) (M 2) ((E 4) (tn (c4 (E 0) 1 l)))), aI cI (ma 12) 6 (upd (E 3) (M 2) (nI ((M 1) - 1))), aI cI (ma 13) 8 (E 4), aI cI (ma 14) 12 (E 5), aI cZ (ma 15) 12 (E 6), aI cI (ma 16) 2400 (E 7), aJ cJ (ma 17) 2400 L, aI cZ (ma 18) 300 (E 8)] H := hP
    have hD : va_D jA [oB (ma 0) 10 [.ref (ma 1), .int (nI (N 0)), .int (nI (N 3)), .int (nI (N 1)), .int (nI (M 0)), .ref (ma 2), .ref (ma 3), .ref (ma 4), .ref (ma 5), .ref (ma 6), .ref (ma 7), .ref (ma 8), .ref (ma 9), .ref (ma 10), .ref (ma 11), .ref (ma 12), .ref (ma 13), .int (nI (M 1)), .int (nI (M 2)), .int (nI (M 3)), .int C, .ref (ma 14), .ref (ma 15), .int (nI (M 4)), .int (nI (M 5)), .int (nI (M 6)), .int (nI (M 7)), .int (nI (M 8)), .ref (ma 16), .ref (ma 17), .int (nI (M 9)), .ref (ma 18), .int (nI (M 10))], aI cI (ma 1) 7 rf, aI cI (ma 2) 96 T, aI cI (ma 3) 96 (E 0), aI cI (ma 4) 100 X, aI cI (ma 5) 24 (F 27), aI cI (ma 6) 48 (F 17), aI cI (ma 7) 72 (F 18), aI cI (ma 8) 12 (F 19), aI cZ (ma 9) 12 B, aI cI (ma 10) 300 (E 1), aI cI (ma 11) 6 (upd (E 2) (M 2) ((E 4) (tn (c4 (E 0) 1 l)))), aI cI (ma 12) 6 (upd (E 3) (M 2) (nI ((M 1) - 1))), aI cI (ma 13) 8 (E 4), aI cI (ma 14) 12 (E 5), aI cZ (ma 15) 12 (E 6), aI cI (ma 16) 2400 (E 7), aJ cJ (ma 17) 2400 L, aI cZ (ma 18) 300 (E 8)] := hD
    refine lv_aload_n hx hb dX10_goes_299 rfl (lv_at hl 3 rfl) ?_
    refine lv_dup hx hb dX10_goes_300 rfl ?_
    refine va_get (C := RX10) (T := TX10) (N := 33) (ci := 10) hx hb hts iX10_goes_10 hown hK.1 hP 0 rfl rfl 18 (Nat.le_of_ble_eq_true rfl) (hts _ mX10_goes_109) (fun _ h9 => h9) rfl dX10_goes_301 ?_
    refine lv_iconst (v := nI 1) hx hb dX10_goes_304 (by decide) ?_
    refine k_iadd hx hb dX10_goes_305 ?_
    refine va_put (C := RX10) (T := TX10) (N := 33) (ci := 10) (v := .int (nI ((M 2) + 1))) (ty := tyX10 18) hx hb hts iX10_goes_10 tyX10 tyX10_ok nmX10 hown hK.1 hP hD hS 0 rfl rfl 18 (Nat.le_of_ble_eq_true rfl) (hts _ mX10_goes_109) (fun _ h9 => h9) rfl (tyX10_ok 18 (Nat.le_of_ble_eq_true rfl)) (rfl) (rfl) (Nat.le_of_ble_eq_true rfl) dX10_goes_306 (fun H locs hP hD hS => ?_)
    have hP : va_P G vwCl [oB (ma 0) 10 [.ref (ma 1), .int (nI (N 0)), .int (nI (N 3)), .int (nI (N 1)), .int (nI (M 0)), .ref (ma 2), .ref (ma 3), .ref (ma 4), .ref (ma 5), .ref (ma 6), .ref (ma 7), .ref (ma 8), .ref (ma 9), .ref (ma 10), .ref (ma 11), .ref (ma 12), .ref (ma 13), .int (nI (M 1)), .int (nI ((M 2) + 1)), .int (nI (M 3)), .int C, .ref (ma 14), .ref (ma 15), .int (nI (M 4)), .int (nI (M 5)), .int (nI (M 6)), .int (nI (M 7)), .int (nI (M 8)), .ref (ma 16), .ref (ma 17), .int (nI (M 9)), .ref (ma 18), .int (nI (M 10))], aI cI (ma 1) 7 rf, aI cI (ma 2) 96 T, aI cI (ma 3) 96 (E 0), aI cI (ma 4) 100 X, aI cI (ma 5) 24 (F 27), aI cI (ma 6) 48 (F 17), aI cI (ma 7) 72 (F 18), aI cI (ma 8) 12 (F 19), aI cZ (ma 9) 12 B, aI cI (ma 10) 300 (E 1), aI cI (ma 11) 6 (upd (E 2) (M 2) ((E 4) (tn (c4 (E 0) 1 l)))), aI cI (ma 12) 6 (upd (E 3) (M 2) (nI ((M 1) - 1))), aI cI (ma 13) 8 (E 4), aI cI (ma 14) 12 (E 5), aI cZ (ma 15) 12 (E 6), aI cI (ma 16) 2400 (E 7), aJ cJ (ma 17) 2400 L, aI cZ (ma 18) 300 (E 8)] H := hP
    have hD : va_D jA [oB (ma 0) 10 [.ref (ma 1), .int (nI (N 0)), .int (nI (N 3)), .int (nI (N 1)), .int (nI (M 0)), .ref (ma 2), .ref (ma 3), .ref (ma 4), .ref (ma 5), .ref (ma 6), .ref (ma 7), .ref (ma 8), .ref (ma 9), .ref (ma 10), .ref (ma 11), .ref (ma 12), .ref (ma 13), .int (nI (M 1)), .int (nI ((M 2) + 1)), .int (nI (M 3)), .int C, .ref (ma 14), .ref (ma 15), .int (nI (M 4)), .int (nI (M 5)), .int (nI (M 6)), .int (nI (M 7)), .int (nI (M 8)), .ref (ma 16), .ref (ma 17), .int (nI (M 9)), .ref (ma 18), .int (nI (M 10))], aI cI (ma 1) 7 rf, aI cI (ma 2) 96 T, aI cI (ma 3) 96 (E 0), aI cI (ma 4) 100 X, aI cI (ma 5) 24 (F 27), aI cI (ma 6) 48 (F 17), aI cI (ma 7) 72 (F 18), aI cI (ma 8) 12 (F 19), aI cZ (ma 9) 12 B, aI cI (ma 10) 300 (E 1), aI cI (ma 11) 6 (upd (E 2) (M 2) ((E 4) (tn (c4 (E 0) 1 l)))), aI cI (ma 12) 6 (upd (E 3) (M 2) (nI ((M 1) - 1))), aI cI (ma 13) 8 (E 4), aI cI (ma 14) 12 (E 5), aI cZ (ma 15) 12 (E 6), aI cI (ma 16) 2400 (E 7), aJ cJ (ma 17) 2400 L, aI cZ (ma 18) 300 (E 8)] := hD
    refine lv_iload_n hx hb dX10_goes_309 rfl (lv_at hl 5 rfl) ?_
    refine lv_iconst (v := nI 1) hx hb dX10_goes_310 (by decide) ?_
    refine k_iadd hx hb dX10_goes_311 ?_
    exact hret _ _ _ _ _ (l + 1, (M 2) + 1, M 3, E 4, upd (E 2) (M 2) ((E 4) (tn (c4 (E 0) 1 l))), upd (E 3) (M 2) (nI ((M 1) - 1))) dX10_goes_312 (⟨rfl, by rw [r_act_7 hop], by rw [r_os_7 hop, hsc]; rfl, by omega, by omega, by omega⟩) hP hD hS
