theorem iX6_has_6 : ∀ w ∈ wsX60, w ∈ wsX6_has := by decide +kernel
theorem mX6_has_25 : Cond.fieldLink RX6 25 "LineFinder$Suite" "size" "I" ∈ wsX6_has := List.mem_of_getElem? (i := 1) rfl
abbrev rCX6_has : Room := { frames := 0, cells := 0, slots := 0, locals := 0 }
set_option maxHeartbeats 4000000 in
set_option maxRecDepth 100000 in
theorem CX6_has (jl : Launch) (G : va_G) (cI cZ cJ : ClassId) (su u0 u1 u2 ob nt : Nat) (inp row len : Fn) (hnt : nt ≤ 12) (p : Int32) : Ki jl yX6_has wsX6_has rCX6_has G cI cZ cJ [.ref su, .int p] [oB su 6 [.ref u0, .ref u1, .ref u2, .int (nI ob), .int (nI nt)], aI cI u0 48 inp, aI cI u1 72 row, aI cI u2 12 len] (S := Unit) (fun (r : Int32) (_ : Unit) => isIx p nt r) (fun (_ : Unit) => [oB su 6 [.ref u0, .ref u1, .ref u2, .int (nI ob), .int (nI nt)], aI cI u0 48 inp, aI cI u1 72 row, aI cI u2 12 len]) := by
  refine Ki.ofZ (cc := cX6_has) (maxL := 2) (by decide +kernel) rfl (Nat.le_of_ble_eq_true rfl) ?_
  intro jp je js jm ja jb jt jc jA jQ ls cx hnm hP hD hS hl hret
  obtain ⟨hx, hb, hml, hown, hts, hK, hA⟩ := id cx
  have hl : lv_has ls 2 [(0, .ref su), (1, .int p)] := hl
  obtain ⟨H, hH⟩ : ∃ H, H = js.heap := ⟨_, rfl⟩
  obtain ⟨locs, hlocs⟩ : ∃ z : List Loc, z = [] := ⟨_, rfl⟩
  have hP : va_P G vwCl [oB su 6 [.ref u0, .ref u1, .ref u2, .int (nI ob), .int (nI nt)], aI cI u0 48 inp, aI cI u1 72 row, aI cI u2 12 len] H := by rw [hH]; exact hP
  have hS : va_S jA js.heap H locs := by rw [hH, hlocs]; exact hS
  rw [← hlocs]; rw [show W jp jl je rCX6_has js jm ja jb jt jc js.heap locs 0 0 jQ (F0 jm 0 ls []) = W jp jl je rCX6_has js jm ja jb jt jc H locs 0 0 jQ (F0 jm 0 ls []) by rw [hH]]
  clear hH hlocs
  refine lv_iload_n hx hb dX6_has_0 rfl (lv_at hl 1 rfl) ?_
  refine lv_if_lt (tgt := 16) hx hb dX6_has_1 (by decide) (fun c_1 => ?_) (fun c_1 => ?_)
  · skip
    refine lv_iconst (v := nI 0) hx hb dX6_has_16 (by decide) ?_
    exact hret _ _ _ _ _ () dX6_has_17 (by decide) (isIx_neg (by omega) c_1) hP hD hS
  · skip
    obtain ⟨j, hj, rfl⟩ := nI_of c_1
    refine lv_iload_n hx hb dX6_has_4 rfl (lv_at hl 1 rfl) ?_
    refine lv_aload_n hx hb dX6_has_5 rfl (lv_at hl 0 rfl) ?_
    refine va_get (C := RX6) (T := TX6) (N := 5) (ci := 6) hx hb hts iX6_has_6 hown hK.1 hP 0 rfl rfl 4 (Nat.le_of_ble_eq_true rfl) (hts _ mX6_has_25) (fun _ h9 => h9) rfl dX6_has_6 ?_
    refine k_cmp_ge (tgt := 16) hx hb dX6_has_9 (by decide) (by omega) (by omega) (fun c_2 => ?_) (fun c_2 => ?_)
    · skip
      refine lv_iconst (v := nI 0) hx hb dX6_has_16 (by decide) ?_
      exact hret _ _ _ _ _ () dX6_has_17 (by decide) (isIx_ge hj (by omega) c_2) hP hD hS
    · skip
      refine lv_iconst (v := nI 1) hx hb dX6_has_12 (by decide) ?_
      refine lv_goto (tgt := 17) hx hb dX6_has_13 (by decide) ?_
      exact hret _ _ _ _ _ () dX6_has_17 (by decide) (isIx_lt c_2) hP hD hS

theorem iX6_isOpen_6 : ∀ w ∈ wsX60, w ∈ wsX6_isOpen := by decide +kernel
theorem mX6_isOpen_21 : Cond.fieldLink RX6 21 "LineFinder$Suite" "openBits" "I" ∈ wsX6_isOpen := List.mem_of_getElem? (i := 1) rfl
abbrev rCX6_isOpen : Room := { frames := 0, cells := 0, slots := 0, locals := 0 }
set_option maxHeartbeats 4000000 in
set_option maxRecDepth 100000 in
theorem CX6_isOpen (jl : Launch) (G : va_G) (cI cZ cJ : ClassId) (su u0 u1 u2 ob nt : Nat) (inp row len : Fn) (hob : ob < 2 ^ 31) (t : Nat) (ht : t < 12) : Ki jl yX6_isOpen wsX6_isOpen rCX6_isOpen G cI cZ cJ [.ref su, .int (nI t)] [oB su 6 [.ref u0, .ref u1, .ref u2, .int (nI ob), .int (nI nt)], aI cI u0 48 inp, aI cI u1 72 row, aI cI u2 12 len] (S := Unit) (fun (r : Int32) (_ : Unit) => r = bI (ob.testBit t)) (fun (_ : Unit) => [oB su 6 [.ref u0, .ref u1, .ref u2, .int (nI ob), .int (nI nt)], aI cI u0 48 inp, aI cI u1 72 row, aI cI u2 12 len]) := by
  refine Ki.ofZ (cc := cX6_isOpen) (maxL := 2) (by decide +kernel) rfl (Nat.le_of_ble_eq_true rfl) ?_
  intro jp je js jm ja jb jt jc jA jQ ls cx hnm hP hD hS hl hret
  obtain ⟨hx, hb, hml, hown, hts, hK, hA⟩ := id cx
  have hl : lv_has ls 2 [(0, .ref su), (1, .int (nI t))] := hl
  obtain ⟨H, hH⟩ : ∃ H, H = js.heap := ⟨_, rfl⟩
  obtain ⟨locs, hlocs⟩ : ∃ z : List Loc, z = [] := ⟨_, rfl⟩
  have hP : va_P G vwCl [oB su 6 [.ref u0, .ref u1, .ref u2, .int (nI ob), .int (nI nt)], aI cI u0 48 inp, aI cI u1 72 row, aI cI u2 12 len] H := by rw [hH]; exact hP
  have hS : va_S jA js.heap H locs := by rw [hH, hlocs]; exact hS
  rw [← hlocs]; rw [show W jp jl je rCX6_isOpen js jm ja jb jt jc js.heap locs 0 0 jQ (F0 jm 0 ls []) = W jp jl je rCX6_isOpen js jm ja jb jt jc H locs 0 0 jQ (F0 jm 0 ls []) by rw [hH]]
  clear hH hlocs
  refine lv_aload_n hx hb dX6_isOpen_0 rfl (lv_at hl 0 rfl) ?_
  refine va_get (C := RX6) (T := TX6) (N := 5) (ci := 6) hx hb hts iX6_isOpen_6 hown hK.1 hP 0 rfl rfl 3 (Nat.le_of_ble_eq_true rfl) (hts _ mX6_isOpen_21) (fun _ h9 => h9) rfl dX6_isOpen_1 ?_
  refine lv_iload_n hx hb dX6_isOpen_4 rfl (lv_at hl 1 rfl) ?_
  refine k_ishr hx hb dX6_isOpen_5 (by omega) (hob) ?_
  refine lv_iconst (v := nI 1) hx hb dX6_isOpen_6 (by decide) ?_
  refine k_iand hx hb dX6_isOpen_7 ?_
  refine k_if_eq (tgt := 15) hx hb dX6_isOpen_8 (by decide) (by exact Nat.lt_of_le_of_lt Nat.and_le_right (by decide)) (fun c_1 => ?_) (fun c_1 => ?_)
  · skip
    refine lv_iconst (v := nI 0) hx hb dX6_isOpen_15 (by decide) ?_
    exact hret _ _ _ _ _ () dX6_isOpen_16 (by decide) (by rw [tb_zero c_1]; rfl) hP hD hS
  · skip
    refine lv_iconst (v := nI 1) hx hb dX6_isOpen_11 (by decide) ?_
    refine lv_goto (tgt := 16) hx hb dX6_isOpen_12 (by decide) ?_
    exact hret _ _ _ _ _ () dX6_isOpen_16 (by decide) (by rw [tb_pos c_1]; rfl) hP hD hS

theorem iX6_add_6 : ∀ w ∈ wsX60, w ∈ wsX6_add := by decide +kernel
theorem mX6_add_9 : Cond.fieldLink RX6 9 "LineFinder$Suite" "inputs" "[I" ∈ wsX6_add := List.mem_of_getElem? (i := 2) rfl
theorem mX6_add_25 : Cond.fieldLink RX6 25 "LineFinder$Suite" "size" "I" ∈ wsX6_add := List.mem_of_getElem? (i := 1) rfl
abbrev rCX6_add : Room := { frames := 0, cells := 0, slots := 0, locals := 0 }
set_option maxHeartbeats 4000000 in
set_option maxRecDepth 100000 in
theorem CX6_add (jl : Launch) (G : va_G) (cI cZ cJ : ClassId) (su u0 u1 u2 ob nt : Nat) (inp row len : Fn) (hnt : nt < 12) (a b c d : Int32) : Kv jl yX6_add wsX6_add rCX6_add G cI cZ cJ [.ref su, .int a, .int b, .int c, .int d] [oB su 6 [.ref u0, .ref u1, .ref u2, .int (nI ob), .int (nI nt)], aI cI u0 48 inp, aI cI u1 72 row, aI cI u2 12 len] (S := Unit) (fun (_ : Unit) => True) (fun (_ : Unit) => [oB su 6 [.ref u0, .ref u1, .ref u2, .int (nI ob), .int (nI (nt + 1))], aI cI u0 48 (upd (upd (upd (upd inp (nt * 4) a) (nt * 4 + 1) b) (nt * 4 + 2) c) (nt * 4 + 3) d), aI cI u1 72 row, aI cI u2 12 len]) := by
  refine Kv.of (cc := cX6_add) (maxL := 6) (by decide +kernel) rfl (Nat.le_of_ble_eq_true rfl) ?_
  intro jp je js jm ja jb jt jc jA jQ ls cx hnm hP hD hS hl hret
  obtain ⟨hx, hb, hml, hown, hts, hK, hA⟩ := id cx
  have hl : lv_has ls 6 [(0, .ref su), (1, .int a), (2, .int b), (3, .int c), (4, .int d)] := hl
  obtain ⟨H, hH⟩ : ∃ H, H = js.heap := ⟨_, rfl⟩
  obtain ⟨locs, hlocs⟩ : ∃ z : List Loc, z = [] := ⟨_, rfl⟩
  have hP : va_P G vwCl [oB su 6 [.ref u0, .ref u1, .ref u2, .int (nI ob), .int (nI nt)], aI cI u0 48 inp, aI cI u1 72 row, aI cI u2 12 len] H := by rw [hH]; exact hP
  have hS : va_S jA js.heap H locs := by rw [hH, hlocs]; exact hS
  rw [← hlocs]; rw [show W jp jl je rCX6_add js jm ja jb jt jc js.heap locs 0 0 jQ (F0 jm 0 ls []) = W jp jl je rCX6_add js jm ja jb jt jc H locs 0 0 jQ (F0 jm 0 ls []) by rw [hH]]
  clear hH hlocs
  refine lv_aload_n hx hb dX6_add_0 rfl (lv_at hl 0 rfl) ?_
  refine va_get (C := RX6) (T := TX6) (N := 5) (ci := 6) hx hb hts iX6_add_6 hown hK.1 hP 0 rfl rfl 4 (Nat.le_of_ble_eq_true rfl) (hts _ mX6_add_25) (fun _ h9 => h9) rfl dX6_add_1 ?_
  refine lv_iconst (v := nI 4) hx hb dX6_add_4 (by decide) ?_
  refine k_imul hx hb dX6_add_5 ?_
  refine lv_istore (lv' := [(5, .int (nI (nt * 4))), (0, .ref su), (1, .int a), (2, .int b), (3, .int c), (4, .int d)]) hx hb dX6_add_6 hl (by decide) rfl (fun ls hl => ?_)
  refine lv_aload_n hx hb dX6_add_8 rfl (lv_at hl 1 rfl) ?_
  refine va_get (C := RX6) (T := TX6) (N := 5) (ci := 6) hx hb hts iX6_add_6 hown hK.1 hP 0 rfl rfl 0 (Nat.le_of_ble_eq_true rfl) (hts _ mX6_add_9) (fun _ h9 => h9) rfl dX6_add_9 ?_
  refine lv_iload hx hb dX6_add_12 (lv_at hl 0 rfl) ?_
  refine lv_iload_n hx hb dX6_add_14 rfl (lv_at hl 2 rfl) ?_
  refine k_iast hx hb hK.1 hP hD hS 1 0 rfl rfl (by omega) (by decide) dX6_add_15 (fun H locs hP hD hS => ?_)
  have hP : va_P G vwCl [oB su 6 [.ref u0, .ref u1, .ref u2, .int (nI ob), .int (nI nt)], aI cI u0 48 (upd inp (nt * 4) a), aI cI u1 72 row, aI cI u2 12 len] H := hP
  have hD : va_D jA [oB su 6 [.ref u0, .ref u1, .ref u2, .int (nI ob), .int (nI nt)], aI cI u0 48 (upd inp (nt * 4) a), aI cI u1 72 row, aI cI u2 12 len] := hD
  refine lv_aload_n hx hb dX6_add_16 rfl (lv_at hl 1 rfl) ?_
  refine va_get (C := RX6) (T := TX6) (N := 5) (ci := 6) hx hb hts iX6_add_6 hown hK.1 hP 0 rfl rfl 0 (Nat.le_of_ble_eq_true rfl) (hts _ mX6_add_9) (fun _ h9 => h9) rfl dX6_add_17 ?_
  refine lv_iload hx hb dX6_add_20 (lv_at hl 0 rfl) ?_
  refine lv_iconst (v := nI 1) hx hb dX6_add_22 (by decide) ?_
  refine k_iadd hx hb dX6_add_23 ?_
  refine lv_iload_n hx hb dX6_add_24 rfl (lv_at hl 3 rfl) ?_
  refine k_iast hx hb hK.1 hP hD hS 1 0 rfl rfl (by omega) (by decide) dX6_add_25 (fun H locs hP hD hS => ?_)
  have hP : va_P G vwCl [oB su 6 [.ref u0, .ref u1, .ref u2, .int (nI ob), .int (nI nt)], aI cI u0 48 (upd (upd inp (nt * 4) a) ((nt * 4) + 1) b), aI cI u1 72 row, aI cI u2 12 len] H := hP
  have hD : va_D jA [oB su 6 [.ref u0, .ref u1, .ref u2, .int (nI ob), .int (nI nt)], aI cI u0 48 (upd (upd inp (nt * 4) a) ((nt * 4) + 1) b), aI cI u1 72 row, aI cI u2 12 len] := hD
  refine lv_aload_n hx hb dX6_add_26 rfl (lv_at hl 1 rfl) ?_
  refine va_get (C := RX6) (T := TX6) (N := 5) (ci := 6) hx hb hts iX6_add_6 hown hK.1 hP 0 rfl rfl 0 (Nat.le_of_ble_eq_true rfl) (hts _ mX6_add_9) (fun _ h9 => h9) rfl dX6_add_27 ?_
  refine lv_iload hx hb dX6_add_30 (lv_at hl 0 rfl) ?_
  refine lv_iconst (v := nI 2) hx hb dX6_add_32 (by decide) ?_
  refine k_iadd hx hb dX6_add_33 ?_
  refine lv_iload_n hx hb dX6_add_34 rfl (lv_at hl 4 rfl) ?_
  refine k_iast hx hb hK.1 hP hD hS 1 0 rfl rfl (by omega) (by decide) dX6_add_35 (fun H locs hP hD hS => ?_)
  have hP : va_P G vwCl [oB su 6 [.ref u0, .ref u1, .ref u2, .int (nI ob), .int (nI nt)], aI cI u0 48 (upd (upd (upd inp (nt * 4) a) ((nt * 4) + 1) b) ((nt * 4) + 2) c), aI cI u1 72 row, aI cI u2 12 len] H := hP
  have hD : va_D jA [oB su 6 [.ref u0, .ref u1, .ref u2, .int (nI ob), .int (nI nt)], aI cI u0 48 (upd (upd (upd inp (nt * 4) a) ((nt * 4) + 1) b) ((nt * 4) + 2) c), aI cI u1 72 row, aI cI u2 12 len] := hD
  refine lv_aload_n hx hb dX6_add_36 rfl (lv_at hl 1 rfl) ?_
  refine va_get (C := RX6) (T := TX6) (N := 5) (ci := 6) hx hb hts iX6_add_6 hown hK.1 hP 0 rfl rfl 0 (Nat.le_of_ble_eq_true rfl) (hts _ mX6_add_9) (fun _ h9 => h9) rfl dX6_add_37 ?_
  refine lv_iload hx hb dX6_add_40 (lv_at hl 0 rfl) ?_
  refine lv_iconst (v := nI 3) hx hb dX6_add_42 (by decide) ?_
  refine k_iadd hx hb dX6_add_43 ?_
  refine lv_iload hx hb dX6_add_44 (lv_at hl 5 rfl) ?_
  refine k_iast hx hb hK.1 hP hD hS 1 0 rfl rfl (by omega) (by decide) dX6_add_46 (fun H locs hP hD hS => ?_)
  have hP : va_P G vwCl [oB su 6 [.ref u0, .ref u1, .ref u2, .int (nI ob), .int (nI nt)], aI cI u0 48 (upd (upd (upd (upd inp (nt * 4) a) ((nt * 4) + 1) b) ((nt * 4) + 2) c) ((nt * 4) + 3) d), aI cI u1 72 row, aI cI u2 12 len] H := hP
  have hD : va_D jA [oB su 6 [.ref u0, .ref u1, .ref u2, .int (nI ob), .int (nI nt)], aI cI u0 48 (upd (upd (upd (upd inp (nt * 4) a) ((nt * 4) + 1) b) ((nt * 4) + 2) c) ((nt * 4) + 3) d), aI cI u1 72 row, aI cI u2 12 len] := hD
  refine lv_aload_n hx hb dX6_add_47 rfl (lv_at hl 1 rfl) ?_
  refine lv_dup hx hb dX6_add_48 rfl ?_
  refine va_get (C := RX6) (T := TX6) (N := 5) (ci := 6) hx hb hts iX6_add_6 hown hK.1 hP 0 rfl rfl 4 (Nat.le_of_ble_eq_true rfl) (hts _ mX6_add_25) (fun _ h9 => h9) rfl dX6_add_49 ?_
  refine lv_iconst (v := nI 1) hx hb dX6_add_52 (by decide) ?_
  refine k_iadd hx hb dX6_add_53 ?_
  refine va_put (C := RX6) (T := TX6) (N := 5) (ci := 6) (v := .int (nI (nt + 1))) (ty := tyX6 4) hx hb hts iX6_add_6 tyX6 tyX6_ok nmX6 hown hK.1 hP hD hS 0 rfl rfl 4 (Nat.le_of_ble_eq_true rfl) (hts _ mX6_add_25) (fun _ h9 => h9) rfl (tyX6_ok 4 (Nat.le_of_ble_eq_true rfl)) (rfl) (rfl) (Nat.le_of_ble_eq_true rfl) dX6_add_54 (fun H locs hP hD hS => ?_)
  have hP : va_P G vwCl [oB su 6 [.ref u0, .ref u1, .ref u2, .int (nI ob), .int (nI (nt + 1))], aI cI u0 48 (upd (upd (upd (upd inp (nt * 4) a) ((nt * 4) + 1) b) ((nt * 4) + 2) c) ((nt * 4) + 3) d), aI cI u1 72 row, aI cI u2 12 len] H := hP
  have hD : va_D jA [oB su 6 [.ref u0, .ref u1, .ref u2, .int (nI ob), .int (nI (nt + 1))], aI cI u0 48 (upd (upd (upd (upd inp (nt * 4) a) ((nt * 4) + 1) b) ((nt * 4) + 2) c) ((nt * 4) + 3) d), aI cI u1 72 row, aI cI u2 12 len] := hD
  exact hret _ _ _ _ () dX6_add_57 (trivial) hP hD hS

theorem iX6_want_6 : ∀ w ∈ wsX60, w ∈ wsX6_want := by decide +kernel
theorem mX6_want_15 : Cond.fieldLink RX6 15 "LineFinder$Suite" "rows" "[I" ∈ wsX6_want := List.mem_of_getElem? (i := 1) rfl
theorem mX6_want_18 : Cond.fieldLink RX6 18 "LineFinder$Suite" "lengths" "[I" ∈ wsX6_want := List.mem_of_getElem? (i := 2) rfl
abbrev rCX6_want : Room := { frames := 0, cells := 0, slots := 0, locals := 0 }
set_option maxHeartbeats 4000000 in
set_option maxRecDepth 100000 in
theorem CX6_want (jl : Launch) (G : va_G) (cI cZ cJ : ClassId) (su u0 u1 u2 ob nt : Nat) (inp row len : Fn) (t k : Nat) (ht : t < 12) (hk : k < 6) (hlk : len t = nI k) (v : Int32) : Kv jl yX6_want wsX6_want rCX6_want G cI cZ cJ [.ref su, .int (nI t), .int v] [oB su 6 [.ref u0, .ref u1, .ref u2, .int (nI ob), .int (nI nt)], aI cI u0 48 inp, aI cI u1 72 row, aI cI u2 12 len] (S := Unit) (fun (_ : Unit) => True) (fun (_ : Unit) => [oB su 6 [.ref u0, .ref u1, .ref u2, .int (nI ob), .int (nI nt)], aI cI u0 48 inp, aI cI u1 72 (upd row (t * 6 + k) v), aI cI u2 12 (upd len t (nI (k + 1)))]) := by
  refine Kv.of (cc := cX6_want) (maxL := 3) (by decide +kernel) rfl (Nat.le_of_ble_eq_true rfl) ?_
  intro jp je js jm ja jb jt jc jA jQ ls cx hnm hP hD hS hl hret
  obtain ⟨hx, hb, hml, hown, hts, hK, hA⟩ := id cx
  have hl : lv_has ls 3 [(0, .ref su), (1, .int (nI t)), (2, .int v)] := hl
  obtain ⟨H, hH⟩ : ∃ H, H = js.heap := ⟨_, rfl⟩
  obtain ⟨locs, hlocs⟩ : ∃ z : List Loc, z = [] := ⟨_, rfl⟩
  have hP : va_P G vwCl [oB su 6 [.ref u0, .ref u1, .ref u2, .int (nI ob), .int (nI nt)], aI cI u0 48 inp, aI cI u1 72 row, aI cI u2 12 len] H := by rw [hH]; exact hP
  have hS : va_S jA js.heap H locs := by rw [hH, hlocs]; exact hS
  rw [← hlocs]; rw [show W jp jl je rCX6_want js jm ja jb jt jc js.heap locs 0 0 jQ (F0 jm 0 ls []) = W jp jl je rCX6_want js jm ja jb jt jc H locs 0 0 jQ (F0 jm 0 ls []) by rw [hH]]
  clear hH hlocs
  refine lv_aload_n hx hb dX6_want_0 rfl (lv_at hl 0 rfl) ?_
  refine va_get (C := RX6) (T := TX6) (N := 5) (ci := 6) hx hb hts iX6_want_6 hown hK.1 hP 0 rfl rfl 1 (Nat.le_of_ble_eq_true rfl) (hts _ mX6_want_15) (fun _ h9 => h9) rfl dX6_want_1 ?_
  refine lv_iload_n hx hb dX6_want_4 rfl (lv_at hl 1 rfl) ?_
  refine lv_bipush (v := nI 6) hx hb dX6_want_5 (by decide) ?_
  refine k_imul hx hb dX6_want_7 ?_
  refine lv_aload_n hx hb dX6_want_8 rfl (lv_at hl 0 rfl) ?_
  refine va_get (C := RX6) (T := TX6) (N := 5) (ci := 6) hx hb hts iX6_want_6 hown hK.1 hP 0 rfl rfl 2 (Nat.le_of_ble_eq_true rfl) (hts _ mX6_want_18) (fun _ h9 => h9) rfl dX6_want_9 ?_
  refine lv_iload_n hx hb dX6_want_12 rfl (lv_at hl 1 rfl) ?_
  refine k_iald hx hb hK.1 hP 3 0 rfl rfl (by omega) (by decide) dX6_want_13 ?_
  refine k_topN hlk ?_
  refine k_iadd hx hb dX6_want_14 ?_
  refine lv_iload_n hx hb dX6_want_15 rfl (lv_at hl 2 rfl) ?_
  refine k_iast hx hb hK.1 hP hD hS 2 0 rfl rfl (by omega) (by decide) dX6_want_16 (fun H locs hP hD hS => ?_)
  have hP : va_P G vwCl [oB su 6 [.ref u0, .ref u1, .ref u2, .int (nI ob), .int (nI nt)], aI cI u0 48 inp, aI cI u1 72 (upd row ((t * 6) + k) v), aI cI u2 12 len] H := hP
  have hD : va_D jA [oB su 6 [.ref u0, .ref u1, .ref u2, .int (nI ob), .int (nI nt)], aI cI u0 48 inp, aI cI u1 72 (upd row ((t * 6) + k) v), aI cI u2 12 len] := hD
  refine lv_aload_n hx hb dX6_want_17 rfl (lv_at hl 0 rfl) ?_
  refine va_get (C := RX6) (T := TX6) (N := 5) (ci := 6) hx hb hts iX6_want_6 hown hK.1 hP 0 rfl rfl 2 (Nat.le_of_ble_eq_true rfl) (hts _ mX6_want_18) (fun _ h9 => h9) rfl dX6_want_18 ?_
  refine lv_iload_n hx hb dX6_want_21 rfl (lv_at hl 1 rfl) ?_
  refine lv_dup2_11 hx hb dX6_want_22 rfl rfl ?_
  refine k_iald hx hb hK.1 hP 3 0 rfl rfl (by omega) (by decide) dX6_want_23 ?_
  refine k_topN hlk ?_
  refine lv_iconst (v := nI 1) hx hb dX6_want_24 (by decide) ?_
  refine k_iadd hx hb dX6_want_25 ?_
  refine k_iast hx hb hK.1 hP hD hS 3 0 rfl rfl (by omega) (by decide) dX6_want_26 (fun H locs hP hD hS => ?_)
  have hP : va_P G vwCl [oB su 6 [.ref u0, .ref u1, .ref u2, .int (nI ob), .int (nI nt)], aI cI u0 48 inp, aI cI u1 72 (upd row ((t * 6) + k) v), aI cI u2 12 (upd len t (nI (k + 1)))] H := hP
  have hD : va_D jA [oB su 6 [.ref u0, .ref u1, .ref u2, .int (nI ob), .int (nI nt)], aI cI u0 48 inp, aI cI u1 72 (upd row ((t * 6) + k) v), aI cI u2 12 (upd len t (nI (k + 1)))] := hD
  exact hret _ _ _ _ () dX6_want_27 (trivial) hP hD hS

theorem iX6_inputOf_6 : ∀ w ∈ wsX60, w ∈ wsX6_inputOf := by decide +kernel
theorem mX6_inputOf_9 : Cond.fieldLink RX6 9 "LineFinder$Suite" "inputs" "[I" ∈ wsX6_inputOf := List.mem_of_getElem? (i := 1) rfl
abbrev rCX6_inputOf : Room := { frames := 0, cells := 0, slots := 0, locals := 0 }
set_option maxHeartbeats 4000000 in
set_option maxRecDepth 100000 in
theorem CX6_inputOf (jl : Launch) (G : va_G) (cI cZ cJ : ClassId) (su u0 u1 u2 ob nt : Nat) (inp row len : Fn) (t i : Nat) (ht : t < 12) (hi : i < 4) : Ki jl yX6_inputOf wsX6_inputOf rCX6_inputOf G cI cZ cJ [.ref su, .int (nI t), .int (nI i)] [oB su 6 [.ref u0, .ref u1, .ref u2, .int (nI ob), .int (nI nt)], aI cI u0 48 inp, aI cI u1 72 row, aI cI u2 12 len] (S := Unit) (fun (r : Int32) (_ : Unit) => r = inp (t * 4 + i)) (fun (_ : Unit) => [oB su 6 [.ref u0, .ref u1, .ref u2, .int (nI ob), .int (nI nt)], aI cI u0 48 inp, aI cI u1 72 row, aI cI u2 12 len]) := by
  refine Ki.of (cc := cX6_inputOf) (maxL := 3) (by decide +kernel) rfl (Nat.le_of_ble_eq_true rfl) ?_
  intro jp je js jm ja jb jt jc jA jQ ls cx hnm hP hD hS hl hret
  obtain ⟨hx, hb, hml, hown, hts, hK, hA⟩ := id cx
  have hl : lv_has ls 3 [(0, .ref su), (1, .int (nI t)), (2, .int (nI i))] := hl
  obtain ⟨H, hH⟩ : ∃ H, H = js.heap := ⟨_, rfl⟩
  obtain ⟨locs, hlocs⟩ : ∃ z : List Loc, z = [] := ⟨_, rfl⟩
  have hP : va_P G vwCl [oB su 6 [.ref u0, .ref u1, .ref u2, .int (nI ob), .int (nI nt)], aI cI u0 48 inp, aI cI u1 72 row, aI cI u2 12 len] H := by rw [hH]; exact hP
  have hS : va_S jA js.heap H locs := by rw [hH, hlocs]; exact hS
  rw [← hlocs]; rw [show W jp jl je rCX6_inputOf js jm ja jb jt jc js.heap locs 0 0 jQ (F0 jm 0 ls []) = W jp jl je rCX6_inputOf js jm ja jb jt jc H locs 0 0 jQ (F0 jm 0 ls []) by rw [hH]]
  clear hH hlocs
  refine lv_aload_n hx hb dX6_inputOf_0 rfl (lv_at hl 0 rfl) ?_
  refine va_get (C := RX6) (T := TX6) (N := 5) (ci := 6) hx hb hts iX6_inputOf_6 hown hK.1 hP 0 rfl rfl 0 (Nat.le_of_ble_eq_true rfl) (hts _ mX6_inputOf_9) (fun _ h9 => h9) rfl dX6_inputOf_1 ?_
  refine lv_iload_n hx hb dX6_inputOf_4 rfl (lv_at hl 1 rfl) ?_
  refine lv_iconst (v := nI 4) hx hb dX6_inputOf_5 (by decide) ?_
  refine k_imul hx hb dX6_inputOf_6 ?_
  refine lv_iload_n hx hb dX6_inputOf_7 rfl (lv_at hl 2 rfl) ?_
  refine k_iadd hx hb dX6_inputOf_8 ?_
  refine k_iald hx hb hK.1 hP 1 0 rfl rfl (by omega) (by decide) dX6_inputOf_9 ?_
  exact hret _ _ _ _ _ () dX6_inputOf_10 (rfl) hP hD hS

theorem iX6_wantedOf_6 : ∀ w ∈ wsX60, w ∈ wsX6_wantedOf := by decide +kernel
theorem mX6_wantedOf_15 : Cond.fieldLink RX6 15 "LineFinder$Suite" "rows" "[I" ∈ wsX6_wantedOf := List.mem_of_getElem? (i := 1) rfl
abbrev rCX6_wantedOf : Room := { frames := 0, cells := 0, slots := 0, locals := 0 }
set_option maxHeartbeats 4000000 in
set_option maxRecDepth 100000 in
theorem CX6_wantedOf (jl : Launch) (G : va_G) (cI cZ cJ : ClassId) (su u0 u1 u2 ob nt : Nat) (inp row len : Fn) (t i : Nat) (ht : t < 12) (hi : i < 6) : Ki jl yX6_wantedOf wsX6_wantedOf rCX6_wantedOf G cI cZ cJ [.ref su, .int (nI t), .int (nI i)] [oB su 6 [.ref u0, .ref u1, .ref u2, .int (nI ob), .int (nI nt)], aI cI u0 48 inp, aI cI u1 72 row, aI cI u2 12 len] (S := Unit) (fun (r : Int32) (_ : Unit) => r = row (t * 6 + i)) (fun (_ : Unit) => [oB su 6 [.ref u0, .ref u1, .ref u2, .int (nI ob), .int (nI nt)], aI cI u0 48 inp, aI cI u1 72 row, aI cI u2 12 len]) := by
  refine Ki.of (cc := cX6_wantedOf) (maxL := 3) (by decide +kernel) rfl (Nat.le_of_ble_eq_true rfl) ?_
  intro jp je js jm ja jb jt jc jA jQ ls cx hnm hP hD hS hl hret
  obtain ⟨hx, hb, hml, hown, hts, hK, hA⟩ := id cx
  have hl : lv_has ls 3 [(0, .ref su), (1, .int (nI t)), (2, .int (nI i))] := hl
  obtain ⟨H, hH⟩ : ∃ H, H = js.heap := ⟨_, rfl⟩
  obtain ⟨locs, hlocs⟩ : ∃ z : List Loc, z = [] := ⟨_, rfl⟩
  have hP : va_P G vwCl [oB su 6 [.ref u0, .ref u1, .ref u2, .int (nI ob), .int (nI nt)], aI cI u0 48 inp, aI cI u1 72 row, aI cI u2 12 len] H := by rw [hH]; exact hP
  have hS : va_S jA js.heap H locs := by rw [hH, hlocs]; exact hS
  rw [← hlocs]; rw [show W jp jl je rCX6_wantedOf js jm ja jb jt jc js.heap locs 0 0 jQ (F0 jm 0 ls []) = W jp jl je rCX6_wantedOf js jm ja jb jt jc H locs 0 0 jQ (F0 jm 0 ls []) by rw [hH]]
  clear hH hlocs
  refine lv_aload_n hx hb dX6_wantedOf_0 rfl (lv_at hl 0 rfl) ?_
  refine va_get (C := RX6) (T := TX6) (N := 5) (ci := 6) hx hb hts iX6_wantedOf_6 hown hK.1 hP 0 rfl rfl 1 (Nat.le_of_ble_eq_true rfl) (hts _ mX6_wantedOf_15) (fun _ h9 => h9) rfl dX6_wantedOf_1 ?_
  refine lv_iload_n hx hb dX6_wantedOf_4 rfl (lv_at hl 1 rfl) ?_
  refine lv_bipush (v := nI 6) hx hb dX6_wantedOf_5 (by decide) ?_
  refine k_imul hx hb dX6_wantedOf_7 ?_
  refine lv_iload_n hx hb dX6_wantedOf_8 rfl (lv_at hl 2 rfl) ?_
  refine k_iadd hx hb dX6_wantedOf_9 ?_
  refine k_iald hx hb hK.1 hP 2 0 rfl rfl (by omega) (by decide) dX6_wantedOf_10 ?_
  exact hret _ _ _ _ _ () dX6_wantedOf_11 (rfl) hP hD hS

theorem iX2_begin_2 : ∀ w ∈ wsX20, w ∈ wsX2_begin := by decide +kernel
theorem mX2_begin_7 : Cond.fieldLink RX2 7 "LineFinder$Halves" "low" "I" ∈ wsX2_begin := List.mem_of_getElem? (i := 1) rfl
theorem mX2_begin_13 : Cond.fieldLink RX2 13 "LineFinder$Halves" "high" "I" ∈ wsX2_begin := List.mem_of_getElem? (i := 2) rfl
theorem mX2_begin_16 : Cond.fieldLink RX2 16 "LineFinder$Halves" "lookCount" "I" ∈ wsX2_begin := List.mem_of_getElem? (i := 3) rfl
abbrev rCX2_begin : Room := { frames := 0, cells := 0, slots := 0, locals := 0 }
set_option maxHeartbeats 4000000 in
set_option maxRecDepth 100000 in
theorem CX2_begin (jl : Launch) (G : va_G) (cI cZ cJ : ClassId) (hv lo hi lk : Nat) (v : Nat) : Kv jl yX2_begin wsX2_begin rCX2_begin G cI cZ cJ [.ref hv, .int (nI v)] [oB hv 2 [.int (nI lo), .int (nI hi), .int (nI lk)]] (S := Unit) (fun (_ : Unit) => True) (fun (_ : Unit) => [oB hv 2 [.int (nI 0), .int (nI v), .int (nI 0)]]) := by
  refine Kv.of (cc := cX2_begin) (maxL := 2) (by decide +kernel) rfl (Nat.le_of_ble_eq_true rfl) ?_
  intro jp je js jm ja jb jt jc jA jQ ls cx hnm hP hD hS hl hret
  obtain ⟨hx, hb, hml, hown, hts, hK, hA⟩ := id cx
  have hl : lv_has ls 2 [(0, .ref hv), (1, .int (nI v))] := hl
  obtain ⟨H, hH⟩ : ∃ H, H = js.heap := ⟨_, rfl⟩
  obtain ⟨locs, hlocs⟩ : ∃ z : List Loc, z = [] := ⟨_, rfl⟩
  have hP : va_P G vwCl [oB hv 2 [.int (nI lo), .int (nI hi), .int (nI lk)]] H := by rw [hH]; exact hP
  have hS : va_S jA js.heap H locs := by rw [hH, hlocs]; exact hS
  rw [← hlocs]; rw [show W jp jl je rCX2_begin js jm ja jb jt jc js.heap locs 0 0 jQ (F0 jm 0 ls []) = W jp jl je rCX2_begin js jm ja jb jt jc H locs 0 0 jQ (F0 jm 0 ls []) by rw [hH]]
  clear hH hlocs
  refine lv_aload_n hx hb dX2_begin_0 rfl (lv_at hl 0 rfl) ?_
  refine lv_iconst (v := nI 0) hx hb dX2_begin_1 (by decide) ?_
  refine va_put (C := RX2) (T := TX2) (N := 3) (ci := 2) (v := .int (nI 0)) (ty := tyX2 0) hx hb hts iX2_begin_2 tyX2 tyX2_ok nmX2 hown hK.1 hP hD hS 0 rfl rfl 0 (Nat.le_of_ble_eq_true rfl) (hts _ mX2_begin_7) (fun _ h9 => h9) rfl (tyX2_ok 0 (Nat.le_of_ble_eq_true rfl)) (rfl) (rfl) (Nat.le_of_ble_eq_true rfl) dX2_begin_2 (fun H locs hP hD hS => ?_)
  have hP : va_P G vwCl [oB hv 2 [.int (nI 0), .int (nI hi), .int (nI lk)]] H := hP
  have hD : va_D jA [oB hv 2 [.int (nI 0), .int (nI hi), .int (nI lk)]] := hD
  refine lv_aload_n hx hb dX2_begin_5 rfl (lv_at hl 0 rfl) ?_
  refine lv_iload_n hx hb dX2_begin_6 rfl (lv_at hl 1 rfl) ?_
  refine va_put (C := RX2) (T := TX2) (N := 3) (ci := 2) (v := .int (nI v)) (ty := tyX2 1) hx hb hts iX2_begin_2 tyX2 tyX2_ok nmX2 hown hK.1 hP hD hS 0 rfl rfl 1 (Nat.le_of_ble_eq_true rfl) (hts _ mX2_begin_13) (fun _ h9 => h9) rfl (tyX2_ok 1 (Nat.le_of_ble_eq_true rfl)) (rfl) (rfl) (Nat.le_of_ble_eq_true rfl) dX2_begin_7 (fun H locs hP hD hS => ?_)
  have hP : va_P G vwCl [oB hv 2 [.int (nI 0), .int (nI v), .int (nI lk)]] H := hP
  have hD : va_D jA [oB hv 2 [.int (nI 0), .int (nI v), .int (nI lk)]] := hD
  refine lv_aload_n hx hb dX2_begin_10 rfl (lv_at hl 0 rfl) ?_
  refine lv_iconst (v := nI 0) hx hb dX2_begin_11 (by decide) ?_
  refine va_put (C := RX2) (T := TX2) (N := 3) (ci := 2) (v := .int (nI 0)) (ty := tyX2 2) hx hb hts iX2_begin_2 tyX2 tyX2_ok nmX2 hown hK.1 hP hD hS 0 rfl rfl 2 (Nat.le_of_ble_eq_true rfl) (hts _ mX2_begin_16) (fun _ h9 => h9) rfl (tyX2_ok 2 (Nat.le_of_ble_eq_true rfl)) (rfl) (rfl) (Nat.le_of_ble_eq_true rfl) dX2_begin_12 (fun H locs hP hD hS => ?_)
  have hP : va_P G vwCl [oB hv 2 [.int (nI 0), .int (nI v), .int (nI 0)]] H := hP
  have hD : va_D jA [oB hv 2 [.int (nI 0), .int (nI v), .int (nI 0)]] := hD
  exact hret _ _ _ _ () dX2_begin_15 (trivial) hP hD hS

theorem iX2_areApart_2 : ∀ w ∈ wsX20, w ∈ wsX2_areApart := by decide +kernel
theorem mX2_areApart_7 : Cond.fieldLink RX2 7 "LineFinder$Halves" "low" "I" ∈ wsX2_areApart := List.mem_of_getElem? (i := 2) rfl
theorem mX2_areApart_13 : Cond.fieldLink RX2 13 "LineFinder$Halves" "high" "I" ∈ wsX2_areApart := List.mem_of_getElem? (i := 1) rfl
abbrev rCX2_areApart : Room := { frames := 0, cells := 0, slots := 0, locals := 0 }
set_option maxHeartbeats 4000000 in
set_option maxRecDepth 100000 in
theorem CX2_areApart (jl : Launch) (G : va_G) (cI cZ cJ : ClassId) (hv lo hi lk : Nat) (h1 : lo < 100) (h2 : hi < 100) : Ki jl yX2_areApart wsX2_areApart rCX2_areApart G cI cZ cJ [.ref hv] [oB hv 2 [.int (nI lo), .int (nI hi), .int (nI lk)]] (S := Unit) (fun (r : Int32) (_ : Unit) => r = bI (decide (lo + 1 < hi))) (fun (_ : Unit) => [oB hv 2 [.int (nI lo), .int (nI hi), .int (nI lk)]]) := by
  refine Ki.ofZ (cc := cX2_areApart) (maxL := 1) (by decide +kernel) rfl (Nat.le_of_ble_eq_true rfl) ?_
  intro jp je js jm ja jb jt jc jA jQ ls cx hnm hP hD hS hl hret
  obtain ⟨hx, hb, hml, hown, hts, hK, hA⟩ := id cx
  have hl : lv_has ls 1 [(0, .ref hv)] := hl
  obtain ⟨H, hH⟩ : ∃ H, H = js.heap := ⟨_, rfl⟩
  obtain ⟨locs, hlocs⟩ : ∃ z : List Loc, z = [] := ⟨_, rfl⟩
  have hP : va_P G vwCl [oB hv 2 [.int (nI lo), .int (nI hi), .int (nI lk)]] H := by rw [hH]; exact hP
  have hS : va_S jA js.heap H locs := by rw [hH, hlocs]; exact hS
  rw [← hlocs]; rw [show W jp jl je rCX2_areApart js jm ja jb jt jc js.heap locs 0 0 jQ (F0 jm 0 ls []) = W jp jl je rCX2_areApart js jm ja jb jt jc H locs 0 0 jQ (F0 jm 0 ls []) by rw [hH]]
  clear hH hlocs
  refine lv_aload_n hx hb dX2_areApart_0 rfl (lv_at hl 0 rfl) ?_
  refine va_get (C := RX2) (T := TX2) (N := 3) (ci := 2) hx hb hts iX2_areApart_2 hown hK.1 hP 0 rfl rfl 1 (Nat.le_of_ble_eq_true rfl) (hts _ mX2_areApart_13) (fun _ h9 => h9) rfl dX2_areApart_1 ?_
  refine lv_aload_n hx hb dX2_areApart_4 rfl (lv_at hl 0 rfl) ?_
  refine va_get (C := RX2) (T := TX2) (N := 3) (ci := 2) hx hb hts iX2_areApart_2 hown hK.1 hP 0 rfl rfl 0 (Nat.le_of_ble_eq_true rfl) (hts _ mX2_areApart_7) (fun _ h9 => h9) rfl dX2_areApart_5 ?_
  refine lv_iconst (v := nI 1) hx hb dX2_areApart_8 (by decide) ?_
  refine k_iadd hx hb dX2_areApart_9 ?_
  refine k_cmp_le (tgt := 17) hx hb dX2_areApart_10 (by decide) (by omega) (by omega) (fun c_1 => ?_) (fun c_1 => ?_)
  · skip
    refine lv_iconst (v := nI 0) hx hb dX2_areApart_17 (by decide) ?_
    exact hret _ _ _ _ _ () dX2_areApart_18 (by decide) ((bI_n _ (by omega)).symm) hP hD hS
  · skip
    refine lv_iconst (v := nI 1) hx hb dX2_areApart_13 (by decide) ?_
    refine lv_goto (tgt := 18) hx hb dX2_areApart_14 (by decide) ?_
    exact hret _ _ _ _ _ () dX2_areApart_18 (by decide) ((bI_d _ (by omega)).symm) hP hD hS

theorem iX2_middle_2 : ∀ w ∈ wsX20, w ∈ wsX2_middle := by decide +kernel
theorem mX2_middle_7 : Cond.fieldLink RX2 7 "LineFinder$Halves" "low" "I" ∈ wsX2_middle := List.mem_of_getElem? (i := 1) rfl
theorem mX2_middle_13 : Cond.fieldLink RX2 13 "LineFinder$Halves" "high" "I" ∈ wsX2_middle := List.mem_of_getElem? (i := 2) rfl
abbrev rCX2_middle : Room := { frames := 0, cells := 0, slots := 0, locals := 0 }
set_option maxHeartbeats 4000000 in
set_option maxRecDepth 100000 in
theorem CX2_middle (jl : Launch) (G : va_G) (cI cZ cJ : ClassId) (hv lo hi lk : Nat) (h1 : lo < 100) (h2 : hi < 100) : Ki jl yX2_middle wsX2_middle rCX2_middle G cI cZ cJ [.ref hv] [oB hv 2 [.int (nI lo), .int (nI hi), .int (nI lk)]] (S := Unit) (fun (r : Int32) (_ : Unit) => r = nI ((lo + hi) / 2)) (fun (_ : Unit) => [oB hv 2 [.int (nI lo), .int (nI hi), .int (nI lk)]]) := by
  refine Ki.of (cc := cX2_middle) (maxL := 1) (by decide +kernel) rfl (Nat.le_of_ble_eq_true rfl) ?_
  intro jp je js jm ja jb jt jc jA jQ ls cx hnm hP hD hS hl hret
  obtain ⟨hx, hb, hml, hown, hts, hK, hA⟩ := id cx
  have hl : lv_has ls 1 [(0, .ref hv)] := hl
  obtain ⟨H, hH⟩ : ∃ H, H = js.heap := ⟨_, rfl⟩
  obtain ⟨locs, hlocs⟩ : ∃ z : List Loc, z = [] := ⟨_, rfl⟩
  have hP : va_P G vwCl [oB hv 2 [.int (nI lo), .int (nI hi), .int (nI lk)]] H := by rw [hH]; exact hP
  have hS : va_S jA js.heap H locs := by rw [hH, hlocs]; exact hS
  rw [← hlocs]; rw [show W jp jl je rCX2_middle js jm ja jb jt jc js.heap locs 0 0 jQ (F0 jm 0 ls []) = W jp jl je rCX2_middle js jm ja jb jt jc H locs 0 0 jQ (F0 jm 0 ls []) by rw [hH]]
  clear hH hlocs
  refine lv_aload_n hx hb dX2_middle_0 rfl (lv_at hl 0 rfl) ?_
  refine va_get (C := RX2) (T := TX2) (N := 3) (ci := 2) hx hb hts iX2_middle_2 hown hK.1 hP 0 rfl rfl 0 (Nat.le_of_ble_eq_true rfl) (hts _ mX2_middle_7) (fun _ h9 => h9) rfl dX2_middle_1 ?_
  refine lv_aload_n hx hb dX2_middle_4 rfl (lv_at hl 0 rfl) ?_
  refine va_get (C := RX2) (T := TX2) (N := 3) (ci := 2) hx hb hts iX2_middle_2 hown hK.1 hP 0 rfl rfl 1 (Nat.le_of_ble_eq_true rfl) (hts _ mX2_middle_13) (fun _ h9 => h9) rfl dX2_middle_5 ?_
  refine k_iadd hx hb dX2_middle_8 ?_
  refine lv_iconst (v := nI 2) hx hb dX2_middle_9 (by decide) ?_
  refine k_idiv hx hb dX2_middle_10 (by omega) (by omega) (by omega) ?_
  exact hret _ _ _ _ _ () dX2_middle_11 (rfl) hP hD hS

theorem iX2_look_2 : ∀ w ∈ wsX20, w ∈ wsX2_look := by decide +kernel
theorem mX2_look_7 : Cond.fieldLink RX2 7 "LineFinder$Halves" "low" "I" ∈ wsX2_look := List.mem_of_getElem? (i := 1) rfl
theorem mX2_look_13 : Cond.fieldLink RX2 13 "LineFinder$Halves" "high" "I" ∈ wsX2_look := List.mem_of_getElem? (i := 2) rfl
theorem mX2_look_16 : Cond.fieldLink RX2 16 "LineFinder$Halves" "lookCount" "I" ∈ wsX2_look := List.mem_of_getElem? (i := 3) rfl
theorem hdX2_middle : yX2_middle.cls = RX2 ∧ yX2_middle.cls ≠ "java/lang/invoke/MethodHandle" ∧ yX2_middle.cls ≠ "java/lang/invoke/VarHandle" ∧ (parseMethodDescriptor yX2_middle.desc).map (fun d => d.parameters.length) = some 0 := by decide +kernel
abbrev rCX2_look : Room := { frames := 1, cells := 0, slots := 0, locals := 20 }
set_option maxHeartbeats 4000000 in
set_option maxRecDepth 100000 in
theorem CX2_look (jl : Launch) (G : va_G) (cI cZ cJ : ClassId) (hv lo hi lk : Nat) (h1 : lo < 100) (h2 : hi < 100) (b : Bool) : Kv jl yX2_look wsX2_look rCX2_look G cI cZ cJ [.ref hv, .int (bI b)] [oB hv 2 [.int (nI lo), .int (nI hi), .int (nI lk)]] (S := Unit) (fun (_ : Unit) => True) (fun (_ : Unit) => [oB hv 2 [.int (nI (if b then (lo + hi) / 2 else lo)), .int (nI (if b then hi else (lo + hi) / 2)), .int (nI (lk + 1))]]) := by
  refine Kv.of (cc := cX2_look) (maxL := 2) (by decide +kernel) rfl (Nat.le_of_ble_eq_true rfl) ?_
  intro jp je js jm ja jb jt jc jA jQ ls cx hnm hP hD hS hl hret
  obtain ⟨hx, hb, hml, hown, hts, hK, hA⟩ := id cx
  have hl : lv_has ls 2 [(0, .ref hv), (1, .int (bI b))] := hl
  obtain ⟨H, hH⟩ : ∃ H, H = js.heap := ⟨_, rfl⟩
  obtain ⟨locs, hlocs⟩ : ∃ z : List Loc, z = [] := ⟨_, rfl⟩
  have hP : va_P G vwCl [oB hv 2 [.int (nI lo), .int (nI hi), .int (nI lk)]] H := by rw [hH]; exact hP
  have hS : va_S jA js.heap H locs := by rw [hH, hlocs]; exact hS
  rw [← hlocs]; rw [show W jp jl je rCX2_look js jm ja jb jt jc js.heap locs 0 0 jQ (F0 jm 0 ls []) = W jp jl je rCX2_look js jm ja jb jt jc H locs 0 0 jQ (F0 jm 0 ls []) by rw [hH]]
  clear hH hlocs
  cases b with
  | true =>
    have hl : lv_has ls 2 [(0, .ref hv), (1, .int (nI 1))] := hl
    refine lv_iload_n hx hb dX2_look_0 rfl (lv_at hl 1 rfl) ?_
    refine k_if_eq_f (tgt := 15) hx hb dX2_look_1 (by decide) (by decide) ?_
    refine lv_aload_n hx hb dX2_look_4 rfl (lv_at hl 0 rfl) ?_
    refine lv_aload_n hx hb dX2_look_5 rfl (lv_at hl 0 rfl) ?_
    refine Ki.callV (wr := []) (rest := [.ref hv]) (CX2_middle jl G cI cZ cJ hv lo hi lk h1 h2) cx hP hD hS hl [0] [] (ci := 2) (q0 := 0) gX2_look_X2_middle hdX2_middle rfl rfl rfl ⟨Nat.le_of_ble_eq_true rfl, Nat.le_of_ble_eq_true rfl⟩ rfl rfl (by decide) (by decide) (by decide) dX2_look_6 rfl rfl (Nat.le_of_ble_eq_true rfl) ⟨Nat.le_of_ble_eq_true rfl, Nat.le_of_ble_eq_true rfl⟩ (fun r_2 u H locs hw_3 hP hD hS => ?_)
    have hP : va_P G vwCl [oB hv 2 [.int (nI lo), .int (nI hi), .int (nI lk)]] H := hP
    have hD : va_D jA [oB hv 2 [.int (nI lo), .int (nI hi), .int (nI lk)]] := hD
    subst hw_3
    refine va_put (C := RX2) (T := TX2) (N := 3) (ci := 2) (v := .int (nI ((lo + hi) / 2))) (ty := tyX2 0) hx hb hts iX2_look_2 tyX2 tyX2_ok nmX2 hown hK.1 hP hD hS 0 rfl rfl 0 (Nat.le_of_ble_eq_true rfl) (hts _ mX2_look_7) (fun _ h9 => h9) rfl (tyX2_ok 0 (Nat.le_of_ble_eq_true rfl)) (rfl) (rfl) (Nat.le_of_ble_eq_true rfl) dX2_look_9 (fun H locs hP hD hS => ?_)
    have hP : va_P G vwCl [oB hv 2 [.int (nI ((lo + hi) / 2)), .int (nI hi), .int (nI lk)]] H := hP
    have hD : va_D jA [oB hv 2 [.int (nI ((lo + hi) / 2)), .int (nI hi), .int (nI lk)]] := hD
    refine lv_goto (tgt := 23) hx hb dX2_look_12 (by decide) ?_
    refine lv_aload_n hx hb dX2_look_23 rfl (lv_at hl 0 rfl) ?_
    refine lv_dup hx hb dX2_look_24 rfl ?_
    refine va_get (C := RX2) (T := TX2) (N := 3) (ci := 2) hx hb hts iX2_look_2 hown hK.1 hP 0 rfl rfl 2 (Nat.le_of_ble_eq_true rfl) (hts _ mX2_look_16) (fun _ h9 => h9) rfl dX2_look_25 ?_
    refine lv_iconst (v := nI 1) hx hb dX2_look_28 (by decide) ?_
    refine k_iadd hx hb dX2_look_29 ?_
    refine va_put (C := RX2) (T := TX2) (N := 3) (ci := 2) (v := .int (nI (lk + 1))) (ty := tyX2 2) hx hb hts iX2_look_2 tyX2 tyX2_ok nmX2 hown hK.1 hP hD hS 0 rfl rfl 2 (Nat.le_of_ble_eq_true rfl) (hts _ mX2_look_16) (fun _ h9 => h9) rfl (tyX2_ok 2 (Nat.le_of_ble_eq_true rfl)) (rfl) (rfl) (Nat.le_of_ble_eq_true rfl) dX2_look_30 (fun H locs hP hD hS => ?_)
    have hP : va_P G vwCl [oB hv 2 [.int (nI ((lo + hi) / 2)), .int (nI hi), .int (nI (lk + 1))]] H := hP
    have hD : va_D jA [oB hv 2 [.int (nI ((lo + hi) / 2)), .int (nI hi), .int (nI (lk + 1))]] := hD
    exact hret _ _ _ _ () dX2_look_33 (trivial) hP hD hS
  | false =>
    have hl : lv_has ls 2 [(0, .ref hv), (1, .int (nI 0))] := hl
    refine lv_iload_n hx hb dX2_look_0 rfl (lv_at hl 1 rfl) ?_
    refine k_if_eq_t (tgt := 15) hx hb dX2_look_1 (by decide) (by decide) ?_
    refine lv_aload_n hx hb dX2_look_15 rfl (lv_at hl 0 rfl) ?_
    refine lv_aload_n hx hb dX2_look_16 rfl (lv_at hl 0 rfl) ?_
    refine Ki.callV (wr := []) (rest := [.ref hv]) (CX2_middle jl G cI cZ cJ hv lo hi lk h1 h2) cx hP hD hS hl [0] [] (ci := 2) (q0 := 0) gX2_look_X2_middle hdX2_middle rfl rfl rfl ⟨Nat.le_of_ble_eq_true rfl, Nat.le_of_ble_eq_true rfl⟩ rfl rfl (by decide) (by decide) (by decide) dX2_look_17 rfl rfl (Nat.le_of_ble_eq_true rfl) ⟨Nat.le_of_ble_eq_true rfl, Nat.le_of_ble_eq_true rfl⟩ (fun r_5 u H locs hw_6 hP hD hS => ?_)
    have hP : va_P G vwCl [oB hv 2 [.int (nI lo), .int (nI hi), .int (nI lk)]] H := hP
    have hD : va_D jA [oB hv 2 [.int (nI lo), .int (nI hi), .int (nI lk)]] := hD
    subst hw_6
    refine va_put (C := RX2) (T := TX2) (N := 3) (ci := 2) (v := .int (nI ((lo + hi) / 2))) (ty := tyX2 1) hx hb hts iX2_look_2 tyX2 tyX2_ok nmX2 hown hK.1 hP hD hS 0 rfl rfl 1 (Nat.le_of_ble_eq_true rfl) (hts _ mX2_look_13) (fun _ h9 => h9) rfl (tyX2_ok 1 (Nat.le_of_ble_eq_true rfl)) (rfl) (rfl) (Nat.le_of_ble_eq_true rfl) dX2_look_20 (fun H locs hP hD hS => ?_)
    have hP : va_P G vwCl [oB hv 2 [.int (nI lo), .int (nI ((lo + hi) / 2)), .int (nI lk)]] H := hP
    have hD : va_D jA [oB hv 2 [.int (nI lo), .int (nI ((lo + hi) / 2)), .int (nI lk)]] := hD
    refine lv_aload_n hx hb dX2_look_23 rfl (lv_at hl 0 rfl) ?_
    refine lv_dup hx hb dX2_look_24 rfl ?_
    refine va_get (C := RX2) (T := TX2) (N := 3) (ci := 2) hx hb hts iX2_look_2 hown hK.1 hP 0 rfl rfl 2 (Nat.le_of_ble_eq_true rfl) (hts _ mX2_look_16) (fun _ h9 => h9) rfl dX2_look_25 ?_
    refine lv_iconst (v := nI 1) hx hb dX2_look_28 (by decide) ?_
    refine k_iadd hx hb dX2_look_29 ?_
    refine va_put (C := RX2) (T := TX2) (N := 3) (ci := 2) (v := .int (nI (lk + 1))) (ty := tyX2 2) hx hb hts iX2_look_2 tyX2 tyX2_ok nmX2 hown hK.1 hP hD hS 0 rfl rfl 2 (Nat.le_of_ble_eq_true rfl) (hts _ mX2_look_16) (fun _ h9 => h9) rfl (tyX2_ok 2 (Nat.le_of_ble_eq_true rfl)) (rfl) (rfl) (Nat.le_of_ble_eq_true rfl) dX2_look_30 (fun H locs hP hD hS => ?_)
    have hP : va_P G vwCl [oB hv 2 [.int (nI lo), .int (nI ((lo + hi) / 2)), .int (nI (lk + 1))]] H := hP
    have hD : va_D jA [oB hv 2 [.int (nI lo), .int (nI ((lo + hi) / 2)), .int (nI (lk + 1))]] := hD
    exact hret _ _ _ _ () dX2_look_33 (trivial) hP hD hS
