theorem iX0_init_0 : ∀ w ∈ wsX00, w ∈ wsX0_init := by decide +kernel
theorem mX0_init_9 : Cond.fieldLink RX0 9 "LineFinder$Code" "ops" "[I" ∈ wsX0_init := List.mem_of_getElem? (i := 5) rfl
theorem mX0_init_15 : Cond.fieldLink RX0 15 "LineFinder$Code" "xs" "[I" ∈ wsX0_init := List.mem_of_getElem? (i := 6) rfl
theorem mX0_init_18 : Cond.fieldLink RX0 18 "LineFinder$Code" "ys" "[I" ∈ wsX0_init := List.mem_of_getElem? (i := 7) rfl
theorem mX0_init_21 : Cond.fieldLink RX0 21 "LineFinder$Code" "zs" "[I" ∈ wsX0_init := List.mem_of_getElem? (i := 8) rfl
theorem mX0_init_24 : Cond.fieldLink RX0 24 "LineFinder$Code" "size" "I" ∈ wsX0_init := List.mem_of_getElem? (i := 9) rfl
theorem wX0_init_acI : Cond.arrayClass .int ∈ wsX0_init := List.mem_of_getElem? (i := 4) rfl
theorem wX0_init_oi1 : Cond.methodLink RX0 3 objectInit ∈ wsX0_init := List.mem_of_getElem? (i := 1) rfl
theorem wX0_init_oi2 : Cond.instanceMethod objectInit ∈ wsX0_init := List.mem_of_getElem? (i := 2) rfl
theorem wX0_init_oi3 : Cond.code objectInit ⟨#[0xb1]⟩ 1 none ∈ wsX0_init := List.mem_of_getElem? (i := 3) rfl
abbrev rCX0_init : Room := { frames := 1, cells := 4, slots := 96, locals := 12 }
set_option maxHeartbeats 4000000 in
set_option maxRecDepth 100000 in
theorem CX0_init (jl : Launch) (G : va_G) (cI cZ cJ : ClassId) (o : Nat) : Kv jl yX0_init wsX0_init rCX0_init G cI cZ cJ [.ref o] [oB o 0 [.null, .null, .null, .null, .int (nI 0)]] (S := Nat → Nat) (fun (b : Nat → Nat) => True) (fun (b : Nat → Nat) => [oB o 0 [.ref (b 0), .ref (b 1), .ref (b 2), .ref (b 3), .int (nI 0)], aI cI (b 0) 24 Z0, aI cI (b 1) 24 Z0, aI cI (b 2) 24 Z0, aI cI (b 3) 24 Z0]) := by
  refine Kv.of (cc := cX0_init) (maxL := 1) (by decide +kernel) rfl (Nat.le_of_ble_eq_true rfl) ?_
  intro jp je js jm ja jb jt jc jA jQ ls cx hnm hP hD hS hl hret
  obtain ⟨hx, hb, hml, hown, hts, hK, hA⟩ := id cx
  have hl : lv_has ls 1 [(0, .ref o)] := hl
  obtain ⟨H, hH⟩ : ∃ H, H = js.heap := ⟨_, rfl⟩
  obtain ⟨locs, hlocs⟩ : ∃ z : List Loc, z = [] := ⟨_, rfl⟩
  have hP : va_P G vwCl [oB o 0 [.null, .null, .null, .null, .int (nI 0)]] H := by rw [hH]; exact hP
  have hS : va_S jA js.heap H locs := by rw [hH, hlocs]; exact hS
  rw [← hlocs]; rw [show W jp jl je rCX0_init js jm ja jb jt jc js.heap locs 0 0 jQ (F0 jm 0 ls []) = W jp jl je rCX0_init js jm ja jb jt jc H locs 0 0 jQ (F0 jm 0 ls []) by rw [hH]]
  clear hH hlocs
  refine lv_aload_n hx hb dX0_init_0 rfl (lv_at hl 0 rfl) ?_
  refine W.objInit hx hb hown (hts _ wX0_init_oi1) (hts _ wX0_init_oi2) (hts _ wX0_init_oi3) rfl (by rw [hml]; exact hl.1) rfl dX0_init_1 (Nat.le_of_ble_eq_true rfl) (Nat.le_of_ble_eq_true rfl) ?_
  refine W.eq (g2 := F0 jm 4 ls []) rfl ?_
  refine lv_aload_n hx hb dX0_init_4 rfl (lv_at hl 0 rfl) ?_
  refine lv_bipush (v := nI 24) hx hb dX0_init_5 (by decide) ?_
  refine k_newI hx hb (hts _ wX0_init_acI) hK.1 hP hD hS hA (by decide) (Nat.le_of_ble_eq_true rfl) (Nat.le_of_ble_eq_true rfl) dX0_init_7 (fun q_1 H hP hD hS => ?_)
  have hP : va_P G vwCl [oB o 0 [.null, .null, .null, .null, .int (nI 0)], aI cI q_1 24 Z0] H := hP
  have hD : va_D jA [oB o 0 [.null, .null, .null, .null, .int (nI 0)], aI cI q_1 24 Z0] := hD
  refine W.widen (k := 1) (n := 24) (Nat.le_of_ble_eq_true rfl) (Nat.le_of_ble_eq_true rfl) ?_
  refine va_putF (C := RX0) (T := TX0) (N := 5) (ci := 0) (v := .ref q_1) (ty := tyX0 0) hx hb hts iX0_init_0 tyX0 tyX0_ok nmX0 hown hK.1 hP hD hS 0 rfl rfl 0 (Nat.le_of_ble_eq_true rfl) (hts _ mX0_init_9) (fun _ h9 => h9) rfl hnm rfl (tyX0_ok 0 (Nat.le_of_ble_eq_true rfl)) (rfl) (rfl) (Nat.le_of_ble_eq_true rfl) dX0_init_9 (fun H locs hP hD hS => ?_)
  have hP : va_P G vwCl [oB o 0 [.ref q_1, .null, .null, .null, .int (nI 0)], aI cI q_1 24 Z0] H := hP
  have hD : va_D jA [oB o 0 [.ref q_1, .null, .null, .null, .int (nI 0)], aI cI q_1 24 Z0] := hD
  refine lv_aload_n hx hb dX0_init_12 rfl (lv_at hl 0 rfl) ?_
  refine lv_bipush (v := nI 24) hx hb dX0_init_13 (by decide) ?_
  refine k_newI hx hb (hts _ wX0_init_acI) hK.1 hP hD hS hA (by decide) (Nat.le_of_ble_eq_true rfl) (Nat.le_of_ble_eq_true rfl) dX0_init_15 (fun q_2 H hP hD hS => ?_)
  have hP : va_P G vwCl [oB o 0 [.ref q_1, .null, .null, .null, .int (nI 0)], aI cI q_1 24 Z0, aI cI q_2 24 Z0] H := hP
  have hD : va_D jA [oB o 0 [.ref q_1, .null, .null, .null, .int (nI 0)], aI cI q_1 24 Z0, aI cI q_2 24 Z0] := hD
  refine W.widen (k := 2) (n := 48) (Nat.le_of_ble_eq_true rfl) (Nat.le_of_ble_eq_true rfl) ?_
  refine va_putF (C := RX0) (T := TX0) (N := 5) (ci := 0) (v := .ref q_2) (ty := tyX0 1) hx hb hts iX0_init_0 tyX0 tyX0_ok nmX0 hown hK.1 hP hD hS 0 rfl rfl 1 (Nat.le_of_ble_eq_true rfl) (hts _ mX0_init_15) (fun _ h9 => h9) rfl hnm rfl (tyX0_ok 1 (Nat.le_of_ble_eq_true rfl)) (rfl) (rfl) (Nat.le_of_ble_eq_true rfl) dX0_init_17 (fun H locs hP hD hS => ?_)
  have hP : va_P G vwCl [oB o 0 [.ref q_1, .ref q_2, .null, .null, .int (nI 0)], aI cI q_1 24 Z0, aI cI q_2 24 Z0] H := hP
  have hD : va_D jA [oB o 0 [.ref q_1, .ref q_2, .null, .null, .int (nI 0)], aI cI q_1 24 Z0, aI cI q_2 24 Z0] := hD
  refine lv_aload_n hx hb dX0_init_20 rfl (lv_at hl 0 rfl) ?_
  refine lv_bipush (v := nI 24) hx hb dX0_init_21 (by decide) ?_
  refine k_newI hx hb (hts _ wX0_init_acI) hK.1 hP hD hS hA (by decide) (Nat.le_of_ble_eq_true rfl) (Nat.le_of_ble_eq_true rfl) dX0_init_23 (fun q_3 H hP hD hS => ?_)
  have hP : va_P G vwCl [oB o 0 [.ref q_1, .ref q_2, .null, .null, .int (nI 0)], aI cI q_1 24 Z0, aI cI q_2 24 Z0, aI cI q_3 24 Z0] H := hP
  have hD : va_D jA [oB o 0 [.ref q_1, .ref q_2, .null, .null, .int (nI 0)], aI cI q_1 24 Z0, aI cI q_2 24 Z0, aI cI q_3 24 Z0] := hD
  refine W.widen (k := 3) (n := 72) (Nat.le_of_ble_eq_true rfl) (Nat.le_of_ble_eq_true rfl) ?_
  refine va_putF (C := RX0) (T := TX0) (N := 5) (ci := 0) (v := .ref q_3) (ty := tyX0 2) hx hb hts iX0_init_0 tyX0 tyX0_ok nmX0 hown hK.1 hP hD hS 0 rfl rfl 2 (Nat.le_of_ble_eq_true rfl) (hts _ mX0_init_18) (fun _ h9 => h9) rfl hnm rfl (tyX0_ok 2 (Nat.le_of_ble_eq_true rfl)) (rfl) (rfl) (Nat.le_of_ble_eq_true rfl) dX0_init_25 (fun H locs hP hD hS => ?_)
  have hP : va_P G vwCl [oB o 0 [.ref q_1, .ref q_2, .ref q_3, .null, .int (nI 0)], aI cI q_1 24 Z0, aI cI q_2 24 Z0, aI cI q_3 24 Z0] H := hP
  have hD : va_D jA [oB o 0 [.ref q_1, .ref q_2, .ref q_3, .null, .int (nI 0)], aI cI q_1 24 Z0, aI cI q_2 24 Z0, aI cI q_3 24 Z0] := hD
  refine lv_aload_n hx hb dX0_init_28 rfl (lv_at hl 0 rfl) ?_
  refine lv_bipush (v := nI 24) hx hb dX0_init_29 (by decide) ?_
  refine k_newI hx hb (hts _ wX0_init_acI) hK.1 hP hD hS hA (by decide) (Nat.le_of_ble_eq_true rfl) (Nat.le_of_ble_eq_true rfl) dX0_init_31 (fun q_4 H hP hD hS => ?_)
  have hP : va_P G vwCl [oB o 0 [.ref q_1, .ref q_2, .ref q_3, .null, .int (nI 0)], aI cI q_1 24 Z0, aI cI q_2 24 Z0, aI cI q_3 24 Z0, aI cI q_4 24 Z0] H := hP
  have hD : va_D jA [oB o 0 [.ref q_1, .ref q_2, .ref q_3, .null, .int (nI 0)], aI cI q_1 24 Z0, aI cI q_2 24 Z0, aI cI q_3 24 Z0, aI cI q_4 24 Z0] := hD
  refine W.widen (k := 4) (n := 96) (Nat.le_of_ble_eq_true rfl) (Nat.le_of_ble_eq_true rfl) ?_
  refine va_putF (C := RX0) (T := TX0) (N := 5) (ci := 0) (v := .ref q_4) (ty := tyX0 3) hx hb hts iX0_init_0 tyX0 tyX0_ok nmX0 hown hK.1 hP hD hS 0 rfl rfl 3 (Nat.le_of_ble_eq_true rfl) (hts _ mX0_init_21) (fun _ h9 => h9) rfl hnm rfl (tyX0_ok 3 (Nat.le_of_ble_eq_true rfl)) (rfl) (rfl) (Nat.le_of_ble_eq_true rfl) dX0_init_33 (fun H locs hP hD hS => ?_)
  have hP : va_P G vwCl [oB o 0 [.ref q_1, .ref q_2, .ref q_3, .ref q_4, .int (nI 0)], aI cI q_1 24 Z0, aI cI q_2 24 Z0, aI cI q_3 24 Z0, aI cI q_4 24 Z0] H := hP
  have hD : va_D jA [oB o 0 [.ref q_1, .ref q_2, .ref q_3, .ref q_4, .int (nI 0)], aI cI q_1 24 Z0, aI cI q_2 24 Z0, aI cI q_3 24 Z0, aI cI q_4 24 Z0] := hD
  refine lv_aload_n hx hb dX0_init_36 rfl (lv_at hl 0 rfl) ?_
  refine lv_iconst (v := nI 0) hx hb dX0_init_37 (by decide) ?_
  refine va_put (C := RX0) (T := TX0) (N := 5) (ci := 0) (v := .int (nI 0)) (ty := tyX0 4) hx hb hts iX0_init_0 tyX0 tyX0_ok nmX0 hown hK.1 hP hD hS 0 rfl rfl 4 (Nat.le_of_ble_eq_true rfl) (hts _ mX0_init_24) (fun _ h9 => h9) rfl (tyX0_ok 4 (Nat.le_of_ble_eq_true rfl)) (rfl) (rfl) (Nat.le_of_ble_eq_true rfl) dX0_init_38 (fun H locs hP hD hS => ?_)
  have hP : va_P G vwCl [oB o 0 [.ref q_1, .ref q_2, .ref q_3, .ref q_4, .int (nI 0)], aI cI q_1 24 Z0, aI cI q_2 24 Z0, aI cI q_3 24 Z0, aI cI q_4 24 Z0] H := hP
  have hD : va_D jA [oB o 0 [.ref q_1, .ref q_2, .ref q_3, .ref q_4, .int (nI 0)], aI cI q_1 24 Z0, aI cI q_2 24 Z0, aI cI q_3 24 Z0, aI cI q_4 24 Z0] := hD
  exact hret _ _ _ _ (fN [q_1, q_2, q_3, q_4]) dX0_init_41 (trivial) hP hD hS

theorem iX1_init_1 : ∀ w ∈ wsX10, w ∈ wsX1_init := by decide +kernel
theorem mX1_init_7 : Cond.fieldLink RX1 7 "LineFinder$Fraction" "above" "I" ∈ wsX1_init := List.mem_of_getElem? (i := 4) rfl
theorem mX1_init_13 : Cond.fieldLink RX1 13 "LineFinder$Fraction" "below" "I" ∈ wsX1_init := List.mem_of_getElem? (i := 5) rfl
theorem wX1_init_oi1 : Cond.methodLink RX1 1 objectInit ∈ wsX1_init := List.mem_of_getElem? (i := 1) rfl
theorem wX1_init_oi2 : Cond.instanceMethod objectInit ∈ wsX1_init := List.mem_of_getElem? (i := 2) rfl
theorem wX1_init_oi3 : Cond.code objectInit ⟨#[0xb1]⟩ 1 none ∈ wsX1_init := List.mem_of_getElem? (i := 3) rfl
abbrev rCX1_init : Room := { frames := 1, cells := 0, slots := 0, locals := 12 }
set_option maxHeartbeats 4000000 in
set_option maxRecDepth 100000 in
theorem CX1_init (jl : Launch) (G : va_G) (cI cZ cJ : ClassId) (o : Nat) : Kv jl yX1_init wsX1_init rCX1_init G cI cZ cJ [.ref o] [oB o 1 [.int (nI 0), .int (nI 0)]] (S := Unit) (fun (_ : Unit) => True) (fun (_ : Unit) => [oB o 1 [.int (nI 0), .int (nI 1)]]) := by
  refine Kv.of (cc := cX1_init) (maxL := 1) (by decide +kernel) rfl (Nat.le_of_ble_eq_true rfl) ?_
  intro jp je js jm ja jb jt jc jA jQ ls cx hnm hP hD hS hl hret
  obtain ⟨hx, hb, hml, hown, hts, hK, hA⟩ := id cx
  have hl : lv_has ls 1 [(0, .ref o)] := hl
  obtain ⟨H, hH⟩ : ∃ H, H = js.heap := ⟨_, rfl⟩
  obtain ⟨locs, hlocs⟩ : ∃ z : List Loc, z = [] := ⟨_, rfl⟩
  have hP : va_P G vwCl [oB o 1 [.int (nI 0), .int (nI 0)]] H := by rw [hH]; exact hP
  have hS : va_S jA js.heap H locs := by rw [hH, hlocs]; exact hS
  rw [← hlocs]; rw [show W jp jl je rCX1_init js jm ja jb jt jc js.heap locs 0 0 jQ (F0 jm 0 ls []) = W jp jl je rCX1_init js jm ja jb jt jc H locs 0 0 jQ (F0 jm 0 ls []) by rw [hH]]
  clear hH hlocs
  refine lv_aload_n hx hb dX1_init_0 rfl (lv_at hl 0 rfl) ?_
  refine W.objInit hx hb hown (hts _ wX1_init_oi1) (hts _ wX1_init_oi2) (hts _ wX1_init_oi3) rfl (by rw [hml]; exact hl.1) rfl dX1_init_1 (Nat.le_of_ble_eq_true rfl) (Nat.le_of_ble_eq_true rfl) ?_
  refine W.eq (g2 := F0 jm 4 ls []) rfl ?_
  refine lv_aload_n hx hb dX1_init_4 rfl (lv_at hl 0 rfl) ?_
  refine lv_iconst (v := nI 0) hx hb dX1_init_5 (by decide) ?_
  refine va_put (C := RX1) (T := TX1) (N := 2) (ci := 1) (v := .int (nI 0)) (ty := tyX1 0) hx hb hts iX1_init_1 tyX1 tyX1_ok nmX1 hown hK.1 hP hD hS 0 rfl rfl 0 (Nat.le_of_ble_eq_true rfl) (hts _ mX1_init_7) (fun _ h9 => h9) rfl (tyX1_ok 0 (Nat.le_of_ble_eq_true rfl)) (rfl) (rfl) (Nat.le_of_ble_eq_true rfl) dX1_init_6 (fun H locs hP hD hS => ?_)
  have hP : va_P G vwCl [oB o 1 [.int (nI 0), .int (nI 0)]] H := hP
  have hD : va_D jA [oB o 1 [.int (nI 0), .int (nI 0)]] := hD
  refine lv_aload_n hx hb dX1_init_9 rfl (lv_at hl 0 rfl) ?_
  refine lv_iconst (v := nI 1) hx hb dX1_init_10 (by decide) ?_
  refine va_put (C := RX1) (T := TX1) (N := 2) (ci := 1) (v := .int (nI 1)) (ty := tyX1 1) hx hb hts iX1_init_1 tyX1 tyX1_ok nmX1 hown hK.1 hP hD hS 0 rfl rfl 1 (Nat.le_of_ble_eq_true rfl) (hts _ mX1_init_13) (fun _ h9 => h9) rfl (tyX1_ok 1 (Nat.le_of_ble_eq_true rfl)) (rfl) (rfl) (Nat.le_of_ble_eq_true rfl) dX1_init_11 (fun H locs hP hD hS => ?_)
  have hP : va_P G vwCl [oB o 1 [.int (nI 0), .int (nI 1)]] H := hP
  have hD : va_D jA [oB o 1 [.int (nI 0), .int (nI 1)]] := hD
  exact hret _ _ _ _ () dX1_init_14 (trivial) hP hD hS

theorem iX2_init_2 : ∀ w ∈ wsX20, w ∈ wsX2_init := by decide +kernel
theorem mX2_init_7 : Cond.fieldLink RX2 7 "LineFinder$Halves" "low" "I" ∈ wsX2_init := List.mem_of_getElem? (i := 4) rfl
theorem mX2_init_13 : Cond.fieldLink RX2 13 "LineFinder$Halves" "high" "I" ∈ wsX2_init := List.mem_of_getElem? (i := 5) rfl
theorem mX2_init_16 : Cond.fieldLink RX2 16 "LineFinder$Halves" "lookCount" "I" ∈ wsX2_init := List.mem_of_getElem? (i := 6) rfl
theorem wX2_init_oi1 : Cond.methodLink RX2 1 objectInit ∈ wsX2_init := List.mem_of_getElem? (i := 1) rfl
theorem wX2_init_oi2 : Cond.instanceMethod objectInit ∈ wsX2_init := List.mem_of_getElem? (i := 2) rfl
theorem wX2_init_oi3 : Cond.code objectInit ⟨#[0xb1]⟩ 1 none ∈ wsX2_init := List.mem_of_getElem? (i := 3) rfl
abbrev rCX2_init : Room := { frames := 1, cells := 0, slots := 0, locals := 12 }
set_option maxHeartbeats 4000000 in
set_option maxRecDepth 100000 in
theorem CX2_init (jl : Launch) (G : va_G) (cI cZ cJ : ClassId) (o : Nat) : Kv jl yX2_init wsX2_init rCX2_init G cI cZ cJ [.ref o] [oB o 2 [.int (nI 0), .int (nI 0), .int (nI 0)]] (S := Unit) (fun (_ : Unit) => True) (fun (_ : Unit) => [oB o 2 [.int (nI 0), .int (nI 0), .int (nI 0)]]) := by
  refine Kv.of (cc := cX2_init) (maxL := 1) (by decide +kernel) rfl (Nat.le_of_ble_eq_true rfl) ?_
  intro jp je js jm ja jb jt jc jA jQ ls cx hnm hP hD hS hl hret
  obtain ⟨hx, hb, hml, hown, hts, hK, hA⟩ := id cx
  have hl : lv_has ls 1 [(0, .ref o)] := hl
  obtain ⟨H, hH⟩ : ∃ H, H = js.heap := ⟨_, rfl⟩
  obtain ⟨locs, hlocs⟩ : ∃ z : List Loc, z = [] := ⟨_, rfl⟩
  have hP : va_P G vwCl [oB o 2 [.int (nI 0), .int (nI 0), .int (nI 0)]] H := by rw [hH]; exact hP
  have hS : va_S jA js.heap H locs := by rw [hH, hlocs]; exact hS
  rw [← hlocs]; rw [show W jp jl je rCX2_init js jm ja jb jt jc js.heap locs 0 0 jQ (F0 jm 0 ls []) = W jp jl je rCX2_init js jm ja jb jt jc H locs 0 0 jQ (F0 jm 0 ls []) by rw [hH]]
  clear hH hlocs
  refine lv_aload_n hx hb dX2_init_0 rfl (lv_at hl 0 rfl) ?_
  refine W.objInit hx hb hown (hts _ wX2_init_oi1) (hts _ wX2_init_oi2) (hts _ wX2_init_oi3) rfl (by rw [hml]; exact hl.1) rfl dX2_init_1 (Nat.le_of_ble_eq_true rfl) (Nat.le_of_ble_eq_true rfl) ?_
  refine W.eq (g2 := F0 jm 4 ls []) rfl ?_
  refine lv_aload_n hx hb dX2_init_4 rfl (lv_at hl 0 rfl) ?_
  refine lv_iconst (v := nI 0) hx hb dX2_init_5 (by decide) ?_
  refine va_put (C := RX2) (T := TX2) (N := 3) (ci := 2) (v := .int (nI 0)) (ty := tyX2 0) hx hb hts iX2_init_2 tyX2 tyX2_ok nmX2 hown hK.1 hP hD hS 0 rfl rfl 0 (Nat.le_of_ble_eq_true rfl) (hts _ mX2_init_7) (fun _ h9 => h9) rfl (tyX2_ok 0 (Nat.le_of_ble_eq_true rfl)) (rfl) (rfl) (Nat.le_of_ble_eq_true rfl) dX2_init_6 (fun H locs hP hD hS => ?_)
  have hP : va_P G vwCl [oB o 2 [.int (nI 0), .int (nI 0), .int (nI 0)]] H := hP
  have hD : va_D jA [oB o 2 [.int (nI 0), .int (nI 0), .int (nI 0)]] := hD
  refine lv_aload_n hx hb dX2_init_9 rfl (lv_at hl 0 rfl) ?_
  refine lv_iconst (v := nI 0) hx hb dX2_init_10 (by decide) ?_
  refine va_put (C := RX2) (T := TX2) (N := 3) (ci := 2) (v := .int (nI 0)) (ty := tyX2 1) hx hb hts iX2_init_2 tyX2 tyX2_ok nmX2 hown hK.1 hP hD hS 0 rfl rfl 1 (Nat.le_of_ble_eq_true rfl) (hts _ mX2_init_13) (fun _ h9 => h9) rfl (tyX2_ok 1 (Nat.le_of_ble_eq_true rfl)) (rfl) (rfl) (Nat.le_of_ble_eq_true rfl) dX2_init_11 (fun H locs hP hD hS => ?_)
  have hP : va_P G vwCl [oB o 2 [.int (nI 0), .int (nI 0), .int (nI 0)]] H := hP
  have hD : va_D jA [oB o 2 [.int (nI 0), .int (nI 0), .int (nI 0)]] := hD
  refine lv_aload_n hx hb dX2_init_14 rfl (lv_at hl 0 rfl) ?_
  refine lv_iconst (v := nI 0) hx hb dX2_init_15 (by decide) ?_
  refine va_put (C := RX2) (T := TX2) (N := 3) (ci := 2) (v := .int (nI 0)) (ty := tyX2 2) hx hb hts iX2_init_2 tyX2 tyX2_ok nmX2 hown hK.1 hP hD hS 0 rfl rfl 2 (Nat.le_of_ble_eq_true rfl) (hts _ mX2_init_16) (fun _ h9 => h9) rfl (tyX2_ok 2 (Nat.le_of_ble_eq_true rfl)) (rfl) (rfl) (Nat.le_of_ble_eq_true rfl) dX2_init_16 (fun H locs hP hD hS => ?_)
  have hP : va_P G vwCl [oB o 2 [.int (nI 0), .int (nI 0), .int (nI 0)]] H := hP
  have hD : va_D jA [oB o 2 [.int (nI 0), .int (nI 0), .int (nI 0)]] := hD
  exact hret _ _ _ _ () dX2_init_19 (trivial) hP hD hS

theorem iX4_init_4 : ∀ w ∈ wsX40, w ∈ wsX4_init := by decide +kernel
theorem mX4_init_9 : Cond.fieldLink RX4 9 "LineFinder$Run" "trace" "[I" ∈ wsX4_init := List.mem_of_getElem? (i := 5) rfl
theorem mX4_init_15 : Cond.fieldLink RX4 15 "LineFinder$Run" "outRow" "[I" ∈ wsX4_init := List.mem_of_getElem? (i := 6) rfl
theorem mX4_init_18 : Cond.fieldLink RX4 18 "LineFinder$Run" "variables" "[I" ∈ wsX4_init := List.mem_of_getElem? (i := 7) rfl
theorem mX4_init_21 : Cond.fieldLink RX4 21 "LineFinder$Run" "stepCount" "I" ∈ wsX4_init := List.mem_of_getElem? (i := 8) rfl
theorem mX4_init_25 : Cond.fieldLink RX4 25 "LineFinder$Run" "outCount" "I" ∈ wsX4_init := List.mem_of_getElem? (i := 9) rfl
theorem mX4_init_28 : Cond.fieldLink RX4 28 "LineFinder$Run" "ifCount" "I" ∈ wsX4_init := List.mem_of_getElem? (i := 10) rfl
theorem mX4_init_31 : Cond.fieldLink RX4 31 "LineFinder$Run" "wasCut" "Z" ∈ wsX4_init := List.mem_of_getElem? (i := 11) rfl
theorem mX4_init_35 : Cond.fieldLink RX4 35 "LineFinder$Run" "turnedIf" "I" ∈ wsX4_init := List.mem_of_getElem? (i := 12) rfl
theorem mX4_init_38 : Cond.fieldLink RX4 38 "LineFinder$Run" "setLine" "I" ∈ wsX4_init := List.mem_of_getElem? (i := 13) rfl
theorem mX4_init_41 : Cond.fieldLink RX4 41 "LineFinder$Run" "setValue" "I" ∈ wsX4_init := List.mem_of_getElem? (i := 14) rfl
theorem wX4_init_acI : Cond.arrayClass .int ∈ wsX4_init := List.mem_of_getElem? (i := 4) rfl
theorem wX4_init_oi1 : Cond.methodLink RX4 3 objectInit ∈ wsX4_init := List.mem_of_getElem? (i := 1) rfl
theorem wX4_init_oi2 : Cond.instanceMethod objectInit ∈ wsX4_init := List.mem_of_getElem? (i := 2) rfl
theorem wX4_init_oi3 : Cond.code objectInit ⟨#[0xb1]⟩ 1 none ∈ wsX4_init := List.mem_of_getElem? (i := 3) rfl
abbrev rCX4_init : Room := { frames := 1, cells := 3, slots := 314, locals := 12 }
set_option maxHeartbeats 4000000 in
set_option maxRecDepth 100000 in
theorem CX4_init (jl : Launch) (G : va_G) (cI cZ cJ : ClassId) (o : Nat) : Kv jl yX4_init wsX4_init rCX4_init G cI cZ cJ [.ref o] [oB o 4 [.null, .null, .null, .int (nI 0), .int (nI 0), .int (nI 0), .int (nI 0), .int (nI 0), .int (nI 0), .int (nI 0)]] (S := Nat → Nat) (fun (b : Nat → Nat) => True) (fun (b : Nat → Nat) => [oB o 4 [.ref (b 0), .ref (b 1), .ref (b 2), .int (nI 0), .int (nI 0), .int (nI 0), .int (nI 0), .int (-1), .int (-1), .int (nI 0)], aI cI (b 0) 300 Z0, aI cI (b 1) 6 Z0, aI cI (b 2) 8 Z0]) := by
  refine Kv.of (cc := cX4_init) (maxL := 1) (by decide +kernel) rfl (Nat.le_of_ble_eq_true rfl) ?_
  intro jp je js jm ja jb jt jc jA jQ ls cx hnm hP hD hS hl hret
  obtain ⟨hx, hb, hml, hown, hts, hK, hA⟩ := id cx
  have hl : lv_has ls 1 [(0, .ref o)] := hl
  obtain ⟨H, hH⟩ : ∃ H, H = js.heap := ⟨_, rfl⟩
  obtain ⟨locs, hlocs⟩ : ∃ z : List Loc, z = [] := ⟨_, rfl⟩
  have hP : va_P G vwCl [oB o 4 [.null, .null, .null, .int (nI 0), .int (nI 0), .int (nI 0), .int (nI 0), .int (nI 0), .int (nI 0), .int (nI 0)]] H := by rw [hH]; exact hP
  have hS : va_S jA js.heap H locs := by rw [hH, hlocs]; exact hS
  rw [← hlocs]; rw [show W jp jl je rCX4_init js jm ja jb jt jc js.heap locs 0 0 jQ (F0 jm 0 ls []) = W jp jl je rCX4_init js jm ja jb jt jc H locs 0 0 jQ (F0 jm 0 ls []) by rw [hH]]
  clear hH hlocs
  refine lv_aload_n hx hb dX4_init_0 rfl (lv_at hl 0 rfl) ?_
  refine W.objInit hx hb hown (hts _ wX4_init_oi1) (hts _ wX4_init_oi2) (hts _ wX4_init_oi3) rfl (by rw [hml]; exact hl.1) rfl dX4_init_1 (Nat.le_of_ble_eq_true rfl) (Nat.le_of_ble_eq_true rfl) ?_
  refine W.eq (g2 := F0 jm 4 ls []) rfl ?_
  refine lv_aload_n hx hb dX4_init_4 rfl (lv_at hl 0 rfl) ?_
  refine lv_sipush (v := nI 300) hx hb dX4_init_5 (by decide) ?_
  refine k_newI hx hb (hts _ wX4_init_acI) hK.1 hP hD hS hA (by decide) (Nat.le_of_ble_eq_true rfl) (Nat.le_of_ble_eq_true rfl) dX4_init_8 (fun q_1 H hP hD hS => ?_)
  have hP : va_P G vwCl [oB o 4 [.null, .null, .null, .int (nI 0), .int (nI 0), .int (nI 0), .int (nI 0), .int (nI 0), .int (nI 0), .int (nI 0)], aI cI q_1 300 Z0] H := hP
  have hD : va_D jA [oB o 4 [.null, .null, .null, .int (nI 0), .int (nI 0), .int (nI 0), .int (nI 0), .int (nI 0), .int (nI 0), .int (nI 0)], aI cI q_1 300 Z0] := hD
  refine W.widen (k := 1) (n := 300) (Nat.le_of_ble_eq_true rfl) (Nat.le_of_ble_eq_true rfl) ?_
  refine va_putF (C := RX4) (T := TX4) (N := 10) (ci := 4) (v := .ref q_1) (ty := tyX4 0) hx hb hts iX4_init_4 tyX4 tyX4_ok nmX4 hown hK.1 hP hD hS 0 rfl rfl 0 (Nat.le_of_ble_eq_true rfl) (hts _ mX4_init_9) (fun _ h9 => h9) rfl hnm rfl (tyX4_ok 0 (Nat.le_of_ble_eq_true rfl)) (rfl) (rfl) (Nat.le_of_ble_eq_true rfl) dX4_init_10 (fun H locs hP hD hS => ?_)
  have hP : va_P G vwCl [oB o 4 [.ref q_1, .null, .null, .int (nI 0), .int (nI 0), .int (nI 0), .int (nI 0), .int (nI 0), .int (nI 0), .int (nI 0)], aI cI q_1 300 Z0] H := hP
  have hD : va_D jA [oB o 4 [.ref q_1, .null, .null, .int (nI 0), .int (nI 0), .int (nI 0), .int (nI 0), .int (nI 0), .int (nI 0), .int (nI 0)], aI cI q_1 300 Z0] := hD
  refine lv_aload_n hx hb dX4_init_13 rfl (lv_at hl 0 rfl) ?_
  refine lv_bipush (v := nI 6) hx hb dX4_init_14 (by decide) ?_
  refine k_newI hx hb (hts _ wX4_init_acI) hK.1 hP hD hS hA (by decide) (Nat.le_of_ble_eq_true rfl) (Nat.le_of_ble_eq_true rfl) dX4_init_16 (fun q_2 H hP hD hS => ?_)
  have hP : va_P G vwCl [oB o 4 [.ref q_1, .null, .null, .int (nI 0), .int (nI 0), .int (nI 0), .int (nI 0), .int (nI 0), .int (nI 0), .int (nI 0)], aI cI q_1 300 Z0, aI cI q_2 6 Z0] H := hP
  have hD : va_D jA [oB o 4 [.ref q_1, .null, .null, .int (nI 0), .int (nI 0), .int (nI 0), .int (nI 0), .int (nI 0), .int (nI 0), .int (nI 0)], aI cI q_1 300 Z0, aI cI q_2 6 Z0] := hD
  refine W.widen (k := 2) (n := 306) (Nat.le_of_ble_eq_true rfl) (Nat.le_of_ble_eq_true rfl) ?_
  refine va_putF (C := RX4) (T := TX4) (N := 10) (ci := 4) (v := .ref q_2) (ty := tyX4 1) hx hb hts iX4_init_4 tyX4 tyX4_ok nmX4 hown hK.1 hP hD hS 0 rfl rfl 1 (Nat.le_of_ble_eq_true rfl) (hts _ mX4_init_15) (fun _ h9 => h9) rfl hnm rfl (tyX4_ok 1 (Nat.le_of_ble_eq_true rfl)) (rfl) (rfl) (Nat.le_of_ble_eq_true rfl) dX4_init_18 (fun H locs hP hD hS => ?_)
  have hP : va_P G vwCl [oB o 4 [.ref q_1, .ref q_2, .null, .int (nI 0), .int (nI 0), .int (nI 0), .int (nI 0), .int (nI 0), .int (nI 0), .int (nI 0)], aI cI q_1 300 Z0, aI cI q_2 6 Z0] H := hP
  have hD : va_D jA [oB o 4 [.ref q_1, .ref q_2, .null, .int (nI 0), .int (nI 0), .int (nI 0), .int (nI 0), .int (nI 0), .int (nI 0), .int (nI 0)], aI cI q_1 300 Z0, aI cI q_2 6 Z0] := hD
  refine lv_aload_n hx hb dX4_init_21 rfl (lv_at hl 0 rfl) ?_
  refine lv_bipush (v := nI 8) hx hb dX4_init_22 (by decide) ?_
  refine k_newI hx hb (hts _ wX4_init_acI) hK.1 hP hD hS hA (by decide) (Nat.le_of_ble_eq_true rfl) (Nat.le_of_ble_eq_true rfl) dX4_init_24 (fun q_3 H hP hD hS => ?_)
  have hP : va_P G vwCl [oB o 4 [.ref q_1, .ref q_2, .null, .int (nI 0), .int (nI 0), .int (nI 0), .int (nI 0), .int (nI 0), .int (nI 0), .int (nI 0)], aI cI q_1 300 Z0, aI cI q_2 6 Z0, aI cI q_3 8 Z0] H := hP
  have hD : va_D jA [oB o 4 [.ref q_1, .ref q_2, .null, .int (nI 0), .int (nI 0), .int (nI 0), .int (nI 0), .int (nI 0), .int (nI 0), .int (nI 0)], aI cI q_1 300 Z0, aI cI q_2 6 Z0, aI cI q_3 8 Z0] := hD
  refine W.widen (k := 3) (n := 314) (Nat.le_of_ble_eq_true rfl) (Nat.le_of_ble_eq_true rfl) ?_
  refine va_putF (C := RX4) (T := TX4) (N := 10) (ci := 4) (v := .ref q_3) (ty := tyX4 2) hx hb hts iX4_init_4 tyX4 tyX4_ok nmX4 hown hK.1 hP hD hS 0 rfl rfl 2 (Nat.le_of_ble_eq_true rfl) (hts _ mX4_init_18) (fun _ h9 => h9) rfl hnm rfl (tyX4_ok 2 (Nat.le_of_ble_eq_true rfl)) (rfl) (rfl) (Nat.le_of_ble_eq_true rfl) dX4_init_26 (fun H locs hP hD hS => ?_)
  have hP : va_P G vwCl [oB o 4 [.ref q_1, .ref q_2, .ref q_3, .int (nI 0), .int (nI 0), .int (nI 0), .int (nI 0), .int (nI 0), .int (nI 0), .int (nI 0)], aI cI q_1 300 Z0, aI cI q_2 6 Z0, aI cI q_3 8 Z0] H := hP
  have hD : va_D jA [oB o 4 [.ref q_1, .ref q_2, .ref q_3, .int (nI 0), .int (nI 0), .int (nI 0), .int (nI 0), .int (nI 0), .int (nI 0), .int (nI 0)], aI cI q_1 300 Z0, aI cI q_2 6 Z0, aI cI q_3 8 Z0] := hD
  refine lv_aload_n hx hb dX4_init_29 rfl (lv_at hl 0 rfl) ?_
  refine lv_iconst (v := nI 0) hx hb dX4_init_30 (by decide) ?_
  refine va_put (C := RX4) (T := TX4) (N := 10) (ci := 4) (v := .int (nI 0)) (ty := tyX4 3) hx hb hts iX4_init_4 tyX4 tyX4_ok nmX4 hown hK.1 hP hD hS 0 rfl rfl 3 (Nat.le_of_ble_eq_true rfl) (hts _ mX4_init_21) (fun _ h9 => h9) rfl (tyX4_ok 3 (Nat.le_of_ble_eq_true rfl)) (rfl) (rfl) (Nat.le_of_ble_eq_true rfl) dX4_init_31 (fun H locs hP hD hS => ?_)
  have hP : va_P G vwCl [oB o 4 [.ref q_1, .ref q_2, .ref q_3, .int (nI 0), .int (nI 0), .int (nI 0), .int (nI 0), .int (nI 0), .int (nI 0), .int (nI 0)], aI cI q_1 300 Z0, aI cI q_2 6 Z0, aI cI q_3 8 Z0] H := hP
  have hD : va_D jA [oB o 4 [.ref q_1, .ref q_2, .ref q_3, .int (nI 0), .int (nI 0), .int (nI 0), .int (nI 0), .int (nI 0), .int (nI 0), .int (nI 0)], aI cI q_1 300 Z0, aI cI q_2 6 Z0, aI cI q_3 8 Z0] := hD
  refine lv_aload_n hx hb dX4_init_34 rfl (lv_at hl 0 rfl) ?_
  refine lv_iconst (v := nI 0) hx hb dX4_init_35 (by decide) ?_
  refine va_put (C := RX4) (T := TX4) (N := 10) (ci := 4) (v := .int (nI 0)) (ty := tyX4 4) hx hb hts iX4_init_4 tyX4 tyX4_ok nmX4 hown hK.1 hP hD hS 0 rfl rfl 4 (Nat.le_of_ble_eq_true rfl) (hts _ mX4_init_25) (fun _ h9 => h9) rfl (tyX4_ok 4 (Nat.le_of_ble_eq_true rfl)) (rfl) (rfl) (Nat.le_of_ble_eq_true rfl) dX4_init_36 (fun H locs hP hD hS => ?_)
  have hP : va_P G vwCl [oB o 4 [.ref q_1, .ref q_2, .ref q_3, .int (nI 0), .int (nI 0), .int (nI 0), .int (nI 0), .int (nI 0), .int (nI 0), .int (nI 0)], aI cI q_1 300 Z0, aI cI q_2 6 Z0, aI cI q_3 8 Z0] H := hP
  have hD : va_D jA [oB o 4 [.ref q_1, .ref q_2, .ref q_3, .int (nI 0), .int (nI 0), .int (nI 0), .int (nI 0), .int (nI 0), .int (nI 0), .int (nI 0)], aI cI q_1 300 Z0, aI cI q_2 6 Z0, aI cI q_3 8 Z0] := hD
  refine lv_aload_n hx hb dX4_init_39 rfl (lv_at hl 0 rfl) ?_
  refine lv_iconst (v := nI 0) hx hb dX4_init_40 (by decide) ?_
  refine va_put (C := RX4) (T := TX4) (N := 10) (ci := 4) (v := .int (nI 0)) (ty := tyX4 5) hx hb hts iX4_init_4 tyX4 tyX4_ok nmX4 hown hK.1 hP hD hS 0 rfl rfl 5 (Nat.le_of_ble_eq_true rfl) (hts _ mX4_init_28) (fun _ h9 => h9) rfl (tyX4_ok 5 (Nat.le_of_ble_eq_true rfl)) (rfl) (rfl) (Nat.le_of_ble_eq_true rfl) dX4_init_41 (fun H locs hP hD hS => ?_)
  have hP : va_P G vwCl [oB o 4 [.ref q_1, .ref q_2, .ref q_3, .int (nI 0), .int (nI 0), .int (nI 0), .int (nI 0), .int (nI 0), .int (nI 0), .int (nI 0)], aI cI q_1 300 Z0, aI cI q_2 6 Z0, aI cI q_3 8 Z0] H := hP
  have hD : va_D jA [oB o 4 [.ref q_1, .ref q_2, .ref q_3, .int (nI 0), .int (nI 0), .int (nI 0), .int (nI 0), .int (nI 0), .int (nI 0), .int (nI 0)], aI cI q_1 300 Z0, aI cI q_2 6 Z0, aI cI q_3 8 Z0] := hD
  refine lv_aload_n hx hb dX4_init_44 rfl (lv_at hl 0 rfl) ?_
  refine lv_iconst (v := nI 0) hx hb dX4_init_45 (by decide) ?_
  refine va_put (C := RX4) (T := TX4) (N := 10) (ci := 4) (v := .int (nI 0)) (ty := tyX4 6) hx hb hts iX4_init_4 tyX4 tyX4_ok nmX4 hown hK.1 hP hD hS 0 rfl rfl 6 (Nat.le_of_ble_eq_true rfl) (hts _ mX4_init_31) (fun _ h9 => h9) rfl (tyX4_ok 6 (Nat.le_of_ble_eq_true rfl)) (by decide) (by decide) (Nat.le_of_ble_eq_true rfl) dX4_init_46 (fun H locs hP hD hS => ?_)
  have hP : va_P G vwCl [oB o 4 [.ref q_1, .ref q_2, .ref q_3, .int (nI 0), .int (nI 0), .int (nI 0), .int (nI 0), .int (nI 0), .int (nI 0), .int (nI 0)], aI cI q_1 300 Z0, aI cI q_2 6 Z0, aI cI q_3 8 Z0] H := hP
  have hD : va_D jA [oB o 4 [.ref q_1, .ref q_2, .ref q_3, .int (nI 0), .int (nI 0), .int (nI 0), .int (nI 0), .int (nI 0), .int (nI 0), .int (nI 0)], aI cI q_1 300 Z0, aI cI q_2 6 Z0, aI cI q_3 8 Z0] := hD
  refine lv_aload_n hx hb dX4_init_49 rfl (lv_at hl 0 rfl) ?_
  refine lv_iconst (v := (-1)) hx hb dX4_init_50 (by decide) ?_
  refine va_put (C := RX4) (T := TX4) (N := 10) (ci := 4) (v := .int (-1)) (ty := tyX4 7) hx hb hts iX4_init_4 tyX4 tyX4_ok nmX4 hown hK.1 hP hD hS 0 rfl rfl 7 (Nat.le_of_ble_eq_true rfl) (hts _ mX4_init_35) (fun _ h9 => h9) rfl (tyX4_ok 7 (Nat.le_of_ble_eq_true rfl)) (rfl) (rfl) (Nat.le_of_ble_eq_true rfl) dX4_init_51 (fun H locs hP hD hS => ?_)
  have hP : va_P G vwCl [oB o 4 [.ref q_1, .ref q_2, .ref q_3, .int (nI 0), .int (nI 0), .int (nI 0), .int (nI 0), .int (-1), .int (nI 0), .int (nI 0)], aI cI q_1 300 Z0, aI cI q_2 6 Z0, aI cI q_3 8 Z0] H := hP
  have hD : va_D jA [oB o 4 [.ref q_1, .ref q_2, .ref q_3, .int (nI 0), .int (nI 0), .int (nI 0), .int (nI 0), .int (-1), .int (nI 0), .int (nI 0)], aI cI q_1 300 Z0, aI cI q_2 6 Z0, aI cI q_3 8 Z0] := hD
  refine lv_aload_n hx hb dX4_init_54 rfl (lv_at hl 0 rfl) ?_
  refine lv_iconst (v := (-1)) hx hb dX4_init_55 (by decide) ?_
  refine va_put (C := RX4) (T := TX4) (N := 10) (ci := 4) (v := .int (-1)) (ty := tyX4 8) hx hb hts iX4_init_4 tyX4 tyX4_ok nmX4 hown hK.1 hP hD hS 0 rfl rfl 8 (Nat.le_of_ble_eq_true rfl) (hts _ mX4_init_38) (fun _ h9 => h9) rfl (tyX4_ok 8 (Nat.le_of_ble_eq_true rfl)) (rfl) (rfl) (Nat.le_of_ble_eq_true rfl) dX4_init_56 (fun H locs hP hD hS => ?_)
  have hP : va_P G vwCl [oB o 4 [.ref q_1, .ref q_2, .ref q_3, .int (nI 0), .int (nI 0), .int (nI 0), .int (nI 0), .int (-1), .int (-1), .int (nI 0)], aI cI q_1 300 Z0, aI cI q_2 6 Z0, aI cI q_3 8 Z0] H := hP
  have hD : va_D jA [oB o 4 [.ref q_1, .ref q_2, .ref q_3, .int (nI 0), .int (nI 0), .int (nI 0), .int (nI 0), .int (-1), .int (-1), .int (nI 0)], aI cI q_1 300 Z0, aI cI q_2 6 Z0, aI cI q_3 8 Z0] := hD
  refine lv_aload_n hx hb dX4_init_59 rfl (lv_at hl 0 rfl) ?_
  refine lv_iconst (v := nI 0) hx hb dX4_init_60 (by decide) ?_
  refine va_put (C := RX4) (T := TX4) (N := 10) (ci := 4) (v := .int (nI 0)) (ty := tyX4 9) hx hb hts iX4_init_4 tyX4 tyX4_ok nmX4 hown hK.1 hP hD hS 0 rfl rfl 9 (Nat.le_of_ble_eq_true rfl) (hts _ mX4_init_41) (fun _ h9 => h9) rfl (tyX4_ok 9 (Nat.le_of_ble_eq_true rfl)) (rfl) (rfl) (Nat.le_of_ble_eq_true rfl) dX4_init_61 (fun H locs hP hD hS => ?_)
  have hP : va_P G vwCl [oB o 4 [.ref q_1, .ref q_2, .ref q_3, .int (nI 0), .int (nI 0), .int (nI 0), .int (nI 0), .int (-1), .int (-1), .int (nI 0)], aI cI q_1 300 Z0, aI cI q_2 6 Z0, aI cI q_3 8 Z0] H := hP
  have hD : va_D jA [oB o 4 [.ref q_1, .ref q_2, .ref q_3, .int (nI 0), .int (nI 0), .int (nI 0), .int (nI 0), .int (-1), .int (-1), .int (nI 0)], aI cI q_1 300 Z0, aI cI q_2 6 Z0, aI cI q_3 8 Z0] := hD
  exact hret _ _ _ _ (fN [q_1, q_2, q_3]) dX4_init_64 (trivial) hP hD hS

theorem iX5_init_5 : ∀ w ∈ wsX50, w ∈ wsX5_init := by decide +kernel
theorem mX5_init_9 : Cond.fieldLink RX5 9 "LineFinder$Slicer" "behindVariables" "[I" ∈ wsX5_init := List.mem_of_getElem? (i := 5) rfl
theorem wX5_init_acI : Cond.arrayClass .int ∈ wsX5_init := List.mem_of_getElem? (i := 4) rfl
theorem wX5_init_oi1 : Cond.methodLink RX5 3 objectInit ∈ wsX5_init := List.mem_of_getElem? (i := 1) rfl
theorem wX5_init_oi2 : Cond.instanceMethod objectInit ∈ wsX5_init := List.mem_of_getElem? (i := 2) rfl
theorem wX5_init_oi3 : Cond.code objectInit ⟨#[0xb1]⟩ 1 none ∈ wsX5_init := List.mem_of_getElem? (i := 3) rfl
abbrev rCX5_init : Room := { frames := 1, cells := 1, slots := 8, locals := 12 }
set_option maxHeartbeats 4000000 in
set_option maxRecDepth 100000 in
theorem CX5_init (jl : Launch) (G : va_G) (cI cZ cJ : ClassId) (o : Nat) : Kv jl yX5_init wsX5_init rCX5_init G cI cZ cJ [.ref o] [oB o 5 [.null]] (S := Nat → Nat) (fun (b : Nat → Nat) => True) (fun (b : Nat → Nat) => [oB o 5 [.ref (b 0)], aI cI (b 0) 8 Z0]) := by
  refine Kv.of (cc := cX5_init) (maxL := 1) (by decide +kernel) rfl (Nat.le_of_ble_eq_true rfl) ?_
  intro jp je js jm ja jb jt jc jA jQ ls cx hnm hP hD hS hl hret
  obtain ⟨hx, hb, hml, hown, hts, hK, hA⟩ := id cx
  have hl : lv_has ls 1 [(0, .ref o)] := hl
  obtain ⟨H, hH⟩ : ∃ H, H = js.heap := ⟨_, rfl⟩
  obtain ⟨locs, hlocs⟩ : ∃ z : List Loc, z = [] := ⟨_, rfl⟩
  have hP : va_P G vwCl [oB o 5 [.null]] H := by rw [hH]; exact hP
  have hS : va_S jA js.heap H locs := by rw [hH, hlocs]; exact hS
  rw [← hlocs]; rw [show W jp jl je rCX5_init js jm ja jb jt jc js.heap locs 0 0 jQ (F0 jm 0 ls []) = W jp jl je rCX5_init js jm ja jb jt jc H locs 0 0 jQ (F0 jm 0 ls []) by rw [hH]]
  clear hH hlocs
  refine lv_aload_n hx hb dX5_init_0 rfl (lv_at hl 0 rfl) ?_
  refine W.objInit hx hb hown (hts _ wX5_init_oi1) (hts _ wX5_init_oi2) (hts _ wX5_init_oi3) rfl (by rw [hml]; exact hl.1) rfl dX5_init_1 (Nat.le_of_ble_eq_true rfl) (Nat.le_of_ble_eq_true rfl) ?_
  refine W.eq (g2 := F0 jm 4 ls []) rfl ?_
  refine lv_aload_n hx hb dX5_init_4 rfl (lv_at hl 0 rfl) ?_
  refine lv_bipush (v := nI 8) hx hb dX5_init_5 (by decide) ?_
  refine k_newI hx hb (hts _ wX5_init_acI) hK.1 hP hD hS hA (by decide) (Nat.le_of_ble_eq_true rfl) (Nat.le_of_ble_eq_true rfl) dX5_init_7 (fun q_1 H hP hD hS => ?_)
  have hP : va_P G vwCl [oB o 5 [.null], aI cI q_1 8 Z0] H := hP
  have hD : va_D jA [oB o 5 [.null], aI cI q_1 8 Z0] := hD
  refine W.widen (k := 1) (n := 8) (Nat.le_of_ble_eq_true rfl) (Nat.le_of_ble_eq_true rfl) ?_
  refine va_putF (C := RX5) (T := TX5) (N := 1) (ci := 5) (v := .ref q_1) (ty := tyX5 0) hx hb hts iX5_init_5 tyX5 tyX5_ok nmX5 hown hK.1 hP hD hS 0 rfl rfl 0 (Nat.le_of_ble_eq_true rfl) (hts _ mX5_init_9) (fun _ h9 => h9) rfl hnm rfl (tyX5_ok 0 (Nat.le_of_ble_eq_true rfl)) (rfl) (rfl) (Nat.le_of_ble_eq_true rfl) dX5_init_9 (fun H locs hP hD hS => ?_)
  have hP : va_P G vwCl [oB o 5 [.ref q_1], aI cI q_1 8 Z0] H := hP
  have hD : va_D jA [oB o 5 [.ref q_1], aI cI q_1 8 Z0] := hD
  exact hret _ _ _ _ (fN [q_1]) dX5_init_12 (trivial) hP hD hS

theorem iX6_init_6 : ∀ w ∈ wsX60, w ∈ wsX6_init := by decide +kernel
theorem mX6_init_9 : Cond.fieldLink RX6 9 "LineFinder$Suite" "inputs" "[I" ∈ wsX6_init := List.mem_of_getElem? (i := 5) rfl
theorem mX6_init_15 : Cond.fieldLink RX6 15 "LineFinder$Suite" "rows" "[I" ∈ wsX6_init := List.mem_of_getElem? (i := 6) rfl
theorem mX6_init_18 : Cond.fieldLink RX6 18 "LineFinder$Suite" "lengths" "[I" ∈ wsX6_init := List.mem_of_getElem? (i := 7) rfl
theorem mX6_init_21 : Cond.fieldLink RX6 21 "LineFinder$Suite" "openBits" "I" ∈ wsX6_init := List.mem_of_getElem? (i := 8) rfl
theorem mX6_init_25 : Cond.fieldLink RX6 25 "LineFinder$Suite" "size" "I" ∈ wsX6_init := List.mem_of_getElem? (i := 9) rfl
theorem wX6_init_acI : Cond.arrayClass .int ∈ wsX6_init := List.mem_of_getElem? (i := 4) rfl
theorem wX6_init_oi1 : Cond.methodLink RX6 3 objectInit ∈ wsX6_init := List.mem_of_getElem? (i := 1) rfl
theorem wX6_init_oi2 : Cond.instanceMethod objectInit ∈ wsX6_init := List.mem_of_getElem? (i := 2) rfl
theorem wX6_init_oi3 : Cond.code objectInit ⟨#[0xb1]⟩ 1 none ∈ wsX6_init := List.mem_of_getElem? (i := 3) rfl
abbrev rCX6_init : Room := { frames := 1, cells := 3, slots := 132, locals := 12 }
set_option maxHeartbeats 4000000 in
set_option maxRecDepth 100000 in
theorem CX6_init (jl : Launch) (G : va_G) (cI cZ cJ : ClassId) (o : Nat) : Kv jl yX6_init wsX6_init rCX6_init G cI cZ cJ [.ref o] [oB o 6 [.null, .null, .null, .int (nI 0), .int (nI 0)]] (S := Nat → Nat) (fun (b : Nat → Nat) => True) (fun (b : Nat → Nat) => [oB o 6 [.ref (b 0), .ref (b 1), .ref (b 2), .int (nI 0), .int (nI 0)], aI cI (b 0) 48 Z0, aI cI (b 1) 72 Z0, aI cI (b 2) 12 Z0]) := by
  refine Kv.of (cc := cX6_init) (maxL := 1) (by decide +kernel) rfl (Nat.le_of_ble_eq_true rfl) ?_
  intro jp je js jm ja jb jt jc jA jQ ls cx hnm hP hD hS hl hret
  obtain ⟨hx, hb, hml, hown, hts, hK, hA⟩ := id cx
  have hl : lv_has ls 1 [(0, .ref o)] := hl
  obtain ⟨H, hH⟩ : ∃ H, H = js.heap := ⟨_, rfl⟩
  obtain ⟨locs, hlocs⟩ : ∃ z : List Loc, z = [] := ⟨_, rfl⟩
  have hP : va_P G vwCl [oB o 6 [.null, .null, .null, .int (nI 0), .int (nI 0)]] H := by rw [hH]; exact hP
  have hS : va_S jA js.heap H locs := by rw [hH, hlocs]; exact hS
  rw [← hlocs]; rw [show W jp jl je rCX6_init js jm ja jb jt jc js.heap locs 0 0 jQ (F0 jm 0 ls []) = W jp jl je rCX6_init js jm ja jb jt jc H locs 0 0 jQ (F0 jm 0 ls []) by rw [hH]]
  clear hH hlocs
  refine lv_aload_n hx hb dX6_init_0 rfl (lv_at hl 0 rfl) ?_
  refine W.objInit hx hb hown (hts _ wX6_init_oi1) (hts _ wX6_init_oi2) (hts _ wX6_init_oi3) rfl (by rw [hml]; exact hl.1) rfl dX6_init_1 (Nat.le_of_ble_eq_true rfl) (Nat.le_of_ble_eq_true rfl) ?_
  refine W.eq (g2 := F0 jm 4 ls []) rfl ?_
  refine lv_aload_n hx hb dX6_init_4 rfl (lv_at hl 0 rfl) ?_
  refine lv_bipush (v := nI 48) hx hb dX6_init_5 (by decide) ?_
  refine k_newI hx hb (hts _ wX6_init_acI) hK.1 hP hD hS hA (by decide) (Nat.le_of_ble_eq_true rfl) (Nat.le_of_ble_eq_true rfl) dX6_init_7 (fun q_1 H hP hD hS => ?_)
  have hP : va_P G vwCl [oB o 6 [.null, .null, .null, .int (nI 0), .int (nI 0)], aI cI q_1 48 Z0] H := hP
  have hD : va_D jA [oB o 6 [.null, .null, .null, .int (nI 0), .int (nI 0)], aI cI q_1 48 Z0] := hD
  refine W.widen (k := 1) (n := 48) (Nat.le_of_ble_eq_true rfl) (Nat.le_of_ble_eq_true rfl) ?_
  refine va_putF (C := RX6) (T := TX6) (N := 5) (ci := 6) (v := .ref q_1) (ty := tyX6 0) hx hb hts iX6_init_6 tyX6 tyX6_ok nmX6 hown hK.1 hP hD hS 0 rfl rfl 0 (Nat.le_of_ble_eq_true rfl) (hts _ mX6_init_9) (fun _ h9 => h9) rfl hnm rfl (tyX6_ok 0 (Nat.le_of_ble_eq_true rfl)) (rfl) (rfl) (Nat.le_of_ble_eq_true rfl) dX6_init_9 (fun H locs hP hD hS => ?_)
  have hP : va_P G vwCl [oB o 6 [.ref q_1, .null, .null, .int (nI 0), .int (nI 0)], aI cI q_1 48 Z0] H := hP
  have hD : va_D jA [oB o 6 [.ref q_1, .null, .null, .int (nI 0), .int (nI 0)], aI cI q_1 48 Z0] := hD
  refine lv_aload_n hx hb dX6_init_12 rfl (lv_at hl 0 rfl) ?_
  refine lv_bipush (v := nI 72) hx hb dX6_init_13 (by decide) ?_
  refine k_newI hx hb (hts _ wX6_init_acI) hK.1 hP hD hS hA (by decide) (Nat.le_of_ble_eq_true rfl) (Nat.le_of_ble_eq_true rfl) dX6_init_15 (fun q_2 H hP hD hS => ?_)
  have hP : va_P G vwCl [oB o 6 [.ref q_1, .null, .null, .int (nI 0), .int (nI 0)], aI cI q_1 48 Z0, aI cI q_2 72 Z0] H := hP
  have hD : va_D jA [oB o 6 [.ref q_1, .null, .null, .int (nI 0), .int (nI 0)], aI cI q_1 48 Z0, aI cI q_2 72 Z0] := hD
  refine W.widen (k := 2) (n := 120) (Nat.le_of_ble_eq_true rfl) (Nat.le_of_ble_eq_true rfl) ?_
  refine va_putF (C := RX6) (T := TX6) (N := 5) (ci := 6) (v := .ref q_2) (ty := tyX6 1) hx hb hts iX6_init_6 tyX6 tyX6_ok nmX6 hown hK.1 hP hD hS 0 rfl rfl 1 (Nat.le_of_ble_eq_true rfl) (hts _ mX6_init_15) (fun _ h9 => h9) rfl hnm rfl (tyX6_ok 1 (Nat.le_of_ble_eq_true rfl)) (rfl) (rfl) (Nat.le_of_ble_eq_true rfl) dX6_init_17 (fun H locs hP hD hS => ?_)
  have hP : va_P G vwCl [oB o 6 [.ref q_1, .ref q_2, .null, .int (nI 0), .int (nI 0)], aI cI q_1 48 Z0, aI cI q_2 72 Z0] H := hP
  have hD : va_D jA [oB o 6 [.ref q_1, .ref q_2, .null, .int (nI 0), .int (nI 0)], aI cI q_1 48 Z0, aI cI q_2 72 Z0] := hD
  refine lv_aload_n hx hb dX6_init_20 rfl (lv_at hl 0 rfl) ?_
  refine lv_bipush (v := nI 12) hx hb dX6_init_21 (by decide) ?_
  refine k_newI hx hb (hts _ wX6_init_acI) hK.1 hP hD hS hA (by decide) (Nat.le_of_ble_eq_true rfl) (Nat.le_of_ble_eq_true rfl) dX6_init_23 (fun q_3 H hP hD hS => ?_)
  have hP : va_P G vwCl [oB o 6 [.ref q_1, .ref q_2, .null, .int (nI 0), .int (nI 0)], aI cI q_1 48 Z0, aI cI q_2 72 Z0, aI cI q_3 12 Z0] H := hP
  have hD : va_D jA [oB o 6 [.ref q_1, .ref q_2, .null, .int (nI 0), .int (nI 0)], aI cI q_1 48 Z0, aI cI q_2 72 Z0, aI cI q_3 12 Z0] := hD
  refine W.widen (k := 3) (n := 132) (Nat.le_of_ble_eq_true rfl) (Nat.le_of_ble_eq_true rfl) ?_
  refine va_putF (C := RX6) (T := TX6) (N := 5) (ci := 6) (v := .ref q_3) (ty := tyX6 2) hx hb hts iX6_init_6 tyX6 tyX6_ok nmX6 hown hK.1 hP hD hS 0 rfl rfl 2 (Nat.le_of_ble_eq_true rfl) (hts _ mX6_init_18) (fun _ h9 => h9) rfl hnm rfl (tyX6_ok 2 (Nat.le_of_ble_eq_true rfl)) (rfl) (rfl) (Nat.le_of_ble_eq_true rfl) dX6_init_25 (fun H locs hP hD hS => ?_)
  have hP : va_P G vwCl [oB o 6 [.ref q_1, .ref q_2, .ref q_3, .int (nI 0), .int (nI 0)], aI cI q_1 48 Z0, aI cI q_2 72 Z0, aI cI q_3 12 Z0] H := hP
  have hD : va_D jA [oB o 6 [.ref q_1, .ref q_2, .ref q_3, .int (nI 0), .int (nI 0)], aI cI q_1 48 Z0, aI cI q_2 72 Z0, aI cI q_3 12 Z0] := hD
  refine lv_aload_n hx hb dX6_init_28 rfl (lv_at hl 0 rfl) ?_
  refine lv_iconst (v := nI 0) hx hb dX6_init_29 (by decide) ?_
  refine va_put (C := RX6) (T := TX6) (N := 5) (ci := 6) (v := .int (nI 0)) (ty := tyX6 3) hx hb hts iX6_init_6 tyX6 tyX6_ok nmX6 hown hK.1 hP hD hS 0 rfl rfl 3 (Nat.le_of_ble_eq_true rfl) (hts _ mX6_init_21) (fun _ h9 => h9) rfl (tyX6_ok 3 (Nat.le_of_ble_eq_true rfl)) (rfl) (rfl) (Nat.le_of_ble_eq_true rfl) dX6_init_30 (fun H locs hP hD hS => ?_)
  have hP : va_P G vwCl [oB o 6 [.ref q_1, .ref q_2, .ref q_3, .int (nI 0), .int (nI 0)], aI cI q_1 48 Z0, aI cI q_2 72 Z0, aI cI q_3 12 Z0] H := hP
  have hD : va_D jA [oB o 6 [.ref q_1, .ref q_2, .ref q_3, .int (nI 0), .int (nI 0)], aI cI q_1 48 Z0, aI cI q_2 72 Z0, aI cI q_3 12 Z0] := hD
  refine lv_aload_n hx hb dX6_init_33 rfl (lv_at hl 0 rfl) ?_
  refine lv_iconst (v := nI 0) hx hb dX6_init_34 (by decide) ?_
  refine va_put (C := RX6) (T := TX6) (N := 5) (ci := 6) (v := .int (nI 0)) (ty := tyX6 4) hx hb hts iX6_init_6 tyX6 tyX6_ok nmX6 hown hK.1 hP hD hS 0 rfl rfl 4 (Nat.le_of_ble_eq_true rfl) (hts _ mX6_init_25) (fun _ h9 => h9) rfl (tyX6_ok 4 (Nat.le_of_ble_eq_true rfl)) (rfl) (rfl) (Nat.le_of_ble_eq_true rfl) dX6_init_35 (fun H locs hP hD hS => ?_)
  have hP : va_P G vwCl [oB o 6 [.ref q_1, .ref q_2, .ref q_3, .int (nI 0), .int (nI 0)], aI cI q_1 48 Z0, aI cI q_2 72 Z0, aI cI q_3 12 Z0] H := hP
  have hD : va_D jA [oB o 6 [.ref q_1, .ref q_2, .ref q_3, .int (nI 0), .int (nI 0)], aI cI q_1 48 Z0, aI cI q_2 72 Z0, aI cI q_3 12 Z0] := hD
  exact hret _ _ _ _ (fN [q_1, q_2, q_3]) dX6_init_38 (trivial) hP hD hS

theorem iX8_init_8 : ∀ w ∈ wsX80, w ∈ wsX8_init := by decide +kernel
theorem mX8_init_9 : Cond.fieldLink RX8 9 "LineFinder$Verdicts" "metBy" "[I" ∈ wsX8_init := List.mem_of_getElem? (i := 5) rfl
theorem mX8_init_15 : Cond.fieldLink RX8 15 "LineFinder$Verdicts" "failing" "I" ∈ wsX8_init := List.mem_of_getElem? (i := 6) rfl
theorem mX8_init_19 : Cond.fieldLink RX8 19 "LineFinder$Verdicts" "passing" "I" ∈ wsX8_init := List.mem_of_getElem? (i := 7) rfl
theorem mX8_init_22 : Cond.fieldLink RX8 22 "LineFinder$Verdicts" "cut" "I" ∈ wsX8_init := List.mem_of_getElem? (i := 8) rfl
theorem wX8_init_acI : Cond.arrayClass .int ∈ wsX8_init := List.mem_of_getElem? (i := 4) rfl
theorem wX8_init_oi1 : Cond.methodLink RX8 3 objectInit ∈ wsX8_init := List.mem_of_getElem? (i := 1) rfl
theorem wX8_init_oi2 : Cond.instanceMethod objectInit ∈ wsX8_init := List.mem_of_getElem? (i := 2) rfl
theorem wX8_init_oi3 : Cond.code objectInit ⟨#[0xb1]⟩ 1 none ∈ wsX8_init := List.mem_of_getElem? (i := 3) rfl
abbrev rCX8_init : Room := { frames := 1, cells := 1, slots := 24, locals := 12 }
set_option maxHeartbeats 4000000 in
set_option maxRecDepth 100000 in
theorem CX8_init (jl : Launch) (G : va_G) (cI cZ cJ : ClassId) (o : Nat) : Kv jl yX8_init wsX8_init rCX8_init G cI cZ cJ [.ref o] [oB o 8 [.null, .int (nI 0), .int (nI 0), .int (nI 0)]] (S := Nat → Nat) (fun (b : Nat → Nat) => True) (fun (b : Nat → Nat) => [oB o 8 [.ref (b 0), .int (nI 0), .int (nI 0), .int (nI 0)], aI cI (b 0) 24 Z0]) := by
  refine Kv.of (cc := cX8_init) (maxL := 1) (by decide +kernel) rfl (Nat.le_of_ble_eq_true rfl) ?_
  intro jp je js jm ja jb jt jc jA jQ ls cx hnm hP hD hS hl hret
  obtain ⟨hx, hb, hml, hown, hts, hK, hA⟩ := id cx
  have hl : lv_has ls 1 [(0, .ref o)] := hl
  obtain ⟨H, hH⟩ : ∃ H, H = js.heap := ⟨_, rfl⟩
  obtain ⟨locs, hlocs⟩ : ∃ z : List Loc, z = [] := ⟨_, rfl⟩
  have hP : va_P G vwCl [oB o 8 [.null, .int (nI 0), .int (nI 0), .int (nI 0)]] H := by rw [hH]; exact hP
  have hS : va_S jA js.heap H locs := by rw [hH, hlocs]; exact hS
  rw [← hlocs]; rw [show W jp jl je rCX8_init js jm ja jb jt jc js.heap locs 0 0 jQ (F0 jm 0 ls []) = W jp jl je rCX8_init js jm ja jb jt jc H locs 0 0 jQ (F0 jm 0 ls []) by rw [hH]]
  clear hH hlocs
  refine lv_aload_n hx hb dX8_init_0 rfl (lv_at hl 0 rfl) ?_
  refine W.objInit hx hb hown (hts _ wX8_init_oi1) (hts _ wX8_init_oi2) (hts _ wX8_init_oi3) rfl (by rw [hml]; exact hl.1) rfl dX8_init_1 (Nat.le_of_ble_eq_true rfl) (Nat.le_of_ble_eq_true rfl) ?_
  refine W.eq (g2 := F0 jm 4 ls []) rfl ?_
  refine lv_aload_n hx hb dX8_init_4 rfl (lv_at hl 0 rfl) ?_
  refine lv_bipush (v := nI 24) hx hb dX8_init_5 (by decide) ?_
  refine k_newI hx hb (hts _ wX8_init_acI) hK.1 hP hD hS hA (by decide) (Nat.le_of_ble_eq_true rfl) (Nat.le_of_ble_eq_true rfl) dX8_init_7 (fun q_1 H hP hD hS => ?_)
  have hP : va_P G vwCl [oB o 8 [.null, .int (nI 0), .int (nI 0), .int (nI 0)], aI cI q_1 24 Z0] H := hP
  have hD : va_D jA [oB o 8 [.null, .int (nI 0), .int (nI 0), .int (nI 0)], aI cI q_1 24 Z0] := hD
  refine W.widen (k := 1) (n := 24) (Nat.le_of_ble_eq_true rfl) (Nat.le_of_ble_eq_true rfl) ?_
  refine va_putF (C := RX8) (T := TX8) (N := 4) (ci := 8) (v := .ref q_1) (ty := tyX8 0) hx hb hts iX8_init_8 tyX8 tyX8_ok nmX8 hown hK.1 hP hD hS 0 rfl rfl 0 (Nat.le_of_ble_eq_true rfl) (hts _ mX8_init_9) (fun _ h9 => h9) rfl hnm rfl (tyX8_ok 0 (Nat.le_of_ble_eq_true rfl)) (rfl) (rfl) (Nat.le_of_ble_eq_true rfl) dX8_init_9 (fun H locs hP hD hS => ?_)
  have hP : va_P G vwCl [oB o 8 [.ref q_1, .int (nI 0), .int (nI 0), .int (nI 0)], aI cI q_1 24 Z0] H := hP
  have hD : va_D jA [oB o 8 [.ref q_1, .int (nI 0), .int (nI 0), .int (nI 0)], aI cI q_1 24 Z0] := hD
  refine lv_aload_n hx hb dX8_init_12 rfl (lv_at hl 0 rfl) ?_
  refine lv_iconst (v := nI 0) hx hb dX8_init_13 (by decide) ?_
  refine va_put (C := RX8) (T := TX8) (N := 4) (ci := 8) (v := .int (nI 0)) (ty := tyX8 1) hx hb hts iX8_init_8 tyX8 tyX8_ok nmX8 hown hK.1 hP hD hS 0 rfl rfl 1 (Nat.le_of_ble_eq_true rfl) (hts _ mX8_init_15) (fun _ h9 => h9) rfl (tyX8_ok 1 (Nat.le_of_ble_eq_true rfl)) (rfl) (rfl) (Nat.le_of_ble_eq_true rfl) dX8_init_14 (fun H locs hP hD hS => ?_)
  have hP : va_P G vwCl [oB o 8 [.ref q_1, .int (nI 0), .int (nI 0), .int (nI 0)], aI cI q_1 24 Z0] H := hP
  have hD : va_D jA [oB o 8 [.ref q_1, .int (nI 0), .int (nI 0), .int (nI 0)], aI cI q_1 24 Z0] := hD
  refine lv_aload_n hx hb dX8_init_17 rfl (lv_at hl 0 rfl) ?_
  refine lv_iconst (v := nI 0) hx hb dX8_init_18 (by decide) ?_
  refine va_put (C := RX8) (T := TX8) (N := 4) (ci := 8) (v := .int (nI 0)) (ty := tyX8 2) hx hb hts iX8_init_8 tyX8 tyX8_ok nmX8 hown hK.1 hP hD hS 0 rfl rfl 2 (Nat.le_of_ble_eq_true rfl) (hts _ mX8_init_19) (fun _ h9 => h9) rfl (tyX8_ok 2 (Nat.le_of_ble_eq_true rfl)) (rfl) (rfl) (Nat.le_of_ble_eq_true rfl) dX8_init_19 (fun H locs hP hD hS => ?_)
  have hP : va_P G vwCl [oB o 8 [.ref q_1, .int (nI 0), .int (nI 0), .int (nI 0)], aI cI q_1 24 Z0] H := hP
  have hD : va_D jA [oB o 8 [.ref q_1, .int (nI 0), .int (nI 0), .int (nI 0)], aI cI q_1 24 Z0] := hD
  refine lv_aload_n hx hb dX8_init_22 rfl (lv_at hl 0 rfl) ?_
  refine lv_iconst (v := nI 0) hx hb dX8_init_23 (by decide) ?_
  refine va_put (C := RX8) (T := TX8) (N := 4) (ci := 8) (v := .int (nI 0)) (ty := tyX8 3) hx hb hts iX8_init_8 tyX8 tyX8_ok nmX8 hown hK.1 hP hD hS 0 rfl rfl 3 (Nat.le_of_ble_eq_true rfl) (hts _ mX8_init_22) (fun _ h9 => h9) rfl (tyX8_ok 3 (Nat.le_of_ble_eq_true rfl)) (rfl) (rfl) (Nat.le_of_ble_eq_true rfl) dX8_init_24 (fun H locs hP hD hS => ?_)
  have hP : va_P G vwCl [oB o 8 [.ref q_1, .int (nI 0), .int (nI 0), .int (nI 0)], aI cI q_1 24 Z0] H := hP
  have hD : va_D jA [oB o 8 [.ref q_1, .int (nI 0), .int (nI 0), .int (nI 0)], aI cI q_1 24 Z0] := hD
  exact hret _ _ _ _ (fN [q_1]) dX8_init_27 (trivial) hP hD hS

theorem iX7_init_7 : ∀ w ∈ wsX70, w ∈ wsX7_init := by decide +kernel
theorem mX7_init_9 : Cond.fieldLink RX7 9 "LineFinder$Suspicion" "sets" "[I" ∈ wsX7_init := List.mem_of_getElem? (i := 5) rfl
theorem mX7_init_15 : Cond.fieldLink RX7 15 "LineFinder$Suspicion" "setMetBy" "[I" ∈ wsX7_init := List.mem_of_getElem? (i := 6) rfl
theorem mX7_init_18 : Cond.fieldLink RX7 18 "LineFinder$Suspicion" "priors" "[I" ∈ wsX7_init := List.mem_of_getElem? (i := 7) rfl
theorem mX7_init_21 : Cond.fieldLink RX7 21 "LineFinder$Suspicion" "size" "I" ∈ wsX7_init := List.mem_of_getElem? (i := 8) rfl
theorem mX7_init_25 : Cond.fieldLink RX7 25 "LineFinder$Suspicion" "lines" "I" ∈ wsX7_init := List.mem_of_getElem? (i := 9) rfl
theorem mX7_init_28 : Cond.fieldLink RX7 28 "LineFinder$Suspicion" "verdicts" "LLineFinder$Verdicts;" ∈ wsX7_init := List.mem_of_getElem? (i := 10) rfl
theorem wX7_init_acI : Cond.arrayClass .int ∈ wsX7_init := List.mem_of_getElem? (i := 4) rfl
theorem wX7_init_oi1 : Cond.methodLink RX7 3 objectInit ∈ wsX7_init := List.mem_of_getElem? (i := 1) rfl
theorem wX7_init_oi2 : Cond.instanceMethod objectInit ∈ wsX7_init := List.mem_of_getElem? (i := 2) rfl
theorem wX7_init_oi3 : Cond.code objectInit ⟨#[0xb1]⟩ 1 none ∈ wsX7_init := List.mem_of_getElem? (i := 3) rfl
abbrev rCX7_init : Room := { frames := 1, cells := 3, slots := 4672, locals := 12 }
set_option maxHeartbeats 4000000 in
set_option maxRecDepth 100000 in
theorem CX7_init (jl : Launch) (G : va_G) (cI cZ cJ : ClassId) (o ve : Nat) : Kv jl yX7_init wsX7_init rCX7_init G cI cZ cJ [.ref o, .ref ve] [oB o 7 [.null, .null, .null, .null, .int (nI 0), .int (nI 0)]] (S := Nat → Nat) (fun (b : Nat → Nat) => True) (fun (b : Nat → Nat) => [oB o 7 [.ref ve, .ref (b 0), .ref (b 1), .ref (b 2), .int (nI 0), .int (nI 0)], aI cI (b 0) 2324 Z0, aI cI (b 1) 2324 Z0, aI cI (b 2) 24 PR0]) := by
  refine Kv.of (cc := cX7_init) (maxL := 3) (by decide +kernel) rfl (Nat.le_of_ble_eq_true rfl) ?_
  intro jp je js jm ja jb jt jc jA jQ ls cx hnm hP hD hS hl hret
  obtain ⟨hx, hb, hml, hown, hts, hK, hA⟩ := id cx
  have hl : lv_has ls 3 [(0, .ref o), (1, .ref ve)] := hl
  obtain ⟨H, hH⟩ : ∃ H, H = js.heap := ⟨_, rfl⟩
  obtain ⟨locs, hlocs⟩ : ∃ z : List Loc, z = [] := ⟨_, rfl⟩
  have hP : va_P G vwCl [oB o 7 [.null, .null, .null, .null, .int (nI 0), .int (nI 0)]] H := by rw [hH]; exact hP
  have hS : va_S jA js.heap H locs := by rw [hH, hlocs]; exact hS
  rw [← hlocs]; rw [show W jp jl je rCX7_init js jm ja jb jt jc js.heap locs 0 0 jQ (F0 jm 0 ls []) = W jp jl je rCX7_init js jm ja jb jt jc H locs 0 0 jQ (F0 jm 0 ls []) by rw [hH]]
  clear hH hlocs
  refine lv_aload_n hx hb dX7_init_0 rfl (lv_at hl 0 rfl) ?_
  refine W.objInit hx hb hown (hts _ wX7_init_oi1) (hts _ wX7_init_oi2) (hts _ wX7_init_oi3) rfl (by rw [hml]; exact hl.1) rfl dX7_init_1 (Nat.le_of_ble_eq_true rfl) (Nat.le_of_ble_eq_true rfl) ?_
  refine W.eq (g2 := F0 jm 4 ls []) rfl ?_
  refine lv_aload_n hx hb dX7_init_4 rfl (lv_at hl 0 rfl) ?_
  refine lv_sipush (v := nI 2324) hx hb dX7_init_5 (by decide) ?_
  refine k_newI hx hb (hts _ wX7_init_acI) hK.1 hP hD hS hA (by decide) (Nat.le_of_ble_eq_true rfl) (Nat.le_of_ble_eq_true rfl) dX7_init_8 (fun q_1 H hP hD hS => ?_)
  have hP : va_P G vwCl [oB o 7 [.null, .null, .null, .null, .int (nI 0), .int (nI 0)], aI cI q_1 2324 Z0] H := hP
  have hD : va_D jA [oB o 7 [.null, .null, .null, .null, .int (nI 0), .int (nI 0)], aI cI q_1 2324 Z0] := hD
  refine W.widen (k := 1) (n := 2324) (Nat.le_of_ble_eq_true rfl) (Nat.le_of_ble_eq_true rfl) ?_
  refine va_putF (C := RX7) (T := TX7) (N := 6) (ci := 7) (v := .ref q_1) (ty := tyX7 1) hx hb hts iX7_init_7 tyX7 tyX7_ok nmX7 hown hK.1 hP hD hS 0 rfl rfl 1 (Nat.le_of_ble_eq_true rfl) (hts _ mX7_init_9) (fun _ h9 => h9) rfl hnm rfl (tyX7_ok 1 (Nat.le_of_ble_eq_true rfl)) (rfl) (rfl) (Nat.le_of_ble_eq_true rfl) dX7_init_10 (fun H locs hP hD hS => ?_)
  have hP : va_P G vwCl [oB o 7 [.null, .ref q_1, .null, .null, .int (nI 0), .int (nI 0)], aI cI q_1 2324 Z0] H := hP
  have hD : va_D jA [oB o 7 [.null, .ref q_1, .null, .null, .int (nI 0), .int (nI 0)], aI cI q_1 2324 Z0] := hD
  refine lv_aload_n hx hb dX7_init_13 rfl (lv_at hl 0 rfl) ?_
  refine lv_sipush (v := nI 2324) hx hb dX7_init_14 (by decide) ?_
  refine k_newI hx hb (hts _ wX7_init_acI) hK.1 hP hD hS hA (by decide) (Nat.le_of_ble_eq_true rfl) (Nat.le_of_ble_eq_true rfl) dX7_init_17 (fun q_2 H hP hD hS => ?_)
  have hP : va_P G vwCl [oB o 7 [.null, .ref q_1, .null, .null, .int (nI 0), .int (nI 0)], aI cI q_1 2324 Z0, aI cI q_2 2324 Z0] H := hP
  have hD : va_D jA [oB o 7 [.null, .ref q_1, .null, .null, .int (nI 0), .int (nI 0)], aI cI q_1 2324 Z0, aI cI q_2 2324 Z0] := hD
  refine W.widen (k := 2) (n := 4648) (Nat.le_of_ble_eq_true rfl) (Nat.le_of_ble_eq_true rfl) ?_
  refine va_putF (C := RX7) (T := TX7) (N := 6) (ci := 7) (v := .ref q_2) (ty := tyX7 2) hx hb hts iX7_init_7 tyX7 tyX7_ok nmX7 hown hK.1 hP hD hS 0 rfl rfl 2 (Nat.le_of_ble_eq_true rfl) (hts _ mX7_init_15) (fun _ h9 => h9) rfl hnm rfl (tyX7_ok 2 (Nat.le_of_ble_eq_true rfl)) (rfl) (rfl) (Nat.le_of_ble_eq_true rfl) dX7_init_19 (fun H locs hP hD hS => ?_)
  have hP : va_P G vwCl [oB o 7 [.null, .ref q_1, .ref q_2, .null, .int (nI 0), .int (nI 0)], aI cI q_1 2324 Z0, aI cI q_2 2324 Z0] H := hP
  have hD : va_D jA [oB o 7 [.null, .ref q_1, .ref q_2, .null, .int (nI 0), .int (nI 0)], aI cI q_1 2324 Z0, aI cI q_2 2324 Z0] := hD
  refine lv_aload_n hx hb dX7_init_22 rfl (lv_at hl 0 rfl) ?_
  refine lv_bipush (v := nI 24) hx hb dX7_init_23 (by decide) ?_
  refine k_newI hx hb (hts _ wX7_init_acI) hK.1 hP hD hS hA (by decide) (Nat.le_of_ble_eq_true rfl) (Nat.le_of_ble_eq_true rfl) dX7_init_25 (fun q_3 H hP hD hS => ?_)
  have hP : va_P G vwCl [oB o 7 [.null, .ref q_1, .ref q_2, .null, .int (nI 0), .int (nI 0)], aI cI q_1 2324 Z0, aI cI q_2 2324 Z0, aI cI q_3 24 Z0] H := hP
  have hD : va_D jA [oB o 7 [.null, .ref q_1, .ref q_2, .null, .int (nI 0), .int (nI 0)], aI cI q_1 2324 Z0, aI cI q_2 2324 Z0, aI cI q_3 24 Z0] := hD
  refine W.widen (k := 3) (n := 4672) (Nat.le_of_ble_eq_true rfl) (Nat.le_of_ble_eq_true rfl) ?_
  refine va_putF (C := RX7) (T := TX7) (N := 6) (ci := 7) (v := .ref q_3) (ty := tyX7 3) hx hb hts iX7_init_7 tyX7 tyX7_ok nmX7 hown hK.1 hP hD hS 0 rfl rfl 3 (Nat.le_of_ble_eq_true rfl) (hts _ mX7_init_18) (fun _ h9 => h9) rfl hnm rfl (tyX7_ok 3 (Nat.le_of_ble_eq_true rfl)) (rfl) (rfl) (Nat.le_of_ble_eq_true rfl) dX7_init_27 (fun H locs hP hD hS => ?_)
  have hP : va_P G vwCl [oB o 7 [.null, .ref q_1, .ref q_2, .ref q_3, .int (nI 0), .int (nI 0)], aI cI q_1 2324 Z0, aI cI q_2 2324 Z0, aI cI q_3 24 Z0] H := hP
  have hD : va_D jA [oB o 7 [.null, .ref q_1, .ref q_2, .ref q_3, .int (nI 0), .int (nI 0)], aI cI q_1 2324 Z0, aI cI q_2 2324 Z0, aI cI q_3 24 Z0] := hD
  refine lv_aload_n hx hb dX7_init_30 rfl (lv_at hl 0 rfl) ?_
  refine lv_iconst (v := nI 0) hx hb dX7_init_31 (by decide) ?_
  refine va_put (C := RX7) (T := TX7) (N := 6) (ci := 7) (v := .int (nI 0)) (ty := tyX7 4) hx hb hts iX7_init_7 tyX7 tyX7_ok nmX7 hown hK.1 hP hD hS 0 rfl rfl 4 (Nat.le_of_ble_eq_true rfl) (hts _ mX7_init_21) (fun _ h9 => h9) rfl (tyX7_ok 4 (Nat.le_of_ble_eq_true rfl)) (rfl) (rfl) (Nat.le_of_ble_eq_true rfl) dX7_init_32 (fun H locs hP hD hS => ?_)
  have hP : va_P G vwCl [oB o 7 [.null, .ref q_1, .ref q_2, .ref q_3, .int (nI 0), .int (nI 0)], aI cI q_1 2324 Z0, aI cI q_2 2324 Z0, aI cI q_3 24 Z0] H := hP
  have hD : va_D jA [oB o 7 [.null, .ref q_1, .ref q_2, .ref q_3, .int (nI 0), .int (nI 0)], aI cI q_1 2324 Z0, aI cI q_2 2324 Z0, aI cI q_3 24 Z0] := hD
  refine lv_aload_n hx hb dX7_init_35 rfl (lv_at hl 0 rfl) ?_
  refine lv_iconst (v := nI 0) hx hb dX7_init_36 (by decide) ?_
  refine va_put (C := RX7) (T := TX7) (N := 6) (ci := 7) (v := .int (nI 0)) (ty := tyX7 5) hx hb hts iX7_init_7 tyX7 tyX7_ok nmX7 hown hK.1 hP hD hS 0 rfl rfl 5 (Nat.le_of_ble_eq_true rfl) (hts _ mX7_init_25) (fun _ h9 => h9) rfl (tyX7_ok 5 (Nat.le_of_ble_eq_true rfl)) (rfl) (rfl) (Nat.le_of_ble_eq_true rfl) dX7_init_37 (fun H locs hP hD hS => ?_)
  have hP : va_P G vwCl [oB o 7 [.null, .ref q_1, .ref q_2, .ref q_3, .int (nI 0), .int (nI 0)], aI cI q_1 2324 Z0, aI cI q_2 2324 Z0, aI cI q_3 24 Z0] H := hP
  have hD : va_D jA [oB o 7 [.null, .ref q_1, .ref q_2, .ref q_3, .int (nI 0), .int (nI 0)], aI cI q_1 2324 Z0, aI cI q_2 2324 Z0, aI cI q_3 24 Z0] := hD
  refine lv_aload_n hx hb dX7_init_40 rfl (lv_at hl 0 rfl) ?_
  refine lv_aload_n hx hb dX7_init_41 rfl (lv_at hl 1 rfl) ?_
  refine va_putF (C := RX7) (T := TX7) (N := 6) (ci := 7) (v := .ref ve) (ty := tyX7 0) hx hb hts iX7_init_7 tyX7 tyX7_ok nmX7 hown hK.1 hP hD hS 0 rfl rfl 0 (Nat.le_of_ble_eq_true rfl) (hts _ mX7_init_28) (fun _ h9 => h9) rfl hnm rfl (tyX7_ok 0 (Nat.le_of_ble_eq_true rfl)) (rfl) (rfl) (Nat.le_of_ble_eq_true rfl) dX7_init_42 (fun H locs hP hD hS => ?_)
  have hP : va_P G vwCl [oB o 7 [.ref ve, .ref q_1, .ref q_2, .ref q_3, .int (nI 0), .int (nI 0)], aI cI q_1 2324 Z0, aI cI q_2 2324 Z0, aI cI q_3 24 Z0] H := hP
  have hD : va_D jA [oB o 7 [.ref ve, .ref q_1, .ref q_2, .ref q_3, .int (nI 0), .int (nI 0)], aI cI q_1 2324 Z0, aI cI q_2 2324 Z0, aI cI q_3 24 Z0] := hD
  refine lv_iconst (v := nI 0) hx hb dX7_init_45 (by decide) ?_
  refine lv_istore_n (lv' := [(2, .int (nI 0)), (0, .ref o), (1, .ref ve)]) hx hb dX7_init_46 rfl hl (by decide) rfl (fun ls hl => ?_)
  have L47 : ∀ (fu : Nat), ∀ (i : Nat), ∀ (y : Fn), (24 < i + fu) → (i ≤ 24) → (y = fl (fun _ => nI 2) Z0 i) → ∀ (H : Heap) (locs : List Loc) (ls : Array Slot), va_P G vwCl [oB o 7 [.ref ve, .ref q_1, .ref q_2, .ref q_3, .int (nI 0), .int (nI 0)], aI cI q_1 2324 Z0, aI cI q_2 2324 Z0, aI cI q_3 24 y] H → va_D jA [oB o 7 [.ref ve, .ref q_1, .ref q_2, .ref q_3, .int (nI 0), .int (nI 0)], aI cI q_1 2324 Z0, aI cI q_2 2324 Z0, aI cI q_3 24 y] → va_S jA js.heap H locs → lv_has ls 3 [(0, .ref o), (1, .ref ve), (2, .int (nI i))] → W jp jl je rCX7_init js jm ja jb jt jc H locs 3 4672 jQ (F0 jm 47 ls []) := by
    intro fu
    induction fu with
    | zero =>
      intro i y hfu hi ey H locs ls hP hD hS hl
      exact absurd hfu (by omega)
    | succ fu ih47 =>
      intro i y hfu hi ey H locs ls hP hD hS hl
      refine lv_iload_n hx hb dX7_init_47 rfl (lv_at hl 2 rfl) ?_
      refine lv_bipush (v := nI 24) hx hb dX7_init_48 (by decide) ?_
      refine k_cmp_ge (tgt := 66) hx hb dX7_init_50 (by decide) (by omega) (by omega) (fun c_4 => ?_) (fun c_4 => ?_)
      · skip
        have hie : i = 24 := by omega
        subst hie; subst ey
        exact hret _ _ _ _ (fN [q_1, q_2, q_3]) dX7_init_66 (trivial) hP hD hS
      · skip
        refine lv_aload_n hx hb dX7_init_53 rfl (lv_at hl 0 rfl) ?_
        refine va_get (C := RX7) (T := TX7) (N := 6) (ci := 7) hx hb hts iX7_init_7 hown hK.1 hP 0 rfl rfl 3 (Nat.le_of_ble_eq_true rfl) (hts _ mX7_init_18) (fun _ h9 => h9) rfl dX7_init_54 ?_
        refine lv_iload_n hx hb dX7_init_57 rfl (lv_at hl 2 rfl) ?_
        refine lv_iconst (v := nI 2) hx hb dX7_init_58 (by decide) ?_
        refine k_iast hx hb hK.1 hP hD hS 3 0 rfl rfl (by omega) (by decide) dX7_init_59 (fun H locs hP hD hS => ?_)
        have hP : va_P G vwCl [oB o 7 [.ref ve, .ref q_1, .ref q_2, .ref q_3, .int (nI 0), .int (nI 0)], aI cI q_1 2324 Z0, aI cI q_2 2324 Z0, aI cI q_3 24 (upd y i (nI 2))] H := hP
        have hD : va_D jA [oB o 7 [.ref ve, .ref q_1, .ref q_2, .ref q_3, .int (nI 0), .int (nI 0)], aI cI q_1 2324 Z0, aI cI q_2 2324 Z0, aI cI q_3 24 (upd y i (nI 2))] := hD
        refine lv_iinc (v := nI (i + 1)) (lv' := [(2, .int (nI (i + 1))), (0, .ref o), (1, .ref ve)]) hx hb dX7_init_60 hl (k := 2) rfl (nI_add i 1) (by decide) rfl (fun ls hl => ?_)
        refine lv_goto (tgt := 47) hx hb dX7_init_63 (by decide) ?_
        exact ih47 (i + 1) (upd y i (nI 2)) (by omega) (by omega) (by rw [ey]; exact fl_succ _ _ _) _ _ _ hP hD hS (lv_sub hl [1, 2, 0] rfl)
  exact L47 25 0 Z0 (by omega) (by omega) ((fl_0 _ _).symm) _ _ _ hP hD hS (lv_sub hl [1, 2, 0] rfl)

theorem iX3_init_0 : ∀ w ∈ wsX00, w ∈ wsX3_init := by decide +kernel
theorem iX3_init_3 : ∀ w ∈ wsX30, w ∈ wsX3_init := by decide +kernel
theorem mX3_init_12 : Cond.fieldLink RX3 12 "LineFinder$History" "told" "LLineFinder$Code;" ∈ wsX3_init := List.mem_of_getElem? (i := 7) rfl
theorem mX3_init_18 : Cond.fieldLink RX3 18 "LineFinder$History" "now" "LLineFinder$Code;" ∈ wsX3_init := List.mem_of_getElem? (i := 8) rfl
theorem mX3_init_21 : Cond.fieldLink RX3 21 "LineFinder$History" "between" "LLineFinder$Code;" ∈ wsX3_init := List.mem_of_getElem? (i := 9) rfl
theorem mX3_init_24 : Cond.fieldLink RX3 24 "LineFinder$History" "changes" "LLineFinder$Code;" ∈ wsX3_init := List.mem_of_getElem? (i := 10) rfl
theorem mX3_init_27 : Cond.fieldLink RX3 27 "LineFinder$History" "changedLines" "[I" ∈ wsX3_init := List.mem_of_getElem? (i := 12) rfl
theorem wX3_init_acI : Cond.arrayClass .int ∈ wsX3_init := List.mem_of_getElem? (i := 11) rfl
theorem wX3_init_cl9 : Cond.classLink RX3 9 RX0 ∈ wsX3_init := List.mem_of_getElem? (i := 4) rfl
theorem wX3_init_imX0_init : Cond.instanceMethod yX0_init ∈ wsX3_init := List.mem_of_getElem? (i := 13) rfl
theorem wX3_init_in0 : Cond.initialized RX0 ∈ wsX3_init := List.mem_of_getElem? (i := 6) rfl
theorem wX3_init_iniX0_init : Cond.initialized RX0 ∈ wsX3_init := List.mem_of_getElem? (i := 6) rfl
theorem wX3_init_it0 : Cond.instantiable RX0 5 ∈ wsX3_init := List.mem_of_getElem? (i := 5) rfl
theorem wX3_init_oi1 : Cond.methodLink RX3 3 objectInit ∈ wsX3_init := List.mem_of_getElem? (i := 1) rfl
theorem wX3_init_oi2 : Cond.instanceMethod objectInit ∈ wsX3_init := List.mem_of_getElem? (i := 2) rfl
theorem wX3_init_oi3 : Cond.code objectInit ⟨#[0xb1]⟩ 1 none ∈ wsX3_init := List.mem_of_getElem? (i := 3) rfl
theorem hdX0_init : yX0_init.cls ≠ "java/lang/invoke/MethodHandle" ∧ yX0_init.cls ≠ "java/lang/invoke/VarHandle" ∧ (parseMethodDescriptor yX0_init.desc).map (fun d => d.parameters.length) = some 0 := by decide +kernel
abbrev rCX3_init : Room := { frames := 2, cells := 21, slots := 424, locals := 32 }
set_option maxHeartbeats 4000000 in
set_option maxRecDepth 100000 in
theorem CX3_init (jl : Launch) (G : va_G) (cI cZ cJ : ClassId) (o : Nat) : Kv jl yX3_init wsX3_init rCX3_init G cI cZ cJ [.ref o] [oB o 3 [.null, .null, .null, .null, .null]] (S := Nat → Nat) (fun (b : Nat → Nat) => True) (fun (b : Nat → Nat) => [oB o 3 [.ref (b 2), .ref (b 7), .ref (b 12), .ref (b 17), .ref (b 22)], oB (b 2) 0 [.ref (b 3), .ref (b 4), .ref (b 5), .ref (b 6), .int (nI 0)], aI cI (b 3) 24 Z0, aI cI (b 4) 24 Z0, aI cI (b 5) 24 Z0, aI cI (b 6) 24 Z0, oB (b 7) 0 [.ref (b 8), .ref (b 9), .ref (b 10), .ref (b 11), .int (nI 0)], aI cI (b 8) 24 Z0, aI cI (b 9) 24 Z0, aI cI (b 10) 24 Z0, aI cI (b 11) 24 Z0, oB (b 12) 0 [.ref (b 13), .ref (b 14), .ref (b 15), .ref (b 16), .int (nI 0)], aI cI (b 13) 24 Z0, aI cI (b 14) 24 Z0, aI cI (b 15) 24 Z0, aI cI (b 16) 24 Z0, oB (b 17) 0 [.ref (b 18), .ref (b 19), .ref (b 20), .ref (b 21), .int (nI 0)], aI cI (b 18) 24 Z0, aI cI (b 19) 24 Z0, aI cI (b 20) 24 Z0, aI cI (b 21) 24 Z0, aI cI (b 22) 20 Z0]) := by
  refine Kv.of (cc := cX3_init) (maxL := 1) (by decide +kernel) rfl (Nat.le_of_ble_eq_true rfl) ?_
  intro jp je js jm ja jb jt jc jA jQ ls cx hnm hP hD hS hl hret
  obtain ⟨hx, hb, hml, hown, hts, hK, hA⟩ := id cx
  have hl : lv_has ls 1 [(0, .ref o)] := hl
  obtain ⟨H, hH⟩ : ∃ H, H = js.heap := ⟨_, rfl⟩
  obtain ⟨locs, hlocs⟩ : ∃ z : List Loc, z = [] := ⟨_, rfl⟩
  have hP : va_P G vwCl [oB o 3 [.null, .null, .null, .null, .null]] H := by rw [hH]; exact hP
  have hS : va_S jA js.heap H locs := by rw [hH, hlocs]; exact hS
  rw [← hlocs]; rw [show W jp jl je rCX3_init js jm ja jb jt jc js.heap locs 0 0 jQ (F0 jm 0 ls []) = W jp jl je rCX3_init js jm ja jb jt jc H locs 0 0 jQ (F0 jm 0 ls []) by rw [hH]]
  clear hH hlocs
  refine lv_aload_n hx hb dX3_init_0 rfl (lv_at hl 0 rfl) ?_
  refine W.objInit hx hb hown (hts _ wX3_init_oi1) (hts _ wX3_init_oi2) (hts _ wX3_init_oi3) rfl (by rw [hml]; exact hl.1) rfl dX3_init_1 (Nat.le_of_ble_eq_true rfl) (Nat.le_of_ble_eq_true rfl) ?_
  refine W.eq (g2 := F0 jm 4 ls []) rfl ?_
  refine lv_aload_n hx hb dX3_init_4 rfl (lv_at hl 0 rfl) ?_
  refine va_new (ci := 0) (fs := [.null, .null, .null, .null, .int (nI 0)]) (C := RX0) (T := TX0) (N := 5) hx hb hts iX3_init_0 tyX0 tyX0_ok hown (hts _ wX3_init_cl9) (hts _ wX3_init_it0) (hts _ wX3_init_in0) hK.1 hP hD hS hA rfl dfX0 (Nat.le_of_ble_eq_true rfl) (Nat.le_of_ble_eq_true rfl) dX3_init_5 (fun q_1 H hP hD hS => ?_)
  have hP : va_P G vwCl [oB o 3 [.null, .null, .null, .null, .null], oB q_1 0 [.null, .null, .null, .null, .int (nI 0)]] H := hP
  have hD : va_D jA [oB o 3 [.null, .null, .null, .null, .null], oB q_1 0 [.null, .null, .null, .null, .int (nI 0)]] := hD
  refine W.widen (k := 1) (n := 5) (Nat.le_of_ble_eq_true rfl) (Nat.le_of_ble_eq_true rfl) ?_
  refine lv_dup hx hb dX3_init_8 rfl ?_
  refine Kv.callIN (wr := [oB o 3 [.null, .null, .null, .null, .null]]) (rest := [.ref q_1, .ref o]) (CX0_init jl G cI cZ cJ q_1) cx hP hD hS hl [1] [0] ggX3_init_X0_init (by decide +kernel) wX3_init_iniX0_init wX3_init_imX0_init rfl hdX0_init rfl ⟨Nat.le_of_ble_eq_true rfl, Nat.le_of_ble_eq_true rfl⟩ rfl rfl (by decide) (by decide) (by decide) dX3_init_9 rfl rfl (Nat.le_of_ble_eq_true rfl) ⟨Nat.le_of_ble_eq_true rfl, Nat.le_of_ble_eq_true rfl⟩ (fun u H locs hw_3 hP hD hS => ?_)
  obtain ⟨b_4, rfl⟩ : ∃ z, z = u := ⟨_, rfl⟩
  try dsimp only at hw_3
  have hP : va_P G vwCl [oB o 3 [.null, .null, .null, .null, .null], oB q_1 0 [.ref (b_4 0), .ref (b_4 1), .ref (b_4 2), .ref (b_4 3), .int (nI 0)], aI cI (b_4 0) 24 Z0, aI cI (b_4 1) 24 Z0, aI cI (b_4 2) 24 Z0, aI cI (b_4 3) 24 Z0] H := hP
  have hD : va_D jA [oB o 3 [.null, .null, .null, .null, .null], oB q_1 0 [.ref (b_4 0), .ref (b_4 1), .ref (b_4 2), .ref (b_4 3), .int (nI 0)], aI cI (b_4 0) 24 Z0, aI cI (b_4 1) 24 Z0, aI cI (b_4 2) 24 Z0, aI cI (b_4 3) 24 Z0] := hD
  refine W.widen (k := 5) (n := 101) (Nat.le_of_ble_eq_true rfl) (Nat.le_of_ble_eq_true rfl) ?_
  refine va_putF (C := RX3) (T := TX3) (N := 5) (ci := 3) (v := .ref q_1) (ty := tyX3 0) hx hb hts iX3_init_3 tyX3 tyX3_ok nmX3 hown hK.1 hP hD hS 0 rfl rfl 0 (Nat.le_of_ble_eq_true rfl) (hts _ mX3_init_12) (fun _ h9 => h9) rfl hnm rfl (tyX3_ok 0 (Nat.le_of_ble_eq_true rfl)) (rfl) (rfl) (Nat.le_of_ble_eq_true rfl) dX3_init_12 (fun H locs hP hD hS => ?_)
  have hP : va_P G vwCl [oB o 3 [.ref q_1, .null, .null, .null, .null], oB q_1 0 [.ref (b_4 0), .ref (b_4 1), .ref (b_4 2), .ref (b_4 3), .int (nI 0)], aI cI (b_4 0) 24 Z0, aI cI (b_4 1) 24 Z0, aI cI (b_4 2) 24 Z0, aI cI (b_4 3) 24 Z0] H := hP
  have hD : va_D jA [oB o 3 [.ref q_1, .null, .null, .null, .null], oB q_1 0 [.ref (b_4 0), .ref (b_4 1), .ref (b_4 2), .ref (b_4 3), .int (nI 0)], aI cI (b_4 0) 24 Z0, aI cI (b_4 1) 24 Z0, aI cI (b_4 2) 24 Z0, aI cI (b_4 3) 24 Z0] := hD
  refine lv_aload_n hx hb dX3_init_15 rfl (lv_at hl 0 rfl) ?_
  refine va_new (ci := 0) (fs := [.null, .null, .null, .null, .int (nI 0)]) (C := RX0) (T := TX0) (N := 5) hx hb hts iX3_init_0 tyX0 tyX0_ok hown (hts _ wX3_init_cl9) (hts _ wX3_init_it0) (hts _ wX3_init_in0) hK.1 hP hD hS hA rfl dfX0 (Nat.le_of_ble_eq_true rfl) (Nat.le_of_ble_eq_true rfl) dX3_init_16 (fun q_5 H hP hD hS => ?_)
  have hP : va_P G vwCl [oB o 3 [.ref q_1, .null, .null, .null, .null], oB q_1 0 [.ref (b_4 0), .ref (b_4 1), .ref (b_4 2), .ref (b_4 3), .int (nI 0)], aI cI (b_4 0) 24 Z0, aI cI (b_4 1) 24 Z0, aI cI (b_4 2) 24 Z0, aI cI (b_4 3) 24 Z0, oB q_5 0 [.null, .null, .null, .null, .int (nI 0)]] H := hP
  have hD : va_D jA [oB o 3 [.ref q_1, .null, .null, .null, .null], oB q_1 0 [.ref (b_4 0), .ref (b_4 1), .ref (b_4 2), .ref (b_4 3), .int (nI 0)], aI cI (b_4 0) 24 Z0, aI cI (b_4 1) 24 Z0, aI cI (b_4 2) 24 Z0, aI cI (b_4 3) 24 Z0, oB q_5 0 [.null, .null, .null, .null, .int (nI 0)]] := hD
  refine W.widen (k := 6) (n := 106) (Nat.le_of_ble_eq_true rfl) (Nat.le_of_ble_eq_true rfl) ?_
  refine lv_dup hx hb dX3_init_19 rfl ?_
  refine Kv.callIN (wr := [oB o 3 [.ref q_1, .null, .null, .null, .null], oB q_1 0 [.ref (b_4 0), .ref (b_4 1), .ref (b_4 2), .ref (b_4 3), .int (nI 0)], aI cI (b_4 0) 24 Z0, aI cI (b_4 1) 24 Z0, aI cI (b_4 2) 24 Z0, aI cI (b_4 3) 24 Z0]) (rest := [.ref q_5, .ref o]) (CX0_init jl G cI cZ cJ q_5) cx hP hD hS hl [6] [0, 1, 2, 3, 4, 5] ggX3_init_X0_init (by decide +kernel) wX3_init_iniX0_init wX3_init_imX0_init rfl hdX0_init rfl ⟨Nat.le_of_ble_eq_true rfl, Nat.le_of_ble_eq_true rfl⟩ rfl rfl (by decide) (by decide) (by decide) dX3_init_20 rfl rfl (Nat.le_of_ble_eq_true rfl) ⟨Nat.le_of_ble_eq_true rfl, Nat.le_of_ble_eq_true rfl⟩ (fun u H locs hw_7 hP hD hS => ?_)
  obtain ⟨b_8, rfl⟩ : ∃ z, z = u := ⟨_, rfl⟩
  try dsimp only at hw_7
  have hP : va_P G vwCl [oB o 3 [.ref q_1, .null, .null, .null, .null], oB q_1 0 [.ref (b_4 0), .ref (b_4 1), .ref (b_4 2), .ref (b_4 3), .int (nI 0)], aI cI (b_4 0) 24 Z0, aI cI (b_4 1) 24 Z0, aI cI (b_4 2) 24 Z0, aI cI (b_4 3) 24 Z0, oB q_5 0 [.ref (b_8 0), .ref (b_8 1), .ref (b_8 2), .ref (b_8 3), .int (nI 0)], aI cI (b_8 0) 24 Z0, aI cI (b_8 1) 24 Z0, aI cI (b_8 2) 24 Z0, aI cI (b_8 3) 24 Z0] H := hP
  have hD : va_D jA [oB o 3 [.ref q_1, .null, .null, .null, .null], oB q_1 0 [.ref (b_4 0), .ref (b_4 1), .ref (b_4 2), .ref (b_4 3), .int (nI 0)], aI cI (b_4 0) 24 Z0, aI cI (b_4 1) 24 Z0, aI cI (b_4 2) 24 Z0, aI cI (b_4 3) 24 Z0, oB q_5 0 [.ref (b_8 0), .ref (b_8 1), .ref (b_8 2), .ref (b_8 3), .int (nI 0)], aI cI (b_8 0) 24 Z0, aI cI (b_8 1) 24 Z0, aI cI (b_8 2) 24 Z0, aI cI (b_8 3) 24 Z0] := hD
  refine W.widen (k := 10) (n := 202) (Nat.le_of_ble_eq_true rfl) (Nat.le_of_ble_eq_true rfl) ?_
  refine va_putF (C := RX3) (T := TX3) (N := 5) (ci := 3) (v := .ref q_5) (ty := tyX3 1) hx hb hts iX3_init_3 tyX3 tyX3_ok nmX3 hown hK.1 hP hD hS 0 rfl rfl 1 (Nat.le_of_ble_eq_true rfl) (hts _ mX3_init_18) (fun _ h9 => h9) rfl hnm rfl (tyX3_ok 1 (Nat.le_of_ble_eq_true rfl)) (rfl) (rfl) (Nat.le_of_ble_eq_true rfl) dX3_init_23 (fun H locs hP hD hS => ?_)
  have hP : va_P G vwCl [oB o 3 [.ref q_1, .ref q_5, .null, .null, .null], oB q_1 0 [.ref (b_4 0), .ref (b_4 1), .ref (b_4 2), .ref (b_4 3), .int (nI 0)], aI cI (b_4 0) 24 Z0, aI cI (b_4 1) 24 Z0, aI cI (b_4 2) 24 Z0, aI cI (b_4 3) 24 Z0, oB q_5 0 [.ref (b_8 0), .ref (b_8 1), .ref (b_8 2), .ref (b_8 3), .int (nI 0)], aI cI (b_8 0) 24 Z0, aI cI (b_8 1) 24 Z0, aI cI (b_8 2) 24 Z0, aI cI (b_8 3) 24 Z0] H := hP
  have hD : va_D jA [oB o 3 [.ref q_1, .ref q_5, .null, .null, .null], oB q_1 0 [.ref (b_4 0), .ref (b_4 1), .ref (b_4 2), .ref (b_4 3), .int (nI 0)], aI cI (b_4 0) 24 Z0, aI cI (b_4 1) 24 Z0, aI cI (b_4 2) 24 Z0, aI cI (b_4 3) 24 Z0, oB q_5 0 [.ref (b_8 0), .ref (b_8 1), .ref (b_8 2), .ref (b_8 3), .int (nI 0)], aI cI (b_8 0) 24 Z0, aI cI (b_8 1) 24 Z0, aI cI (b_8 2) 24 Z0, aI cI (b_8 3) 24 Z0] := hD
  refine lv_aload_n hx hb dX3_init_26 rfl (lv_at hl 0 rfl) ?_
  refine va_new (ci := 0) (fs := [.null, .null, .null, .null, .int (nI 0)]) (C := RX0) (T := TX0) (N := 5) hx hb hts iX3_init_0 tyX0 tyX0_ok hown (hts _ wX3_init_cl9) (hts _ wX3_init_it0) (hts _ wX3_init_in0) hK.1 hP hD hS hA rfl dfX0 (Nat.le_of_ble_eq_true rfl) (Nat.le_of_ble_eq_true rfl) dX3_init_27 (fun q_9 H hP hD hS => ?_)
  have hP : va_P G vwCl [oB o 3 [.ref q_1, .ref q_5, .null, .null, .null], oB q_1 0 [.ref (b_4 0), .ref (b_4 1), .ref (b_4 2), .ref (b_4 3), .int (nI 0)], aI cI (b_4 0) 24 Z0, aI cI (b_4 1) 24 Z0, aI cI (b_4 2) 24 Z0, aI cI (b_4 3) 24 Z0, oB q_5 0 [.ref (b_8 0), .ref (b_8 1), .ref (b_8 2), .ref (b_8 3), .int (nI 0)], aI cI (b_8 0) 24 Z0, aI cI (b_8 1) 24 Z0, aI cI (b_8 2) 24 Z0, aI cI (b_8 3) 24 Z0, oB q_9 0 [.null, .null, .null, .null, .int (nI 0)]] H := hP
  have hD : va_D jA [oB o 3 [.ref q_1, .ref q_5, .null, .null, .null], oB q_1 0 [.ref (b_4 0), .ref (b_4 1), .ref (b_4 2), .ref (b_4 3), .int (nI 0)], aI cI (b_4 0) 24 Z0, aI cI (b_4 1) 24 Z0, aI cI (b_4 2) 24 Z0, aI cI (b_4 3) 24 Z0, oB q_5 0 [.ref (b_8 0), .ref (b_8 1), .ref (b_8 2), .ref (b_8 3), .int (nI 0)], aI cI (b_8 0) 24 Z0, aI cI (b_8 1) 24 Z0, aI cI (b_8 2) 24 Z0, aI cI (b_8 3) 24 Z0, oB q_9 0 [.null, .null, .null, .null, .int (nI 0)]] := hD
  refine W.widen (k := 11) (n := 207) (Nat.le_of_ble_eq_true rfl) (Nat.le_of_ble_eq_true rfl) ?_
  refine lv_dup hx hb dX3_init_30 rfl ?_
  refine Kv.callIN (wr := [oB o 3 [.ref q_1, .ref q_5, .null, .null, .null], oB q_1 0 [.ref (b_4 0), .ref (b_4 1), .ref (b_4 2), .ref (b_4 3), .int (nI 0)], aI cI (b_4 0) 24 Z0, aI cI (b_4 1) 24 Z0, aI cI (b_4 2) 24 Z0, aI cI (b_4 3) 24 Z0, oB q_5 0 [.ref (b_8 0), .ref (b_8 1), .ref (b_8 2), .ref (b_8 3), .int (nI 0)], aI cI (b_8 0) 24 Z0, aI cI (b_8 1) 24 Z0, aI cI (b_8 2) 24 Z0, aI cI (b_8 3) 24 Z0]) (rest := [.ref q_9, .ref o]) (CX0_init jl G cI cZ cJ q_9) cx hP hD hS hl [11] [0, 1, 2, 3, 4, 5, 6, 7, 8, 9, 10] ggX3_init_X0_init (by decide +kernel) wX3_init_iniX0_init wX3_init_imX0_init rfl hdX0_init rfl ⟨Nat.le_of_ble_eq_true rfl, Nat.le_of_ble_eq_true rfl⟩ rfl rfl (by decide) (by decide) (by decide) dX3_init_31 rfl rfl (Nat.le_of_ble_eq_true rfl) ⟨Nat.le_of_ble_eq_true rfl, Nat.le_of_ble_eq_true rfl⟩ (fun u H locs hw_11 hP hD hS => ?_)
  obtain ⟨b_12, rfl⟩ : ∃ z, z = u := ⟨_, rfl⟩
  try dsimp only at hw_11
  have hP : va_P G vwCl [oB o 3 [.ref q_1, .ref q_5, .null, .null, .null], oB q_1 0 [.ref (b_4 0), .ref (b_4 1), .ref (b_4 2), .ref (b_4 3), .int (nI 0)], aI cI (b_4 0) 24 Z0, aI cI (b_4 1) 24 Z0, aI cI (b_4 2) 24 Z0, aI cI (b_4 3) 24 Z0, oB q_5 0 [.ref (b_8 0), .ref (b_8 1), .ref (b_8 2), .ref (b_8 3), .int (nI 0)], aI cI (b_8 0) 24 Z0, aI cI (b_8 1) 24 Z0, aI cI (b_8 2) 24 Z0, aI cI (b_8 3) 24 Z0, oB q_9 0 [.ref (b_12 0), .ref (b_12 1), .ref (b_12 2), .ref (b_12 3), .int (nI 0)], aI cI (b_12 0) 24 Z0, aI cI (b_12 1) 24 Z0, aI cI (b_12 2) 24 Z0, aI cI (b_12 3) 24 Z0] H := hP
  have hD : va_D jA [oB o 3 [.ref q_1, .ref q_5, .null, .null, .null], oB q_1 0 [.ref (b_4 0), .ref (b_4 1), .ref (b_4 2), .ref (b_4 3), .int (nI 0)], aI cI (b_4 0) 24 Z0, aI cI (b_4 1) 24 Z0, aI cI (b_4 2) 24 Z0, aI cI (b_4 3) 24 Z0, oB q_5 0 [.ref (b_8 0), .ref (b_8 1), .ref (b_8 2), .ref (b_8 3), .int (nI 0)], aI cI (b_8 0) 24 Z0, aI cI (b_8 1) 24 Z0, aI cI (b_8 2) 24 Z0, aI cI (b_8 3) 24 Z0, oB q_9 0 [.ref (b_12 0), .ref (b_12 1), .ref (b_12 2), .ref (b_12 3), .int (nI 0)], aI cI (b_12 0) 24 Z0, aI cI (b_12 1) 24 Z0, aI cI (b_12 2) 24 Z0, aI cI (b_12 3) 24 Z0] := hD
  refine W.widen (k := 15) (n := 303) (Nat.le_of_ble_eq_true rfl) (Nat.le_of_ble_eq_true rfl) ?_
  refine va_putF (C := RX3) (T := TX3) (N := 5) (ci := 3) (v := .ref q_9) (ty := tyX3 2) hx hb hts iX3_init_3 tyX3 tyX3_ok nmX3 hown hK.1 hP hD hS 0 rfl rfl 2 (Nat.le_of_ble_eq_true rfl) (hts _ mX3_init_21) (fun _ h9 => h9) rfl hnm rfl (tyX3_ok 2 (Nat.le_of_ble_eq_true rfl)) (rfl) (rfl) (Nat.le_of_ble_eq_true rfl) dX3_init_34 (fun H locs hP hD hS => ?_)
  have hP : va_P G vwCl [oB o 3 [.ref q_1, .ref q_5, .ref q_9, .null, .null], oB q_1 0 [.ref (b_4 0), .ref (b_4 1), .ref (b_4 2), .ref (b_4 3), .int (nI 0)], aI cI (b_4 0) 24 Z0, aI cI (b_4 1) 24 Z0, aI cI (b_4 2) 24 Z0, aI cI (b_4 3) 24 Z0, oB q_5 0 [.ref (b_8 0), .ref (b_8 1), .ref (b_8 2), .ref (b_8 3), .int (nI 0)], aI cI (b_8 0) 24 Z0, aI cI (b_8 1) 24 Z0, aI cI (b_8 2) 24 Z0, aI cI (b_8 3) 24 Z0, oB q_9 0 [.ref (b_12 0), .ref (b_12 1), .ref (b_12 2), .ref (b_12 3), .int (nI 0)], aI cI (b_12 0) 24 Z0, aI cI (b_12 1) 24 Z0, aI cI (b_12 2) 24 Z0, aI cI (b_12 3) 24 Z0] H := hP
  have hD : va_D jA [oB o 3 [.ref q_1, .ref q_5, .ref q_9, .null, .null], oB q_1 0 [.ref (b_4 0), .ref (b_4 1), .ref (b_4 2), .ref (b_4 3), .int (nI 0)], aI cI (b_4 0) 24 Z0, aI cI (b_4 1) 24 Z0, aI cI (b_4 2) 24 Z0, aI cI (b_4 3) 24 Z0, oB q_5 0 [.ref (b_8 0), .ref (b_8 1), .ref (b_8 2), .ref (b_8 3), .int (nI 0)], aI cI (b_8 0) 24 Z0, aI cI (b_8 1) 24 Z0, aI cI (b_8 2) 24 Z0, aI cI (b_8 3) 24 Z0, oB q_9 0 [.ref (b_12 0), .ref (b_12 1), .ref (b_12 2), .ref (b_12 3), .int (nI 0)], aI cI (b_12 0) 24 Z0, aI cI (b_12 1) 24 Z0, aI cI (b_12 2) 24 Z0, aI cI (b_12 3) 24 Z0] := hD
  refine lv_aload_n hx hb dX3_init_37 rfl (lv_at hl 0 rfl) ?_
  refine va_new (ci := 0) (fs := [.null, .null, .null, .null, .int (nI 0)]) (C := RX0) (T := TX0) (N := 5) hx hb hts iX3_init_0 tyX0 tyX0_ok hown (hts _ wX3_init_cl9) (hts _ wX3_init_it0) (hts _ wX3_init_in0) hK.1 hP hD hS hA rfl dfX0 (Nat.le_of_ble_eq_true rfl) (Nat.le_of_ble_eq_true rfl) dX3_init_38 (fun q_13 H hP hD hS => ?_)
  have hP : va_P G vwCl [oB o 3 [.ref q_1, .ref q_5, .ref q_9, .null, .null], oB q_1 0 [.ref (b_4 0), .ref (b_4 1), .ref (b_4 2), .ref (b_4 3), .int (nI 0)], aI cI (b_4 0) 24 Z0, aI cI (b_4 1) 24 Z0, aI cI (b_4 2) 24 Z0, aI cI (b_4 3) 24 Z0, oB q_5 0 [.ref (b_8 0), .ref (b_8 1), .ref (b_8 2), .ref (b_8 3), .int (nI 0)], aI cI (b_8 0) 24 Z0, aI cI (b_8 1) 24 Z0, aI cI (b_8 2) 24 Z0, aI cI (b_8 3) 24 Z0, oB q_9 0 [.ref (b_12 0), .ref (b_12 1), .ref (b_12 2), .ref (b_12 3), .int (nI 0)], aI cI (b_12 0) 24 Z0, aI cI (b_12 1) 24 Z0, aI cI (b_12 2) 24 Z0, aI cI (b_12 3) 24 Z0, oB q_13 0 [.null, .null, .null, .null, .int (nI 0)]] H := hP
  have hD : va_D jA [oB o 3 [.ref q_1, .ref q_5, .ref q_9, .null, .null], oB q_1 0 [.ref (b_4 0), .ref (b_4 1), .ref (b_4 2), .ref (b_4 3), .int (nI 0)], aI cI (b_4 0) 24 Z0, aI cI (b_4 1) 24 Z0, aI cI (b_4 2) 24 Z0, aI cI (b_4 3) 24 Z0, oB q_5 0 [.ref (b_8 0), .ref (b_8 1), .ref (b_8 2), .ref (b_8 3), .int (nI 0)], aI cI (b_8 0) 24 Z0, aI cI (b_8 1) 24 Z0, aI cI (b_8 2) 24 Z0, aI cI (b_8 3) 24 Z0, oB q_9 0 [.ref (b_12 0), .ref (b_12 1), .ref (b_12 2), .ref (b_12 3), .int (nI 0)], aI cI (b_12 0) 24 Z0, aI cI (b_12 1) 24 Z0, aI cI (b_12 2) 24 Z0, aI cI (b_12 3) 24 Z0, oB q_13 0 [.null, .null, .null, .null, .int (nI 0)]] := hD
  refine W.widen (k := 16) (n := 308) (Nat.le_of_ble_eq_true rfl) (Nat.le_of_ble_eq_true rfl) ?_
  refine lv_dup hx hb dX3_init_41 rfl ?_
  refine Kv.callIN (wr := [oB o 3 [.ref q_1, .ref q_5, .ref q_9, .null, .null], oB q_1 0 [.ref (b_4 0), .ref (b_4 1), .ref (b_4 2), .ref (b_4 3), .int (nI 0)], aI cI (b_4 0) 24 Z0, aI cI (b_4 1) 24 Z0, aI cI (b_4 2) 24 Z0, aI cI (b_4 3) 24 Z0, oB q_5 0 [.ref (b_8 0), .ref (b_8 1), .ref (b_8 2), .ref (b_8 3), .int (nI 0)], aI cI (b_8 0) 24 Z0, aI cI (b_8 1) 24 Z0, aI cI (b_8 2) 24 Z0, aI cI (b_8 3) 24 Z0, oB q_9 0 [.ref (b_12 0), .ref (b_12 1), .ref (b_12 2), .ref (b_12 3), .int (nI 0)], aI cI (b_12 0) 24 Z0, aI cI (b_12 1) 24 Z0, aI cI (b_12 2) 24 Z0, aI cI (b_12 3) 24 Z0]) (rest := [.ref q_13, .ref o]) (CX0_init jl G cI cZ cJ q_13) cx hP hD hS hl [16] [0, 1, 2, 3, 4, 5, 6, 7, 8, 9, 10, 11, 12, 13, 14, 15] ggX3_init_X0_init (by decide +kernel) wX3_init_iniX0_init wX3_init_imX0_init rfl hdX0_init rfl ⟨Nat.le_of_ble_eq_true rfl, Nat.le_of_ble_eq_true rfl⟩ rfl rfl (by decide) (by decide) (by decide) dX3_init_42 rfl rfl (Nat.le_of_ble_eq_true rfl) ⟨Nat.le_of_ble_eq_true rfl, Nat.le_of_ble_eq_true rfl⟩ (fun u H locs hw_15 hP hD hS => ?_)
  obtain ⟨b_16, rfl⟩ : ∃ z, z = u := ⟨_, rfl⟩
  try dsimp only at hw_15
  have hP : va_P G vwCl [oB o 3 [.ref q_1, .ref q_5, .ref q_9, .null, .null], oB q_1 0 [.ref (b_4 0), .ref (b_4 1), .ref (b_4 2), .ref (b_4 3), .int (nI 0)], aI cI (b_4 0) 24 Z0, aI cI (b_4 1) 24 Z0, aI cI (b_4 2) 24 Z0, aI cI (b_4 3) 24 Z0, oB q_5 0 [.ref (b_8 0), .ref (b_8 1), .ref (b_8 2), .ref (b_8 3), .int (nI 0)], aI cI (b_8 0) 24 Z0, aI cI (b_8 1) 24 Z0, aI cI (b_8 2) 24 Z0, aI cI (b_8 3) 24 Z0, oB q_9 0 [.ref (b_12 0), .ref (b_12 1), .ref (b_12 2), .ref (b_12 3), .int (nI 0)], aI cI (b_12 0) 24 Z0, aI cI (b_12 1) 24 Z0, aI cI (b_12 2) 24 Z0, aI cI (b_12 3) 24 Z0, oB q_13 0 [.ref (b_16 0), .ref (b_16 1), .ref (b_16 2), .ref (b_16 3), .int (nI 0)], aI cI (b_16 0) 24 Z0, aI cI (b_16 1) 24 Z0, aI cI (b_16 2) 24 Z0, aI cI (b_16 3) 24 Z0] H := hP
  have hD : va_D jA [oB o 3 [.ref q_1, .ref q_5, .ref q_9, .null, .null], oB q_1 0 [.ref (b_4 0), .ref (b_4 1), .ref (b_4 2), .ref (b_4 3), .int (nI 0)], aI cI (b_4 0) 24 Z0, aI cI (b_4 1) 24 Z0, aI cI (b_4 2) 24 Z0, aI cI (b_4 3) 24 Z0, oB q_5 0 [.ref (b_8 0), .ref (b_8 1), .ref (b_8 2), .ref (b_8 3), .int (nI 0)], aI cI (b_8 0) 24 Z0, aI cI (b_8 1) 24 Z0, aI cI (b_8 2) 24 Z0, aI cI (b_8 3) 24 Z0, oB q_9 0 [.ref (b_12 0), .ref (b_12 1), .ref (b_12 2), .ref (b_12 3), .int (nI 0)], aI cI (b_12 0) 24 Z0, aI cI (b_12 1) 24 Z0, aI cI (b_12 2) 24 Z0, aI cI (b_12 3) 24 Z0, oB q_13 0 [.ref (b_16 0), .ref (b_16 1), .ref (b_16 2), .ref (b_16 3), .int (nI 0)], aI cI (b_16 0) 24 Z0, aI cI (b_16 1) 24 Z0, aI cI (b_16 2) 24 Z0, aI cI (b_16 3) 24 Z0] := hD
  refine W.widen (k := 20) (n := 404) (Nat.le_of_ble_eq_true rfl) (Nat.le_of_ble_eq_true rfl) ?_
  refine va_putF (C := RX3) (T := TX3) (N := 5) (ci := 3) (v := .ref q_13) (ty := tyX3 3) hx hb hts iX3_init_3 tyX3 tyX3_ok nmX3 hown hK.1 hP hD hS 0 rfl rfl 3 (Nat.le_of_ble_eq_true rfl) (hts _ mX3_init_24) (fun _ h9 => h9) rfl hnm rfl (tyX3_ok 3 (Nat.le_of_ble_eq_true rfl)) (rfl) (rfl) (Nat.le_of_ble_eq_true rfl) dX3_init_45 (fun H locs hP hD hS => ?_)
  have hP : va_P G vwCl [oB o 3 [.ref q_1, .ref q_5, .ref q_9, .ref q_13, .null], oB q_1 0 [.ref (b_4 0), .ref (b_4 1), .ref (b_4 2), .ref (b_4 3), .int (nI 0)], aI cI (b_4 0) 24 Z0, aI cI (b_4 1) 24 Z0, aI cI (b_4 2) 24 Z0, aI cI (b_4 3) 24 Z0, oB q_5 0 [.ref (b_8 0), .ref (b_8 1), .ref (b_8 2), .ref (b_8 3), .int (nI 0)], aI cI (b_8 0) 24 Z0, aI cI (b_8 1) 24 Z0, aI cI (b_8 2) 24 Z0, aI cI (b_8 3) 24 Z0, oB q_9 0 [.ref (b_12 0), .ref (b_12 1), .ref (b_12 2), .ref (b_12 3), .int (nI 0)], aI cI (b_12 0) 24 Z0, aI cI (b_12 1) 24 Z0, aI cI (b_12 2) 24 Z0, aI cI (b_12 3) 24 Z0, oB q_13 0 [.ref (b_16 0), .ref (b_16 1), .ref (b_16 2), .ref (b_16 3), .int (nI 0)], aI cI (b_16 0) 24 Z0, aI cI (b_16 1) 24 Z0, aI cI (b_16 2) 24 Z0, aI cI (b_16 3) 24 Z0] H := hP
  have hD : va_D jA [oB o 3 [.ref q_1, .ref q_5, .ref q_9, .ref q_13, .null], oB q_1 0 [.ref (b_4 0), .ref (b_4 1), .ref (b_4 2), .ref (b_4 3), .int (nI 0)], aI cI (b_4 0) 24 Z0, aI cI (b_4 1) 24 Z0, aI cI (b_4 2) 24 Z0, aI cI (b_4 3) 24 Z0, oB q_5 0 [.ref (b_8 0), .ref (b_8 1), .ref (b_8 2), .ref (b_8 3), .int (nI 0)], aI cI (b_8 0) 24 Z0, aI cI (b_8 1) 24 Z0, aI cI (b_8 2) 24 Z0, aI cI (b_8 3) 24 Z0, oB q_9 0 [.ref (b_12 0), .ref (b_12 1), .ref (b_12 2), .ref (b_12 3), .int (nI 0)], aI cI (b_12 0) 24 Z0, aI cI (b_12 1) 24 Z0, aI cI (b_12 2) 24 Z0, aI cI (b_12 3) 24 Z0, oB q_13 0 [.ref (b_16 0), .ref (b_16 1), .ref (b_16 2), .ref (b_16 3), .int (nI 0)], aI cI (b_16 0) 24 Z0, aI cI (b_16 1) 24 Z0, aI cI (b_16 2) 24 Z0, aI cI (b_16 3) 24 Z0] := hD
  refine lv_aload_n hx hb dX3_init_48 rfl (lv_at hl 0 rfl) ?_
  refine lv_bipush (v := nI 20) hx hb dX3_init_49 (by decide) ?_
  refine k_newI hx hb (hts _ wX3_init_acI) hK.1 hP hD hS hA (by decide) (Nat.le_of_ble_eq_true rfl) (Nat.le_of_ble_eq_true rfl) dX3_init_51 (fun q_17 H hP hD hS => ?_)
  have hP : va_P G vwCl [oB o 3 [.ref q_1, .ref q_5, .ref q_9, .ref q_13, .null], oB q_1 0 [.ref (b_4 0), .ref (b_4 1), .ref (b_4 2), .ref (b_4 3), .int (nI 0)], aI cI (b_4 0) 24 Z0, aI cI (b_4 1) 24 Z0, aI cI (b_4 2) 24 Z0, aI cI (b_4 3) 24 Z0, oB q_5 0 [.ref (b_8 0), .ref (b_8 1), .ref (b_8 2), .ref (b_8 3), .int (nI 0)], aI cI (b_8 0) 24 Z0, aI cI (b_8 1) 24 Z0, aI cI (b_8 2) 24 Z0, aI cI (b_8 3) 24 Z0, oB q_9 0 [.ref (b_12 0), .ref (b_12 1), .ref (b_12 2), .ref (b_12 3), .int (nI 0)], aI cI (b_12 0) 24 Z0, aI cI (b_12 1) 24 Z0, aI cI (b_12 2) 24 Z0, aI cI (b_12 3) 24 Z0, oB q_13 0 [.ref (b_16 0), .ref (b_16 1), .ref (b_16 2), .ref (b_16 3), .int (nI 0)], aI cI (b_16 0) 24 Z0, aI cI (b_16 1) 24 Z0, aI cI (b_16 2) 24 Z0, aI cI (b_16 3) 24 Z0, aI cI q_17 20 Z0] H := hP
  have hD : va_D jA [oB o 3 [.ref q_1, .ref q_5, .ref q_9, .ref q_13, .null], oB q_1 0 [.ref (b_4 0), .ref (b_4 1), .ref (b_4 2), .ref (b_4 3), .int (nI 0)], aI cI (b_4 0) 24 Z0, aI cI (b_4 1) 24 Z0, aI cI (b_4 2) 24 Z0, aI cI (b_4 3) 24 Z0, oB q_5 0 [.ref (b_8 0), .ref (b_8 1), .ref (b_8 2), .ref (b_8 3), .int (nI 0)], aI cI (b_8 0) 24 Z0, aI cI (b_8 1) 24 Z0, aI cI (b_8 2) 24 Z0, aI cI (b_8 3) 24 Z0, oB q_9 0 [.ref (b_12 0), .ref (b_12 1), .ref (b_12 2), .ref (b_12 3), .int (nI 0)], aI cI (b_12 0) 24 Z0, aI cI (b_12 1) 24 Z0, aI cI (b_12 2) 24 Z0, aI cI (b_12 3) 24 Z0, oB q_13 0 [.ref (b_16 0), .ref (b_16 1), .ref (b_16 2), .ref (b_16 3), .int (nI 0)], aI cI (b_16 0) 24 Z0, aI cI (b_16 1) 24 Z0, aI cI (b_16 2) 24 Z0, aI cI (b_16 3) 24 Z0, aI cI q_17 20 Z0] := hD
  refine W.widen (k := 21) (n := 424) (Nat.le_of_ble_eq_true rfl) (Nat.le_of_ble_eq_true rfl) ?_
  refine va_putF (C := RX3) (T := TX3) (N := 5) (ci := 3) (v := .ref q_17) (ty := tyX3 4) hx hb hts iX3_init_3 tyX3 tyX3_ok nmX3 hown hK.1 hP hD hS 0 rfl rfl 4 (Nat.le_of_ble_eq_true rfl) (hts _ mX3_init_27) (fun _ h9 => h9) rfl hnm rfl (tyX3_ok 4 (Nat.le_of_ble_eq_true rfl)) (rfl) (rfl) (Nat.le_of_ble_eq_true rfl) dX3_init_53 (fun H locs hP hD hS => ?_)
  have hP : va_P G vwCl [oB o 3 [.ref q_1, .ref q_5, .ref q_9, .ref q_13, .ref q_17], oB q_1 0 [.ref (b_4 0), .ref (b_4 1), .ref (b_4 2), .ref (b_4 3), .int (nI 0)], aI cI (b_4 0) 24 Z0, aI cI (b_4 1) 24 Z0, aI cI (b_4 2) 24 Z0, aI cI (b_4 3) 24 Z0, oB q_5 0 [.ref (b_8 0), .ref (b_8 1), .ref (b_8 2), .ref (b_8 3), .int (nI 0)], aI cI (b_8 0) 24 Z0, aI cI (b_8 1) 24 Z0, aI cI (b_8 2) 24 Z0, aI cI (b_8 3) 24 Z0, oB q_9 0 [.ref (b_12 0), .ref (b_12 1), .ref (b_12 2), .ref (b_12 3), .int (nI 0)], aI cI (b_12 0) 24 Z0, aI cI (b_12 1) 24 Z0, aI cI (b_12 2) 24 Z0, aI cI (b_12 3) 24 Z0, oB q_13 0 [.ref (b_16 0), .ref (b_16 1), .ref (b_16 2), .ref (b_16 3), .int (nI 0)], aI cI (b_16 0) 24 Z0, aI cI (b_16 1) 24 Z0, aI cI (b_16 2) 24 Z0, aI cI (b_16 3) 24 Z0, aI cI q_17 20 Z0] H := hP
  have hD : va_D jA [oB o 3 [.ref q_1, .ref q_5, .ref q_9, .ref q_13, .ref q_17], oB q_1 0 [.ref (b_4 0), .ref (b_4 1), .ref (b_4 2), .ref (b_4 3), .int (nI 0)], aI cI (b_4 0) 24 Z0, aI cI (b_4 1) 24 Z0, aI cI (b_4 2) 24 Z0, aI cI (b_4 3) 24 Z0, oB q_5 0 [.ref (b_8 0), .ref (b_8 1), .ref (b_8 2), .ref (b_8 3), .int (nI 0)], aI cI (b_8 0) 24 Z0, aI cI (b_8 1) 24 Z0, aI cI (b_8 2) 24 Z0, aI cI (b_8 3) 24 Z0, oB q_9 0 [.ref (b_12 0), .ref (b_12 1), .ref (b_12 2), .ref (b_12 3), .int (nI 0)], aI cI (b_12 0) 24 Z0, aI cI (b_12 1) 24 Z0, aI cI (b_12 2) 24 Z0, aI cI (b_12 3) 24 Z0, oB q_13 0 [.ref (b_16 0), .ref (b_16 1), .ref (b_16 2), .ref (b_16 3), .int (nI 0)], aI cI (b_16 0) 24 Z0, aI cI (b_16 1) 24 Z0, aI cI (b_16 2) 24 Z0, aI cI (b_16 3) 24 Z0, aI cI q_17 20 Z0] := hD
  exact hret _ _ _ _ (fN [o, o, q_1, b_4 0, b_4 1, b_4 2, b_4 3, q_5, b_8 0, b_8 1, b_8 2, b_8 3, q_9, b_12 0, b_12 1, b_12 2, b_12 3, q_13, b_16 0, b_16 1, b_16 2, b_16 3, q_17]) dX3_init_56 (trivial) hP hD hS
