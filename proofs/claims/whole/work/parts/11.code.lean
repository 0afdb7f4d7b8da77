theorem iX0_put_0 : ∀ w ∈ wsX00, w ∈ wsX0_put := by decide +kernel
theorem mX0_put_9 : Cond.fieldLink RX0 9 "LineFinder$Code" "ops" "[I" ∈ wsX0_put := List.mem_of_getElem? (i := 1) rfl
theorem mX0_put_15 : Cond.fieldLink RX0 15 "LineFinder$Code" "xs" "[I" ∈ wsX0_put := List.mem_of_getElem? (i := 2) rfl
theorem mX0_put_18 : Cond.fieldLink RX0 18 "LineFinder$Code" "ys" "[I" ∈ wsX0_put := List.mem_of_getElem? (i := 3) rfl
theorem mX0_put_21 : Cond.fieldLink RX0 21 "LineFinder$Code" "zs" "[I" ∈ wsX0_put := List.mem_of_getElem? (i := 4) rfl
abbrev rCX0_put : Room := { frames := 0, cells := 0, slots := 0, locals := 0 }
set_option maxHeartbeats 4000000 in
set_option maxRecDepth 100000 in
theorem CX0_put (jl : Launch) (G : va_G) (cI cZ cJ : ClassId) (h a0 a1 a2 a3 sz : Nat) (f0 f1 f2 f3 : Fn) (t : Nat) (ht : t < 24) (op x y z : Int32) : Kv jl yX0_put wsX0_put rCX0_put G cI cZ cJ [.ref h, .int (nI t), .int op, .int x, .int y, .int z] [oB h 0 [.ref a0, .ref a1, .ref a2, .ref a3, .int (nI sz)], aI cI a0 24 f0, aI cI a1 24 f1, aI cI a2 24 f2, aI cI a3 24 f3] (S := Unit) (fun (_ : Unit) => True) (fun (_ : Unit) => [oB h 0 [.ref a0, .ref a1, .ref a2, .ref a3, .int (nI sz)], aI cI a0 24 (upd f0 t op), aI cI a1 24 (upd f1 t x), aI cI a2 24 (upd f2 t y), aI cI a3 24 (upd f3 t z)]) := by
  refine Kv.of (cc := cX0_put) (maxL := 6) (by decide +kernel) rfl (Nat.le_of_ble_eq_true rfl) ?_
  intro jp je js jm ja jb jt jc jA jQ ls cx hnm hP hD hS hl hret
  obtain ⟨hx, hb, hml, hown, hts, hK, hA⟩ := id cx
  have hl : lv_has ls 6 [(0, .ref h), (1, .int (nI t)), (2, .int op), (3, .int x), (4, .int y), (5, .int z)] := hl
  obtain ⟨H, hH⟩ : ∃ H, H = js.heap := ⟨_, rfl⟩
  obtain ⟨locs, hlocs⟩ : ∃ z : List Loc, z = [] := ⟨_, rfl⟩
  have hP : va_P G vwCl [oB h 0 [.ref a0, .ref a1, .ref a2, .ref a3, .int (nI sz)], aI cI a0 24 f0, aI cI a1 24 f1, aI cI a2 24 f2, aI cI a3 24 f3] H := by rw [hH]; exact hP
  have hS : va_S jA js.heap H locs := by rw [hH, hlocs]; exact hS
  rw [← hlocs]; rw [show W jp jl je rCX0_put js jm ja jb jt jc js.heap locs 0 0 jQ (F0 jm 0 ls []) = W jp jl je rCX0_put js jm ja jb jt jc H locs 0 0 jQ (F0 jm 0 ls []) by rw [hH]]
  clear hH hlocs
  refine lv_aload_n hx hb dX0_put_0 rfl (lv_at hl 0 rfl) ?_
  refine va_get (C := RX0) (T := TX0) (N := 5) (ci := 0) hx hb hts iX0_put_0 hown hK.1 hP 0 rfl rfl 0 (Nat.le_of_ble_eq_true rfl) (hts _ mX0_put_9) (fun _ h9 => h9) rfl dX0_put_1 ?_
  refine lv_iload_n hx hb dX0_put_4 rfl (lv_at hl 1 rfl) ?_
  refine lv_iload_n hx hb dX0_put_5 rfl (lv_at hl 2 rfl) ?_
  refine k_iast hx hb hK.1 hP hD hS 1 0 rfl rfl (by omega) (by decide) dX0_put_6 (fun H locs hP hD hS => ?_)
  have hP : va_P G vwCl [oB h 0 [.ref a0, .ref a1, .ref a2, .ref a3, .int (nI sz)], aI cI a0 24 (upd f0 t op), aI cI a1 24 f1, aI cI a2 24 f2, aI cI a3 24 f3] H := hP
  have hD : va_D jA [oB h 0 [.ref a0, .ref a1, .ref a2, .ref a3, .int (nI sz)], aI cI a0 24 (upd f0 t op), aI cI a1 24 f1, aI cI a2 24 f2, aI cI a3 24 f3] := hD
  refine lv_aload_n hx hb dX0_put_7 rfl (lv_at hl 0 rfl) ?_
  refine va_get (C := RX0) (T := TX0) (N := 5) (ci := 0) hx hb hts iX0_put_0 hown hK.1 hP 0 rfl rfl 1 (Nat.le_of_ble_eq_true rfl) (hts _ mX0_put_15) (fun _ h9 => h9) rfl dX0_put_8 ?_
  refine lv_iload_n hx hb dX0_put_11 rfl (lv_at hl 1 rfl) ?_
  refine lv_iload_n hx hb dX0_put_12 rfl (lv_at hl 3 rfl) ?_
  refine k_iast hx hb hK.1 hP hD hS 2 0 rfl rfl (by omega) (by decide) dX0_put_13 (fun H locs hP hD hS => ?_)
  have hP : va_P G vwCl [oB h 0 [.ref a0, .ref a1, .ref a2, .ref a3, .int (nI sz)], aI cI a0 24 (upd f0 t op), aI cI a1 24 (upd f1 t x), aI cI a2 24 f2, aI cI a3 24 f3] H := hP
  have hD : va_D jA [oB h 0 [.ref a0, .ref a1, .ref a2, .ref a3, .int (nI sz)], aI cI a0 24 (upd f0 t op), aI cI a1 24 (upd f1 t x), aI cI a2 24 f2, aI cI a3 24 f3] := hD
  refine lv_aload_n hx hb dX0_put_14 rfl (lv_at hl 0 rfl) ?_
  refine va_get (C := RX0) (T := TX0) (N := 5) (ci := 0) hx hb hts iX0_put_0 hown hK.1 hP 0 rfl rfl 2 (Nat.le_of_ble_eq_true rfl) (hts _ mX0_put_18) (fun _ h9 => h9) rfl dX0_put_15 ?_
  refine lv_iload_n hx hb dX0_put_18 rfl (lv_at hl 1 rfl) ?_
  refine lv_iload hx hb dX0_put_19 (lv_at hl 4 rfl) ?_
  refine k_iast hx hb hK.1 hP hD hS 3 0 rfl rfl (by omega) (by decide) dX0_put_21 (fun H locs hP hD hS => ?_)
  have hP : va_P G vwCl [oB h 0 [.ref a0, .ref a1, .ref a2, .ref a3, .int (nI sz)], aI cI a0 24 (upd f0 t op), aI cI a1 24 (upd f1 t x), aI cI a2 24 (upd f2 t y), aI cI a3 24 f3] H := hP
  have hD : va_D jA [oB h 0 [.ref a0, .ref a1, .ref a2, .ref a3, .int (nI sz)], aI cI a0 24 (upd f0 t op), aI cI a1 24 (upd f1 t x), aI cI a2 24 (upd f2 t y), aI cI a3 24 f3] := hD
  refine lv_aload_n hx hb dX0_put_22 rfl (lv_at hl 0 rfl) ?_
  refine va_get (C := RX0) (T := TX0) (N := 5) (ci := 0) hx hb hts iX0_put_0 hown hK.1 hP 0 rfl rfl 3 (Nat.le_of_ble_eq_true rfl) (hts _ mX0_put_21) (fun _ h9 => h9) rfl dX0_put_23 ?_
  refine lv_iload_n hx hb dX0_put_26 rfl (lv_at hl 1 rfl) ?_
  refine lv_iload hx hb dX0_put_27 (lv_at hl 5 rfl) ?_
  refine k_iast hx hb hK.1 hP hD hS 4 0 rfl rfl (by omega) (by decide) dX0_put_29 (fun H locs hP hD hS => ?_)
  have hP : va_P G vwCl [oB h 0 [.ref a0, .ref a1, .ref a2, .ref a3, .int (nI sz)], aI cI a0 24 (upd f0 t op), aI cI a1 24 (upd f1 t x), aI cI a2 24 (upd f2 t y), aI cI a3 24 (upd f3 t z)] H := hP
  have hD : va_D jA [oB h 0 [.ref a0, .ref a1, .ref a2, .ref a3, .int (nI sz)], aI cI a0 24 (upd f0 t op), aI cI a1 24 (upd f1 t x), aI cI a2 24 (upd f2 t y), aI cI a3 24 (upd f3 t z)] := hD
  exact hret _ _ _ _ () dX0_put_30 (trivial) hP hD hS

theorem iX0_add_0 : ∀ w ∈ wsX00, w ∈ wsX0_add := by decide +kernel
theorem mX0_add_24 : Cond.fieldLink RX0 24 "LineFinder$Code" "size" "I" ∈ wsX0_add := List.mem_of_getElem? (i := 1) rfl
theorem hdX0_put : yX0_put.cls = RX0 ∧ yX0_put.cls ≠ "java/lang/invoke/MethodHandle" ∧ yX0_put.cls ≠ "java/lang/invoke/VarHandle" ∧ (parseMethodDescriptor yX0_put.desc).map (fun d => d.parameters.length) = some 5 := by decide +kernel
abbrev rCX0_add : Room := { frames := 1, cells := 0, slots := 0, locals := 25 }
set_option maxHeartbeats 4000000 in
set_option maxRecDepth 100000 in
theorem CX0_add (jl : Launch) (G : va_G) (cI cZ cJ : ClassId) (h a0 a1 a2 a3 sz : Nat) (f0 f1 f2 f3 : Fn) (hsz : sz < 24) (op x y z : Int32) : Kv jl yX0_add wsX0_add rCX0_add G cI cZ cJ [.ref h, .int op, .int x, .int y, .int z] [oB h 0 [.ref a0, .ref a1, .ref a2, .ref a3, .int (nI sz)], aI cI a0 24 f0, aI cI a1 24 f1, aI cI a2 24 f2, aI cI a3 24 f3] (S := Unit) (fun (_ : Unit) => True) (fun (_ : Unit) => [oB h 0 [.ref a0, .ref a1, .ref a2, .ref a3, .int (nI (sz + 1))], aI cI a0 24 (upd f0 sz op), aI cI a1 24 (upd f1 sz x), aI cI a2 24 (upd f2 sz y), aI cI a3 24 (upd f3 sz z)]) := by
  refine Kv.of (cc := cX0_add) (maxL := 5) (by decide +kernel) rfl (Nat.le_of_ble_eq_true rfl) ?_
  intro jp je js jm ja jb jt jc jA jQ ls cx hnm hP hD hS hl hret
  obtain ⟨hx, hb, hml, hown, hts, hK, hA⟩ := id cx
  have hl : lv_has ls 5 [(0, .ref h), (1, .int op), (2, .int x), (3, .int y), (4, .int z)] := hl
  obtain ⟨H, hH⟩ : ∃ H, H = js.heap := ⟨_, rfl⟩
  obtain ⟨locs, hlocs⟩ : ∃ z : List Loc, z = [] := ⟨_, rfl⟩
  have hP : va_P G vwCl [oB h 0 [.ref a0, .ref a1, .ref a2, .ref a3, .int (nI sz)], aI cI a0 24 f0, aI cI a1 24 f1, aI cI a2 24 f2, aI cI a3 24 f3] H := by rw [hH]; exact hP
  have hS : va_S jA js.heap H locs := by rw [hH, hlocs]; exact hS
  rw [← hlocs]; rw [show W jp jl je rCX0_add js jm ja jb jt jc js.heap locs 0 0 jQ (F0 jm 0 ls []) = W jp jl je rCX0_add js jm ja jb jt jc H locs 0 0 jQ (F0 jm 0 ls []) by rw [hH]]
  clear hH hlocs
  refine lv_aload_n hx hb dX0_add_0 rfl (lv_at hl 0 rfl) ?_
  refine lv_aload_n hx hb dX0_add_1 rfl (lv_at hl 0 rfl) ?_
  refine va_get (C := RX0) (T := TX0) (N := 5) (ci := 0) hx hb hts iX0_add_0 hown hK.1 hP 0 rfl rfl 4 (Nat.le_of_ble_eq_true rfl) (hts _ mX0_add_24) (fun _ h9 => h9) rfl dX0_add_2 ?_
  refine lv_iload_n hx hb dX0_add_5 rfl (lv_at hl 1 rfl) ?_
  refine lv_iload_n hx hb dX0_add_6 rfl (lv_at hl 2 rfl) ?_
  refine lv_iload_n hx hb dX0_add_7 rfl (lv_at hl 3 rfl) ?_
  refine lv_iload hx hb dX0_add_8 (lv_at hl 4 rfl) ?_
  refine Kv.callV (wr := []) (rest := []) (CX0_put jl G cI cZ cJ h a0 a1 a2 a3 sz f0 f1 f2 f3 sz hsz op x y z) cx hP hD hS hl [0, 1, 2, 3, 4] [] (ci := 0) (q0 := 0) gX0_add_X0_put hdX0_put rfl rfl rfl ⟨Nat.le_of_ble_eq_true rfl, Nat.le_of_ble_eq_true rfl⟩ rfl rfl (by decide) (by decide) (by decide) dX0_add_10 rfl rfl (Nat.le_of_ble_eq_true rfl) ⟨Nat.le_of_ble_eq_true rfl, Nat.le_of_ble_eq_true rfl⟩ (fun u H locs hw_2 hP hD hS => ?_)
  have hP : va_P G vwCl [oB h 0 [.ref a0, .ref a1, .ref a2, .ref a3, .int (nI sz)], aI cI a0 24 (upd f0 sz op), aI cI a1 24 (upd f1 sz x), aI cI a2 24 (upd f2 sz y), aI cI a3 24 (upd f3 sz z)] H := hP
  have hD : va_D jA [oB h 0 [.ref a0, .ref a1, .ref a2, .ref a3, .int (nI sz)], aI cI a0 24 (upd f0 sz op), aI cI a1 24 (upd f1 sz x), aI cI a2 24 (upd f2 sz y), aI cI a3 24 (upd f3 sz z)] := hD
  refine lv_aload_n hx hb dX0_add_13 rfl (lv_at hl 0 rfl) ?_
  refine lv_dup hx hb dX0_add_14 rfl ?_
  refine va_get (C := RX0) (T := TX0) (N := 5) (ci := 0) hx hb hts iX0_add_0 hown hK.1 hP 0 rfl rfl 4 (Nat.le_of_ble_eq_true rfl) (hts _ mX0_add_24) (fun _ h9 => h9) rfl dX0_add_15 ?_
  refine lv_iconst (v := nI 1) hx hb dX0_add_18 (by decide) ?_
  refine k_iadd hx hb dX0_add_19 ?_
  refine va_put (C := RX0) (T := TX0) (N := 5) (ci := 0) (v := .int (nI (sz + 1))) (ty := tyX0 4) hx hb hts iX0_add_0 tyX0 tyX0_ok nmX0 hown hK.1 hP hD hS 0 rfl rfl 4 (Nat.le_of_ble_eq_true rfl) (hts _ mX0_add_24) (fun _ h9 => h9) rfl (tyX0_ok 4 (Nat.le_of_ble_eq_true rfl)) (rfl) (rfl) (Nat.le_of_ble_eq_true rfl) dX0_add_20 (fun H locs hP hD hS => ?_)
  have hP : va_P G vwCl [oB h 0 [.ref a0, .ref a1, .ref a2, .ref a3, .int (nI (sz + 1))], aI cI a0 24 (upd f0 sz op), aI cI a1 24 (upd f1 sz x), aI cI a2 24 (upd f2 sz y), aI cI a3 24 (upd f3 sz z)] H := hP
  have hD : va_D jA [oB h 0 [.ref a0, .ref a1, .ref a2, .ref a3, .int (nI (sz + 1))], aI cI a0 24 (upd f0 sz op), aI cI a1 24 (upd f1 sz x), aI cI a2 24 (upd f2 sz y), aI cI a3 24 (upd f3 sz z)] := hD
  exact hret _ _ _ _ () dX0_add_23 (trivial) hP hD hS

theorem iX0_putRowOf_0 : ∀ w ∈ wsX00, w ∈ wsX0_putRowOf := by decide +kernel
theorem mX0_putRowOf_9 : Cond.fieldLink RX0 9 "LineFinder$Code" "ops" "[I" ∈ wsX0_putRowOf := List.mem_of_getElem? (i := 1) rfl
theorem mX0_putRowOf_15 : Cond.fieldLink RX0 15 "LineFinder$Code" "xs" "[I" ∈ wsX0_putRowOf := List.mem_of_getElem? (i := 2) rfl
theorem mX0_putRowOf_18 : Cond.fieldLink RX0 18 "LineFinder$Code" "ys" "[I" ∈ wsX0_putRowOf := List.mem_of_getElem? (i := 3) rfl
theorem mX0_putRowOf_21 : Cond.fieldLink RX0 21 "LineFinder$Code" "zs" "[I" ∈ wsX0_putRowOf := List.mem_of_getElem? (i := 4) rfl
abbrev rCX0_putRowOf : Room := { frames := 1, cells := 0, slots := 0, locals := 25 }
set_option maxHeartbeats 4000000 in
set_option maxRecDepth 100000 in
theorem CX0_putRowOf (jl : Launch) (G : va_G) (cI cZ cJ : ClassId) (h a0 a1 a2 a3 sz : Nat) (f0 f1 f2 f3 : Fn) (k b0 b1 b2 b3 sk : Nat) (g0 g1 g2 g3 : Fn) (i t : Nat) (hi : i < 24) (ht : t < 24) : Kv jl yX0_putRowOf wsX0_putRowOf rCX0_putRowOf G cI cZ cJ [.ref h, .ref k, .int (nI i), .int (nI t)] [oB h 0 [.ref a0, .ref a1, .ref a2, .ref a3, .int (nI sz)], aI cI a0 24 f0, aI cI a1 24 f1, aI cI a2 24 f2, aI cI a3 24 f3, oB k 0 [.ref b0, .ref b1, .ref b2, .ref b3, .int (nI sk)], aI cI b0 24 g0, aI cI b1 24 g1, aI cI b2 24 g2, aI cI b3 24 g3] (S := Unit) (fun (_ : Unit) => True) (fun (_ : Unit) => [oB h 0 [.ref a0, .ref a1, .ref a2, .ref a3, .int (nI sz)], aI cI a0 24 (upd f0 t (g0 i)), aI cI a1 24 (upd f1 t (g1 i)), aI cI a2 24 (upd f2 t (g2 i)), aI cI a3 24 (upd f3 t (g3 i)), oB k 0 [.ref b0, .ref b1, .ref b2, .ref b3, .int (nI sk)], aI cI b0 24 g0, aI cI b1 24 g1, aI cI b2 24 g2, aI cI b3 24 g3]) := by
  refine Kv.of (cc := cX0_putRowOf) (maxL := 4) (by decide +kernel) rfl (Nat.le_of_ble_eq_true rfl) ?_
  intro jp je js jm ja jb jt jc jA jQ ls cx hnm hP hD hS hl hret
  obtain ⟨hx, hb, hml, hown, hts, hK, hA⟩ := id cx
  have hl : lv_has ls 4 [(0, .ref h), (1, .ref k), (2, .int (nI i)), (3, .int (nI t))] := hl
  obtain ⟨H, hH⟩ : ∃ H, H = js.heap := ⟨_, rfl⟩
  obtain ⟨locs, hlocs⟩ : ∃ z : List Loc, z = [] := ⟨_, rfl⟩
  have hP : va_P G vwCl [oB h 0 [.ref a0, .ref a1, .ref a2, .ref a3, .int (nI sz)], aI cI a0 24 f0, aI cI a1 24 f1, aI cI a2 24 f2, aI cI a3 24 f3, oB k 0 [.ref b0, .ref b1, .ref b2, .ref b3, .int (nI sk)], aI cI b0 24 g0, aI cI b1 24 g1, aI cI b2 24 g2, aI cI b3 24 g3] H := by rw [hH]; exact hP
  have hS : va_S jA js.heap H locs := by rw [hH, hlocs]; exact hS
  rw [← hlocs]; rw [show W jp jl je rCX0_putRowOf js jm ja jb jt jc js.heap locs 0 0 jQ (F0 jm 0 ls []) = W jp jl je rCX0_putRowOf js jm ja jb jt jc H locs 0 0 jQ (F0 jm 0 ls []) by rw [hH]]
  clear hH hlocs
  refine lv_aload_n hx hb dX0_putRowOf_0 rfl (lv_at hl 0 rfl) ?_
  refine lv_iload_n hx hb dX0_putRowOf_1 rfl (lv_at hl 3 rfl) ?_
  refine lv_aload_n hx hb dX0_putRowOf_2 rfl (lv_at hl 1 rfl) ?_
  refine va_get (C := RX0) (T := TX0) (N := 5) (ci := 0) hx hb hts iX0_putRowOf_0 hown hK.1 hP 5 rfl rfl 0 (Nat.le_of_ble_eq_true rfl) (hts _ mX0_putRowOf_9) (fun _ h9 => h9) rfl dX0_putRowOf_3 ?_
  refine lv_iload_n hx hb dX0_putRowOf_6 rfl (lv_at hl 2 rfl) ?_
  refine k_iald hx hb hK.1 hP 6 0 rfl rfl (by omega) (by decide) dX0_putRowOf_7 ?_
  refine lv_aload_n hx hb dX0_putRowOf_8 rfl (lv_at hl 1 rfl) ?_
  refine va_get (C := RX0) (T := TX0) (N := 5) (ci := 0) hx hb hts iX0_putRowOf_0 hown hK.1 hP 5 rfl rfl 1 (Nat.le_of_ble_eq_true rfl) (hts _ mX0_putRowOf_15) (fun _ h9 => h9) rfl dX0_putRowOf_9 ?_
  refine lv_iload_n hx hb dX0_putRowOf_12 rfl (lv_at hl 2 rfl) ?_
  refine k_iald hx hb hK.1 hP 7 0 rfl rfl (by omega) (by decide) dX0_putRowOf_13 ?_
  refine lv_aload_n hx hb dX0_putRowOf_14 rfl (lv_at hl 1 rfl) ?_
  refine va_get (C := RX0) (T := TX0) (N := 5) (ci := 0) hx hb hts iX0_putRowOf_0 hown hK.1 hP 5 rfl rfl 2 (Nat.le_of_ble_eq_true rfl) (hts _ mX0_putRowOf_18) (fun _ h9 => h9) rfl dX0_putRowOf_15 ?_
  refine lv_iload_n hx hb dX0_putRowOf_18 rfl (lv_at hl 2 rfl) ?_
  refine k_iald hx hb hK.1 hP 8 0 rfl rfl (by omega) (by decide) dX0_putRowOf_19 ?_
  refine lv_aload_n hx hb dX0_putRowOf_20 rfl (lv_at hl 1 rfl) ?_
  refine va_get (C := RX0) (T := TX0) (N := 5) (ci := 0) hx hb hts iX0_putRowOf_0 hown hK.1 hP 5 rfl rfl 3 (Nat.le_of_ble_eq_true rfl) (hts _ mX0_putRowOf_21) (fun _ h9 => h9) rfl dX0_putRowOf_21 ?_
  refine lv_iload_n hx hb dX0_putRowOf_24 rfl (lv_at hl 2 rfl) ?_
  refine k_iald hx hb hK.1 hP 9 0 rfl rfl (by omega) (by decide) dX0_putRowOf_25 ?_
  refine Kv.callV (wr := [oB k 0 [.ref b0, .ref b1, .ref b2, .ref b3, .int (nI sk)], aI cI b0 24 g0, aI cI b1 24 g1, aI cI b2 24 g2, aI cI b3 24 g3]) (rest := []) (CX0_put jl G cI cZ cJ h a0 a1 a2 a3 sz f0 f1 f2 f3 t ht (g0 i) (g1 i) (g2 i) (g3 i)) cx hP hD hS hl [0, 1, 2, 3, 4] [5, 6, 7, 8, 9] (ci := 0) (q0 := 0) gX0_putRowOf_X0_put hdX0_put rfl rfl rfl ⟨Nat.le_of_ble_eq_true rfl, Nat.le_of_ble_eq_true rfl⟩ rfl rfl (by decide) (by decide) (by decide) dX0_putRowOf_26 rfl rfl (Nat.le_of_ble_eq_true rfl) ⟨Nat.le_of_ble_eq_true rfl, Nat.le_of_ble_eq_true rfl⟩ (fun u H locs hw_2 hP hD hS => ?_)
  have hP : va_P G vwCl [oB k 0 [.ref b0, .ref b1, .ref b2, .ref b3, .int (nI sk)], aI cI b0 24 g0, aI cI b1 24 g1, aI cI b2 24 g2, aI cI b3 24 g3, oB h 0 [.ref a0, .ref a1, .ref a2, .ref a3, .int (nI sz)], aI cI a0 24 (upd f0 t (g0 i)), aI cI a1 24 (upd f1 t (g1 i)), aI cI a2 24 (upd f2 t (g2 i)), aI cI a3 24 (upd f3 t (g3 i))] H := hP
  have hD : va_D jA [oB k 0 [.ref b0, .ref b1, .ref b2, .ref b3, .int (nI sk)], aI cI b0 24 g0, aI cI b1 24 g1, aI cI b2 24 g2, aI cI b3 24 g3, oB h 0 [.ref a0, .ref a1, .ref a2, .ref a3, .int (nI sz)], aI cI a0 24 (upd f0 t (g0 i)), aI cI a1 24 (upd f1 t (g1 i)), aI cI a2 24 (upd f2 t (g2 i)), aI cI a3 24 (upd f3 t (g3 i))] := hD
  obtain ⟨hP, hD⟩ := k_sub (w' := [oB h 0 [.ref a0, .ref a1, .ref a2, .ref a3, .int (nI sz)], aI cI a0 24 (upd f0 t (g0 i)), aI cI a1 24 (upd f1 t (g1 i)), aI cI a2 24 (upd f2 t (g2 i)), aI cI a3 24 (upd f3 t (g3 i)), oB k 0 [.ref b0, .ref b1, .ref b2, .ref b3, .int (nI sk)], aI cI b0 24 g0, aI cI b1 24 g1, aI cI b2 24 g2, aI cI b3 24 g3]) hP hD [5, 6, 7, 8, 9, 0, 1, 2, 3, 4] rfl (by decide)
  exact hret _ _ _ _ () dX0_putRowOf_29 (trivial) hP hD hS

theorem iX0_copy_0 : ∀ w ∈ wsX00, w ∈ wsX0_copy := by decide +kernel
theorem mX0_copy_24 : Cond.fieldLink RX0 24 "LineFinder$Code" "size" "I" ∈ wsX0_copy := List.mem_of_getElem? (i := 1) rfl
theorem hdX0_putRowOf : yX0_putRowOf.cls = RX0 ∧ yX0_putRowOf.cls ≠ "java/lang/invoke/MethodHandle" ∧ yX0_putRowOf.cls ≠ "java/lang/invoke/VarHandle" ∧ (parseMethodDescriptor yX0_putRowOf.desc).map (fun d => d.parameters.length) = some 3 := by decide +kernel
abbrev rCX0_copy : Room := { frames := 2, cells := 0, slots := 0, locals := 48 }
set_option maxHeartbeats 4000000 in
set_option maxRecDepth 100000 in
theorem CX0_copy (jl : Launch) (G : va_G) (cI cZ cJ : ClassId) (h a0 a1 a2 a3 sz : Nat) (f0 f1 f2 f3 : Fn) (k b0 b1 b2 b3 sk : Nat) (g0 g1 g2 g3 : Fn) (hk : sk ≤ 24) : Kv jl yX0_copy wsX0_copy rCX0_copy G cI cZ cJ [.ref h, .ref k] [oB h 0 [.ref a0, .ref a1, .ref a2, .ref a3, .int (nI sz)], aI cI a0 24 f0, aI cI a1 24 f1, aI cI a2 24 f2, aI cI a3 24 f3, oB k 0 [.ref b0, .ref b1, .ref b2, .ref b3, .int (nI sk)], aI cI b0 24 g0, aI cI b1 24 g1, aI cI b2 24 g2, aI cI b3 24 g3] (S := Unit) (fun (_ : Unit) => True) (fun (_ : Unit) => [oB h 0 [.ref a0, .ref a1, .ref a2, .ref a3, .int (nI sk)], aI cI a0 24 (fl g0 f0 sk), aI cI a1 24 (fl g1 f1 sk), aI cI a2 24 (fl g2 f2 sk), aI cI a3 24 (fl g3 f3 sk), oB k 0 [.ref b0, .ref b1, .ref b2, .ref b3, .int (nI sk)], aI cI b0 24 g0, aI cI b1 24 g1, aI cI b2 24 g2, aI cI b3 24 g3]) := by
  refine Kv.of (cc := cX0_copy) (maxL := 3) (by decide +kernel) rfl (Nat.le_of_ble_eq_true rfl) ?_
  intro jp je js jm ja jb jt jc jA jQ ls cx hnm hP hD hS hl hret
  obtain ⟨hx, hb, hml, hown, hts, hK, hA⟩ := id cx
  have hl : lv_has ls 3 [(0, .ref h), (1, .ref k)] := hl
  obtain ⟨H, hH⟩ : ∃ H, H = js.heap := ⟨_, rfl⟩
  obtain ⟨locs, hlocs⟩ : ∃ z : List Loc, z = [] := ⟨_, rfl⟩
  have hP : va_P G vwCl [oB h 0 [.ref a0, .ref a1, .ref a2, .ref a3, .int (nI sz)], aI cI a0 24 f0, aI cI a1 24 f1, aI cI a2 24 f2, aI cI a3 24 f3, oB k 0 [.ref b0, .ref b1, .ref b2, .ref b3, .int (nI sk)], aI cI b0 24 g0, aI cI b1 24 g1, aI cI b2 24 g2, aI cI b3 24 g3] H := by rw [hH]; exact hP
  have hS : va_S jA js.heap H locs := by rw [hH, hlocs]; exact hS
  rw [← hlocs]; rw [show W jp jl je rCX0_copy js jm ja jb jt jc js.heap locs 0 0 jQ (F0 jm 0 ls []) = W jp jl je rCX0_copy js jm ja jb jt jc H locs 0 0 jQ (F0 jm 0 ls []) by rw [hH]]
  clear hH hlocs
  refine lv_aload_n hx hb dX0_copy_0 rfl (lv_at hl 0 rfl) ?_
  refine lv_aload_n hx hb dX0_copy_1 rfl (lv_at hl 1 rfl) ?_
  refine va_get (C := RX0) (T := TX0) (N := 5) (ci := 0) hx hb hts iX0_copy_0 hown hK.1 hP 5 rfl rfl 4 (Nat.le_of_ble_eq_true rfl) (hts _ mX0_copy_24) (fun _ h9 => h9) rfl dX0_copy_2 ?_
  refine va_put (C := RX0) (T := TX0) (N := 5) (ci := 0) (v := .int (nI sk)) (ty := tyX0 4) hx hb hts iX0_copy_0 tyX0 tyX0_ok nmX0 hown hK.1 hP hD hS 0 rfl rfl 4 (Nat.le_of_ble_eq_true rfl) (hts _ mX0_copy_24) (fun _ h9 => h9) rfl (tyX0_ok 4 (Nat.le_of_ble_eq_true rfl)) (rfl) (rfl) (Nat.le_of_ble_eq_true rfl) dX0_copy_5 (fun H locs hP hD hS => ?_)
  have hP : va_P G vwCl [oB h 0 [.ref a0, .ref a1, .ref a2, .ref a3, .int (nI sk)], aI cI a0 24 f0, aI cI a1 24 f1, aI cI a2 24 f2, aI cI a3 24 f3, oB k 0 [.ref b0, .ref b1, .ref b2, .ref b3, .int (nI sk)], aI cI b0 24 g0, aI cI b1 24 g1, aI cI b2 24 g2, aI cI b3 24 g3] H := hP
  have hD : va_D jA [oB h 0 [.ref a0, .ref a1, .ref a2, .ref a3, .int (nI sk)], aI cI a0 24 f0, aI cI a1 24 f1, aI cI a2 24 f2, aI cI a3 24 f3, oB k 0 [.ref b0, .ref b1, .ref b2, .ref b3, .int (nI sk)], aI cI b0 24 g0, aI cI b1 24 g1, aI cI b2 24 g2, aI cI b3 24 g3] := hD
  refine lv_iconst (v := nI 0) hx hb dX0_copy_8 (by decide) ?_
  refine lv_istore_n (lv' := [(2, .int (nI 0)), (0, .ref h), (1, .ref k)]) hx hb dX0_copy_9 rfl hl (by decide) rfl (fun ls hl => ?_)
  have L10 : ∀ (fu : Nat), ∀ (i : Nat), ∀ (y0 : Fn), ∀ (y1 : Fn), ∀ (y2 : Fn), ∀ (y3 : Fn), (sk < i + fu) → (i ≤ sk) → (y0 = fl g0 f0 i) → (y1 = fl g1 f1 i) → (y2 = fl g2 f2 i) → (y3 = fl g3 f3 i) → ∀ (H : Heap) (locs : List Loc) (ls : Array Slot), va_P G vwCl [oB h 0 [.ref a0, .ref a1, .ref a2, .ref a3, .int (nI sk)], aI cI a0 24 y0, aI cI a1 24 y1, aI cI a2 24 y2, aI cI a3 24 y3, oB k 0 [.ref b0, .ref b1, .ref b2, .ref b3, .int (nI sk)], aI cI b0 24 g0, aI cI b1 24 g1, aI cI b2 24 g2, aI cI b3 24 g3] H → va_D jA [oB h 0 [.ref a0, .ref a1, .ref a2, .ref a3, .int (nI sk)], aI cI a0 24 y0, aI cI a1 24 y1, aI cI a2 24 y2, aI cI a3 24 y3, oB k 0 [.ref b0, .ref b1, .ref b2, .ref b3, .int (nI sk)], aI cI b0 24 g0, aI cI b1 24 g1, aI cI b2 24 g2, aI cI b3 24 g3] → va_S jA js.heap H locs → lv_has ls 3 [(0, .ref h), (1, .ref k), (2, .int (nI i))] → W jp jl je rCX0_copy js jm ja jb jt jc H locs 0 0 jQ (F0 jm 10 ls []) := by
    intro fu
    induction fu with
    | zero =>
      intro i y0 y1 y2 y3 hfu hi e0 e1 e2 e3 H locs ls hP hD hS hl
      exact absurd hfu (by omega)
    | succ fu ih10 =>
      intro i y0 y1 y2 y3 hfu hi e0 e1 e2 e3 H locs ls hP hD hS hl
      refine lv_iload_n hx hb dX0_copy_10 rfl (lv_at hl 2 rfl) ?_
      refine lv_aload_n hx hb dX0_copy_11 rfl (lv_at hl 0 rfl) ?_
      refine va_get (C := RX0) (T := TX0) (N := 5) (ci := 0) hx hb hts iX0_copy_0 hown hK.1 hP 0 rfl rfl 4 (Nat.le_of_ble_eq_true rfl) (hts _ mX0_copy_24) (fun _ h9 => h9) rfl dX0_copy_12 ?_
      refine k_cmp_ge (tgt := 31) hx hb dX0_copy_15 (by decide) (by omega) (by omega) (fun c_1 => ?_) (fun c_1 => ?_)
      · skip
        have hie : i = sk := by omega
        subst hie; subst e0; subst e1; subst e2; subst e3
        exact hret _ _ _ _ () dX0_copy_31 (trivial) hP hD hS
      · skip
        refine lv_aload_n hx hb dX0_copy_18 rfl (lv_at hl 0 rfl) ?_
        refine lv_aload_n hx hb dX0_copy_19 rfl (lv_at hl 1 rfl) ?_
        refine lv_iload_n hx hb dX0_copy_20 rfl (lv_at hl 2 rfl) ?_
        refine lv_iload_n hx hb dX0_copy_21 rfl (lv_at hl 2 rfl) ?_
        refine Kv.callV (wr := []) (rest := []) (CX0_putRowOf jl G cI cZ cJ h a0 a1 a2 a3 sk y0 y1 y2 y3 k b0 b1 b2 b3 sk g0 g1 g2 g3 i i (by omega) (by omega)) cx hP hD hS hl [0, 1, 2, 3, 4, 5, 6, 7, 8, 9] [] (ci := 0) (q0 := 0) gX0_copy_X0_putRowOf hdX0_putRowOf rfl rfl rfl ⟨Nat.le_of_ble_eq_true rfl, Nat.le_of_ble_eq_true rfl⟩ rfl rfl (by decide) (by decide) (by decide) dX0_copy_22 rfl rfl (Nat.le_of_ble_eq_true rfl) ⟨Nat.le_of_ble_eq_true rfl, Nat.le_of_ble_eq_true rfl⟩ (fun u H locs hw_3 hP hD hS => ?_)
        have hP : va_P G vwCl [oB h 0 [.ref a0, .ref a1, .ref a2, .ref a3, .int (nI sk)], aI cI a0 24 (upd y0 i (g0 i)), aI cI a1 24 (upd y1 i (g1 i)), aI cI a2 24 (upd y2 i (g2 i)), aI cI a3 24 (upd y3 i (g3 i)), oB k 0 [.ref b0, .ref b1, .ref b2, .ref b3, .int (nI sk)], aI cI b0 24 g0, aI cI b1 24 g1, aI cI b2 24 g2, aI cI b3 24 g3] H := hP
        have hD : va_D jA [oB h 0 [.ref a0, .ref a1, .ref a2, .ref a3, .int (nI sk)], aI cI a0 24 (upd y0 i (g0 i)), aI cI a1 24 (upd y1 i (g1 i)), aI cI a2 24 (upd y2 i (g2 i)), aI cI a3 24 (upd y3 i (g3 i)), oB k 0 [.ref b0, .ref b1, .ref b2, .ref b3, .int (nI sk)], aI cI b0 24 g0, aI cI b1 24 g1, aI cI b2 24 g2, aI cI b3 24 g3] := hD
        refine lv_iinc (v := nI (i + 1)) (lv' := [(2, .int (nI (i + 1))), (0, .ref h), (1, .ref k)]) hx hb dX0_copy_25 hl (k := 2) rfl (nI_add i 1) (by decide) rfl (fun ls hl => ?_)
        refine lv_goto (tgt := 10) hx hb dX0_copy_28 (by decide) ?_
        exact ih10 (i + 1) (upd y0 i (g0 i)) (upd y1 i (g1 i)) (upd y2 i (g2 i)) (upd y3 i (g3 i)) (by omega) (by omega) (by rw [e0]; exact fl_succ _ _ _) (by rw [e1]; exact fl_succ _ _ _) (by rw [e2]; exact fl_succ _ _ _) (by rw [e3]; exact fl_succ _ _ _) _ _ _ hP hD hS (lv_sub hl [1, 2, 0] rfl)
  exact L10 (sk + 1) 0 f0 f1 f2 f3 (by omega) (by omega) ((fl_0 _ _).symm) ((fl_0 _ _).symm) ((fl_0 _ _).symm) ((fl_0 _ _).symm) _ _ _ hP hD hS (lv_sub hl [1, 2, 0] rfl)
