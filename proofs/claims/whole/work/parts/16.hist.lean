theorem iX3_hasLine_0 : ∀ w ∈ wsX00, w ∈ wsX3_hasLine := by decide +kernel
theorem iX3_hasLine_3 : ∀ w ∈ wsX30, w ∈ wsX3_hasLine := by decide +kernel
theorem mX3_hasLine_18 : Cond.fieldLink RX3 18 "LineFinder$History" "now" "LLineFinder$Code;" ∈ wsX3_hasLine := List.mem_of_getElem? (i := 1) rfl
theorem mX3_hasLine_31 : Cond.fieldLink RX3 31 "LineFinder$Code" "size" "I" ∈ wsX3_hasLine := List.mem_of_getElem? (i := 2) rfl
abbrev rCX3_hasLine : Room := { frames := 0, cells := 0, slots := 0, locals := 0 }
set_option maxHeartbeats 4000000 in
set_option maxRecDepth 100000 in
theorem CX3_hasLine (jl : Launch) (G : va_G) (cI cZ cJ : ClassId) (hi td nw bt ch cl : Nat) (w0 w1 w2 w3 n : Nat) (hn : n ≤ 24) (p : Int32) : Ki jl yX3_hasLine wsX3_hasLine rCX3_hasLine G cI cZ cJ [.ref hi, .int p] [oB hi 3 [.ref td, .ref nw, .ref bt, .ref ch, .ref cl], oB nw 0 [.ref w0, .ref w1, .ref w2, .ref w3, .int (nI n)]] (S := Unit) (fun (r : Int32) (_ : Unit) => isIx p n r) (fun (_ : Unit) => [oB hi 3 [.ref td, .ref nw, .ref bt, .ref ch, .ref cl], oB nw 0 [.ref w0, .ref w1, .ref w2, .ref w3, .int (nI n)]]) := by
  refine Ki.ofZ (cc := cX3_hasLine) (maxL := 2) (by decide +kernel) rfl (Nat.le_of_ble_eq_true rfl) ?_
  intro jp je js jm ja jb jt jc jA jQ ls cx hnm hP hD hS hl hret
  obtain ⟨hx, hb, hml, hown, hts, hK, hA⟩ := id cx
  have hl : lv_has ls 2 [(0, .ref hi), (1, .int p)] := hl
  obtain ⟨H, hH⟩ : ∃ H, H = js.heap := ⟨_, rfl⟩
  obtain ⟨locs, hlocs⟩ : ∃ z : List Loc, z = [] := ⟨_, rfl⟩
  have hP : va_P G vwCl [oB hi 3 [.ref td, .ref nw, .ref bt, .ref ch, .ref cl], oB nw 0 [.ref w0, .ref w1, .ref w2, .ref w3, .int (nI n)]] H := by rw [hH]; exact hP
  have hS : va_S jA js.heap H locs := by rw [hH, hlocs]; exact hS
  rw [← hlocs]; rw [show W jp jl je rCX3_hasLine js jm ja jb jt jc js.heap locs 0 0 jQ (F0 jm 0 ls []) = W jp jl je rCX3_hasLine js jm ja jb jt jc H locs 0 0 jQ (F0 jm 0 ls []) by rw [hH]]
  clear hH hlocs
  refine lv_iload_n hx hb dX3_hasLine_0 rfl (lv_at hl 1 rfl) ?_
  refine lv_if_lt (tgt := 19) hx hb dX3_hasLine_1 (by decide) (fun c_1 => ?_) (fun c_1 => ?_)
  · skip
    refine lv_iconst (v := nI 0) hx hb dX3_hasLine_19 (by decide) ?_
    exact hret _ _ _ _ _ () dX3_hasLine_20 (by decide) (isIx_neg (by omega) c_1) hP hD hS
  · skip
    obtain ⟨j, hj, rfl⟩ := nI_of c_1
    refine lv_iload_n hx hb dX3_hasLine_4 rfl (lv_at hl 1 rfl) ?_
    refine lv_aload_n hx hb dX3_hasLine_5 rfl (lv_at hl 0 rfl) ?_
    refine va_get (C := RX3) (T := TX3) (N := 5) (ci := 3) hx hb hts iX3_hasLine_3 hown hK.1 hP 0 rfl rfl 1 (Nat.le_of_ble_eq_true rfl) (hts _ mX3_hasLine_18) (fun _ h9 => h9) rfl dX3_hasLine_6 ?_
    refine va_get (C := RX0) (T := TX0) (N := 5) (ci := 0) hx hb hts iX3_hasLine_0 hown hK.1 hP 1 rfl rfl 4 (Nat.le_of_ble_eq_true rfl) (hts _ mX3_hasLine_31) (fun _ h9 => h9) rfl dX3_hasLine_9 ?_
    refine k_cmp_ge (tgt := 19) hx hb dX3_hasLine_12 (by decide) (by omega) (by omega) (fun c_2 => ?_) (fun c_2 => ?_)
    · skip
      refine lv_iconst (v := nI 0) hx hb dX3_hasLine_19 (by decide) ?_
      exact hret _ _ _ _ _ () dX3_hasLine_20 (by decide) (isIx_ge hj (by omega) c_2) hP hD hS
    · skip
      refine lv_iconst (v := nI 1) hx hb dX3_hasLine_15 (by decide) ?_
      refine lv_goto (tgt := 20) hx hb dX3_hasLine_16 (by decide) ?_
      exact hret _ _ _ _ _ () dX3_hasLine_20 (by decide) (isIx_lt c_2) hP hD hS

theorem iX3_tell_3 : ∀ w ∈ wsX30, w ∈ wsX3_tell := by decide +kernel
theorem mX3_tell_12 : Cond.fieldLink RX3 12 "LineFinder$History" "told" "LLineFinder$Code;" ∈ wsX3_tell := List.mem_of_getElem? (i := 1) rfl
theorem mX3_tell_18 : Cond.fieldLink RX3 18 "LineFinder$History" "now" "LLineFinder$Code;" ∈ wsX3_tell := List.mem_of_getElem? (i := 2) rfl
theorem hdX0_add : yX0_add.cls = RX0 ∧ yX0_add.cls ≠ "java/lang/invoke/MethodHandle" ∧ yX0_add.cls ≠ "java/lang/invoke/VarHandle" ∧ (parseMethodDescriptor yX0_add.desc).map (fun d => d.parameters.length) = some 4 := by decide +kernel
abbrev rCX3_tell : Room := { frames := 2, cells := 0, slots := 0, locals := 49 }
set_option maxHeartbeats 4000000 in
set_option maxRecDepth 100000 in
theorem CX3_tell (jl : Launch) (G : va_G) (cI cZ cJ : ClassId) (hi td nw bt ch cl : Nat) (t0 t1 t2 t3 n : Nat) (tf0 tf1 tf2 tf3 : Fn) (w0 w1 w2 w3 : Nat) (wf0 wf1 wf2 wf3 : Fn) (hn : n < 24) (op x y z : Int32) : Kv jl yX3_tell wsX3_tell rCX3_tell G cI cZ cJ [.ref hi, .int op, .int x, .int y, .int z] [oB hi 3 [.ref td, .ref nw, .ref bt, .ref ch, .ref cl], oB td 0 [.ref t0, .ref t1, .ref t2, .ref t3, .int (nI n)], aI cI t0 24 tf0, aI cI t1 24 tf1, aI cI t2 24 tf2, aI cI t3 24 tf3, oB nw 0 [.ref w0, .ref w1, .ref w2, .ref w3, .int (nI n)], aI cI w0 24 wf0, aI cI w1 24 wf1, aI cI w2 24 wf2, aI cI w3 24 wf3] (S := Unit) (fun (_ : Unit) => True) (fun (_ : Unit) => [oB hi 3 [.ref td, .ref nw, .ref bt, .ref ch, .ref cl], oB td 0 [.ref t0, .ref t1, .ref t2, .ref t3, .int (nI (n + 1))], aI cI t0 24 (upd tf0 n op), aI cI t1 24 (upd tf1 n x), aI cI t2 24 (upd tf2 n y), aI cI t3 24 (upd tf3 n z), oB nw 0 [.ref w0, .ref w1, .ref w2, .ref w3, .int (nI (n + 1))], aI cI w0 24 (upd wf0 n op), aI cI w1 24 (upd wf1 n x), aI cI w2 24 (upd wf2 n y), aI cI w3 24 (upd wf3 n z)]) := by
  refine Kv.of (cc := cX3_tell) (maxL := 5) (by decide +kernel) rfl (Nat.le_of_ble_eq_true rfl) ?_
  intro jp je js jm ja jb jt jc jA jQ ls cx hnm hP hD hS hl hret
  obtain ⟨hx, hb, hml, hown, hts, hK, hA⟩ := id cx
  have hl : lv_has ls 5 [(0, .ref hi), (1, .int op), (2, .int x), (3, .int y), (4, .int z)] := hl
  obtain ⟨H, hH⟩ : ∃ H, H = js.heap := ⟨_, rfl⟩
  obtain ⟨locs, hlocs⟩ : ∃ z : List Loc, z = [] := ⟨_, rfl⟩
  have hP : va_P G vwCl [oB hi 3 [.ref td, .ref nw, .ref bt, .ref ch, .ref cl], oB td 0 [.ref t0, .ref t1, .ref t2, .ref t3, .int (nI n)], aI cI t0 24 tf0, aI cI t1 24 tf1, aI cI t2 24 tf2, aI cI t3 24 tf3, oB nw 0 [.ref w0, .ref w1, .ref w2, .ref w3, .int (nI n)], aI cI w0 24 wf0, aI cI w1 24 wf1, aI cI w2 24 wf2, aI cI w3 24 wf3] H := by rw [hH]; exact hP
  have hS : va_S jA js.heap H locs := by rw [hH, hlocs]; exact hS
  rw [← hlocs]; rw [show W jp jl je rCX3_tell js jm ja jb jt jc js.heap locs 0 0 jQ (F0 jm 0 ls []) = W jp jl je rCX3_tell js jm ja jb jt jc H locs 0 0 jQ (F0 jm 0 ls []) by rw [hH]]
  clear hH hlocs
  refine lv_aload_n hx hb dX3_tell_0 rfl (lv_at hl 0 rfl) ?_
  refine va_get (C := RX3) (T := TX3) (N := 5) (ci := 3) hx hb hts iX3_tell_3 hown hK.1 hP 0 rfl rfl 0 (Nat.le_of_ble_eq_true rfl) (hts _ mX3_tell_12) (fun _ h9 => h9) rfl dX3_tell_1 ?_
  refine lv_iload_n hx hb dX3_tell_4 rfl (lv_at hl 1 rfl) ?_
  refine lv_iload_n hx hb dX3_tell_5 rfl (lv_at hl 2 rfl) ?_
  refine lv_iload_n hx hb dX3_tell_6 rfl (lv_at hl 3 rfl) ?_
  refine lv_iload hx hb dX3_tell_7 (lv_at hl 4 rfl) ?_
  refine Kv.callV (wr := [oB hi 3 [.ref td, .ref nw, .ref bt, .ref ch, .ref cl], oB nw 0 [.ref w0, .ref w1, .ref w2, .ref w3, .int (nI n)], aI cI w0 24 wf0, aI cI w1 24 wf1, aI cI w2 24 wf2, aI cI w3 24 wf3]) (rest := []) (CX0_add jl G cI cZ cJ td t0 t1 t2 t3 n tf0 tf1 tf2 tf3 hn op x y z) cx hP hD hS hl [1, 2, 3, 4, 5] [0, 6, 7, 8, 9, 10] (ci := 0) (q0 := 0) gX3_tell_X0_add hdX0_add rfl rfl rfl ⟨Nat.le_of_ble_eq_true rfl, Nat.le_of_ble_eq_true rfl⟩ rfl rfl (by decide) (by decide) (by decide) dX3_tell_9 rfl rfl (Nat.le_of_ble_eq_true rfl) ⟨Nat.le_of_ble_eq_true rfl, Nat.le_of_ble_eq_true rfl⟩ (fun u H locs hw_2 hP hD hS => ?_)
  have hP : va_P G vwCl [oB hi 3 [.ref td, .ref nw, .ref bt, .ref ch, .ref cl], oB nw 0 [.ref w0, .ref w1, .ref w2, .ref w3, .int (nI n)], aI cI w0 24 wf0, aI cI w1 24 wf1, aI cI w2 24 wf2, aI cI w3 24 wf3, oB td 0 [.ref t0, .ref t1, .ref t2, .ref t3, .int (nI (n + 1))], aI cI t0 24 (upd tf0 n op), aI cI t1 24 (upd tf1 n x), aI cI t2 24 (upd tf2 n y), aI cI t3 24 (upd tf3 n z)] H := hP
  have hD : va_D jA [oB hi 3 [.ref td, .ref nw, .ref bt, .ref ch, .ref cl], oB nw 0 [.ref w0, .ref w1, .ref w2, .ref w3, .int (nI n)], aI cI w0 24 wf0, aI cI w1 24 wf1, aI cI w2 24 wf2, aI cI w3 24 wf3, oB td 0 [.ref t0, .ref t1, .ref t2, .ref t3, .int (nI (n + 1))], aI cI t0 24 (upd tf0 n op), aI cI t1 24 (upd tf1 n x), aI cI t2 24 (upd tf2 n y), aI cI t3 24 (upd tf3 n z)] := hD
  refine lv_aload_n hx hb dX3_tell_12 rfl (lv_at hl 0 rfl) ?_
  refine va_get (C := RX3) (T := TX3) (N := 5) (ci := 3) hx hb hts iX3_tell_3 hown hK.1 hP 0 rfl rfl 1 (Nat.le_of_ble_eq_true rfl) (hts _ mX3_tell_18) (fun _ h9 => h9) rfl dX3_tell_13 ?_
  refine lv_iload_n hx hb dX3_tell_16 rfl (lv_at hl 1 rfl) ?_
  refine lv_iload_n hx hb dX3_tell_17 rfl (lv_at hl 2 rfl) ?_
  refine lv_iload_n hx hb dX3_tell_18 rfl (lv_at hl 3 rfl) ?_
  refine lv_iload hx hb dX3_tell_19 (lv_at hl 4 rfl) ?_
  refine Kv.callV (wr := [oB hi 3 [.ref td, .ref nw, .ref bt, .ref ch, .ref cl], oB td 0 [.ref t0, .ref t1, .ref t2, .ref t3, .int (nI (n + 1))], aI cI t0 24 (upd tf0 n op), aI cI t1 24 (upd tf1 n x), aI cI t2 24 (upd tf2 n y), aI cI t3 24 (upd tf3 n z)]) (rest := []) (CX0_add jl G cI cZ cJ nw w0 w1 w2 w3 n wf0 wf1 wf2 wf3 hn op x y z) cx hP hD hS hl [1, 2, 3, 4, 5] [0, 6, 7, 8, 9, 10] (ci := 0) (q0 := 0) gX3_tell_X0_add hdX0_add rfl rfl rfl ⟨Nat.le_of_ble_eq_true rfl, Nat.le_of_ble_eq_true rfl⟩ rfl rfl (by decide) (by decide) (by decide) dX3_tell_21 rfl rfl (Nat.le_of_ble_eq_true rfl) ⟨Nat.le_of_ble_eq_true rfl, Nat.le_of_ble_eq_true rfl⟩ (fun u H locs hw_4 hP hD hS => ?_)
  have hP : va_P G vwCl [oB hi 3 [.ref td, .ref nw, .ref bt, .ref ch, .ref cl], oB td 0 [.ref t0, .ref t1, .ref t2, .ref t3, .int (nI (n + 1))], aI cI t0 24 (upd tf0 n op), aI cI t1 24 (upd tf1 n x), aI cI t2 24 (upd tf2 n y), aI cI t3 24 (upd tf3 n z), oB nw 0 [.ref w0, .ref w1, .ref w2, .ref w3, .int (nI (n + 1))], aI cI w0 24 (upd wf0 n op), aI cI w1 24 (upd wf1 n x), aI cI w2 24 (upd wf2 n y), aI cI w3 24 (upd wf3 n z)] H := hP
  have hD : va_D jA [oB hi 3 [.ref td, .ref nw, .ref bt, .ref ch, .ref cl], oB td 0 [.ref t0, .ref t1, .ref t2, .ref t3, .int (nI (n + 1))], aI cI t0 24 (upd tf0 n op), aI cI t1 24 (upd tf1 n x), aI cI t2 24 (upd tf2 n y), aI cI t3 24 (upd tf3 n z), oB nw 0 [.ref w0, .ref w1, .ref w2, .ref w3, .int (nI (n + 1))], aI cI w0 24 (upd wf0 n op), aI cI w1 24 (upd wf1 n x), aI cI w2 24 (upd wf2 n y), aI cI w3 24 (upd wf3 n z)] := hD
  exact hret _ _ _ _ () dX3_tell_24 (trivial) hP hD hS

theorem iX3_alter_0 : ∀ w ∈ wsX00, w ∈ wsX3_alter := by decide +kernel
theorem iX3_alter_3 : ∀ w ∈ wsX30, w ∈ wsX3_alter := by decide +kernel
theorem mX3_alter_18 : Cond.fieldLink RX3 18 "LineFinder$History" "now" "LLineFinder$Code;" ∈ wsX3_alter := List.mem_of_getElem? (i := 4) rfl
theorem mX3_alter_24 : Cond.fieldLink RX3 24 "LineFinder$History" "changes" "LLineFinder$Code;" ∈ wsX3_alter := List.mem_of_getElem? (i := 2) rfl
theorem mX3_alter_27 : Cond.fieldLink RX3 27 "LineFinder$History" "changedLines" "[I" ∈ wsX3_alter := List.mem_of_getElem? (i := 1) rfl
theorem mX3_alter_31 : Cond.fieldLink RX3 31 "LineFinder$Code" "size" "I" ∈ wsX3_alter := List.mem_of_getElem? (i := 3) rfl
abbrev rCX3_alter : Room := { frames := 2, cells := 0, slots := 0, locals := 49 }
set_option maxHeartbeats 4000000 in
set_option maxRecDepth 100000 in
theorem CX3_alter (jl : Launch) (G : va_G) (cI cZ cJ : ClassId) (hi td nw bt ch cl : Nat) (w0 w1 w2 w3 n : Nat) (wf0 wf1 wf2 wf3 : Fn) (c0 c1 c2 c3 nc : Nat) (cf0 cf1 cf2 cf3 : Fn) (chl : Fn) (hnc : nc < 20) (t : Nat) (ht : t < 24) (op x y z : Int32) : Kv jl yX3_alter wsX3_alter rCX3_alter G cI cZ cJ [.ref hi, .int (nI t), .int op, .int x, .int y, .int z] [oB hi 3 [.ref td, .ref nw, .ref bt, .ref ch, .ref cl], oB nw 0 [.ref w0, .ref w1, .ref w2, .ref w3, .int (nI n)], aI cI w0 24 wf0, aI cI w1 24 wf1, aI cI w2 24 wf2, aI cI w3 24 wf3, oB ch 0 [.ref c0, .ref c1, .ref c2, .ref c3, .int (nI nc)], aI cI c0 24 cf0, aI cI c1 24 cf1, aI cI c2 24 cf2, aI cI c3 24 cf3, aI cI cl 20 chl] (S := Unit) (fun (_ : Unit) => True) (fun (_ : Unit) => [oB hi 3 [.ref td, .ref nw, .ref bt, .ref ch, .ref cl], oB nw 0 [.ref w0, .ref w1, .ref w2, .ref w3, .int (nI n)], aI cI w0 24 (upd wf0 t op), aI cI w1 24 (upd wf1 t x), aI cI w2 24 (upd wf2 t y), aI cI w3 24 (upd wf3 t z), oB ch 0 [.ref c0, .ref c1, .ref c2, .ref c3, .int (nI (nc + 1))], aI cI c0 24 (upd cf0 nc op), aI cI c1 24 (upd cf1 nc x), aI cI c2 24 (upd cf2 nc y), aI cI c3 24 (upd cf3 nc z), aI cI cl 20 (upd chl nc (nI t))]) := by
  refine Kv.of (cc := cX3_alter) (maxL := 6) (by decide +kernel) rfl (Nat.le_of_ble_eq_true rfl) ?_
  intro jp je js jm ja jb jt jc jA jQ ls cx hnm hP hD hS hl hret
  obtain ⟨hx, hb, hml, hown, hts, hK, hA⟩ := id cx
  have hl : lv_has ls 6 [(0, .ref hi), (1, .int (nI t)), (2, .int op), (3, .int x), (4, .int y), (5, .int z)] := hl
  obtain ⟨H, hH⟩ : ∃ H, H = js.heap := ⟨_, rfl⟩
  obtain ⟨locs, hlocs⟩ : ∃ z : List Loc, z = [] := ⟨_, rfl⟩
  have hP : va_P G vwCl [oB hi 3 [.ref td, .ref nw, .ref bt, .ref ch, .ref cl], oB nw 0 [.ref w0, .ref w1, .ref w2, .ref w3, .int (nI n)], aI cI w0 24 wf0, aI cI w1 24 wf1, aI cI w2 24 wf2, aI cI w3 24 wf3, oB ch 0 [.ref c0, .ref c1, .ref c2, .ref c3, .int (nI nc)], aI cI c0 24 cf0, aI cI c1 24 cf1, aI cI c2 24 cf2, aI cI c3 24 cf3, aI cI cl 20 chl] H := by rw [hH]; exact hP
  have hS : va_S jA js.heap H locs := by rw [hH, hlocs]; exact hS
  rw [← hlocs]; rw [show W jp jl je rCX3_alter js jm ja jb jt jc js.heap locs 0 0 jQ (F0 jm 0 ls []) = W jp jl je rCX3_alter js jm ja jb jt jc H locs 0 0 jQ (F0 jm 0 ls []) by rw [hH]]
  clear hH hlocs
  refine lv_aload_n hx hb dX3_alter_0 rfl (lv_at hl 0 rfl) ?_
  refine va_get (C := RX3) (T := TX3) (N := 5) (ci := 3) hx hb hts iX3_alter_3 hown hK.1 hP 0 rfl rfl 4 (Nat.le_of_ble_eq_true rfl) (hts _ mX3_alter_27) (fun _ h9 => h9) rfl dX3_alter_1 ?_
  refine lv_aload_n hx hb dX3_alter_4 rfl (lv_at hl 0 rfl) ?_
  refine va_get (C := RX3) (T := TX3) (N := 5) (ci := 3) hx hb hts iX3_alter_3 hown hK.1 hP 0 rfl rfl 3 (Nat.le_of_ble_eq_true rfl) (hts _ mX3_alter_24) (fun _ h9 => h9) rfl dX3_alter_5 ?_
  refine va_get (C := RX0) (T := TX0) (N := 5) (ci := 0) hx hb hts iX3_alter_0 hown hK.1 hP 6 rfl rfl 4 (Nat.le_of_ble_eq_true rfl) (hts _ mX3_alter_31) (fun _ h9 => h9) rfl dX3_alter_8 ?_
  refine lv_iload_n hx hb dX3_alter_11 rfl (lv_at hl 1 rfl) ?_
  refine k_iast hx hb hK.1 hP hD hS 11 0 rfl rfl (by omega) (by decide) dX3_alter_12 (fun H locs hP hD hS => ?_)
  have hP : va_P G vwCl [oB hi 3 [.ref td, .ref nw, .ref bt, .ref ch, .ref cl], oB nw 0 [.ref w0, .ref w1, .ref w2, .ref w3, .int (nI n)], aI cI w0 24 wf0, aI cI w1 24 wf1, aI cI w2 24 wf2, aI cI w3 24 wf3, oB ch 0 [.ref c0, .ref c1, .ref c2, .ref c3, .int (nI nc)], aI cI c0 24 cf0, aI cI c1 24 cf1, aI cI c2 24 cf2, aI cI c3 24 cf3, aI cI cl 20 (upd chl nc (nI t))] H := hP
  have hD : va_D jA [oB hi 3 [.ref td, .ref nw, .ref bt, .ref ch, .ref cl], oB nw 0 [.ref w0, .ref w1, .ref w2, .ref w3, .int (nI n)], aI cI w0 24 wf0, aI cI w1 24 wf1, aI cI w2 24 wf2, aI cI w3 24 wf3, oB ch 0 [.ref c0, .ref c1, .ref c2, .ref c3, .int (nI nc)], aI cI c0 24 cf0, aI cI c1 24 cf1, aI cI c2 24 cf2, aI cI c3 24 cf3, aI cI cl 20 (upd chl nc (nI t))] := hD
  refine lv_aload_n hx hb dX3_alter_13 rfl (lv_at hl 0 rfl) ?_
  refine va_get (C := RX3) (T := TX3) (N := 5) (ci := 3) hx hb hts iX3_alter_3 hown hK.1 hP 0 rfl rfl 3 (Nat.le_of_ble_eq_true rfl) (hts _ mX3_alter_24) (fun _ h9 => h9) rfl dX3_alter_14 ?_
  refine lv_iload_n hx hb dX3_alter_17 rfl (lv_at hl 2 rfl) ?_
  refine lv_iload_n hx hb dX3_alter_18 rfl (lv_at hl 3 rfl) ?_
  refine lv_iload hx hb dX3_alter_19 (lv_at hl 4 rfl) ?_
  refine lv_iload hx hb dX3_alter_21 (lv_at hl 5 rfl) ?_
  refine Kv.callV (wr := [oB hi 3 [.ref td, .ref nw, .ref bt, .ref ch, .ref cl], oB nw 0 [.ref w0, .ref w1, .ref w2, .ref w3, .int (nI n)], aI cI w0 24 wf0, aI cI w1 24 wf1, aI cI w2 24 wf2, aI cI w3 24 wf3, aI cI cl 20 (upd chl nc (nI t))]) (rest := []) (CX0_add jl G cI cZ cJ ch c0 c1 c2 c3 nc cf0 cf1 cf2 cf3 (by omega) op x y z) cx hP hD hS hl [6, 7, 8, 9, 10] [0, 1, 2, 3, 4, 5, 11] (ci := 0) (q0 := 0) gX3_alter_X0_add hdX0_add rfl rfl rfl ⟨Nat.le_of_ble_eq_true rfl, Nat.le_of_ble_eq_true rfl⟩ rfl rfl (by decide) (by decide) (by decide) dX3_alter_23 rfl rfl (Nat.le_of_ble_eq_true rfl) ⟨Nat.le_of_ble_eq_true rfl, Nat.le_of_ble_eq_true rfl⟩ (fun u H locs hw_2 hP hD hS => ?_)
  have hP : va_P G vwCl [oB hi 3 [.ref td, .ref nw, .ref bt, .ref ch, .ref cl], oB nw 0 [.ref w0, .ref w1, .ref w2, .ref w3, .int (nI n)], aI cI w0 24 wf0, aI cI w1 24 wf1, aI cI w2 24 wf2, aI cI w3 24 wf3, aI cI cl 20 (upd chl nc (nI t)), oB ch 0 [.ref c0, .ref c1, .ref c2, .ref c3, .int (nI (nc + 1))], aI cI c0 24 (upd cf0 nc op), aI cI c1 24 (upd cf1 nc x), aI cI c2 24 (upd cf2 nc y), aI cI c3 24 (upd cf3 nc z)] H := hP
  have hD : va_D jA [oB hi 3 [.ref td, .ref nw, .ref bt, .ref ch, .ref cl], oB nw 0 [.ref w0, .ref w1, .ref w2, .ref w3, .int (nI n)], aI cI w0 24 wf0, aI cI w1 24 wf1, aI cI w2 24 wf2, aI cI w3 24 wf3, aI cI cl 20 (upd chl nc (nI t)), oB ch 0 [.ref c0, .ref c1, .ref c2, .ref c3, .int (nI (nc + 1))], aI cI c0 24 (upd cf0 nc op), aI cI c1 24 (upd cf1 nc x), aI cI c2 24 (upd cf2 nc y), aI cI c3 24 (upd cf3 nc z)] := hD
  refine lv_aload_n hx hb dX3_alter_26 rfl (lv_at hl 0 rfl) ?_
  refine va_get (C := RX3) (T := TX3) (N := 5) (ci := 3) hx hb hts iX3_alter_3 hown hK.1 hP 0 rfl rfl 1 (Nat.le_of_ble_eq_true rfl) (hts _ mX3_alter_18) (fun _ h9 => h9) rfl dX3_alter_27 ?_
  refine lv_iload_n hx hb dX3_alter_30 rfl (lv_at hl 1 rfl) ?_
  refine lv_iload_n hx hb dX3_alter_31 rfl (lv_at hl 2 rfl) ?_
  refine lv_iload_n hx hb dX3_alter_32 rfl (lv_at hl 3 rfl) ?_
  refine lv_iload hx hb dX3_alter_33 (lv_at hl 4 rfl) ?_
  refine lv_iload hx hb dX3_alter_35 (lv_at hl 5 rfl) ?_
  refine Kv.callV (wr := [oB hi 3 [.ref td, .ref nw, .ref bt, .ref ch, .ref cl], aI cI cl 20 (upd chl nc (nI t)), oB ch 0 [.ref c0, .ref c1, .ref c2, .ref c3, .int (nI (nc + 1))], aI cI c0 24 (upd cf0 nc op), aI cI c1 24 (upd cf1 nc x), aI cI c2 24 (upd cf2 nc y), aI cI c3 24 (upd cf3 nc z)]) (rest := []) (CX0_put jl G cI cZ cJ nw w0 w1 w2 w3 n wf0 wf1 wf2 wf3 t ht op x y z) cx hP hD hS hl [1, 2, 3, 4, 5] [0, 6, 7, 8, 9, 10, 11] (ci := 0) (q0 := 0) gX3_alter_X0_put hdX0_put rfl rfl rfl ⟨Nat.le_of_ble_eq_true rfl, Nat.le_of_ble_eq_true rfl⟩ rfl rfl (by decide) (by decide) (by decide) dX3_alter_37 rfl rfl (Nat.le_of_ble_eq_true rfl) ⟨Nat.le_of_ble_eq_true rfl, Nat.le_of_ble_eq_true rfl⟩ (fun u H locs hw_4 hP hD hS => ?_)
  have hP : va_P G vwCl [oB hi 3 [.ref td, .ref nw, .ref bt, .ref ch, .ref cl], aI cI cl 20 (upd chl nc (nI t)), oB ch 0 [.ref c0, .ref c1, .ref c2, .ref c3, .int (nI (nc + 1))], aI cI c0 24 (upd cf0 nc op), aI cI c1 24 (upd cf1 nc x), aI cI c2 24 (upd cf2 nc y), aI cI c3 24 (upd cf3 nc z), oB nw 0 [.ref w0, .ref w1, .ref w2, .ref w3, .int (nI n)], aI cI w0 24 (upd wf0 t op), aI cI w1 24 (upd wf1 t x), aI cI w2 24 (upd wf2 t y), aI cI w3 24 (upd wf3 t z)] H := hP
  have hD : va_D jA [oB hi 3 [.ref td, .ref nw, .ref bt, .ref ch, .ref cl], aI cI cl 20 (upd chl nc (nI t)), oB ch 0 [.ref c0, .ref c1, .ref c2, .ref c3, .int (nI (nc + 1))], aI cI c0 24 (upd cf0 nc op), aI cI c1 24 (upd cf1 nc x), aI cI c2 24 (upd cf2 nc y), aI cI c3 24 (upd cf3 nc z), oB nw 0 [.ref w0, .ref w1, .ref w2, .ref w3, .int (nI n)], aI cI w0 24 (upd wf0 t op), aI cI w1 24 (upd wf1 t x), aI cI w2 24 (upd wf2 t y), aI cI w3 24 (upd wf3 t z)] := hD
  obtain ⟨hP, hD⟩ := k_sub (w' := [oB hi 3 [.ref td, .ref nw, .ref bt, .ref ch, .ref cl], oB nw 0 [.ref w0, .ref w1, .ref w2, .ref w3, .int (nI n)], aI cI w0 24 (upd wf0 t op), aI cI w1 24 (upd wf1 t x), aI cI w2 24 (upd wf2 t y), aI cI w3 24 (upd wf3 t z), oB ch 0 [.ref c0, .ref c1, .ref c2, .ref c3, .int (nI (nc + 1))], aI cI c0 24 (upd cf0 nc op), aI cI c1 24 (upd cf1 nc x), aI cI c2 24 (upd cf2 nc y), aI cI c3 24 (upd cf3 nc z), aI cI cl 20 (upd chl nc (nI t))]) hP hD [0, 7, 8, 9, 10, 11, 2, 3, 4, 5, 6, 1] rfl (by decide)
  exact hret _ _ _ _ () dX3_alter_40 (trivial) hP hD hS

theorem iX3_version_3 : ∀ w ∈ wsX30, w ∈ wsX3_version := by decide +kernel
theorem mX3_version_12 : Cond.fieldLink RX3 12 "LineFinder$History" "told" "LLineFinder$Code;" ∈ wsX3_version := List.mem_of_getElem? (i := 2) rfl
theorem mX3_version_21 : Cond.fieldLink RX3 21 "LineFinder$History" "between" "LLineFinder$Code;" ∈ wsX3_version := List.mem_of_getElem? (i := 1) rfl
theorem mX3_version_24 : Cond.fieldLink RX3 24 "LineFinder$History" "changes" "LLineFinder$Code;" ∈ wsX3_version := List.mem_of_getElem? (i := 3) rfl
theorem mX3_version_27 : Cond.fieldLink RX3 27 "LineFinder$History" "changedLines" "[I" ∈ wsX3_version := List.mem_of_getElem? (i := 4) rfl
theorem hdX0_copy : yX0_copy.cls = RX0 ∧ yX0_copy.cls ≠ "java/lang/invoke/MethodHandle" ∧ yX0_copy.cls ≠ "java/lang/invoke/VarHandle" ∧ (parseMethodDescriptor yX0_copy.desc).map (fun d => d.parameters.length) = some 1 := by decide +kernel
abbrev rCX3_version : Room := { frames := 3, cells := 0, slots := 0, locals := 70 }
set_option maxHeartbeats 4000000 in
set_option maxRecDepth 100000 in
theorem CX3_version (jl : Launch) (G : va_G) (cI cZ cJ : ClassId) (hi td nw bt ch cl : Nat) (t0 t1 t2 t3 n : Nat) (tf0 tf1 tf2 tf3 : Fn) (b0 b1 b2 b3 sb : Nat) (bf0 bf1 bf2 bf3 : Fn) (c0 c1 c2 c3 nc : Nat) (cf0 cf1 cf2 cf3 : Fn) (chl : Fn) (hn : n ≤ 24) (v : Nat) (hv : v ≤ 20) (hix : ∀ i, i < v → ix (chl i) 24) : Kr jl yX3_version wsX3_version rCX3_version G cI cZ cJ [.ref hi, .int (nI v)] [oB hi 3 [.ref td, .ref nw, .ref bt, .ref ch, .ref cl], oB td 0 [.ref t0, .ref t1, .ref t2, .ref t3, .int (nI n)], aI cI t0 24 tf0, aI cI t1 24 tf1, aI cI t2 24 tf2, aI cI t3 24 tf3, oB bt 0 [.ref b0, .ref b1, .ref b2, .ref b3, .int (nI sb)], aI cI b0 24 bf0, aI cI b1 24 bf1, aI cI b2 24 bf2, aI cI b3 24 bf3, oB ch 0 [.ref c0, .ref c1, .ref c2, .ref c3, .int (nI nc)], aI cI c0 24 cf0, aI cI c1 24 cf1, aI cI c2 24 cf2, aI cI c3 24 cf3, aI cI cl 20 chl] (S := Unit) (fun (_ : Unit) => True) (fun (_ : Unit) => [oB hi 3 [.ref td, .ref nw, .ref bt, .ref ch, .ref cl], oB td 0 [.ref t0, .ref t1, .ref t2, .ref t3, .int (nI n)], aI cI t0 24 tf0, aI cI t1 24 tf1, aI cI t2 24 tf2, aI cI t3 24 tf3, oB bt 0 [.ref b0, .ref b1, .ref b2, .ref b3, .int (nI n)], aI cI b0 24 (verF chl cf0 (fl tf0 bf0 n) v), aI cI b1 24 (verF chl cf1 (fl tf1 bf1 n) v), aI cI b2 24 (verF chl cf2 (fl tf2 bf2 n) v), aI cI b3 24 (verF chl cf3 (fl tf3 bf3 n) v), oB ch 0 [.ref c0, .ref c1, .ref c2, .ref c3, .int (nI nc)], aI cI c0 24 cf0, aI cI c1 24 cf1, aI cI c2 24 cf2, aI cI c3 24 cf3, aI cI cl 20 chl]) bt := by
  refine Kr.of (cc := cX3_version) (maxL := 3) (by decide +kernel) rfl (Nat.le_of_ble_eq_true rfl) ?_
  intro jp je js jm ja jb jt jc jA jQ ls cx hnm hP hD hS hl hret
  obtain ⟨hx, hb, hml, hown, hts, hK, hA⟩ := id cx
  have hl : lv_has ls 3 [(0, .ref hi), (1, .int (nI v))] := hl
  obtain ⟨H, hH⟩ : ∃ H, H = js.heap := ⟨_, rfl⟩
  obtain ⟨locs, hlocs⟩ : ∃ z : List Loc, z = [] := ⟨_, rfl⟩
  have hP : va_P G vwCl [oB hi 3 [.ref td, .ref nw, .ref bt, .ref ch, .ref cl], oB td 0 [.ref t0, .ref t1, .ref t2, .ref t3, .int (nI n)], aI cI t0 24 tf0, aI cI t1 24 tf1, aI cI t2 24 tf2, aI cI t3 24 tf3, oB bt 0 [.ref b0, .ref b1, .ref b2, .ref b3, .int (nI sb)], aI cI b0 24 bf0, aI cI b1 24 bf1, aI cI b2 24 bf2, aI cI b3 24 bf3, oB ch 0 [.ref c0, .ref c1, .ref c2, .ref c3, .int (nI nc)], aI cI c0 24 cf0, aI cI c1 24 cf1, aI cI c2 24 cf2, aI cI c3 24 cf3, aI cI cl 20 chl] H := by rw [hH]; exact hP
  have hS : va_S jA js.heap H locs := by rw [hH, hlocs]; exact hS
  rw [← hlocs]; rw [show W jp jl je rCX3_version js jm ja jb jt jc js.heap locs 0 0 jQ (F0 jm 0 ls []) = W jp jl je rCX3_version js jm ja jb jt jc H locs 0 0 jQ (F0 jm 0 ls []) by rw [hH]]
  clear hH hlocs
  refine lv_aload_n hx hb dX3_version_0 rfl (lv_at hl 0 rfl) ?_
  refine va_get (C := RX3) (T := TX3) (N := 5) (ci := 3) hx hb hts iX3_version_3 hown hK.1 hP 0 rfl rfl 2 (Nat.le_of_ble_eq_true rfl) (hts _ mX3_version_21) (fun _ h9 => h9) rfl dX3_version_1 ?_
  refine lv_aload_n hx hb dX3_version_4 rfl (lv_at hl 0 rfl) ?_
  refine va_get (C := RX3) (T := TX3) (N := 5) (ci := 3) hx hb hts iX3_version_3 hown hK.1 hP 0 rfl rfl 0 (Nat.le_of_ble_eq_true rfl) (hts _ mX3_version_12) (fun _ h9 => h9) rfl dX3_version_5 ?_
  refine Kv.callV (wr := [oB hi 3 [.ref td, .ref nw, .ref bt, .ref ch, .ref cl], oB ch 0 [.ref c0, .ref c1, .ref c2, .ref c3, .int (nI nc)], aI cI c0 24 cf0, aI cI c1 24 cf1, aI cI c2 24 cf2, aI cI c3 24 cf3, aI cI cl 20 chl]) (rest := []) (CX0_copy jl G cI cZ cJ bt b0 b1 b2 b3 sb bf0 bf1 bf2 bf3 td t0 t1 t2 t3 n tf0 tf1 tf2 tf3 hn) cx hP hD hS hl [6, 7, 8, 9, 10, 1, 2, 3, 4, 5] [0, 11, 12, 13, 14, 15, 16] (ci := 0) (q0 := 0) gX3_version_X0_copy hdX0_copy rfl rfl rfl ⟨Nat.le_of_ble_eq_true rfl, Nat.le_of_ble_eq_true rfl⟩ rfl rfl (by decide) (by decide) (by decide) dX3_version_8 rfl rfl (Nat.le_of_ble_eq_true rfl) ⟨Nat.le_of_ble_eq_true rfl, Nat.le_of_ble_eq_true rfl⟩ (fun u H locs hw_2 hP hD hS => ?_)
  have hP : va_P G vwCl [oB hi 3 [.ref td, .ref nw, .ref bt, .ref ch, .ref cl], oB ch 0 [.ref c0, .ref c1, .ref c2, .ref c3, .int (nI nc)], aI cI c0 24 cf0, aI cI c1 24 cf1, aI cI c2 24 cf2, aI cI c3 24 cf3, aI cI cl 20 chl, oB bt 0 [.ref b0, .ref b1, .ref b2, .ref b3, .int (nI n)], aI cI b0 24 (fl tf0 bf0 n), aI cI b1 24 (fl tf1 bf1 n), aI cI b2 24 (fl tf2 bf2 n), aI cI b3 24 (fl tf3 bf3 n), oB td 0 [.ref t0, .ref t1, .ref t2, .ref t3, .int (nI n)], aI cI t0 24 tf0, aI cI t1 24 tf1, aI cI t2 24 tf2, aI cI t3 24 tf3] H := hP
  have hD : va_D jA [oB hi 3 [.ref td, .ref nw, .ref bt, .ref ch, .ref cl], oB ch 0 [.ref c0, .ref c1, .ref c2, .ref c3, .int (nI nc)], aI cI c0 24 cf0, aI cI c1 24 cf1, aI cI c2 24 cf2, aI cI c3 24 cf3, aI cI cl 20 chl, oB bt 0 [.ref b0, .ref b1, .ref b2, .ref b3, .int (nI n)], aI cI b0 24 (fl tf0 bf0 n), aI cI b1 24 (fl tf1 bf1 n), aI cI b2 24 (fl tf2 bf2 n), aI cI b3 24 (fl tf3 bf3 n), oB td 0 [.ref t0, .ref t1, .ref t2, .ref t3, .int (nI n)], aI cI t0 24 tf0, aI cI t1 24 tf1, aI cI t2 24 tf2, aI cI t3 24 tf3] := hD
  refine lv_iconst (v := nI 0) hx hb dX3_version_11 (by decide) ?_
  refine lv_istore_n (lv' := [(2, .int (nI 0)), (0, .ref hi), (1, .int (nI v))]) hx hb dX3_version_12 rfl hl (by decide) rfl (fun ls hl => ?_)
  have L13 : ∀ (fu : Nat), ∀ (i : Nat), ∀ (y0 : Fn), ∀ (y1 : Fn), ∀ (y2 : Fn), ∀ (y3 : Fn), (v < i + fu) → (i ≤ v) → (y0 = verF chl cf0 (fl tf0 bf0 n) i) → (y1 = verF chl cf1 (fl tf1 bf1 n) i) → (y2 = verF chl cf2 (fl tf2 bf2 n) i) → (y3 = verF chl cf3 (fl tf3 bf3 n) i) → ∀ (H : Heap) (locs : List Loc) (ls : Array Slot), va_P G vwCl [oB hi 3 [.ref td, .ref nw, .ref bt, .ref ch, .ref cl], oB td 0 [.ref t0, .ref t1, .ref t2, .ref t3, .int (nI n)], aI cI t0 24 tf0, aI cI t1 24 tf1, aI cI t2 24 tf2, aI cI t3 24 tf3, oB bt 0 [.ref b0, .ref b1, .ref b2, .ref b3, .int (nI n)], aI cI b0 24 y0, aI cI b1 24 y1, aI cI b2 24 y2, aI cI b3 24 y3, oB ch 0 [.ref c0, .ref c1, .ref c2, .ref c3, .int (nI nc)], aI cI c0 24 cf0, aI cI c1 24 cf1, aI cI c2 24 cf2, aI cI c3 24 cf3, aI cI cl 20 chl] H → va_D jA [oB hi 3 [.ref td, .ref nw, .ref bt, .ref ch, .ref cl], oB td 0 [.ref t0, .ref t1, .ref t2, .ref t3, .int (nI n)], aI cI t0 24 tf0, aI cI t1 24 tf1, aI cI t2 24 tf2, aI cI t3 24 tf3, oB bt 0 [.ref b0, .ref b1, .ref b2, .ref b3, .int (nI n)], aI cI b0 24 y0, aI cI b1 24 y1, aI cI b2 24 y2, aI cI b3 24 y3, oB ch 0 [.ref c0, .ref c1, .ref c2, .ref c3, .int (nI nc)], aI cI c0 24 cf0, aI cI c1 24 cf1, aI cI c2 24 cf2, aI cI c3 24 cf3, aI cI cl 20 chl] → va_S jA js.heap H locs → lv_has ls 3 [(0, .ref hi), (1, .int (nI v)), (2, .int (nI i))] → W jp jl je rCX3_version js jm ja jb jt jc H locs 0 0 jQ (F0 jm 13 ls []) := by
    intro fu
    induction fu with
    | zero =>
      intro i y0 y1 y2 y3 hfu hi_ e0 e1 e2 e3 H locs ls hP hD hS hl
      exact absurd hfu (by omega)
    | succ fu ih13 =>
      intro i y0 y1 y2 y3 hfu hi_ e0 e1 e2 e3 H locs ls hP hD hS hl
      refine lv_iload_n hx hb dX3_version_13 rfl (lv_at hl 2 rfl) ?_
      refine lv_iload_n hx hb dX3_version_14 rfl (lv_at hl 1 rfl) ?_
      refine k_cmp_ge (tgt := 42) hx hb dX3_version_15 (by decide) (by omega) (by omega) (fun c_3 => ?_) (fun c_3 => ?_)
      · skip
        refine lv_aload_n hx hb dX3_version_42 rfl (lv_at hl 0 rfl) ?_
        refine va_get (C := RX3) (T := TX3) (N := 5) (ci := 3) hx hb hts iX3_version_3 hown hK.1 hP 0 rfl rfl 2 (Nat.le_of_ble_eq_true rfl) (hts _ mX3_version_21) (fun _ h9 => h9) rfl dX3_version_43 ?_
        have hie : i = v := by omega
        subst hie; subst e0; subst e1; subst e2; subst e3
        exact hret _ _ _ _ () dX3_version_46 (trivial) hP hD hS
      · skip
        refine lv_aload_n hx hb dX3_version_18 rfl (lv_at hl 0 rfl) ?_
        refine va_get (C := RX3) (T := TX3) (N := 5) (ci := 3) hx hb hts iX3_version_3 hown hK.1 hP 0 rfl rfl 2 (Nat.le_of_ble_eq_true rfl) (hts _ mX3_version_21) (fun _ h9 => h9) rfl dX3_version_19 ?_
        refine lv_aload_n hx hb dX3_version_22 rfl (lv_at hl 0 rfl) ?_
        refine va_get (C := RX3) (T := TX3) (N := 5) (ci := 3) hx hb hts iX3_version_3 hown hK.1 hP 0 rfl rfl 3 (Nat.le_of_ble_eq_true rfl) (hts _ mX3_version_24) (fun _ h9 => h9) rfl dX3_version_23 ?_
        refine lv_iload_n hx hb dX3_version_26 rfl (lv_at hl 2 rfl) ?_
        refine lv_aload_n hx hb dX3_version_27 rfl (lv_at hl 0 rfl) ?_
        refine va_get (C := RX3) (T := TX3) (N := 5) (ci := 3) hx hb hts iX3_version_3 hown hK.1 hP 0 rfl rfl 4 (Nat.le_of_ble_eq_true rfl) (hts _ mX3_version_27) (fun _ h9 => h9) rfl dX3_version_28 ?_
        refine lv_iload_n hx hb dX3_version_31 rfl (lv_at hl 2 rfl) ?_
        refine k_iald hx hb hK.1 hP 16 0 rfl rfl (by omega) (by decide) dX3_version_32 ?_
        refine k_topN ((hix i (by omega)).eq (by decide)) ?_
        refine Kv.callV (wr := [oB hi 3 [.ref td, .ref nw, .ref bt, .ref ch, .ref cl], oB td 0 [.ref t0, .ref t1, .ref t2, .ref t3, .int (nI n)], aI cI t0 24 tf0, aI cI t1 24 tf1, aI cI t2 24 tf2, aI cI t3 24 tf3, aI cI cl 20 chl]) (rest := []) (CX0_putRowOf jl G cI cZ cJ bt b0 b1 b2 b3 n y0 y1 y2 y3 ch c0 c1 c2 c3 nc cf0 cf1 cf2 cf3 i (tn (chl i)) (by omega) ((hix i (by omega)).lt (by decide))) cx hP hD hS hl [6, 7, 8, 9, 10, 11, 12, 13, 14, 15] [0, 1, 2, 3, 4, 5, 16] (ci := 0) (q0 := 0) gX3_version_X0_putRowOf hdX0_putRowOf rfl rfl rfl ⟨Nat.le_of_ble_eq_true rfl, Nat.le_of_ble_eq_true rfl⟩ rfl rfl (by decide) (by decide) (by decide) dX3_version_33 rfl rfl (Nat.le_of_ble_eq_true rfl) ⟨Nat.le_of_ble_eq_true rfl, Nat.le_of_ble_eq_true rfl⟩ (fun u H locs hw_5 hP hD hS => ?_)
        have hP : va_P G vwCl [oB hi 3 [.ref td, .ref nw, .ref bt, .ref ch, .ref cl], oB td 0 [.ref t0, .ref t1, .ref t2, .ref t3, .int (nI n)], aI cI t0 24 tf0, aI cI t1 24 tf1, aI cI t2 24 tf2, aI cI t3 24 tf3, aI cI cl 20 chl, oB bt 0 [.ref b0, .ref b1, .ref b2, .ref b3, .int (nI n)], aI cI b0 24 (upd y0 (tn (chl i)) (cf0 i)), aI cI b1 24 (upd y1 (tn (chl i)) (cf1 i)), aI cI b2 24 (upd y2 (tn (chl i)) (cf2 i)), aI cI b3 24 (upd y3 (tn (chl i)) (cf3 i)), oB ch 0 [.ref c0, .ref c1, .ref c2, .ref c3, .int (nI nc)], aI cI c0 24 cf0, aI cI c1 24 cf1, aI cI c2 24 cf2, aI cI c3 24 cf3] H := hP
        have hD : va_D jA [oB hi 3 [.ref td, .ref nw, .ref bt, .ref ch, .ref cl], oB td 0 [.ref t0, .ref t1, .ref t2, .ref t3, .int (nI n)], aI cI t0 24 tf0, aI cI t1 24 tf1, aI cI t2 24 tf2, aI cI t3 24 tf3, aI cI cl 20 chl, oB bt 0 [.ref b0, .ref b1, .ref b2, .ref b3, .int (nI n)], aI cI b0 24 (upd y0 (tn (chl i)) (cf0 i)), aI cI b1 24 (upd y1 (tn (chl i)) (cf1 i)), aI cI b2 24 (upd y2 (tn (chl i)) (cf2 i)), aI cI b3 24 (upd y3 (tn (chl i)) (cf3 i)), oB ch 0 [.ref c0, .ref c1, .ref c2, .ref c3, .int (nI nc)], aI cI c0 24 cf0, aI cI c1 24 cf1, aI cI c2 24 cf2, aI cI c3 24 cf3] := hD
        refine lv_iinc (v := nI (i + 1)) (lv' := [(2, .int (nI (i + 1))), (0, .ref hi), (1, .int (nI v))]) hx hb dX3_version_36 hl (k := 2) rfl (nI_add i 1) (by decide) rfl (fun ls hl => ?_)
        refine lv_goto (tgt := 13) hx hb dX3_version_39 (by decide) ?_
        obtain ⟨hP, hD⟩ := k_sub (w' := [oB hi 3 [.ref td, .ref nw, .ref bt, .ref ch, .ref cl], oB td 0 [.ref t0, .ref t1, .ref t2, .ref t3, .int (nI n)], aI cI t0 24 tf0, aI cI t1 24 tf1, aI cI t2 24 tf2, aI cI t3 24 tf3, oB bt 0 [.ref b0, .ref b1, .ref b2, .ref b3, .int (nI n)], aI cI b0 24 (upd y0 (tn (chl i)) (cf0 i)), aI cI b1 24 (upd y1 (tn (chl i)) (cf1 i)), aI cI b2 24 (upd y2 (tn (chl i)) (cf2 i)), aI cI b3 24 (upd y3 (tn (chl i)) (cf3 i)), oB ch 0 [.ref c0, .ref c1, .ref c2, .ref c3, .int (nI nc)], aI cI c0 24 cf0, aI cI c1 24 cf1, aI cI c2 24 cf2, aI cI c3 24 cf3, aI cI cl 20 chl]) hP hD [0, 1, 2, 3, 4, 5, 7, 8, 9, 10, 11, 12, 13, 14, 15, 16, 6] rfl (by decide)
        exact ih13 (i + 1) (upd y0 (tn (chl i)) (cf0 i)) (upd y1 (tn (chl i)) (cf1 i)) (upd y2 (tn (chl i)) (cf2 i)) (upd y3 (tn (chl i)) (cf3 i)) (by omega) (by omega) (by rw [e0]; rfl) (by rw [e1]; rfl) (by rw [e2]; rfl) (by rw [e3]; rfl) _ _ _ hP hD hS (lv_sub hl [1, 2, 0] rfl)
  obtain ⟨hP, hD⟩ := k_sub (w' := [oB hi 3 [.ref td, .ref nw, .ref bt, .ref ch, .ref cl], oB td 0 [.ref t0, .ref t1, .ref t2, .ref t3, .int (nI n)], aI cI t0 24 tf0, aI cI t1 24 tf1, aI cI t2 24 tf2, aI cI t3 24 tf3, oB bt 0 [.ref b0, .ref b1, .ref b2, .ref b3, .int (nI n)], aI cI b0 24 (fl tf0 bf0 n), aI cI b1 24 (fl tf1 bf1 n), aI cI b2 24 (fl tf2 bf2 n), aI cI b3 24 (fl tf3 bf3 n), oB ch 0 [.ref c0, .ref c1, .ref c2, .ref c3, .int (nI nc)], aI cI c0 24 cf0, aI cI c1 24 cf1, aI cI c2 24 cf2, aI cI c3 24 cf3, aI cI cl 20 chl]) hP hD [0, 12, 13, 14, 15, 16, 7, 8, 9, 10, 11, 1, 2, 3, 4, 5, 6] rfl (by decide)
  exact L13 (v + 1) 0 (fl tf0 bf0 n) (fl tf1 bf1 n) (fl tf2 bf2 n) (fl tf3 bf3 n) (by omega) (by omega) (rfl) (rfl) (rfl) (rfl) _ _ _ hP hD hS (lv_sub hl [1, 2, 0] rfl)
