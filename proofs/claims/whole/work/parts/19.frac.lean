theorem wJ6_bitCount_0f7a4_k265 : Cond.constant RJ6 265 (1431655765) ∈ wsJ6_bitCount_0f7a4 := List.mem_of_getElem? (i := 1) rfl
theorem wJ6_bitCount_0f7a4_k266 : Cond.constant RJ6 266 (858993459) ∈ wsJ6_bitCount_0f7a4 := List.mem_of_getElem? (i := 2) rfl
theorem wJ6_bitCount_0f7a4_k267 : Cond.constant RJ6 267 (252645135) ∈ wsJ6_bitCount_0f7a4 := List.mem_of_getElem? (i := 3) rfl
abbrev rCJ6_bitCount_0f7a4 : Room := { frames := 0, cells := 0, slots := 0, locals := 0 }
set_option maxHeartbeats 4000000 in
set_option maxRecDepth 100000 in
theorem CJ6_bitCount_0f7a4 (jl : Launch) (G : va_G) (cI cZ cJ : ClassId) (b : Nat) (hb12 : b < 4096) : Ki jl yJ6_bitCount_0f7a4 wsJ6_bitCount_0f7a4 rCJ6_bitCount_0f7a4 G cI cZ cJ [.int (nI b)] [] (S := Unit) (fun (r : Int32) (_ : Unit) => r = nI (pc12 b)) (fun (_ : Unit) => []) := by
  refine Ki.of (cc := cJ6_bitCount_0f7a4) (maxL := 1) (by decide +kernel) rfl (Nat.le_of_ble_eq_true rfl) ?_
  intro jp je js jm ja jb jt jc jA jQ ls cx hnm hP hD hS hl hret
  obtain ⟨hx, hb, hml, hown, hts, hK, hA⟩ := id cx
  have hl : lv_has ls 1 [(0, .int (nI b))] := hl
  obtain ⟨H, hH⟩ : ∃ H, H = js.heap := ⟨_, rfl⟩
  obtain ⟨locs, hlocs⟩ : ∃ z : List Loc, z = [] := ⟨_, rfl⟩
  have hP : va_P G vwCl [] H := by rw [hH]; exact hP
  have hS : va_S jA js.heap H locs := by rw [hH, hlocs]; exact hS
  rw [← hlocs]; rw [show W jp jl je rCJ6_bitCount_0f7a4 js jm ja jb jt jc js.heap locs 0 0 jQ (F0 jm 0 ls []) = W jp jl je rCJ6_bitCount_0f7a4 js jm ja jb jt jc H locs 0 0 jQ (F0 jm 0 ls []) by rw [hH]]
  clear hH hlocs
  refine lv_iload_n hx hb dJ6_bitCount_0f7a4_0 rfl (lv_at hl 0 rfl) ?_
  refine lv_iload_n hx hb dJ6_bitCount_0f7a4_1 rfl (lv_at hl 0 rfl) ?_
  refine lv_iconst (v := nI 1) hx hb dJ6_bitCount_0f7a4_2 (by decide) ?_
  refine lv_iushr hx hb dJ6_bitCount_0f7a4_3 rfl ?_
  refine lv_ldcw (own := RJ6) (v := 1431655765) hx hb hown (hts _ wJ6_bitCount_0f7a4_k265) dJ6_bitCount_0f7a4_4 ?_
  refine lv_iand hx hb dJ6_bitCount_0f7a4_7 ?_
  refine lv_isub hx hb dJ6_bitCount_0f7a4_8 ?_
  refine lv_topi (fun y1 ey1 => ?_)
  have ey1 : y1 = bc1 (nI b) := ey1
  refine lv_istore_n (lv' := [(0, .int y1)]) hx hb dJ6_bitCount_0f7a4_9 rfl hl (by decide) rfl (fun ls hl => ?_)
  refine lv_iload_n hx hb dJ6_bitCount_0f7a4_10 rfl (lv_at hl 0 rfl) ?_
  refine lv_ldcw (own := RJ6) (v := 858993459) hx hb hown (hts _ wJ6_bitCount_0f7a4_k266) dJ6_bitCount_0f7a4_11 ?_
  refine lv_iand hx hb dJ6_bitCount_0f7a4_14 ?_
  refine lv_iload_n hx hb dJ6_bitCount_0f7a4_15 rfl (lv_at hl 0 rfl) ?_
  refine lv_iconst (v := nI 2) hx hb dJ6_bitCount_0f7a4_16 (by decide) ?_
  refine lv_iushr hx hb dJ6_bitCount_0f7a4_17 rfl ?_
  refine lv_ldcw (own := RJ6) (v := 858993459) hx hb hown (hts _ wJ6_bitCount_0f7a4_k266) dJ6_bitCount_0f7a4_18 ?_
  refine lv_iand hx hb dJ6_bitCount_0f7a4_21 ?_
  refine lv_iadd hx hb dJ6_bitCount_0f7a4_22 ?_
  refine lv_topi (fun y2 ey2 => ?_)
  have ey2 : y2 = bc2 y1 := ey2
  refine lv_istore_n (lv' := [(0, .int y2)]) hx hb dJ6_bitCount_0f7a4_23 rfl hl (by decide) rfl (fun ls hl => ?_)
  refine lv_iload_n hx hb dJ6_bitCount_0f7a4_24 rfl (lv_at hl 0 rfl) ?_
  refine lv_iload_n hx hb dJ6_bitCount_0f7a4_25 rfl (lv_at hl 0 rfl) ?_
  refine lv_iconst (v := nI 4) hx hb dJ6_bitCount_0f7a4_26 (by decide) ?_
  refine lv_iushr hx hb dJ6_bitCount_0f7a4_27 rfl ?_
  refine lv_iadd hx hb dJ6_bitCount_0f7a4_28 ?_
  refine lv_ldcw (own := RJ6) (v := 252645135) hx hb hown (hts _ wJ6_bitCount_0f7a4_k267) dJ6_bitCount_0f7a4_29 ?_
  refine lv_iand hx hb dJ6_bitCount_0f7a4_32 ?_
  refine lv_topi (fun y3 ey3 => ?_)
  have ey3 : y3 = bc3 y2 := ey3
  refine lv_istore_n (lv' := [(0, .int y3)]) hx hb dJ6_bitCount_0f7a4_33 rfl hl (by decide) rfl (fun ls hl => ?_)
  refine lv_iload_n hx hb dJ6_bitCount_0f7a4_34 rfl (lv_at hl 0 rfl) ?_
  refine lv_iload_n hx hb dJ6_bitCount_0f7a4_35 rfl (lv_at hl 0 rfl) ?_
  refine lv_bipush (v := nI 8) hx hb dJ6_bitCount_0f7a4_36 (by decide) ?_
  refine lv_iushr hx hb dJ6_bitCount_0f7a4_38 rfl ?_
  refine lv_iadd hx hb dJ6_bitCount_0f7a4_39 ?_
  refine lv_topi (fun y4 ey4 => ?_)
  have ey4 : y4 = bc4 y3 := ey4
  refine lv_istore_n (lv' := [(0, .int y4)]) hx hb dJ6_bitCount_0f7a4_40 rfl hl (by decide) rfl (fun ls hl => ?_)
  refine lv_iload_n hx hb dJ6_bitCount_0f7a4_41 rfl (lv_at hl 0 rfl) ?_
  refine lv_iload_n hx hb dJ6_bitCount_0f7a4_42 rfl (lv_at hl 0 rfl) ?_
  refine lv_bipush (v := nI 16) hx hb dJ6_bitCount_0f7a4_43 (by decide) ?_
  refine lv_iushr hx hb dJ6_bitCount_0f7a4_45 rfl ?_
  refine lv_iadd hx hb dJ6_bitCount_0f7a4_46 ?_
  refine lv_topi (fun y5 ey5 => ?_)
  have ey5 : y5 = bc5 y4 := ey5
  refine lv_istore_n (lv' := [(0, .int y5)]) hx hb dJ6_bitCount_0f7a4_47 rfl hl (by decide) rfl (fun ls hl => ?_)
  refine lv_iload_n hx hb dJ6_bitCount_0f7a4_48 rfl (lv_at hl 0 rfl) ?_
  refine lv_bipush (v := nI 63) hx hb dJ6_bitCount_0f7a4_49 (by decide) ?_
  refine lv_iand hx hb dJ6_bitCount_0f7a4_51 ?_
  exact hret _ _ _ _ _ () dJ6_bitCount_0f7a4_52 (by rw [ey5, ey4, ey3, ey2, ey1]; exact bc_ok b hb12) hP hD hS

abbrev rCJ6_compare_7cf53 : Room := { frames := 0, cells := 0, slots := 0, locals := 0 }
set_option maxHeartbeats 4000000 in
set_option maxRecDepth 100000 in
theorem CJ6_compare_7cf53 (jl : Launch) (G : va_G) (cI cZ cJ : ClassId) (x y : Int32) : Ki jl yJ6_compare_7cf53 wsJ6_compare_7cf53 rCJ6_compare_7cf53 G cI cZ cJ [.int x, .int y] [] (S := Unit) (fun (r : Int32) (_ : Unit) => r = cmpI x y) (fun (_ : Unit) => []) := by
  refine Ki.of (cc := cJ6_compare_7cf53) (maxL := 2) (by decide +kernel) rfl (Nat.le_of_ble_eq_true rfl) ?_
  intro jp je js jm ja jb jt jc jA jQ ls cx hnm hP hD hS hl hret
  obtain ⟨hx, hb, hml, hown, hts, hK, hA⟩ := id cx
  have hl : lv_has ls 2 [(0, .int x), (1, .int y)] := hl
  obtain ⟨H, hH⟩ : ∃ H, H = js.heap := ⟨_, rfl⟩
  obtain ⟨locs, hlocs⟩ : ∃ z : List Loc, z = [] := ⟨_, rfl⟩
  have hP : va_P G vwCl [] H := by rw [hH]; exact hP
  have hS : va_S jA js.heap H locs := by rw [hH, hlocs]; exact hS
  rw [← hlocs]; rw [show W jp jl je rCJ6_compare_7cf53 js jm ja jb jt jc js.heap locs 0 0 jQ (F0 jm 0 ls []) = W jp jl je rCJ6_compare_7cf53 js jm ja jb jt jc H locs 0 0 jQ (F0 jm 0 ls []) by rw [hH]]
  clear hH hlocs
  refine lv_iload_n hx hb dJ6_compare_7cf53_0 rfl (lv_at hl 0 rfl) ?_
  refine lv_iload_n hx hb dJ6_compare_7cf53_1 rfl (lv_at hl 1 rfl) ?_
  refine lv_icmp_ge (tgt := 9) hx hb dJ6_compare_7cf53_2 (by decide) (fun h1 => ?_) (fun h1 => ?_)
  · skip
    refine lv_iload_n hx hb dJ6_compare_7cf53_9 rfl (lv_at hl 0 rfl) ?_
    refine lv_iload_n hx hb dJ6_compare_7cf53_10 rfl (lv_at hl 1 rfl) ?_
    refine lv_icmp_ne (tgt := 18) hx hb dJ6_compare_7cf53_11 (by decide) (fun h2 => ?_) (fun h2 => ?_)
    · skip
      refine lv_iconst (v := nI 1) hx hb dJ6_compare_7cf53_18 (by decide) ?_
      exact hret _ _ _ _ _ () dJ6_compare_7cf53_19 (by unfold cmpI; rw [if_neg (Int32.not_lt.mpr h1), if_neg h2]) hP hD hS
    · skip
      refine lv_iconst (v := nI 0) hx hb dJ6_compare_7cf53_14 (by decide) ?_
      refine lv_goto (tgt := 19) hx hb dJ6_compare_7cf53_15 (by decide) ?_
      exact hret _ _ _ _ _ () dJ6_compare_7cf53_19 (by unfold cmpI; rw [if_neg (Int32.not_lt.mpr h1), if_pos h2]) hP hD hS
  · skip
    refine lv_iconst (v := (-1)) hx hb dJ6_compare_7cf53_5 (by decide) ?_
    refine lv_goto (tgt := 19) hx hb dJ6_compare_7cf53_6 (by decide) ?_
    exact hret _ _ _ _ _ () dJ6_compare_7cf53_19 (by unfold cmpI; rw [if_pos (Int32.not_le.mp h1)]) hP hD hS

theorem iX1_hold_1 : ∀ w ∈ wsX10, w ∈ wsX1_hold := by decide +kernel
theorem mX1_hold_7 : Cond.fieldLink RX1 7 "LineFinder$Fraction" "above" "I" ∈ wsX1_hold := List.mem_of_getElem? (i := 1) rfl
theorem mX1_hold_13 : Cond.fieldLink RX1 13 "LineFinder$Fraction" "below" "I" ∈ wsX1_hold := List.mem_of_getElem? (i := 2) rfl
abbrev rCX1_hold : Room := { frames := 0, cells := 0, slots := 0, locals := 0 }
set_option maxHeartbeats 4000000 in
set_option maxRecDepth 100000 in
theorem CX1_hold (jl : Launch) (G : va_G) (cI cZ cJ : ClassId) (fr ab be : Nat) (up lo : Nat) (hlo : lo < 2 ^ 31) : Kv jl yX1_hold wsX1_hold rCX1_hold G cI cZ cJ [.ref fr, .int (nI up), .int (nI lo)] [oB fr 1 [.int (nI ab), .int (nI be)]] (S := Nat × Nat) (fun (u : Nat × Nat) => match u with | (ab1, be1) => (ab1, be1) = scH (up, lo)) (fun (u : Nat × Nat) => match u with | (ab1, be1) => [oB fr 1 [.int (nI ab1), .int (nI be1)]]) := by
  refine Kv.of (cc := cX1_hold) (maxL := 3) (by decide +kernel) rfl (Nat.le_of_ble_eq_true rfl) ?_
  intro jp je js jm ja jb jt jc jA jQ ls cx hnm hP hD hS hl hret
  obtain ⟨hx, hb, hml, hown, hts, hK, hA⟩ := id cx
  have hl : lv_has ls 3 [(0, .ref fr), (1, .int (nI up)), (2, .int (nI lo))] := hl
  obtain ⟨H, hH⟩ : ∃ H, H = js.heap := ⟨_, rfl⟩
  obtain ⟨locs, hlocs⟩ : ∃ z : List Loc, z = [] := ⟨_, rfl⟩
  have hP : va_P G vwCl [oB fr 1 [.int (nI ab), .int (nI be)]] H := by rw [hH]; exact hP
  have hS : va_S jA js.heap H locs := by rw [hH, hlocs]; exact hS
  rw [← hlocs]; rw [show W jp jl je rCX1_hold js jm ja jb jt jc js.heap locs 0 0 jQ (F0 jm 0 ls []) = W jp jl je rCX1_hold js jm ja jb jt jc H locs 0 0 jQ (F0 jm 0 ls []) by rw [hH]]
  clear hH hlocs
  refine lv_aload_n hx hb dX1_hold_0 rfl (lv_at hl 0 rfl) ?_
  refine lv_iload_n hx hb dX1_hold_1 rfl (lv_at hl 2 rfl) ?_
  refine k_if_ne (tgt := 9) hx hb dX1_hold_2 (by decide) (by omega) (fun h1 => ?_) (fun h1 => ?_)
  · skip
    refine lv_iload_n hx hb dX1_hold_9 rfl (lv_at hl 1 rfl) ?_
    refine va_put (C := RX1) (T := TX1) (N := 2) (ci := 1) (v := .int (nI up)) (ty := tyX1 0) hx hb hts iX1_hold_1 tyX1 tyX1_ok nmX1 hown hK.1 hP hD hS 0 rfl rfl 0 (Nat.le_of_ble_eq_true rfl) (hts _ mX1_hold_7) (fun _ h9 => h9) rfl (tyX1_ok 0 (Nat.le_of_ble_eq_true rfl)) (rfl) (rfl) (Nat.le_of_ble_eq_true rfl) dX1_hold_10 (fun H locs hP hD hS => ?_)
    have hP : va_P G vwCl [oB fr 1 [.int (nI up), .int (nI be)]] H := hP
    have hD : va_D jA [oB fr 1 [.int (nI up), .int (nI be)]] := hD
    refine lv_aload_n hx hb dX1_hold_13 rfl (lv_at hl 0 rfl) ?_
    refine lv_iload_n hx hb dX1_hold_14 rfl (lv_at hl 2 rfl) ?_
    refine k_if_ne (tgt := 22) hx hb dX1_hold_15 (by decide) (by omega) (fun h2 => ?_) (fun h2 => ?_)
    · skip
      refine lv_iload_n hx hb dX1_hold_22 rfl (lv_at hl 2 rfl) ?_
      refine va_put (C := RX1) (T := TX1) (N := 2) (ci := 1) (v := .int (nI lo)) (ty := tyX1 1) hx hb hts iX1_hold_1 tyX1 tyX1_ok nmX1 hown hK.1 hP hD hS 0 rfl rfl 1 (Nat.le_of_ble_eq_true rfl) (hts _ mX1_hold_13) (fun _ h9 => h9) rfl (tyX1_ok 1 (Nat.le_of_ble_eq_true rfl)) (rfl) (rfl) (Nat.le_of_ble_eq_true rfl) dX1_hold_23 (fun H locs hP hD hS => ?_)
      have hP : va_P G vwCl [oB fr 1 [.int (nI up), .int (nI lo)]] H := hP
      have hD : va_D jA [oB fr 1 [.int (nI up), .int (nI lo)]] := hD
      exact hret _ _ _ _ (up, lo) dX1_hold_26 (by unfold scH; rw [if_neg (show ¬ (up, lo).2 = 0 from by dsimp only; omega)]) hP hD hS
    · skip
      exact absurd h2 (by omega)
  · skip
    refine lv_iconst (v := nI 0) hx hb dX1_hold_5 (by decide) ?_
    refine lv_goto (tgt := 10) hx hb dX1_hold_6 (by decide) ?_
    refine va_put (C := RX1) (T := TX1) (N := 2) (ci := 1) (v := .int (nI 0)) (ty := tyX1 0) hx hb hts iX1_hold_1 tyX1 tyX1_ok nmX1 hown hK.1 hP hD hS 0 rfl rfl 0 (Nat.le_of_ble_eq_true rfl) (hts _ mX1_hold_7) (fun _ h9 => h9) rfl (tyX1_ok 0 (Nat.le_of_ble_eq_true rfl)) (rfl) (rfl) (Nat.le_of_ble_eq_true rfl) dX1_hold_10 (fun H locs hP hD hS => ?_)
    have hP : va_P G vwCl [oB fr 1 [.int (nI 0), .int (nI be)]] H := hP
    have hD : va_D jA [oB fr 1 [.int (nI 0), .int (nI be)]] := hD
    refine lv_aload_n hx hb dX1_hold_13 rfl (lv_at hl 0 rfl) ?_
    refine lv_iload_n hx hb dX1_hold_14 rfl (lv_at hl 2 rfl) ?_
    refine k_if_ne (tgt := 22) hx hb dX1_hold_15 (by decide) (by omega) (fun h2 => ?_) (fun h2 => ?_)
    · skip
      exact absurd h2 (by omega)
    · skip
      refine lv_iconst (v := nI 1) hx hb dX1_hold_18 (by decide) ?_
      refine lv_goto (tgt := 23) hx hb dX1_hold_19 (by decide) ?_
      refine va_put (C := RX1) (T := TX1) (N := 2) (ci := 1) (v := .int (nI 1)) (ty := tyX1 1) hx hb hts iX1_hold_1 tyX1 tyX1_ok nmX1 hown hK.1 hP hD hS 0 rfl rfl 1 (Nat.le_of_ble_eq_true rfl) (hts _ mX1_hold_13) (fun _ h9 => h9) rfl (tyX1_ok 1 (Nat.le_of_ble_eq_true rfl)) (rfl) (rfl) (Nat.le_of_ble_eq_true rfl) dX1_hold_23 (fun H locs hP hD hS => ?_)
      have hP : va_P G vwCl [oB fr 1 [.int (nI 0), .int (nI 1)]] H := hP
      have hD : va_D jA [oB fr 1 [.int (nI 0), .int (nI 1)]] := hD
      exact hret _ _ _ _ (0, 1) dX1_hold_26 (by unfold scH; rw [if_pos (show (up, lo).2 = 0 from h1)]) hP hD hS

theorem iX1_become_8 : ∀ w ∈ wsX80, w ∈ wsX1_become := by decide +kernel
theorem mX1_become_16 : Cond.fieldLink RX1 16 "LineFinder$Verdicts" "metBy" "[I" ∈ wsX1_become := List.mem_of_getElem? (i := 1) rfl
theorem mX1_become_22 : Cond.fieldLink RX1 22 "LineFinder$Verdicts" "failing" "I" ∈ wsX1_become := List.mem_of_getElem? (i := 2) rfl
theorem mX1_become_31 : Cond.fieldLink RX1 31 "LineFinder$Verdicts" "passing" "I" ∈ wsX1_become := List.mem_of_getElem? (i := 3) rfl
theorem hdJ6_bitCount_0f7a4 : yJ6_bitCount_0f7a4.cls ≠ "java/lang/invoke/MethodHandle" ∧ yJ6_bitCount_0f7a4.cls ≠ "java/lang/invoke/VarHandle" ∧ (parseMethodDescriptor yJ6_bitCount_0f7a4.desc).map (fun d => d.parameters.length) = some 1 := by decide +kernel
theorem hdX1_hold : yX1_hold.cls = RX1 ∧ yX1_hold.cls ≠ "java/lang/invoke/MethodHandle" ∧ yX1_hold.cls ≠ "java/lang/invoke/VarHandle" ∧ (parseMethodDescriptor yX1_hold.desc).map (fun d => d.parameters.length) = some 2 := by decide +kernel
abbrev rCX1_become : Room := { frames := 1, cells := 0, slots := 0, locals := 22 }
set_option maxHeartbeats 4000000 in
set_option maxRecDepth 100000 in
theorem CX1_become (jl : Launch) (G : va_G) (cI cZ cJ : ClassId) (fr ab be : Nat) (ve m0 fa pa cu : Nat) (mb : Fn) (l k x : Nat) (hl24 : l < 24) (hk : k < 3) (hx12 : x < 4096) (hmx : mb l = nI x) (hfa : fa < 4096) (hpa : pa < 4096) : Kv jl yX1_become wsX1_become rCX1_become G cI cZ cJ [.ref fr, .ref ve, .int (nI l), .int (nI k)] [oB fr 1 [.int (nI ab), .int (nI be)], oB ve 8 [.ref m0, .int (nI fa), .int (nI pa), .int (nI cu)], aI cI m0 24 mb] (S := Nat × Nat) (fun (u : Nat × Nat) => match u with | (ab1, be1) => (ab1, be1) = scH (scU k (pc12 (x &&& fa)) (pc12 (x &&& pa)) (pc12 fa) (pc12 pa))) (fun (u : Nat × Nat) => match u with | (ab1, be1) => [oB fr 1 [.int (nI ab1), .int (nI be1)], oB ve 8 [.ref m0, .int (nI fa), .int (nI pa), .int (nI cu)], aI cI m0 24 mb]) := by
  refine Kv.of (cc := cX1_become) (maxL := 8) (by decide +kernel) rfl (Nat.le_of_ble_eq_true rfl) ?_
  intro jp je js jm ja jb jt jc jA jQ ls cx hnm hP hD hS hl hret
  obtain ⟨hx, hb, hml, hown, hts, hK, hA⟩ := id cx
  have hl : lv_has ls 8 [(0, .ref fr), (1, .ref ve), (2, .int (nI l)), (3, .int (nI k))] := hl
  obtain ⟨H, hH⟩ : ∃ H, H = js.heap := ⟨_, rfl⟩
  obtain ⟨locs, hlocs⟩ : ∃ z : List Loc, z = [] := ⟨_, rfl⟩
  have hP : va_P G vwCl [oB fr 1 [.int (nI ab), .int (nI be)], oB ve 8 [.ref m0, .int (nI fa), .int (nI pa), .int (nI cu)], aI cI m0 24 mb] H := by rw [hH]; exact hP
  have hS : va_S jA js.heap H locs := by rw [hH, hlocs]; exact hS
  rw [← hlocs]; rw [show W jp jl je rCX1_become js jm ja jb jt jc js.heap locs 0 0 jQ (F0 jm 0 ls []) = W jp jl je rCX1_become js jm ja jb jt jc H locs 0 0 jQ (F0 jm 0 ls []) by rw [hH]]
  clear hH hlocs
  have b1 := pc12_le (x &&& fa)
  have b2 := pc12_le (x &&& pa)
  have b3 := pc12_le fa
  have b4 := pc12_le pa
  have m1 : pc12 (x &&& fa) * pc12 (x &&& fa) ≤ 12 * 12 := Nat.mul_le_mul b1 b1
  have m2 : pc12 fa * (pc12 (x &&& fa) + pc12 (x &&& pa)) ≤ 12 * 24 := Nat.mul_le_mul b3 (by omega)
  have m3 : pc12 (x &&& fa) * pc12 pa ≤ 12 * 12 := Nat.mul_le_mul b1 b4
  have m4 : pc12 (x &&& pa) * pc12 fa ≤ 12 * 12 := Nat.mul_le_mul b2 b3
  refine lv_aload_n hx hb dX1_become_0 rfl (lv_at hl 1 rfl) ?_
  refine va_get (C := RX8) (T := TX8) (N := 4) (ci := 8) hx hb hts iX1_become_8 hown hK.1 hP 1 rfl rfl 0 (Nat.le_of_ble_eq_true rfl) (hts _ mX1_become_16) (fun _ h9 => h9) rfl dX1_become_1 ?_
  refine lv_iload_n hx hb dX1_become_4 rfl (lv_at hl 2 rfl) ?_
  refine k_iald hx hb hK.1 hP 2 0 rfl rfl (by omega) (by decide) dX1_become_5 ?_
  refine k_topN hmx ?_
  refine lv_aload_n hx hb dX1_become_6 rfl (lv_at hl 1 rfl) ?_
  refine va_get (C := RX8) (T := TX8) (N := 4) (ci := 8) hx hb hts iX1_become_8 hown hK.1 hP 1 rfl rfl 1 (Nat.le_of_ble_eq_true rfl) (hts _ mX1_become_22) (fun _ h9 => h9) rfl dX1_become_7 ?_
  refine k_iand hx hb dX1_become_10 ?_
  refine Ki.callS (wr := [oB fr 1 [.int (nI ab), .int (nI be)], oB ve 8 [.ref m0, .int (nI fa), .int (nI pa), .int (nI cu)], aI cI m0 24 mb]) (rest := []) (CJ6_bitCount_0f7a4 jl G cI cZ cJ (x &&& fa) (Nat.lt_of_le_of_lt Nat.and_le_left hx12)) cx hP hD hS hl [] [0, 1, 2] gX1_become_J6_bitCount_0f7a4 hdJ6_bitCount_0f7a4 rfl ⟨Nat.le_of_ble_eq_true rfl, Nat.le_of_ble_eq_true rfl⟩ rfl rfl (by decide) (by decide) (by decide) dX1_become_11 rfl rfl (Nat.le_of_ble_eq_true rfl) ⟨Nat.le_of_ble_eq_true rfl, Nat.le_of_ble_eq_true rfl⟩ (fun r_1 u H locs hw_2 hP hD hS => ?_)
  have hP : va_P G vwCl [oB fr 1 [.int (nI ab), .int (nI be)], oB ve 8 [.ref m0, .int (nI fa), .int (nI pa), .int (nI cu)], aI cI m0 24 mb] H := hP
  have hD : va_D jA [oB fr 1 [.int (nI ab), .int (nI be)], oB ve 8 [.ref m0, .int (nI fa), .int (nI pa), .int (nI cu)], aI cI m0 24 mb] := hD
  subst hw_2
  refine lv_istore (lv' := [(4, .int (nI (pc12 (x &&& fa)))), (0, .ref fr), (1, .ref ve), (2, .int (nI l)), (3, .int (nI k))]) hx hb dX1_become_14 hl (by decide) rfl (fun ls hl => ?_)
  refine lv_aload_n hx hb dX1_become_16 rfl (lv_at hl 2 rfl) ?_
  refine va_get (C := RX8) (T := TX8) (N := 4) (ci := 8) hx hb hts iX1_become_8 hown hK.1 hP 1 rfl rfl 0 (Nat.le_of_ble_eq_true rfl) (hts _ mX1_become_16) (fun _ h9 => h9) rfl dX1_become_17 ?_
  refine lv_iload_n hx hb dX1_become_20 rfl (lv_at hl 3 rfl) ?_
  refine k_iald hx hb hK.1 hP 2 0 rfl rfl (by omega) (by decide) dX1_become_21 ?_
  refine k_topN hmx ?_
  refine lv_aload_n hx hb dX1_become_22 rfl (lv_at hl 2 rfl) ?_
  refine va_get (C := RX8) (T := TX8) (N := 4) (ci := 8) hx hb hts iX1_become_8 hown hK.1 hP 1 rfl rfl 2 (Nat.le_of_ble_eq_true rfl) (hts _ mX1_become_31) (fun _ h9 => h9) rfl dX1_become_23 ?_
  refine k_iand hx hb dX1_become_26 ?_
  refine Ki.callS (wr := [oB fr 1 [.int (nI ab), .int (nI be)], oB ve 8 [.ref m0, .int (nI fa), .int (nI pa), .int (nI cu)], aI cI m0 24 mb]) (rest := []) (CJ6_bitCount_0f7a4 jl G cI cZ cJ (x &&& pa) (Nat.lt_of_le_of_lt Nat.and_le_left hx12)) cx hP hD hS hl [] [0, 1, 2] gX1_become_J6_bitCount_0f7a4 hdJ6_bitCount_0f7a4 rfl ⟨Nat.le_of_ble_eq_true rfl, Nat.le_of_ble_eq_true rfl⟩ rfl rfl (by decide) (by decide) (by decide) dX1_become_27 rfl rfl (Nat.le_of_ble_eq_true rfl) ⟨Nat.le_of_ble_eq_true rfl, Nat.le_of_ble_eq_true rfl⟩ (fun r_3 u H locs hw_4 hP hD hS => ?_)
  have hP : va_P G vwCl [oB fr 1 [.int (nI ab), .int (nI be)], oB ve 8 [.ref m0, .int (nI fa), .int (nI pa), .int (nI cu)], aI cI m0 24 mb] H := hP
  have hD : va_D jA [oB fr 1 [.int (nI ab), .int (nI be)], oB ve 8 [.ref m0, .int (nI fa), .int (nI pa), .int (nI cu)], aI cI m0 24 mb] := hD
  subst hw_4
  refine lv_istore (lv' := [(5, .int (nI (pc12 (x &&& pa)))), (4, .int (nI (pc12 (x &&& fa)))), (0, .ref fr), (1, .ref ve), (2, .int (nI l)), (3, .int (nI k))]) hx hb dX1_become_30 hl (by decide) rfl (fun ls hl => ?_)
  refine lv_aload_n hx hb dX1_become_32 rfl (lv_at hl 3 rfl) ?_
  refine va_get (C := RX8) (T := TX8) (N := 4) (ci := 8) hx hb hts iX1_become_8 hown hK.1 hP 1 rfl rfl 1 (Nat.le_of_ble_eq_true rfl) (hts _ mX1_become_22) (fun _ h9 => h9) rfl dX1_become_33 ?_
  refine Ki.callS (wr := [oB fr 1 [.int (nI ab), .int (nI be)], oB ve 8 [.ref m0, .int (nI fa), .int (nI pa), .int (nI cu)], aI cI m0 24 mb]) (rest := []) (CJ6_bitCount_0f7a4 jl G cI cZ cJ fa hfa) cx hP hD hS hl [] [0, 1, 2] gX1_become_J6_bitCount_0f7a4 hdJ6_bitCount_0f7a4 rfl ⟨Nat.le_of_ble_eq_true rfl, Nat.le_of_ble_eq_true rfl⟩ rfl rfl (by decide) (by decide) (by decide) dX1_become_36 rfl rfl (Nat.le_of_ble_eq_true rfl) ⟨Nat.le_of_ble_eq_true rfl, Nat.le_of_ble_eq_true rfl⟩ (fun r_5 u H locs hw_6 hP hD hS => ?_)
  have hP : va_P G vwCl [oB fr 1 [.int (nI ab), .int (nI be)], oB ve 8 [.ref m0, .int (nI fa), .int (nI pa), .int (nI cu)], aI cI m0 24 mb] H := hP
  have hD : va_D jA [oB fr 1 [.int (nI ab), .int (nI be)], oB ve 8 [.ref m0, .int (nI fa), .int (nI pa), .int (nI cu)], aI cI m0 24 mb] := hD
  subst hw_6
  refine lv_istore (lv' := [(6, .int (nI (pc12 fa))), (5, .int (nI (pc12 (x &&& pa)))), (4, .int (nI (pc12 (x &&& fa)))), (0, .ref fr), (1, .ref ve), (2, .int (nI l)), (3, .int (nI k))]) hx hb dX1_become_39 hl (by decide) rfl (fun ls hl => ?_)
  refine lv_aload_n hx hb dX1_become_41 rfl (lv_at hl 4 rfl) ?_
  refine va_get (C := RX8) (T := TX8) (N := 4) (ci := 8) hx hb hts iX1_become_8 hown hK.1 hP 1 rfl rfl 2 (Nat.le_of_ble_eq_true rfl) (hts _ mX1_become_31) (fun _ h9 => h9) rfl dX1_become_42 ?_
  refine Ki.callS (wr := [oB fr 1 [.int (nI ab), .int (nI be)], oB ve 8 [.ref m0, .int (nI fa), .int (nI pa), .int (nI cu)], aI cI m0 24 mb]) (rest := []) (CJ6_bitCount_0f7a4 jl G cI cZ cJ pa hpa) cx hP hD hS hl [] [0, 1, 2] gX1_become_J6_bitCount_0f7a4 hdJ6_bitCount_0f7a4 rfl ⟨Nat.le_of_ble_eq_true rfl, Nat.le_of_ble_eq_true rfl⟩ rfl rfl (by decide) (by decide) (by decide) dX1_become_45 rfl rfl (Nat.le_of_ble_eq_true rfl) ⟨Nat.le_of_ble_eq_true rfl, Nat.le_of_ble_eq_true rfl⟩ (fun r_7 u H locs hw_8 hP hD hS => ?_)
  have hP : va_P G vwCl [oB fr 1 [.int (nI ab), .int (nI be)], oB ve 8 [.ref m0, .int (nI fa), .int (nI pa), .int (nI cu)], aI cI m0 24 mb] H := hP
  have hD : va_D jA [oB fr 1 [.int (nI ab), .int (nI be)], oB ve 8 [.ref m0, .int (nI fa), .int (nI pa), .int (nI cu)], aI cI m0 24 mb] := hD
  subst hw_8
  refine lv_istore (lv' := [(7, .int (nI (pc12 pa))), (6, .int (nI (pc12 fa))), (5, .int (nI (pc12 (x &&& pa)))), (4, .int (nI (pc12 (x &&& fa)))), (0, .ref fr), (1, .ref ve), (2, .int (nI l)), (3, .int (nI k))]) hx hb dX1_become_48 hl (by decide) rfl (fun ls hl => ?_)
  refine lv_iload_n hx hb dX1_become_50 rfl (lv_at hl 7 rfl) ?_
  refine k_if_ne (tgt := 68) hx hb dX1_become_51 (by decide) (by omega) (fun h1 => ?_) (fun h1 => ?_)
  · skip
    refine lv_iload_n hx hb dX1_become_68 rfl (lv_at hl 7 rfl) ?_
    refine lv_iconst (v := nI 1) hx hb dX1_become_69 (by decide) ?_
    refine k_cmp_ne (tgt := 93) hx hb dX1_become_70 (by decide) (by omega) (by omega) (fun h2 => ?_) (fun h2 => ?_)
    · skip
      refine lv_iload hx hb dX1_become_93 (lv_at hl 0 rfl) ?_
      refine k_if_ne (tgt := 109) hx hb dX1_become_95 (by decide) (by omega) (fun h3 => ?_) (fun h3 => ?_)
      · skip
        refine lv_aload_n hx hb dX1_become_109 rfl (lv_at hl 4 rfl) ?_
        refine lv_iload hx hb dX1_become_110 (lv_at hl 3 rfl) ?_
        refine lv_iload hx hb dX1_become_112 (lv_at hl 0 rfl) ?_
        refine k_imul hx hb dX1_become_114 ?_
        refine lv_iload hx hb dX1_become_115 (lv_at hl 3 rfl) ?_
        refine lv_iload hx hb dX1_become_117 (lv_at hl 0 rfl) ?_
        refine k_imul hx hb dX1_become_119 ?_
        refine lv_iload hx hb dX1_become_120 (lv_at hl 2 rfl) ?_
        refine lv_iload hx hb dX1_become_122 (lv_at hl 1 rfl) ?_
        refine k_imul hx hb dX1_become_124 ?_
        refine k_iadd hx hb dX1_become_125 ?_
        refine Kv.callV (wr := [oB ve 8 [.ref m0, .int (nI fa), .int (nI pa), .int (nI cu)], aI cI m0 24 mb]) (rest := []) (CX1_hold jl G cI cZ cJ fr ab be (pc12 (x &&& fa) * pc12 pa) (pc12 (x &&& fa) * pc12 pa + pc12 (x &&& pa) * pc12 fa) (by omega)) cx hP hD hS hl [0] [1, 2] (ci := 1) (q0 := 0) gX1_become_X1_hold hdX1_hold rfl rfl rfl ⟨Nat.le_of_ble_eq_true rfl, Nat.le_of_ble_eq_true rfl⟩ rfl rfl (by decide) (by decide) (by decide) dX1_become_126 rfl rfl (Nat.le_of_ble_eq_true rfl) ⟨Nat.le_of_ble_eq_true rfl, Nat.le_of_ble_eq_true rfl⟩ (fun u H locs hw9 hP hD hS => ?_)
        obtain ⟨ab1, be1⟩ := u
        try dsimp only at hw9
        have hP : va_P G vwCl [oB ve 8 [.ref m0, .int (nI fa), .int (nI pa), .int (nI cu)], aI cI m0 24 mb, oB fr 1 [.int (nI ab1), .int (nI be1)]] H := hP
        have hD : va_D jA [oB ve 8 [.ref m0, .int (nI fa), .int (nI pa), .int (nI cu)], aI cI m0 24 mb, oB fr 1 [.int (nI ab1), .int (nI be1)]] := hD
        obtain ⟨hP, hD⟩ := k_sub (w' := [oB fr 1 [.int (nI ab1), .int (nI be1)], oB ve 8 [.ref m0, .int (nI fa), .int (nI pa), .int (nI cu)], aI cI m0 24 mb]) hP hD [2, 0, 1] rfl (by decide)
        exact hret _ _ _ _ (ab1, be1) dX1_become_129 (by rw [hw9]; unfold scU; rw [if_neg (by omega), if_neg h2, if_neg (by omega)]) hP hD hS
      · skip
        refine lv_aload_n hx hb dX1_become_98 rfl (lv_at hl 4 rfl) ?_
        refine lv_iload hx hb dX1_become_99 (lv_at hl 3 rfl) ?_
        refine lv_iload hx hb dX1_become_101 (lv_at hl 1 rfl) ?_
        refine Kv.callV (wr := [oB ve 8 [.ref m0, .int (nI fa), .int (nI pa), .int (nI cu)], aI cI m0 24 mb]) (rest := []) (CX1_hold jl G cI cZ cJ fr ab be (pc12 (x &&& fa)) (pc12 fa) (by omega)) cx hP hD hS hl [0] [1, 2] (ci := 1) (q0 := 0) gX1_become_X1_hold hdX1_hold rfl rfl rfl ⟨Nat.le_of_ble_eq_true rfl, Nat.le_of_ble_eq_true rfl⟩ rfl rfl (by decide) (by decide) (by decide) dX1_become_103 rfl rfl (Nat.le_of_ble_eq_true rfl) ⟨Nat.le_of_ble_eq_true rfl, Nat.le_of_ble_eq_true rfl⟩ (fun u H locs hw9 hP hD hS => ?_)
        obtain ⟨ab1, be1⟩ := u
        try dsimp only at hw9
        have hP : va_P G vwCl [oB ve 8 [.ref m0, .int (nI fa), .int (nI pa), .int (nI cu)], aI cI m0 24 mb, oB fr 1 [.int (nI ab1), .int (nI be1)]] H := hP
        have hD : va_D jA [oB ve 8 [.ref m0, .int (nI fa), .int (nI pa), .int (nI cu)], aI cI m0 24 mb, oB fr 1 [.int (nI ab1), .int (nI be1)]] := hD
        refine lv_goto (tgt := 129) hx hb dX1_become_106 (by decide) ?_
        obtain ⟨hP, hD⟩ := k_sub (w' := [oB fr 1 [.int (nI ab1), .int (nI be1)], oB ve 8 [.ref m0, .int (nI fa), .int (nI pa), .int (nI cu)], aI cI m0 24 mb]) hP hD [2, 0, 1] rfl (by decide)
        exact hret _ _ _ _ (ab1, be1) dX1_become_129 (by rw [hw9]; unfold scU; rw [if_neg (by omega), if_neg h2, if_pos h3]) hP hD hS
    · skip
      refine lv_aload_n hx hb dX1_become_73 rfl (lv_at hl 4 rfl) ?_
      refine lv_iload hx hb dX1_become_74 (lv_at hl 3 rfl) ?_
      refine lv_iload hx hb dX1_become_76 (lv_at hl 3 rfl) ?_
      refine k_imul hx hb dX1_become_78 ?_
      refine lv_iload hx hb dX1_become_79 (lv_at hl 1 rfl) ?_
      refine lv_iload hx hb dX1_become_81 (lv_at hl 3 rfl) ?_
      refine lv_iload hx hb dX1_become_83 (lv_at hl 2 rfl) ?_
      refine k_iadd hx hb dX1_become_85 ?_
      refine k_imul hx hb dX1_become_86 ?_
      refine Kv.callV (wr := [oB ve 8 [.ref m0, .int (nI fa), .int (nI pa), .int (nI cu)], aI cI m0 24 mb]) (rest := []) (CX1_hold jl G cI cZ cJ fr ab be (pc12 (x &&& fa) * pc12 (x &&& fa)) (pc12 fa * (pc12 (x &&& fa) + pc12 (x &&& pa))) (by omega)) cx hP hD hS hl [0] [1, 2] (ci := 1) (q0 := 0) gX1_become_X1_hold hdX1_hold rfl rfl rfl ⟨Nat.le_of_ble_eq_true rfl, Nat.le_of_ble_eq_true rfl⟩ rfl rfl (by decide) (by decide) (by decide) dX1_become_87 rfl rfl (Nat.le_of_ble_eq_true rfl) ⟨Nat.le_of_ble_eq_true rfl, Nat.le_of_ble_eq_true rfl⟩ (fun u H locs hw9 hP hD hS => ?_)
      obtain ⟨ab1, be1⟩ := u
      try dsimp only at hw9
      have hP : va_P G vwCl [oB ve 8 [.ref m0, .int (nI fa), .int (nI pa), .int (nI cu)], aI cI m0 24 mb, oB fr 1 [.int (nI ab1), .int (nI be1)]] H := hP
      have hD : va_D jA [oB ve 8 [.ref m0, .int (nI fa), .int (nI pa), .int (nI cu)], aI cI m0 24 mb, oB fr 1 [.int (nI ab1), .int (nI be1)]] := hD
      refine lv_goto (tgt := 129) hx hb dX1_become_90 (by decide) ?_
      obtain ⟨hP, hD⟩ := k_sub (w' := [oB fr 1 [.int (nI ab1), .int (nI be1)], oB ve 8 [.ref m0, .int (nI fa), .int (nI pa), .int (nI cu)], aI cI m0 24 mb]) hP hD [2, 0, 1] rfl (by decide)
      exact hret _ _ _ _ (ab1, be1) dX1_become_129 (by rw [hw9]; unfold scU; rw [if_neg (by omega), if_pos h2]) hP hD hS
  · skip
    refine lv_aload_n hx hb dX1_become_54 rfl (lv_at hl 4 rfl) ?_
    refine lv_iload hx hb dX1_become_55 (lv_at hl 3 rfl) ?_
    refine lv_iload hx hb dX1_become_57 (lv_at hl 1 rfl) ?_
    refine lv_iload hx hb dX1_become_59 (lv_at hl 2 rfl) ?_
    refine k_iadd hx hb dX1_become_61 ?_
    refine Kv.callV (wr := [oB ve 8 [.ref m0, .int (nI fa), .int (nI pa), .int (nI cu)], aI cI m0 24 mb]) (rest := []) (CX1_hold jl G cI cZ cJ fr ab be (pc12 (x &&& fa)) (pc12 fa + pc12 (x &&& pa)) (by omega)) cx hP hD hS hl [0] [1, 2] (ci := 1) (q0 := 0) gX1_become_X1_hold hdX1_hold rfl rfl rfl ⟨Nat.le_of_ble_eq_true rfl, Nat.le_of_ble_eq_true rfl⟩ rfl rfl (by decide) (by decide) (by decide) dX1_become_62 rfl rfl (Nat.le_of_ble_eq_true rfl) ⟨Nat.le_of_ble_eq_true rfl, Nat.le_of_ble_eq_true rfl⟩ (fun u H locs hw9 hP hD hS => ?_)
    obtain ⟨ab1, be1⟩ := u
    try dsimp only at hw9
    have hP : va_P G vwCl [oB ve 8 [.ref m0, .int (nI fa), .int (nI pa), .int (nI cu)], aI cI m0 24 mb, oB fr 1 [.int (nI ab1), .int (nI be1)]] H := hP
    have hD : va_D jA [oB ve 8 [.ref m0, .int (nI fa), .int (nI pa), .int (nI cu)], aI cI m0 24 mb, oB fr 1 [.int (nI ab1), .int (nI be1)]] := hD
    refine lv_goto (tgt := 129) hx hb dX1_become_65 (by decide) ?_
    obtain ⟨hP, hD⟩ := k_sub (w' := [oB fr 1 [.int (nI ab1), .int (nI be1)], oB ve 8 [.ref m0, .int (nI fa), .int (nI pa), .int (nI cu)], aI cI m0 24 mb]) hP hD [2, 0, 1] rfl (by decide)
    exact hret _ _ _ _ (ab1, be1) dX1_become_129 (by rw [hw9]; unfold scU; rw [if_pos h1]) hP hD hS

theorem iX1_reduce_1 : ∀ w ∈ wsX10, w ∈ wsX1_reduce := by decide +kernel
theorem mX1_reduce_7 : Cond.fieldLink RX1 7 "LineFinder$Fraction" "above" "I" ∈ wsX1_reduce := List.mem_of_getElem? (i := 2) rfl
theorem mX1_reduce_13 : Cond.fieldLink RX1 13 "LineFinder$Fraction" "below" "I" ∈ wsX1_reduce := List.mem_of_getElem? (i := 1) rfl
abbrev rCX1_reduce : Room := { frames := 0, cells := 0, slots := 0, locals := 0 }
set_option maxHeartbeats 4000000 in
set_option maxRecDepth 100000 in
theorem CX1_reduce (jl : Launch) (G : va_G) (cI cZ cJ : ClassId) (fr ab be : Nat) (h1 : be ≤ 300) (h2 : ab ≤ be) (h3 : 0 < be) : Kv jl yX1_reduce wsX1_reduce rCX1_reduce G cI cZ cJ [.ref fr] [oB fr 1 [.int (nI ab), .int (nI be)]] (S := Unit) (fun (_ : Unit) => True) (fun (_ : Unit) => [oB fr 1 [.int (nI (ab / Nat.gcd be ab)), .int (nI (be / Nat.gcd be ab))]]) := by
  refine Kv.of (cc := cX1_reduce) (maxL := 5) (by decide +kernel) rfl (Nat.le_of_ble_eq_true rfl) ?_
  intro jp je js jm ja jb jt jc jA jQ ls cx hnm hP hD hS hl hret
  obtain ⟨hx, hb, hml, hown, hts, hK, hA⟩ := id cx
  have hl : lv_has ls 5 [(0, .ref fr)] := hl
  obtain ⟨H, hH⟩ : ∃ H, H = js.heap := ⟨_, rfl⟩
  obtain ⟨locs, hlocs⟩ : ∃ z : List Loc, z = [] := ⟨_, rfl⟩
  have hP : va_P G vwCl [oB fr 1 [.int (nI ab), .int (nI be)]] H := by rw [hH]; exact hP
  have hS : va_S jA js.heap H locs := by rw [hH, hlocs]; exact hS
  rw [← hlocs]; rw [show W jp jl je rCX1_reduce js jm ja jb jt jc js.heap locs 0 0 jQ (F0 jm 0 ls []) = W jp jl je rCX1_reduce js jm ja jb jt jc H locs 0 0 jQ (F0 jm 0 ls []) by rw [hH]]
  clear hH hlocs
  refine lv_aload_n hx hb dX1_reduce_0 rfl (lv_at hl 0 rfl) ?_
  refine va_get (C := RX1) (T := TX1) (N := 2) (ci := 1) hx hb hts iX1_reduce_1 hown hK.1 hP 0 rfl rfl 1 (Nat.le_of_ble_eq_true rfl) (hts _ mX1_reduce_13) (fun _ h9 => h9) rfl dX1_reduce_1 ?_
  refine lv_istore_n (lv' := [(1, .int (nI be)), (0, .ref fr)]) hx hb dX1_reduce_4 rfl hl (by decide) rfl (fun ls hl => ?_)
  refine lv_aload_n hx hb dX1_reduce_5 rfl (lv_at hl 1 rfl) ?_
  refine va_get (C := RX1) (T := TX1) (N := 2) (ci := 1) hx hb hts iX1_reduce_1 hown hK.1 hP 0 rfl rfl 0 (Nat.le_of_ble_eq_true rfl) (hts _ mX1_reduce_7) (fun _ h9 => h9) rfl dX1_reduce_6 ?_
  refine lv_istore_n (lv' := [(2, .int (nI ab)), (1, .int (nI be)), (0, .ref fr)]) hx hb dX1_reduce_9 rfl hl (by decide) rfl (fun ls hl => ?_)
  refine lv_iconst (v := nI 0) hx hb dX1_reduce_10 (by decide) ?_
  refine lv_istore_n (lv' := [(3, .int (nI 0)), (2, .int (nI ab)), (1, .int (nI be)), (0, .ref fr)]) hx hb dX1_reduce_11 rfl hl (by decide) rfl (fun ls hl => ?_)
  have L12 : ∀ (fu : Nat), ∀ (d : Nat), ∀ (q : Nat), ∀ (i : Nat), (64 < i + fu) → (d * q * 2 ^ i < 131072) → (q ≤ d) → (0 < d) → (d ≤ 300) → (i ≤ 64) → (Nat.gcd d q = Nat.gcd be ab) → ∀ (H : Heap) (locs : List Loc) (ls : Array Slot), va_P G vwCl [oB fr 1 [.int (nI ab), .int (nI be)]] H → va_D jA [oB fr 1 [.int (nI ab), .int (nI be)]] → va_S jA js.heap H locs → lv_has ls 5 [(0, .ref fr), (1, .int (nI d)), (2, .int (nI q)), (3, .int (nI i))] → W jp jl je rCX1_reduce js jm ja jb jt jc H locs 0 0 jQ (F0 jm 12 ls []) := by
    intro fu
    induction fu with
    | zero =>
      intro d q i hfu hp hq hd hd3 hi hg H locs ls hP hD hS hl
      exact absurd hfu (by omega)
    | succ fu ih12 =>
      intro d q i hfu hp hq hd hd3 hi hg H locs ls hP hD hS hl
      refine lv_iload_n hx hb dX1_reduce_12 rfl (lv_at hl 3 rfl) ?_
      refine lv_bipush (v := nI 64) hx hb dX1_reduce_13 (by decide) ?_
      refine k_cmp_ge (tgt := 38) hx hb dX1_reduce_15 (by decide) (by omega) (by omega) (fun c_1 => ?_) (fun c_1 => ?_)
      · skip
        have hq0 : q = 0 := gend hp c_1 hd
        have hge : d = Nat.gcd be ab := by rw [← hg, hq0, Nat.gcd_zero_right]
        refine lv_iload_n hx hb dX1_reduce_38 rfl (lv_at hl 1 rfl) ?_
        refine lv_iconst (v := nI 1) hx hb dX1_reduce_39 (by decide) ?_
        refine k_cmp_le (tgt := 63) hx hb dX1_reduce_40 (by decide) (by omega) (by omega) (fun h9 => ?_) (fun h9 => ?_)
        · skip
          have hd1 : Nat.gcd be ab = 1 := by omega
          obtain ⟨hP, hD⟩ : va_P G vwCl [oB fr 1 [.int (nI (ab / Nat.gcd be ab)), .int (nI (be / Nat.gcd be ab))]] H ∧ va_D jA [oB fr 1 [.int (nI (ab / Nat.gcd be ab)), .int (nI (be / Nat.gcd be ab))]] := by rw [hd1, Nat.div_one, Nat.div_one]; exact ⟨hP, hD⟩
          exact hret _ _ _ _ () dX1_reduce_63 (trivial) hP hD hS
        · skip
          refine lv_aload_n hx hb dX1_reduce_43 rfl (lv_at hl 0 rfl) ?_
          refine lv_dup hx hb dX1_reduce_44 rfl ?_
          refine va_get (C := RX1) (T := TX1) (N := 2) (ci := 1) hx hb hts iX1_reduce_1 hown hK.1 hP 0 rfl rfl 0 (Nat.le_of_ble_eq_true rfl) (hts _ mX1_reduce_7) (fun _ h9 => h9) rfl dX1_reduce_45 ?_
          refine lv_iload_n hx hb dX1_reduce_48 rfl (lv_at hl 1 rfl) ?_
          refine k_idiv hx hb dX1_reduce_49 (by omega) (hd) (by omega) ?_
          refine va_put (C := RX1) (T := TX1) (N := 2) (ci := 1) (v := .int (nI (ab / d))) (ty := tyX1 0) hx hb hts iX1_reduce_1 tyX1 tyX1_ok nmX1 hown hK.1 hP hD hS 0 rfl rfl 0 (Nat.le_of_ble_eq_true rfl) (hts _ mX1_reduce_7) (fun _ h9 => h9) rfl (tyX1_ok 0 (Nat.le_of_ble_eq_true rfl)) (rfl) (rfl) (Nat.le_of_ble_eq_true rfl) dX1_reduce_50 (fun H locs hP hD hS => ?_)
          have hP : va_P G vwCl [oB fr 1 [.int (nI (ab / d)), .int (nI be)]] H := hP
          have hD : va_D jA [oB fr 1 [.int (nI (ab / d)), .int (nI be)]] := hD
          refine lv_aload_n hx hb dX1_reduce_53 rfl (lv_at hl 0 rfl) ?_
          refine lv_dup hx hb dX1_reduce_54 rfl ?_
          refine va_get (C := RX1) (T := TX1) (N := 2) (ci := 1) hx hb hts iX1_reduce_1 hown hK.1 hP 0 rfl rfl 1 (Nat.le_of_ble_eq_true rfl) (hts _ mX1_reduce_13) (fun _ h9 => h9) rfl dX1_reduce_55 ?_
          refine lv_iload_n hx hb dX1_reduce_58 rfl (lv_at hl 1 rfl) ?_
          refine k_idiv hx hb dX1_reduce_59 (by omega) (hd) (by omega) ?_
          refine va_put (C := RX1) (T := TX1) (N := 2) (ci := 1) (v := .int (nI (be / d))) (ty := tyX1 1) hx hb hts iX1_reduce_1 tyX1 tyX1_ok nmX1 hown hK.1 hP hD hS 0 rfl rfl 1 (Nat.le_of_ble_eq_true rfl) (hts _ mX1_reduce_13) (fun _ h9 => h9) rfl (tyX1_ok 1 (Nat.le_of_ble_eq_true rfl)) (rfl) (rfl) (Nat.le_of_ble_eq_true rfl) dX1_reduce_60 (fun H locs hP hD hS => ?_)
          have hP : va_P G vwCl [oB fr 1 [.int (nI (ab / d)), .int (nI (be / d))]] H := hP
          have hD : va_D jA [oB fr 1 [.int (nI (ab / d)), .int (nI (be / d))]] := hD
          rw [hge] at hP hD
          exact hret _ _ _ _ () dX1_reduce_63 (trivial) hP hD hS
      · skip
        refine lv_iload_n hx hb dX1_reduce_18 rfl (lv_at hl 2 rfl) ?_
        refine k_if_eq (tgt := 38) hx hb dX1_reduce_19 (by decide) (by omega) (fun hz => ?_) (fun hz => ?_)
        · skip
          have hq0 : q = 0 := hz
          have hge : d = Nat.gcd be ab := by rw [← hg, hq0, Nat.gcd_zero_right]
          refine lv_iload_n hx hb dX1_reduce_38 rfl (lv_at hl 1 rfl) ?_
          refine lv_iconst (v := nI 1) hx hb dX1_reduce_39 (by decide) ?_
          refine k_cmp_le (tgt := 63) hx hb dX1_reduce_40 (by decide) (by omega) (by omega) (fun h9 => ?_) (fun h9 => ?_)
          · skip
            have hd1 : Nat.gcd be ab = 1 := by omega
            obtain ⟨hP, hD⟩ : va_P G vwCl [oB fr 1 [.int (nI (ab / Nat.gcd be ab)), .int (nI (be / Nat.gcd be ab))]] H ∧ va_D jA [oB fr 1 [.int (nI (ab / Nat.gcd be ab)), .int (nI (be / Nat.gcd be ab))]] := by rw [hd1, Nat.div_one, Nat.div_one]; exact ⟨hP, hD⟩
            exact hret _ _ _ _ () dX1_reduce_63 (trivial) hP hD hS
          · skip
            refine lv_aload_n hx hb dX1_reduce_43 rfl (lv_at hl 0 rfl) ?_
            refine lv_dup hx hb dX1_reduce_44 rfl ?_
            refine va_get (C := RX1) (T := TX1) (N := 2) (ci := 1) hx hb hts iX1_reduce_1 hown hK.1 hP 0 rfl rfl 0 (Nat.le_of_ble_eq_true rfl) (hts _ mX1_reduce_7) (fun _ h9 => h9) rfl dX1_reduce_45 ?_
            refine lv_iload_n hx hb dX1_reduce_48 rfl (lv_at hl 1 rfl) ?_
            refine k_idiv hx hb dX1_reduce_49 (by omega) (hd) (by omega) ?_
            refine va_put (C := RX1) (T := TX1) (N := 2) (ci := 1) (v := .int (nI (ab / d))) (ty := tyX1 0) hx hb hts iX1_reduce_1 tyX1 tyX1_ok nmX1 hown hK.1 hP hD hS 0 rfl rfl 0 (Nat.le_of_ble_eq_true rfl) (hts _ mX1_reduce_7) (fun _ h9 => h9) rfl (tyX1_ok 0 (Nat.le_of_ble_eq_true rfl)) (rfl) (rfl) (Nat.le_of_ble_eq_true rfl) dX1_reduce_50 (fun H locs hP hD hS => ?_)
            have hP : va_P G vwCl [oB fr 1 [.int (nI (ab / d)), .int (nI be)]] H := hP
            have hD : va_D jA [oB fr 1 [.int (nI (ab / d)), .int (nI be)]] := hD
            refine lv_aload_n hx hb dX1_reduce_53 rfl (lv_at hl 0 rfl) ?_
            refine lv_dup hx hb dX1_reduce_54 rfl ?_
            refine va_get (C := RX1) (T := TX1) (N := 2) (ci := 1) hx hb hts iX1_reduce_1 hown hK.1 hP 0 rfl rfl 1 (Nat.le_of_ble_eq_true rfl) (hts _ mX1_reduce_13) (fun _ h9 => h9) rfl dX1_reduce_55 ?_
            refine lv_iload_n hx hb dX1_reduce_58 rfl (lv_at hl 1 rfl) ?_
            refine k_idiv hx hb dX1_reduce_59 (by omega) (hd) (by omega) ?_
            refine va_put (C := RX1) (T := TX1) (N := 2) (ci := 1) (v := .int (nI (be / d))) (ty := tyX1 1) hx hb hts iX1_reduce_1 tyX1 tyX1_ok nmX1 hown hK.1 hP hD hS 0 rfl rfl 1 (Nat.le_of_ble_eq_true rfl) (hts _ mX1_reduce_13) (fun _ h9 => h9) rfl (tyX1_ok 1 (Nat.le_of_ble_eq_true rfl)) (rfl) (rfl) (Nat.le_of_ble_eq_true rfl) dX1_reduce_60 (fun H locs hP hD hS => ?_)
            have hP : va_P G vwCl [oB fr 1 [.int (nI (ab / d)), .int (nI (be / d))]] H := hP
            have hD : va_D jA [oB fr 1 [.int (nI (ab / d)), .int (nI (be / d))]] := hD
            rw [hge] at hP hD
            exact hret _ _ _ _ () dX1_reduce_63 (trivial) hP hD hS
        · skip
          refine lv_iload_n hx hb dX1_reduce_22 rfl (lv_at hl 1 rfl) ?_
          refine lv_iload_n hx hb dX1_reduce_23 rfl (lv_at hl 2 rfl) ?_
          refine k_irem hx hb dX1_reduce_24 (by omega) (hz) (by omega) ?_
          refine lv_istore (lv' := [(4, .int (nI (d % q))), (0, .ref fr), (1, .int (nI d)), (2, .int (nI q)), (3, .int (nI i))]) hx hb dX1_reduce_25 hl (by decide) rfl (fun ls hl => ?_)
          refine lv_iload_n hx hb dX1_reduce_27 rfl (lv_at hl 3 rfl) ?_
          refine lv_istore_n (lv' := [(1, .int (nI q)), (4, .int (nI (d % q))), (0, .ref fr), (2, .int (nI q)), (3, .int (nI i))]) hx hb dX1_reduce_28 rfl hl (by decide) rfl (fun ls hl => ?_)
          refine lv_iload hx hb dX1_reduce_29 (lv_at hl 1 rfl) ?_
          refine lv_istore_n (lv' := [(2, .int (nI (d % q))), (1, .int (nI q)), (4, .int (nI (d % q))), (0, .ref fr), (3, .int (nI i))]) hx hb dX1_reduce_31 rfl hl (by decide) rfl (fun ls hl => ?_)
          refine lv_iinc (v := nI (i + 1)) (lv' := [(3, .int (nI (i + 1))), (2, .int (nI (d % q))), (1, .int (nI q)), (4, .int (nI (d % q))), (0, .ref fr)]) hx hb dX1_reduce_32 hl (k := 4) rfl (nI_add i 1) (by decide) rfl (fun ls hl => ?_)
          refine lv_goto (tgt := 12) hx hb dX1_reduce_35 (by decide) ?_
          exact ih12 q (d % q) (i + 1) (by omega) ((gstep hp hz hq).1) ((gstep hp hz hq).2.1) (by omega) (by omega) (by omega) ((gstep hp hz hq).2.2.trans hg) _ _ _ hP hD hS (lv_sub hl [4, 2, 1, 0] rfl)
  exact L12 65 be ab 0 (by omega) (gstart h1 h2) (by omega) (by omega) (by omega) (by omega) (rfl) _ _ _ hP hD hS (lv_sub hl [3, 2, 1, 0] rfl)

theorem iX1_compareWith_1 : ∀ w ∈ wsX10, w ∈ wsX1_compareWith := by decide +kernel
theorem mX1_compareWith_7 : Cond.fieldLink RX1 7 "LineFinder$Fraction" "above" "I" ∈ wsX1_compareWith := List.mem_of_getElem? (i := 1) rfl
theorem mX1_compareWith_13 : Cond.fieldLink RX1 13 "LineFinder$Fraction" "below" "I" ∈ wsX1_compareWith := List.mem_of_getElem? (i := 2) rfl
theorem hdJ6_compare_7cf53 : yJ6_compare_7cf53.cls ≠ "java/lang/invoke/MethodHandle" ∧ yJ6_compare_7cf53.cls ≠ "java/lang/invoke/VarHandle" ∧ (parseMethodDescriptor yJ6_compare_7cf53.desc).map (fun d => d.parameters.length) = some 2 := by decide +kernel
abbrev rCX1_compareWith : Room := { frames := 1, cells := 0, slots := 0, locals := 21 }
set_option maxHeartbeats 4000000 in
set_option maxRecDepth 100000 in
theorem CX1_compareWith (jl : Launch) (G : va_G) (cI cZ cJ : ClassId) (fr ab be : Nat) (gr cb de : Nat) : Ki jl yX1_compareWith wsX1_compareWith rCX1_compareWith G cI cZ cJ [.ref fr, .ref gr] [oB fr 1 [.int (nI ab), .int (nI be)], oB gr 1 [.int (nI cb), .int (nI de)]] (S := Unit) (fun (r : Int32) (_ : Unit) => r = cmpI (nI (ab * de)) (nI (cb * be))) (fun (_ : Unit) => [oB fr 1 [.int (nI ab), .int (nI be)], oB gr 1 [.int (nI cb), .int (nI de)]]) := by
  refine Ki.of (cc := cX1_compareWith) (maxL := 2) (by decide +kernel) rfl (Nat.le_of_ble_eq_true rfl) ?_
  intro jp je js jm ja jb jt jc jA jQ ls cx hnm hP hD hS hl hret
  obtain ⟨hx, hb, hml, hown, hts, hK, hA⟩ := id cx
  have hl : lv_has ls 2 [(0, .ref fr), (1, .ref gr)] := hl
  obtain ⟨H, hH⟩ : ∃ H, H = js.heap := ⟨_, rfl⟩
  obtain ⟨locs, hlocs⟩ : ∃ z : List Loc, z = [] := ⟨_, rfl⟩
  have hP : va_P G vwCl [oB fr 1 [.int (nI ab), .int (nI be)], oB gr 1 [.int (nI cb), .int (nI de)]] H := by rw [hH]; exact hP
  have hS : va_S jA js.heap H locs := by rw [hH, hlocs]; exact hS
  rw [← hlocs]; rw [show W jp jl je rCX1_compareWith js jm ja jb jt jc js.heap locs 0 0 jQ (F0 jm 0 ls []) = W jp jl je rCX1_compareWith js jm ja jb jt jc H locs 0 0 jQ (F0 jm 0 ls []) by rw [hH]]
  clear hH hlocs
  refine lv_aload_n hx hb dX1_compareWith_0 rfl (lv_at hl 0 rfl) ?_
  refine va_get (C := RX1) (T := TX1) (N := 2) (ci := 1) hx hb hts iX1_compareWith_1 hown hK.1 hP 0 rfl rfl 0 (Nat.le_of_ble_eq_true rfl) (hts _ mX1_compareWith_7) (fun _ h9 => h9) rfl dX1_compareWith_1 ?_
  refine lv_aload_n hx hb dX1_compareWith_4 rfl (lv_at hl 1 rfl) ?_
  refine va_get (C := RX1) (T := TX1) (N := 2) (ci := 1) hx hb hts iX1_compareWith_1 hown hK.1 hP 1 rfl rfl 1 (Nat.le_of_ble_eq_true rfl) (hts _ mX1_compareWith_13) (fun _ h9 => h9) rfl dX1_compareWith_5 ?_
  refine k_imul hx hb dX1_compareWith_8 ?_
  refine lv_aload_n hx hb dX1_compareWith_9 rfl (lv_at hl 1 rfl) ?_
  refine va_get (C := RX1) (T := TX1) (N := 2) (ci := 1) hx hb hts iX1_compareWith_1 hown hK.1 hP 1 rfl rfl 0 (Nat.le_of_ble_eq_true rfl) (hts _ mX1_compareWith_7) (fun _ h9 => h9) rfl dX1_compareWith_10 ?_
  refine lv_aload_n hx hb dX1_compareWith_13 rfl (lv_at hl 0 rfl) ?_
  refine va_get (C := RX1) (T := TX1) (N := 2) (ci := 1) hx hb hts iX1_compareWith_1 hown hK.1 hP 0 rfl rfl 1 (Nat.le_of_ble_eq_true rfl) (hts _ mX1_compareWith_13) (fun _ h9 => h9) rfl dX1_compareWith_14 ?_
  refine k_imul hx hb dX1_compareWith_17 ?_
  refine Ki.callS (wr := [oB fr 1 [.int (nI ab), .int (nI be)], oB gr 1 [.int (nI cb), .int (nI de)]]) (rest := []) (CJ6_compare_7cf53 jl G cI cZ cJ (nI (ab * de)) (nI (cb * be))) cx hP hD hS hl [] [0, 1] gX1_compareWith_J6_compare_7cf53 hdJ6_compare_7cf53 rfl ⟨Nat.le_of_ble_eq_true rfl, Nat.le_of_ble_eq_true rfl⟩ rfl rfl (by decide) (by decide) (by decide) dX1_compareWith_18 rfl rfl (Nat.le_of_ble_eq_true rfl) ⟨Nat.le_of_ble_eq_true rfl, Nat.le_of_ble_eq_true rfl⟩ (fun r_1 u H locs hw9 hP hD hS => ?_)
  have hP : va_P G vwCl [oB fr 1 [.int (nI ab), .int (nI be)], oB gr 1 [.int (nI cb), .int (nI de)]] H := hP
  have hD : va_D jA [oB fr 1 [.int (nI ab), .int (nI be)], oB gr 1 [.int (nI cb), .int (nI de)]] := hD
  exact hret _ _ _ _ _ () dX1_compareWith_21 (hw9) hP hD hS
