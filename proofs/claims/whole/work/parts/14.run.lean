theorem iX4_goesOn_0 : ∀ w ∈ wsX00, w ∈ wsX4_goesOn := by decide +kernel
theorem iX4_goesOn_4 : ∀ w ∈ wsX40, w ∈ wsX4_goesOn := by decide +kernel
theorem mX4_goesOn_25 : Cond.fieldLink RX4 25 "LineFinder$Run" "outCount" "I" ∈ wsX4_goesOn := List.mem_of_getElem? (i := 2) rfl
theorem mX4_goesOn_56 : Cond.fieldLink RX4 56 "LineFinder$Code" "size" "I" ∈ wsX4_goesOn := List.mem_of_getElem? (i := 1) rfl
abbrev rCX4_goesOn : Room := { frames := 0, cells := 0, slots := 0, locals := 0 }
set_option maxHeartbeats 4000000 in
set_option maxRecDepth 100000 in
theorem CX4_goesOn (jl : Launch) (G : va_G) (cI cZ cJ : ClassId) (cd d0 d1 d2 d3 n : Nat) (ops xs ys zs : Fn) (rn q0 q1 q2 sc oc ic : Nat) (cut ti sl sv : Int32) (tr ou vr : Fn) (at_ : Nat) (h1 : at_ < 100) (h2 : n ≤ 24) (h3 : oc ≤ 6) : Ki jl yX4_goesOn wsX4_goesOn rCX4_goesOn G cI cZ cJ [.ref rn, .ref cd, .int (nI at_)] [oB cd 0 [.ref d0, .ref d1, .ref d2, .ref d3, .int (nI n)], aI cI d0 24 ops, aI cI d1 24 xs, aI cI d2 24 ys, aI cI d3 24 zs, oB rn 4 [.ref q0, .ref q1, .ref q2, .int (nI sc), .int (nI oc), .int (nI ic), .int cut, .int ti, .int sl, .int sv], aI cI q0 300 tr, aI cI q1 6 ou, aI cI q2 8 vr] (S := Unit) (fun (r : Int32) (_ : Unit) => r = bI (decide (at_ < n) && decide (oc < 6))) (fun (_ : Unit) => [oB cd 0 [.ref d0, .ref d1, .ref d2, .ref d3, .int (nI n)], aI cI d0 24 ops, aI cI d1 24 xs, aI cI d2 24 ys, aI cI d3 24 zs, oB rn 4 [.ref q0, .ref q1, .ref q2, .int (nI sc), .int (nI oc), .int (nI ic), .int cut, .int ti, .int sl, .int sv], aI cI q0 300 tr, aI cI q1 6 ou, aI cI q2 8 vr]) := by
  refine Ki.ofZ (cc := cX4_goesOn) (maxL := 3) (by decide +kernel) rfl (Nat.le_of_ble_eq_true rfl) ?_
  intro jp je js jm ja jb jt jc jA jQ ls cx hnm hP hD hS hl hret
  obtain ⟨hx, hb, hml, hown, hts, hK, hA⟩ := id cx
  have hl : lv_has ls 3 [(0, .ref rn), (1, .ref cd), (2, .int (nI at_))] := hl
  obtain ⟨H, hH⟩ : ∃ H, H = js.heap := ⟨_, rfl⟩
  obtain ⟨locs, hlocs⟩ : ∃ z : List Loc, z = [] := ⟨_, rfl⟩
  have hP : va_P G vwCl [oB cd 0 [.ref d0, .ref d1, .ref d2, .ref d3, .int (nI n)], aI cI d0 24 ops, aI cI d1 24 xs, aI cI d2 24 ys, aI cI d3 24 zs, oB rn 4 [.ref q0, .ref q1, .ref q2, .int (nI sc), .int (nI oc), .int (nI ic), .int cut, .int ti, .int sl, .int sv], aI cI q0 300 tr, aI cI q1 6 ou, aI cI q2 8 vr] H := by rw [hH]; exact hP
  have hS : va_S jA js.heap H locs := by rw [hH, hlocs]; exact hS
  rw [← hlocs]; rw [show W jp jl je rCX4_goesOn js jm ja jb jt jc js.heap locs 0 0 jQ (F0 jm 0 ls []) = W jp jl je rCX4_goesOn js jm ja jb jt jc H locs 0 0 jQ (F0 jm 0 ls []) by rw [hH]]
  clear hH hlocs
  refine lv_iload_n hx hb dX4_goesOn_0 rfl (lv_at hl 2 rfl) ?_
  refine lv_aload_n hx hb dX4_goesOn_1 rfl (lv_at hl 1 rfl) ?_
  refine va_get (C := RX0) (T := TX0) (N := 5) (ci := 0) hx hb hts iX4_goesOn_0 hown hK.1 hP 0 rfl rfl 4 (Nat.le_of_ble_eq_true rfl) (hts _ mX4_goesOn_56) (fun _ h9 => h9) rfl dX4_goesOn_2 ?_
  refine k_cmp_ge (tgt := 21) hx hb dX4_goesOn_5 (by decide) (by omega) (by omega) (fun c_1 => ?_) (fun c_1 => ?_)
  · skip
    refine lv_iconst (v := nI 0) hx hb dX4_goesOn_21 (by decide) ?_
    exact hret _ _ _ _ _ () dX4_goesOn_22 (by decide) (by rw [decide_eq_false (Nat.not_lt.mpr c_1)]; rfl) hP hD hS
  · skip
    refine lv_aload_n hx hb dX4_goesOn_8 rfl (lv_at hl 0 rfl) ?_
    refine va_get (C := RX4) (T := TX4) (N := 10) (ci := 4) hx hb hts iX4_goesOn_4 hown hK.1 hP 5 rfl rfl 4 (Nat.le_of_ble_eq_true rfl) (hts _ mX4_goesOn_25) (fun _ h9 => h9) rfl dX4_goesOn_9 ?_
    refine lv_bipush (v := nI 6) hx hb dX4_goesOn_12 (by decide) ?_
    refine k_cmp_ge (tgt := 21) hx hb dX4_goesOn_14 (by decide) (by omega) (by omega) (fun c_2 => ?_) (fun c_2 => ?_)
    · skip
      refine lv_iconst (v := nI 0) hx hb dX4_goesOn_21 (by decide) ?_
      exact hret _ _ _ _ _ () dX4_goesOn_22 (by decide) (by rw [decide_eq_true c_1, decide_eq_false (Nat.not_lt.mpr c_2)]; rfl) hP hD hS
    · skip
      refine lv_iconst (v := nI 1) hx hb dX4_goesOn_17 (by decide) ?_
      refine lv_goto (tgt := 22) hx hb dX4_goesOn_18 (by decide) ?_
      exact hret _ _ _ _ _ () dX4_goesOn_22 (by decide) (by rw [decide_eq_true c_1, decide_eq_true c_2]; rfl) hP hD hS

theorem iX4_decides_4 : ∀ w ∈ wsX40, w ∈ wsX4_decides := by decide +kernel
theorem mX4_decides_28 : Cond.fieldLink RX4 28 "LineFinder$Run" "ifCount" "I" ∈ wsX4_decides := List.mem_of_getElem? (i := 1) rfl
theorem mX4_decides_35 : Cond.fieldLink RX4 35 "LineFinder$Run" "turnedIf" "I" ∈ wsX4_decides := List.mem_of_getElem? (i := 2) rfl
abbrev rCX4_decides : Room := { frames := 0, cells := 0, slots := 0, locals := 0 }
set_option maxHeartbeats 4000000 in
set_option maxRecDepth 100000 in
theorem CX4_decides (jl : Launch) (G : va_G) (cI cZ cJ : ClassId) (rn q0 q1 q2 sc oc ic : Nat) (cut ti sl sv : Int32) (tr ou vr : Fn) (b : Bool) : Ki jl yX4_decides wsX4_decides rCX4_decides G cI cZ cJ [.ref rn, .int (bI b)] [oB rn 4 [.ref q0, .ref q1, .ref q2, .int (nI sc), .int (nI oc), .int (nI ic), .int cut, .int ti, .int sl, .int sv], aI cI q0 300 tr, aI cI q1 6 ou, aI cI q2 8 vr] (S := Unit) (fun (r : Int32) (_ : Unit) => r = bI (b != decide (nI ic = ti))) (fun (_ : Unit) => [oB rn 4 [.ref q0, .ref q1, .ref q2, .int (nI sc), .int (nI oc), .int (nI (ic + 1)), .int cut, .int ti, .int sl, .int sv], aI cI q0 300 tr, aI cI q1 6 ou, aI cI q2 8 vr]) := by
  refine Ki.ofZ (cc := cX4_decides) (maxL := 3) (by decide +kernel) rfl (Nat.le_of_ble_eq_true rfl) ?_
  intro jp je js jm ja jb jt jc jA jQ ls cx hnm hP hD hS hl hret
  obtain ⟨hx, hb, hml, hown, hts, hK, hA⟩ := id cx
  have hl : lv_has ls 3 [(0, .ref rn), (1, .int (bI b))] := hl
  obtain ⟨H, hH⟩ : ∃ H, H = js.heap := ⟨_, rfl⟩
  obtain ⟨locs, hlocs⟩ : ∃ z : List Loc, z = [] := ⟨_, rfl⟩
  have hP : va_P G vwCl [oB rn 4 [.ref q0, .ref q1, .ref q2, .int (nI sc), .int (nI oc), .int (nI ic), .int cut, .int ti, .int sl, .int sv], aI cI q0 300 tr, aI cI q1 6 ou, aI cI q2 8 vr] H := by rw [hH]; exact hP
  have hS : va_S jA js.heap H locs := by rw [hH, hlocs]; exact hS
  rw [← hlocs]; rw [show W jp jl je rCX4_decides js jm ja jb jt jc js.heap locs 0 0 jQ (F0 jm 0 ls []) = W jp jl je rCX4_decides js jm ja jb jt jc H locs 0 0 jQ (F0 jm 0 ls []) by rw [hH]]
  clear hH hlocs
  cases b with
  | true =>
    have hl : lv_has ls 3 [(0, .ref rn), (1, .int (nI 1))] := hl
    refine lv_aload_n hx hb dX4_decides_0 rfl (lv_at hl 0 rfl) ?_
    refine va_get (C := RX4) (T := TX4) (N := 10) (ci := 4) hx hb hts iX4_decides_4 hown hK.1 hP 0 rfl rfl 5 (Nat.le_of_ble_eq_true rfl) (hts _ mX4_decides_28) (fun _ h9 => h9) rfl dX4_decides_1 ?_
    refine lv_aload_n hx hb dX4_decides_4 rfl (lv_at hl 0 rfl) ?_
    refine va_get (C := RX4) (T := TX4) (N := 10) (ci := 4) hx hb hts iX4_decides_4 hown hK.1 hP 0 rfl rfl 7 (Nat.le_of_ble_eq_true rfl) (hts _ mX4_decides_35) (fun _ h9 => h9) rfl dX4_decides_5 ?_
    refine lv_icmp_ne (tgt := 15) hx hb dX4_decides_8 (by decide) (fun c_1 => ?_) (fun c_1 => ?_)
    · skip
      refine lv_iconst (v := nI 0) hx hb dX4_decides_15 (by decide) ?_
      refine lv_istore_n (lv' := [(2, .int (nI 0)), (0, .ref rn), (1, .int (nI 1))]) hx hb dX4_decides_16 rfl hl (by decide) rfl (fun ls hl => ?_)
      refine lv_aload_n hx hb dX4_decides_17 rfl (lv_at hl 1 rfl) ?_
      refine lv_dup hx hb dX4_decides_18 rfl ?_
      refine va_get (C := RX4) (T := TX4) (N := 10) (ci := 4) hx hb hts iX4_decides_4 hown hK.1 hP 0 rfl rfl 5 (Nat.le_of_ble_eq_true rfl) (hts _ mX4_decides_28) (fun _ h9 => h9) rfl dX4_decides_19 ?_
      refine lv_iconst (v := nI 1) hx hb dX4_decides_22 (by decide) ?_
      refine k_iadd hx hb dX4_decides_23 ?_
      refine va_put (C := RX4) (T := TX4) (N := 10) (ci := 4) (v := .int (nI (ic + 1))) (ty := tyX4 5) hx hb hts iX4_decides_4 tyX4 tyX4_ok nmX4 hown hK.1 hP hD hS 0 rfl rfl 5 (Nat.le_of_ble_eq_true rfl) (hts _ mX4_decides_28) (fun _ h9 => h9) rfl (tyX4_ok 5 (Nat.le_of_ble_eq_true rfl)) (rfl) (rfl) (Nat.le_of_ble_eq_true rfl) dX4_decides_24 (fun H locs hP hD hS => ?_)
      have hP : va_P G vwCl [oB rn 4 [.ref q0, .ref q1, .ref q2, .int (nI sc), .int (nI oc), .int (nI (ic + 1)), .int cut, .int ti, .int sl, .int sv], aI cI q0 300 tr, aI cI q1 6 ou, aI cI q2 8 vr] H := hP
      have hD : va_D jA [oB rn 4 [.ref q0, .ref q1, .ref q2, .int (nI sc), .int (nI oc), .int (nI (ic + 1)), .int cut, .int ti, .int sl, .int sv], aI cI q0 300 tr, aI cI q1 6 ou, aI cI q2 8 vr] := hD
      refine lv_iload_n hx hb dX4_decides_27 rfl (lv_at hl 2 rfl) ?_
      refine lv_iload_n hx hb dX4_decides_28 rfl (lv_at hl 0 rfl) ?_
      refine k_cmp_eq (tgt := 36) hx hb dX4_decides_29 (by decide) (by decide) (by decide) (fun c_2 => ?_) (fun c_2 => ?_)
      · skip
        exact absurd c_2 (by decide)
      · skip
        refine lv_iconst (v := nI 1) hx hb dX4_decides_32 (by decide) ?_
        refine lv_goto (tgt := 37) hx hb dX4_decides_33 (by decide) ?_
        exact hret _ _ _ _ _ () dX4_decides_37 (by decide) (by rw [decide_eq_false c_1]; rfl) hP hD hS
    · skip
      refine lv_iconst (v := nI 1) hx hb dX4_decides_11 (by decide) ?_
      refine lv_goto (tgt := 16) hx hb dX4_decides_12 (by decide) ?_
      refine lv_istore_n (lv' := [(2, .int (nI 1)), (0, .ref rn), (1, .int (nI 1))]) hx hb dX4_decides_16 rfl hl (by decide) rfl (fun ls hl => ?_)
      refine lv_aload_n hx hb dX4_decides_17 rfl (lv_at hl 1 rfl) ?_
      refine lv_dup hx hb dX4_decides_18 rfl ?_
      refine va_get (C := RX4) (T := TX4) (N := 10) (ci := 4) hx hb hts iX4_decides_4 hown hK.1 hP 0 rfl rfl 5 (Nat.le_of_ble_eq_true rfl) (hts _ mX4_decides_28) (fun _ h9 => h9) rfl dX4_decides_19 ?_
      refine lv_iconst (v := nI 1) hx hb dX4_decides_22 (by decide) ?_
      refine k_iadd hx hb dX4_decides_23 ?_
      refine va_put (C := RX4) (T := TX4) (N := 10) (ci := 4) (v := .int (nI (ic + 1))) (ty := tyX4 5) hx hb hts iX4_decides_4 tyX4 tyX4_ok nmX4 hown hK.1 hP hD hS 0 rfl rfl 5 (Nat.le_of_ble_eq_true rfl) (hts _ mX4_decides_28) (fun _ h9 => h9) rfl (tyX4_ok 5 (Nat.le_of_ble_eq_true rfl)) (rfl) (rfl) (Nat.le_of_ble_eq_true rfl) dX4_decides_24 (fun H locs hP hD hS => ?_)
      have hP : va_P G vwCl [oB rn 4 [.ref q0, .ref q1, .ref q2, .int (nI sc), .int (nI oc), .int (nI (ic + 1)), .int cut, .int ti, .int sl, .int sv], aI cI q0 300 tr, aI cI q1 6 ou, aI cI q2 8 vr] H := hP
      have hD : va_D jA [oB rn 4 [.ref q0, .ref q1, .ref q2, .int (nI sc), .int (nI oc), .int (nI (ic + 1)), .int cut, .int ti, .int sl, .int sv], aI cI q0 300 tr, aI cI q1 6 ou, aI cI q2 8 vr] := hD
      refine lv_iload_n hx hb dX4_decides_27 rfl (lv_at hl 2 rfl) ?_
      refine lv_iload_n hx hb dX4_decides_28 rfl (lv_at hl 0 rfl) ?_
      refine k_cmp_eq (tgt := 36) hx hb dX4_decides_29 (by decide) (by decide) (by decide) (fun c_3 => ?_) (fun c_3 => ?_)
      · skip
        refine lv_iconst (v := nI 0) hx hb dX4_decides_36 (by decide) ?_
        exact hret _ _ _ _ _ () dX4_decides_37 (by decide) (by rw [decide_eq_true c_1]; rfl) hP hD hS
      · skip
        exact absurd c_3 (by decide)
  | false =>
    have hl : lv_has ls 3 [(0, .ref rn), (1, .int (nI 0))] := hl
    refine lv_aload_n hx hb dX4_decides_0 rfl (lv_at hl 0 rfl) ?_
    refine va_get (C := RX4) (T := TX4) (N := 10) (ci := 4) hx hb hts iX4_decides_4 hown hK.1 hP 0 rfl rfl 5 (Nat.le_of_ble_eq_true rfl) (hts _ mX4_decides_28) (fun _ h9 => h9) rfl dX4_decides_1 ?_
    refine lv_aload_n hx hb dX4_decides_4 rfl (lv_at hl 0 rfl) ?_
    refine va_get (C := RX4) (T := TX4) (N := 10) (ci := 4) hx hb hts iX4_decides_4 hown hK.1 hP 0 rfl rfl 7 (Nat.le_of_ble_eq_true rfl) (hts _ mX4_decides_35) (fun _ h9 => h9) rfl dX4_decides_5 ?_
    refine lv_icmp_ne (tgt := 15) hx hb dX4_decides_8 (by decide) (fun c_4 => ?_) (fun c_4 => ?_)
    · skip
      refine lv_iconst (v := nI 0) hx hb dX4_decides_15 (by decide) ?_
      refine lv_istore_n (lv' := [(2, .int (nI 0)), (0, .ref rn), (1, .int (nI 0))]) hx hb dX4_decides_16 rfl hl (by decide) rfl (fun ls hl => ?_)
      refine lv_aload_n hx hb dX4_decides_17 rfl (lv_at hl 1 rfl) ?_
      refine lv_dup hx hb dX4_decides_18 rfl ?_
      refine va_get (C := RX4) (T := TX4) (N := 10) (ci := 4) hx hb hts iX4_decides_4 hown hK.1 hP 0 rfl rfl 5 (Nat.le_of_ble_eq_true rfl) (hts _ mX4_decides_28) (fun _ h9 => h9) rfl dX4_decides_19 ?_
      refine lv_iconst (v := nI 1) hx hb dX4_decides_22 (by decide) ?_
      refine k_iadd hx hb dX4_decides_23 ?_
      refine va_put (C := RX4) (T := TX4) (N := 10) (ci := 4) (v := .int (nI (ic + 1))) (ty := tyX4 5) hx hb hts iX4_decides_4 tyX4 tyX4_ok nmX4 hown hK.1 hP hD hS 0 rfl rfl 5 (Nat.le_of_ble_eq_true rfl) (hts _ mX4_decides_28) (fun _ h9 => h9) rfl (tyX4_ok 5 (Nat.le_of_ble_eq_true rfl)) (rfl) (rfl) (Nat.le_of_ble_eq_true rfl) dX4_decides_24 (fun H locs hP hD hS => ?_)
      have hP : va_P G vwCl [oB rn 4 [.ref q0, .ref q1, .ref q2, .int (nI sc), .int (nI oc), .int (nI (ic + 1)), .int cut, .int ti, .int sl, .int sv], aI cI q0 300 tr, aI cI q1 6 ou, aI cI q2 8 vr] H := hP
      have hD : va_D jA [oB rn 4 [.ref q0, .ref q1, .ref q2, .int (nI sc), .int (nI oc), .int (nI (ic + 1)), .int cut, .int ti, .int sl, .int sv], aI cI q0 300 tr, aI cI q1 6 ou, aI cI q2 8 vr] := hD
      refine lv_iload_n hx hb dX4_decides_27 rfl (lv_at hl 2 rfl) ?_
      refine lv_iload_n hx hb dX4_decides_28 rfl (lv_at hl 0 rfl) ?_
      refine k_cmp_eq (tgt := 36) hx hb dX4_decides_29 (by decide) (by decide) (by decide) (fun c_5 => ?_) (fun c_5 => ?_)
      · skip
        refine lv_iconst (v := nI 0) hx hb dX4_decides_36 (by decide) ?_
        exact hret _ _ _ _ _ () dX4_decides_37 (by decide) (by rw [decide_eq_false c_4]; rfl) hP hD hS
      · skip
        exact absurd c_5 (by decide)
    · skip
      refine lv_iconst (v := nI 1) hx hb dX4_decides_11 (by decide) ?_
      refine lv_goto (tgt := 16) hx hb dX4_decides_12 (by decide) ?_
      refine lv_istore_n (lv' := [(2, .int (nI 1)), (0, .ref rn), (1, .int (nI 0))]) hx hb dX4_decides_16 rfl hl (by decide) rfl (fun ls hl => ?_)
      refine lv_aload_n hx hb dX4_decides_17 rfl (lv_at hl 1 rfl) ?_
      refine lv_dup hx hb dX4_decides_18 rfl ?_
      refine va_get (C := RX4) (T := TX4) (N := 10) (ci := 4) hx hb hts iX4_decides_4 hown hK.1 hP 0 rfl rfl 5 (Nat.le_of_ble_eq_true rfl) (hts _ mX4_decides_28) (fun _ h9 => h9) rfl dX4_decides_19 ?_
      refine lv_iconst (v := nI 1) hx hb dX4_decides_22 (by decide) ?_
      refine k_iadd hx hb dX4_decides_23 ?_
      refine va_put (C := RX4) (T := TX4) (N := 10) (ci := 4) (v := .int (nI (ic + 1))) (ty := tyX4 5) hx hb hts iX4_decides_4 tyX4 tyX4_ok nmX4 hown hK.1 hP hD hS 0 rfl rfl 5 (Nat.le_of_ble_eq_true rfl) (hts _ mX4_decides_28) (fun _ h9 => h9) rfl (tyX4_ok 5 (Nat.le_of_ble_eq_true rfl)) (rfl) (rfl) (Nat.le_of_ble_eq_true rfl) dX4_decides_24 (fun H locs hP hD hS => ?_)
      have hP : va_P G vwCl [oB rn 4 [.ref q0, .ref q1, .ref q2, .int (nI sc), .int (nI oc), .int (nI (ic + 1)), .int cut, .int ti, .int sl, .int sv], aI cI q0 300 tr, aI cI q1 6 ou, aI cI q2 8 vr] H := hP
      have hD : va_D jA [oB rn 4 [.ref q0, .ref q1, .ref q2, .int (nI sc), .int (nI oc), .int (nI (ic + 1)), .int cut, .int ti, .int sl, .int sv], aI cI q0 300 tr, aI cI q1 6 ou, aI cI q2 8 vr] := hD
      refine lv_iload_n hx hb dX4_decides_27 rfl (lv_at hl 2 rfl) ?_
      refine lv_iload_n hx hb dX4_decides_28 rfl (lv_at hl 0 rfl) ?_
      refine k_cmp_eq (tgt := 36) hx hb dX4_decides_29 (by decide) (by decide) (by decide) (fun c_6 => ?_) (fun c_6 => ?_)
      · skip
        exact absurd c_6 (by decide)
      · skip
        refine lv_iconst (v := nI 1) hx hb dX4_decides_32 (by decide) ?_
        refine lv_goto (tgt := 37) hx hb dX4_decides_33 (by decide) ?_
        exact hret _ _ _ _ _ () dX4_decides_37 (by decide) (by rw [decide_eq_true c_4]; rfl) hP hD hS

theorem iX4_valueOf_0 : ∀ w ∈ wsX00, w ∈ wsX4_valueOf := by decide +kernel
theorem iX4_valueOf_4 : ∀ w ∈ wsX40, w ∈ wsX4_valueOf := by decide +kernel
theorem mX4_valueOf_18 : Cond.fieldLink RX4 18 "LineFinder$Run" "variables" "[I" ∈ wsX4_valueOf := List.mem_of_getElem? (i := 4) rfl
theorem mX4_valueOf_64 : Cond.fieldLink RX4 64 "LineFinder$Code" "ops" "[I" ∈ wsX4_valueOf := List.mem_of_getElem? (i := 3) rfl
theorem mX4_valueOf_67 : Cond.fieldLink RX4 67 "LineFinder$Code" "ys" "[I" ∈ wsX4_valueOf := List.mem_of_getElem? (i := 1) rfl
theorem mX4_valueOf_74 : Cond.fieldLink RX4 74 "LineFinder$Code" "zs" "[I" ∈ wsX4_valueOf := List.mem_of_getElem? (i := 2) rfl
theorem hdX6_inputOf : yX6_inputOf.cls = RX6 ∧ yX6_inputOf.cls ≠ "java/lang/invoke/MethodHandle" ∧ yX6_inputOf.cls ≠ "java/lang/invoke/VarHandle" ∧ (parseMethodDescriptor yX6_inputOf.desc).map (fun d => d.parameters.length) = some 2 := by decide +kernel
abbrev rCX4_valueOf : Room := { frames := 1, cells := 0, slots := 0, locals := 22 }
set_option maxHeartbeats 4000000 in
set_option maxRecDepth 100000 in
theorem CX4_valueOf (jl : Launch) (G : va_G) (cI cZ cJ : ClassId) (cd d0 d1 d2 d3 n : Nat) (ops xs ys zs : Fn) (su u0 u1 u2 ob nt : Nat) (inp row len : Fn) (rn q0 q1 q2 sc oc ic : Nat) (cut ti sl sv : Int32) (tr ou vr : Fn) (t at_ : Nat) (h1 : at_ < 24) (ht : t < 12) (k : Nat) (hk : k < 5) (hop : ops at_ = nI k) (h123 : (k = 1 ∨ k = 2 ∨ k = 3) → ix (ys at_) 8 ∧ ix (zs at_) 8) (h4 : k = 4 → ix (ys at_) 4) : Ki jl yX4_valueOf wsX4_valueOf rCX4_valueOf G cI cZ cJ [.ref rn, .ref cd, .ref su, .int (nI t), .int (nI at_)] [oB cd 0 [.ref d0, .ref d1, .ref d2, .ref d3, .int (nI n)], aI cI d0 24 ops, aI cI d1 24 xs, aI cI d2 24 ys, aI cI d3 24 zs, oB su 6 [.ref u0, .ref u1, .ref u2, .int (nI ob), .int (nI nt)], aI cI u0 48 inp, aI cI u1 72 row, aI cI u2 12 len, oB rn 4 [.ref q0, .ref q1, .ref q2, .int (nI sc), .int (nI oc), .int (nI ic), .int cut, .int ti, .int sl, .int sv], aI cI q0 300 tr, aI cI q1 6 ou, aI cI q2 8 vr] (S := Unit) (fun (r : Int32) (_ : Unit) => r = r_val ops ys zs (fun y => inp (t * 4 + y)) vr at_) (fun (_ : Unit) => [oB cd 0 [.ref d0, .ref d1, .ref d2, .ref d3, .int (nI n)], aI cI d0 24 ops, aI cI d1 24 xs, aI cI d2 24 ys, aI cI d3 24 zs, oB su 6 [.ref u0, .ref u1, .ref u2, .int (nI ob), .int (nI nt)], aI cI u0 48 inp, aI cI u1 72 row, aI cI u2 12 len, oB rn 4 [.ref q0, .ref q1, .ref q2, .int (nI sc), .int (nI oc), .int (nI ic), .int cut, .int ti, .int sl, .int sv], aI cI q0 300 tr, aI cI q1 6 ou, aI cI q2 8 vr]) := by
  refine Ki.of (cc := cX4_valueOf) (maxL := 7) (by decide +kernel) rfl (Nat.le_of_ble_eq_true rfl) ?_
  intro jp je js jm ja jb jt jc jA jQ ls cx hnm hP hD hS hl hret
  obtain ⟨hx, hb, hml, hown, hts, hK, hA⟩ := id cx
  have hl : lv_has ls 7 [(0, .ref rn), (1, .ref cd), (2, .ref su), (3, .int (nI t)), (4, .int (nI at_))] := hl
  obtain ⟨H, hH⟩ : ∃ H, H = js.heap := ⟨_, rfl⟩
  obtain ⟨locs, hlocs⟩ : ∃ z : List Loc, z = [] := ⟨_, rfl⟩
  have hP : va_P G vwCl [oB cd 0 [.ref d0, .ref d1, .ref d2, .ref d3, .int (nI n)], aI cI d0 24 ops, aI cI d1 24 xs, aI cI d2 24 ys, aI cI d3 24 zs, oB su 6 [.ref u0, .ref u1, .ref u2, .int (nI ob), .int (nI nt)], aI cI u0 48 inp, aI cI u1 72 row, aI cI u2 12 len, oB rn 4 [.ref q0, .ref q1, .ref q2, .int (nI sc), .int (nI oc), .int (nI ic), .int cut, .int ti, .int sl, .int sv], aI cI q0 300 tr, aI cI q1 6 ou, aI cI q2 8 vr] H := by rw [hH]; exact hP
  have hS : va_S jA js.heap H locs := by rw [hH, hlocs]; exact hS
  rw [← hlocs]; rw [show W jp jl je rCX4_valueOf js jm ja jb jt jc js.heap locs 0 0 jQ (F0 jm 0 ls []) = W jp jl je rCX4_valueOf js jm ja jb jt jc H locs 0 0 jQ (F0 jm 0 ls []) by rw [hH]]
  clear hH hlocs
  refine lv_aload_n hx hb dX4_valueOf_0 rfl (lv_at hl 1 rfl) ?_
  refine va_get (C := RX0) (T := TX0) (N := 5) (ci := 0) hx hb hts iX4_valueOf_0 hown hK.1 hP 0 rfl rfl 2 (Nat.le_of_ble_eq_true rfl) (hts _ mX4_valueOf_67) (fun _ h9 => h9) rfl dX4_valueOf_1 ?_
  refine lv_iload hx hb dX4_valueOf_4 (lv_at hl 4 rfl) ?_
  refine k_iald hx hb hK.1 hP 3 0 rfl rfl (by omega) (by decide) dX4_valueOf_6 ?_
  refine lv_istore (lv' := [(5, .int (ys at_)), (0, .ref rn), (1, .ref cd), (2, .ref su), (3, .int (nI t)), (4, .int (nI at_))]) hx hb dX4_valueOf_7 hl (by decide) rfl (fun ls hl => ?_)
  refine lv_aload_n hx hb dX4_valueOf_9 rfl (lv_at hl 2 rfl) ?_
  refine va_get (C := RX0) (T := TX0) (N := 5) (ci := 0) hx hb hts iX4_valueOf_0 hown hK.1 hP 0 rfl rfl 3 (Nat.le_of_ble_eq_true rfl) (hts _ mX4_valueOf_74) (fun _ h9 => h9) rfl dX4_valueOf_10 ?_
  refine lv_iload hx hb dX4_valueOf_13 (lv_at hl 5 rfl) ?_
  refine k_iald hx hb hK.1 hP 4 0 rfl rfl (by omega) (by decide) dX4_valueOf_15 ?_
  refine lv_istore (lv' := [(6, .int (zs at_)), (5, .int (ys at_)), (0, .ref rn), (1, .ref cd), (2, .ref su), (3, .int (nI t)), (4, .int (nI at_))]) hx hb dX4_valueOf_16 hl (by decide) rfl (fun ls hl => ?_)
  refine lv_aload_n hx hb dX4_valueOf_18 rfl (lv_at hl 3 rfl) ?_
  refine va_get (C := RX0) (T := TX0) (N := 5) (ci := 0) hx hb hts iX4_valueOf_0 hown hK.1 hP 0 rfl rfl 0 (Nat.le_of_ble_eq_true rfl) (hts _ mX4_valueOf_64) (fun _ h9 => h9) rfl dX4_valueOf_19 ?_
  refine lv_iload hx hb dX4_valueOf_22 (lv_at hl 6 rfl) ?_
  refine k_iald hx hb hK.1 hP 1 0 rfl rfl (by omega) (by decide) dX4_valueOf_24 ?_
  refine k_topN hop ?_
  rcases (show k = 0 ∨ k = 1 ∨ k = 2 ∨ k = 3 ∨ k = 4 by omega) with rfl | rfl | rfl | rfl | rfl
  · skip
    refine lv_tableOut (tgt := 112) hx hb dX4_valueOf_25 (Or.inl (by decide)) (by decide) ?_
    refine lv_iload hx hb dX4_valueOf_112 (lv_at hl 1 rfl) ?_
    exact hret _ _ _ _ _ () dX4_valueOf_114 (by rw [r_val_0 hop]) hP hD hS
  · skip
    refine lv_tableIn (tgt := 56) (off := 31) hx hb dX4_valueOf_25 (by decide) (by decide) (by decide) (by decide) ?_
    obtain ⟨hy8, hz8⟩ := h123 (by omega)
    refine lv_aload_n hx hb dX4_valueOf_56 rfl (lv_at hl 2 rfl) ?_
    refine va_get (C := RX4) (T := TX4) (N := 10) (ci := 4) hx hb hts iX4_valueOf_4 hown hK.1 hP 9 rfl rfl 2 (Nat.le_of_ble_eq_true rfl) (hts _ mX4_valueOf_18) (fun _ h9 => h9) rfl dX4_valueOf_57 ?_
    refine lv_iload hx hb dX4_valueOf_60 (lv_at hl 1 rfl) ?_
    refine k_topN (hy8.eq (by decide)) ?_
    refine k_iald hx hb hK.1 hP 12 0 rfl rfl (hy8.lt (by decide)) (by decide) dX4_valueOf_62 ?_
    refine lv_aload_n hx hb dX4_valueOf_63 rfl (lv_at hl 2 rfl) ?_
    refine va_get (C := RX4) (T := TX4) (N := 10) (ci := 4) hx hb hts iX4_valueOf_4 hown hK.1 hP 9 rfl rfl 2 (Nat.le_of_ble_eq_true rfl) (hts _ mX4_valueOf_18) (fun _ h9 => h9) rfl dX4_valueOf_64 ?_
    refine lv_iload hx hb dX4_valueOf_67 (lv_at hl 0 rfl) ?_
    refine k_topN (hz8.eq (by decide)) ?_
    refine k_iald hx hb hK.1 hP 12 0 rfl rfl (hz8.lt (by decide)) (by decide) dX4_valueOf_69 ?_
    refine lv_iadd hx hb dX4_valueOf_70 ?_
    exact hret _ _ _ _ _ () dX4_valueOf_71 (by rw [r_val_1 hop]) hP hD hS
  · skip
    refine lv_tableIn (tgt := 72) (off := 47) hx hb dX4_valueOf_25 (by decide) (by decide) (by decide) (by decide) ?_
    obtain ⟨hy8, hz8⟩ := h123 (by omega)
    refine lv_aload_n hx hb dX4_valueOf_72 rfl (lv_at hl 2 rfl) ?_
    refine va_get (C := RX4) (T := TX4) (N := 10) (ci := 4) hx hb hts iX4_valueOf_4 hown hK.1 hP 9 rfl rfl 2 (Nat.le_of_ble_eq_true rfl) (hts _ mX4_valueOf_18) (fun _ h9 => h9) rfl dX4_valueOf_73 ?_
    refine lv_iload hx hb dX4_valueOf_76 (lv_at hl 1 rfl) ?_
    refine k_topN (hy8.eq (by decide)) ?_
    refine k_iald hx hb hK.1 hP 12 0 rfl rfl (hy8.lt (by decide)) (by decide) dX4_valueOf_78 ?_
    refine lv_aload_n hx hb dX4_valueOf_79 rfl (lv_at hl 2 rfl) ?_
    refine va_get (C := RX4) (T := TX4) (N := 10) (ci := 4) hx hb hts iX4_valueOf_4 hown hK.1 hP 9 rfl rfl 2 (Nat.le_of_ble_eq_true rfl) (hts _ mX4_valueOf_18) (fun _ h9 => h9) rfl dX4_valueOf_80 ?_
    refine lv_iload hx hb dX4_valueOf_83 (lv_at hl 0 rfl) ?_
    refine k_topN (hz8.eq (by decide)) ?_
    refine k_iald hx hb hK.1 hP 12 0 rfl rfl (hz8.lt (by decide)) (by decide) dX4_valueOf_85 ?_
    refine lv_isub hx hb dX4_valueOf_86 ?_
    exact hret _ _ _ _ _ () dX4_valueOf_87 (by rw [r_val_2 hop]) hP hD hS
  · skip
    refine lv_tableIn (tgt := 88) (off := 63) hx hb dX4_valueOf_25 (by decide) (by decide) (by decide) (by decide) ?_
    obtain ⟨hy8, hz8⟩ := h123 (by omega)
    refine lv_aload_n hx hb dX4_valueOf_88 rfl (lv_at hl 2 rfl) ?_
    refine va_get (C := RX4) (T := TX4) (N := 10) (ci := 4) hx hb hts iX4_valueOf_4 hown hK.1 hP 9 rfl rfl 2 (Nat.le_of_ble_eq_true rfl) (hts _ mX4_valueOf_18) (fun _ h9 => h9) rfl dX4_valueOf_89 ?_
    refine lv_iload hx hb dX4_valueOf_92 (lv_at hl 1 rfl) ?_
    refine k_topN (hy8.eq (by decide)) ?_
    refine k_iald hx hb hK.1 hP 12 0 rfl rfl (hy8.lt (by decide)) (by decide) dX4_valueOf_94 ?_
    refine lv_aload_n hx hb dX4_valueOf_95 rfl (lv_at hl 2 rfl) ?_
    refine va_get (C := RX4) (T := TX4) (N := 10) (ci := 4) hx hb hts iX4_valueOf_4 hown hK.1 hP 9 rfl rfl 2 (Nat.le_of_ble_eq_true rfl) (hts _ mX4_valueOf_18) (fun _ h9 => h9) rfl dX4_valueOf_96 ?_
    refine lv_iload hx hb dX4_valueOf_99 (lv_at hl 0 rfl) ?_
    refine k_topN (hz8.eq (by decide)) ?_
    refine k_iald hx hb hK.1 hP 12 0 rfl rfl (hz8.lt (by decide)) (by decide) dX4_valueOf_101 ?_
    refine lv_imul hx hb dX4_valueOf_102 ?_
    exact hret _ _ _ _ _ () dX4_valueOf_103 (by rw [r_val_3 hop]) hP hD hS
  · skip
    refine lv_tableIn (tgt := 104) (off := 79) hx hb dX4_valueOf_25 (by decide) (by decide) (by decide) (by decide) ?_
    have hy4 := h4 rfl
    refine lv_aload_n hx hb dX4_valueOf_104 rfl (lv_at hl 4 rfl) ?_
    refine lv_iload_n hx hb dX4_valueOf_105 rfl (lv_at hl 5 rfl) ?_
    refine lv_iload hx hb dX4_valueOf_106 (lv_at hl 1 rfl) ?_
    refine k_topN (hy4.eq (by decide)) ?_
    refine Ki.callV (wr := [oB cd 0 [.ref d0, .ref d1, .ref d2, .ref d3, .int (nI n)], aI cI d0 24 ops, aI cI d1 24 xs, aI cI d2 24 ys, aI cI d3 24 zs, oB rn 4 [.ref q0, .ref q1, .ref q2, .int (nI sc), .int (nI oc), .int (nI ic), .int cut, .int ti, .int sl, .int sv], aI cI q0 300 tr, aI cI q1 6 ou, aI cI q2 8 vr]) (rest := []) (CX6_inputOf jl G cI cZ cJ su u0 u1 u2 ob nt inp row len t (tn (ys at_)) ht (hy4.lt (by decide))) cx hP hD hS hl [5, 6, 7, 8] [0, 1, 2, 3, 4, 9, 10, 11, 12] (ci := 6) (q0 := 0) gX4_valueOf_X6_inputOf hdX6_inputOf rfl rfl rfl ⟨Nat.le_of_ble_eq_true rfl, Nat.le_of_ble_eq_true rfl⟩ rfl rfl (by decide) (by decide) (by decide) dX4_valueOf_108 rfl rfl (Nat.le_of_ble_eq_true rfl) ⟨Nat.le_of_ble_eq_true rfl, Nat.le_of_ble_eq_true rfl⟩ (fun r_1 u H locs hw_2 hP hD hS => ?_)
    have hP : va_P G vwCl [oB cd 0 [.ref d0, .ref d1, .ref d2, .ref d3, .int (nI n)], aI cI d0 24 ops, aI cI d1 24 xs, aI cI d2 24 ys, aI cI d3 24 zs, oB rn 4 [.ref q0, .ref q1, .ref q2, .int (nI sc), .int (nI oc), .int (nI ic), .int cut, .int ti, .int sl, .int sv], aI cI q0 300 tr, aI cI q1 6 ou, aI cI q2 8 vr, oB su 6 [.ref u0, .ref u1, .ref u2, .int (nI ob), .int (nI nt)], aI cI u0 48 inp, aI cI u1 72 row, aI cI u2 12 len] H := hP
    have hD : va_D jA [oB cd 0 [.ref d0, .ref d1, .ref d2, .ref d3, .int (nI n)], aI cI d0 24 ops, aI cI d1 24 xs, aI cI d2 24 ys, aI cI d3 24 zs, oB rn 4 [.ref q0, .ref q1, .ref q2, .int (nI sc), .int (nI oc), .int (nI ic), .int cut, .int ti, .int sl, .int sv], aI cI q0 300 tr, aI cI q1 6 ou, aI cI q2 8 vr, oB su 6 [.ref u0, .ref u1, .ref u2, .int (nI ob), .int (nI nt)], aI cI u0 48 inp, aI cI u1 72 row, aI cI u2 12 len] := hD
    subst hw_2
    obtain ⟨hP, hD⟩ := k_sub (w' := [oB cd 0 [.ref d0, .ref d1, .ref d2, .ref d3, .int (nI n)], aI cI d0 24 ops, aI cI d1 24 xs, aI cI d2 24 ys, aI cI d3 24 zs, oB su 6 [.ref u0, .ref u1, .ref u2, .int (nI ob), .int (nI nt)], aI cI u0 48 inp, aI cI u1 72 row, aI cI u2 12 len, oB rn 4 [.ref q0, .ref q1, .ref q2, .int (nI sc), .int (nI oc), .int (nI ic), .int cut, .int ti, .int sl, .int sv], aI cI q0 300 tr, aI cI q1 6 ou, aI cI q2 8 vr]) hP hD [0, 1, 2, 3, 4, 9, 10, 11, 12, 5, 6, 7, 8] rfl (by decide)
    exact hret _ _ _ _ _ () dX4_valueOf_111 (by rw [r_val_4 hop]) hP hD hS

theorem iX4_act_0 : ∀ w ∈ wsX00, w ∈ wsX4_act := by decide +kernel
theorem iX4_act_4 : ∀ w ∈ wsX40, w ∈ wsX4_act := by decide +kernel
theorem mX4_act_15 : Cond.fieldLink RX4 15 "LineFinder$Run" "outRow" "[I" ∈ wsX4_act := List.mem_of_getElem? (i := 6) rfl
theorem mX4_act_18 : Cond.fieldLink RX4 18 "LineFinder$Run" "variables" "[I" ∈ wsX4_act := List.mem_of_getElem? (i := 3) rfl
theorem mX4_act_25 : Cond.fieldLink RX4 25 "LineFinder$Run" "outCount" "I" ∈ wsX4_act := List.mem_of_getElem? (i := 7) rfl
theorem mX4_act_38 : Cond.fieldLink RX4 38 "LineFinder$Run" "setLine" "I" ∈ wsX4_act := List.mem_of_getElem? (i := 8) rfl
theorem mX4_act_41 : Cond.fieldLink RX4 41 "LineFinder$Run" "setValue" "I" ∈ wsX4_act := List.mem_of_getElem? (i := 9) rfl
theorem mX4_act_61 : Cond.fieldLink RX4 61 "LineFinder$Code" "xs" "[I" ∈ wsX4_act := List.mem_of_getElem? (i := 1) rfl
theorem mX4_act_64 : Cond.fieldLink RX4 64 "LineFinder$Code" "ops" "[I" ∈ wsX4_act := List.mem_of_getElem? (i := 2) rfl
theorem mX4_act_67 : Cond.fieldLink RX4 67 "LineFinder$Code" "ys" "[I" ∈ wsX4_act := List.mem_of_getElem? (i := 4) rfl
theorem mX4_act_74 : Cond.fieldLink RX4 74 "LineFinder$Code" "zs" "[I" ∈ wsX4_act := List.mem_of_getElem? (i := 5) rfl
theorem hdX4_valueOf : yX4_valueOf.cls = RX4 ∧ yX4_valueOf.cls ≠ "java/lang/invoke/MethodHandle" ∧ yX4_valueOf.cls ≠ "java/lang/invoke/VarHandle" ∧ (parseMethodDescriptor yX4_valueOf.desc).map (fun d => d.parameters.length) = some 4 := by decide +kernel
theorem hdX4_decides : yX4_decides.cls = RX4 ∧ yX4_decides.cls ≠ "java/lang/invoke/MethodHandle" ∧ yX4_decides.cls ≠ "java/lang/invoke/VarHandle" ∧ (parseMethodDescriptor yX4_decides.desc).map (fun d => d.parameters.length) = some 1 := by decide +kernel
abbrev rCX4_act : Room := { frames := 2, cells := 0, slots := 0, locals := 48 }
set_option maxHeartbeats 4000000 in
set_option maxRecDepth 100000 in
theorem CX4_act (jl : Launch) (G : va_G) (cI cZ cJ : ClassId) (cd d0 d1 d2 d3 n : Nat) (ops xs ys zs : Fn) (su u0 u1 u2 ob nt : Nat) (inp row len : Fn) (rn q0 q1 q2 sc oc ic : Nat) (cut ti sl sv : Int32) (tr ou vr : Fn) (t l : Nat) (hl24 : l < 24) (ht : t < 12) (hoc : oc < 6) (hok : rowOk (ops l) (xs l) (ys l) (zs l)) : Ki jl yX4_act wsX4_act rCX4_act G cI cZ cJ [.ref rn, .ref cd, .ref su, .int (nI t), .int (nI l)] [oB cd 0 [.ref d0, .ref d1, .ref d2, .ref d3, .int (nI n)], aI cI d0 24 ops, aI cI d1 24 xs, aI cI d2 24 ys, aI cI d3 24 zs, oB su 6 [.ref u0, .ref u1, .ref u2, .int (nI ob), .int (nI nt)], aI cI u0 48 inp, aI cI u1 72 row, aI cI u2 12 len, oB rn 4 [.ref q0, .ref q1, .ref q2, .int (nI sc), .int (nI oc), .int (nI ic), .int cut, .int ti, .int sl, .int sv], aI cI q0 300 tr, aI cI q1 6 ou, aI cI q2 8 vr] (S := Nat × Nat × Nat × Fn × Fn) (fun (r : Int32) (u : Nat × Nat × Nat × Fn × Fn) => match u with | (l1, oc1, ic1, vr1, ou1) => r = nI l1 ∧ (l1, oc1, ic1, vr1, ou1) = r_act ops xs ys zs (fun y => inp (t * 4 + y)) ti sl sv l oc ic vr ou ∧ l1 ≤ 24 ∧ oc1 ≤ oc + 1 ∧ ic1 ≤ ic + 1) (fun (u : Nat × Nat × Nat × Fn × Fn) => match u with | (l1, oc1, ic1, vr1, ou1) => [oB cd 0 [.ref d0, .ref d1, .ref d2, .ref d3, .int (nI n)], aI cI d0 24 ops, aI cI d1 24 xs, aI cI d2 24 ys, aI cI d3 24 zs, oB su 6 [.ref u0, .ref u1, .ref u2, .int (nI ob), .int (nI nt)], aI cI u0 48 inp, aI cI u1 72 row, aI cI u2 12 len, oB rn 4 [.ref q0, .ref q1, .ref q2, .int (nI sc), .int (nI oc1), .int (nI ic1), .int cut, .int ti, .int sl, .int sv], aI cI q0 300 tr, aI cI q1 6 ou1, aI cI q2 8 vr1]) := by
  refine Ki.of (cc := cX4_act) (maxL := 6) (by decide +kernel) rfl (Nat.le_of_ble_eq_true rfl) ?_
  intro jp je js jm ja jb jt jc jA jQ ls cx hnm hP hD hS hl hret
  obtain ⟨hx, hb, hml, hown, hts, hK, hA⟩ := id cx
  have hl : lv_has ls 6 [(0, .ref rn), (1, .ref cd), (2, .ref su), (3, .int (nI t)), (4, .int (nI l))] := hl
  obtain ⟨H, hH⟩ : ∃ H, H = js.heap := ⟨_, rfl⟩
  obtain ⟨locs, hlocs⟩ : ∃ z : List Loc, z = [] := ⟨_, rfl⟩
  have hP : va_P G vwCl [oB cd 0 [.ref d0, .ref d1, .ref d2, .ref d3, .int (nI n)], aI cI d0 24 ops, aI cI d1 24 xs, aI cI d2 24 ys, aI cI d3 24 zs, oB su 6 [.ref u0, .ref u1, .ref u2, .int (nI ob), .int (nI nt)], aI cI u0 48 inp, aI cI u1 72 row, aI cI u2 12 len, oB rn 4 [.ref q0, .ref q1, .ref q2, .int (nI sc), .int (nI oc), .int (nI ic), .int cut, .int ti, .int sl, .int sv], aI cI q0 300 tr, aI cI q1 6 ou, aI cI q2 8 vr] H := by rw [hH]; exact hP
  have hS : va_S jA js.heap H locs := by rw [hH, hlocs]; exact hS
  rw [← hlocs]; rw [show W jp jl je rCX4_act js jm ja jb jt jc js.heap locs 0 0 jQ (F0 jm 0 ls []) = W jp jl je rCX4_act js jm ja jb jt jc H locs 0 0 jQ (F0 jm 0 ls []) by rw [hH]]
  clear hH hlocs
  obtain ⟨k, hk8, hop, hx8, h123, h4, h5, h6⟩ := hok
  refine lv_aload_n hx hb dX4_act_0 rfl (lv_at hl 1 rfl) ?_
  refine va_get (C := RX0) (T := TX0) (N := 5) (ci := 0) hx hb hts iX4_act_0 hown hK.1 hP 0 rfl rfl 1 (Nat.le_of_ble_eq_true rfl) (hts _ mX4_act_61) (fun _ h9 => h9) rfl dX4_act_1 ?_
  refine lv_iload hx hb dX4_act_4 (lv_at hl 4 rfl) ?_
  refine k_iald hx hb hK.1 hP 2 0 rfl rfl (by omega) (by decide) dX4_act_6 ?_
  refine lv_istore (lv' := [(5, .int (xs l)), (0, .ref rn), (1, .ref cd), (2, .ref su), (3, .int (nI t)), (4, .int (nI l))]) hx hb dX4_act_7 hl (by decide) rfl (fun ls hl => ?_)
  refine lv_aload_n hx hb dX4_act_9 rfl (lv_at hl 2 rfl) ?_
  refine va_get (C := RX0) (T := TX0) (N := 5) (ci := 0) hx hb hts iX4_act_0 hown hK.1 hP 0 rfl rfl 0 (Nat.le_of_ble_eq_true rfl) (hts _ mX4_act_64) (fun _ h9 => h9) rfl dX4_act_10 ?_
  refine lv_iload hx hb dX4_act_13 (lv_at hl 5 rfl) ?_
  refine k_iald hx hb hK.1 hP 1 0 rfl rfl (by omega) (by decide) dX4_act_15 ?_
  refine k_topN hop ?_
  rcases (show k < 5 ∨ k = 5 ∨ k = 6 ∨ k = 7 by omega) with hk5 | rfl | rfl | rfl
  · skip
    refine lv_tableOut (tgt := 132) hx hb dX4_act_16 (Or.inl (by rw [nI_toInt (by omega)]; omega)) (by decide) ?_
    have hx8 := hx8 (by omega)
    refine lv_aload_n hx hb dX4_act_132 rfl (lv_at hl 1 rfl) ?_
    refine va_get (C := RX4) (T := TX4) (N := 10) (ci := 4) hx hb hts iX4_act_4 hown hK.1 hP 9 rfl rfl 2 (Nat.le_of_ble_eq_true rfl) (hts _ mX4_act_18) (fun _ h9 => h9) rfl dX4_act_133 ?_
    refine lv_iload hx hb dX4_act_136 (lv_at hl 0 rfl) ?_
    refine k_topN (hx8.eq (by decide)) ?_
    refine lv_iload hx hb dX4_act_138 (lv_at hl 5 rfl) ?_
    refine lv_aload_n hx hb dX4_act_140 rfl (lv_at hl 1 rfl) ?_
    refine va_get (C := RX4) (T := TX4) (N := 10) (ci := 4) hx hb hts iX4_act_4 hown hK.1 hP 9 rfl rfl 8 (Nat.le_of_ble_eq_true rfl) (hts _ mX4_act_38) (fun _ h9 => h9) rfl dX4_act_141 ?_
    refine lv_icmp_ne (tgt := 154) hx hb dX4_act_144 (by decide) (fun c_1 => ?_) (fun c_1 => ?_)
    · skip
      refine lv_aload_n hx hb dX4_act_154 rfl (lv_at hl 1 rfl) ?_
      refine lv_aload_n hx hb dX4_act_155 rfl (lv_at hl 2 rfl) ?_
      refine lv_aload_n hx hb dX4_act_156 rfl (lv_at hl 3 rfl) ?_
      refine lv_iload_n hx hb dX4_act_157 rfl (lv_at hl 4 rfl) ?_
      refine lv_iload hx hb dX4_act_158 (lv_at hl 5 rfl) ?_
      refine Ki.callV (wr := []) (rest := [.int (nI (tn (xs l))), .ref q2]) (CX4_valueOf jl G cI cZ cJ cd d0 d1 d2 d3 n ops xs ys zs su u0 u1 u2 ob nt inp row len rn q0 q1 q2 sc oc ic cut ti sl sv tr ou vr t l hl24 ht k hk5 hop h123 h4) cx hP hD hS hl [0, 1, 2, 3, 4, 5, 6, 7, 8, 9, 10, 11, 12] [] (ci := 4) (q0 := 9) gX4_act_X4_valueOf hdX4_valueOf rfl rfl rfl ⟨Nat.le_of_ble_eq_true rfl, Nat.le_of_ble_eq_true rfl⟩ rfl rfl (by decide) (by decide) (by decide) dX4_act_160 rfl rfl (Nat.le_of_ble_eq_true rfl) ⟨Nat.le_of_ble_eq_true rfl, Nat.le_of_ble_eq_true rfl⟩ (fun r_2 u H locs hw_3 hP hD hS => ?_)
      have hP : va_P G vwCl [oB cd 0 [.ref d0, .ref d1, .ref d2, .ref d3, .int (nI n)], aI cI d0 24 ops, aI cI d1 24 xs, aI cI d2 24 ys, aI cI d3 24 zs, oB su 6 [.ref u0, .ref u1, .ref u2, .int (nI ob), .int (nI nt)], aI cI u0 48 inp, aI cI u1 72 row, aI cI u2 12 len, oB rn 4 [.ref q0, .ref q1, .ref q2, .int (nI sc), .int (nI oc), .int (nI ic), .int cut, .int ti, .int sl, .int sv], aI cI q0 300 tr, aI cI q1 6 ou, aI cI q2 8 vr] H := hP
      have hD : va_D jA [oB cd 0 [.ref d0, .ref d1, .ref d2, .ref d3, .int (nI n)], aI cI d0 24 ops, aI cI d1 24 xs, aI cI d2 24 ys, aI cI d3 24 zs, oB su 6 [.ref u0, .ref u1, .ref u2, .int (nI ob), .int (nI nt)], aI cI u0 48 inp, aI cI u1 72 row, aI cI u2 12 len, oB rn 4 [.ref q0, .ref q1, .ref q2, .int (nI sc), .int (nI oc), .int (nI ic), .int cut, .int ti, .int sl, .int sv], aI cI q0 300 tr, aI cI q1 6 ou, aI cI q2 8 vr] := hD
      subst hw_3
      refine k_iast hx hb hK.1 hP hD hS 12 0 rfl rfl (hx8.lt (by decide)) (by decide) dX4_act_163 (fun H locs hP hD hS => ?_)
      have hP : va_P G vwCl [oB cd 0 [.ref d0, .ref d1, .ref d2, .ref d3, .int (nI n)], aI cI d0 24 ops, aI cI d1 24 xs, aI cI d2 24 ys, aI cI d3 24 zs, oB su 6 [.ref u0, .ref u1, .ref u2, .int (nI ob), .int (nI nt)], aI cI u0 48 inp, aI cI u1 72 row, aI cI u2 12 len, oB rn 4 [.ref q0, .ref q1, .ref q2, .int (nI sc), .int (nI oc), .int (nI ic), .int cut, .int ti, .int sl, .int sv], aI cI q0 300 tr, aI cI q1 6 ou, aI cI q2 8 (upd vr (tn (xs l)) (r_val ops ys zs (fun y => inp (t * 4 + y)) vr l))] H := hP
      have hD : va_D jA [oB cd 0 [.ref d0, .ref d1, .ref d2, .ref d3, .int (nI n)], aI cI d0 24 ops, aI cI d1 24 xs, aI cI d2 24 ys, aI cI d3 24 zs, oB su 6 [.ref u0, .ref u1, .ref u2, .int (nI ob), .int (nI nt)], aI cI u0 48 inp, aI cI u1 72 row, aI cI u2 12 len, oB rn 4 [.ref q0, .ref q1, .ref q2, .int (nI sc), .int (nI oc), .int (nI ic), .int cut, .int ti, .int sl, .int sv], aI cI q0 300 tr, aI cI q1 6 ou, aI cI q2 8 (upd vr (tn (xs l)) (r_val ops ys zs (fun y => inp (t * 4 + y)) vr l))] := hD
      refine lv_iload hx hb dX4_act_164 (lv_at hl 5 rfl) ?_
      refine lv_iconst (v := nI 1) hx hb dX4_act_166 (by decide) ?_
      refine k_iadd hx hb dX4_act_167 ?_
      exact hret _ _ _ _ _ (l + 1, oc, ic, upd vr (tn (xs l)) (r_val ops ys zs (fun y => inp (t * 4 + y)) vr l), ou) dX4_act_168 (⟨rfl, by rw [r_act_w hop hk5, if_neg c_1], by omega, by omega, by omega⟩) hP hD hS
    · skip
      refine lv_aload_n hx hb dX4_act_147 rfl (lv_at hl 1 rfl) ?_
      refine va_get (C := RX4) (T := TX4) (N := 10) (ci := 4) hx hb hts iX4_act_4 hown hK.1 hP 9 rfl rfl 9 (Nat.le_of_ble_eq_true rfl) (hts _ mX4_act_41) (fun _ h9 => h9) rfl dX4_act_148 ?_
      refine lv_goto (tgt := 163) hx hb dX4_act_151 (by decide) ?_
      refine k_iast hx hb hK.1 hP hD hS 12 0 rfl rfl (hx8.lt (by decide)) (by decide) dX4_act_163 (fun H locs hP hD hS => ?_)
      have hP : va_P G vwCl [oB cd 0 [.ref d0, .ref d1, .ref d2, .ref d3, .int (nI n)], aI cI d0 24 ops, aI cI d1 24 xs, aI cI d2 24 ys, aI cI d3 24 zs, oB su 6 [.ref u0, .ref u1, .ref u2, .int (nI ob), .int (nI nt)], aI cI u0 48 inp, aI cI u1 72 row, aI cI u2 12 len, oB rn 4 [.ref q0, .ref q1, .ref q2, .int (nI sc), .int (nI oc), .int (nI ic), .int cut, .int ti, .int sl, .int sv], aI cI q0 300 tr, aI cI q1 6 ou, aI cI q2 8 (upd vr (tn (xs l)) sv)] H := hP
      have hD : va_D jA [oB cd 0 [.ref d0, .ref d1, .ref d2, .ref d3, .int (nI n)], aI cI d0 24 ops, aI cI d1 24 xs, aI cI d2 24 ys, aI cI d3 24 zs, oB su 6 [.ref u0, .ref u1, .ref u2, .int (nI ob), .int (nI nt)], aI cI u0 48 inp, aI cI u1 72 row, aI cI u2 12 len, oB rn 4 [.ref q0, .ref q1, .ref q2, .int (nI sc), .int (nI oc), .int (nI ic), .int cut, .int ti, .int sl, .int sv], aI cI q0 300 tr, aI cI q1 6 ou, aI cI q2 8 (upd vr (tn (xs l)) sv)] := hD
      refine lv_iload hx hb dX4_act_164 (lv_at hl 5 rfl) ?_
      refine lv_iconst (v := nI 1) hx hb dX4_act_166 (by decide) ?_
      refine k_iadd hx hb dX4_act_167 ?_
      exact hret _ _ _ _ _ (l + 1, oc, ic, upd vr (tn (xs l)) sv, ou) dX4_act_168 (⟨rfl, by rw [r_act_w hop hk5, if_pos c_1], by omega, by omega, by omega⟩) hP hD hS
  · skip
    refine lv_tableIn (tgt := 44) (off := 28) hx hb dX4_act_16 (by decide) (by decide) (by decide) (by decide) ?_
    have hx8 := hx8 (by omega)
    obtain ⟨hy8, hz25⟩ := h5 rfl
    refine lv_aload_n hx hb dX4_act_44 rfl (lv_at hl 1 rfl) ?_
    refine lv_aload_n hx hb dX4_act_45 rfl (lv_at hl 1 rfl) ?_
    refine va_get (C := RX4) (T := TX4) (N := 10) (ci := 4) hx hb hts iX4_act_4 hown hK.1 hP 9 rfl rfl 2 (Nat.le_of_ble_eq_true rfl) (hts _ mX4_act_18) (fun _ h9 => h9) rfl dX4_act_46 ?_
    refine lv_iload hx hb dX4_act_49 (lv_at hl 0 rfl) ?_
    refine k_topN (hx8.eq (by decide)) ?_
    refine k_iald hx hb hK.1 hP 12 0 rfl rfl (hx8.lt (by decide)) (by decide) dX4_act_51 ?_
    refine lv_aload_n hx hb dX4_act_52 rfl (lv_at hl 1 rfl) ?_
    refine va_get (C := RX4) (T := TX4) (N := 10) (ci := 4) hx hb hts iX4_act_4 hown hK.1 hP 9 rfl rfl 2 (Nat.le_of_ble_eq_true rfl) (hts _ mX4_act_18) (fun _ h9 => h9) rfl dX4_act_53 ?_
    refine lv_aload_n hx hb dX4_act_56 rfl (lv_at hl 2 rfl) ?_
    refine va_get (C := RX0) (T := TX0) (N := 5) (ci := 0) hx hb hts iX4_act_0 hown hK.1 hP 0 rfl rfl 2 (Nat.le_of_ble_eq_true rfl) (hts _ mX4_act_67) (fun _ h9 => h9) rfl dX4_act_57 ?_
    refine lv_iload hx hb dX4_act_60 (lv_at hl 5 rfl) ?_
    refine k_iald hx hb hK.1 hP 3 0 rfl rfl (by omega) (by decide) dX4_act_62 ?_
    refine k_topN (hy8.eq (by decide)) ?_
    refine k_iald hx hb hK.1 hP 12 0 rfl rfl (hy8.lt (by decide)) (by decide) dX4_act_63 ?_
    refine lv_icmp_ge (tgt := 71) hx hb dX4_act_64 (by decide) (fun c_4 => ?_) (fun c_4 => ?_)
    · skip
      refine lv_iconst (v := nI 0) hx hb dX4_act_71 (by decide) ?_
      refine Ki.callV (wr := [oB cd 0 [.ref d0, .ref d1, .ref d2, .ref d3, .int (nI n)], aI cI d0 24 ops, aI cI d1 24 xs, aI cI d2 24 ys, aI cI d3 24 zs, oB su 6 [.ref u0, .ref u1, .ref u2, .int (nI ob), .int (nI nt)], aI cI u0 48 inp, aI cI u1 72 row, aI cI u2 12 len]) (rest := []) (CX4_decides jl G cI cZ cJ rn q0 q1 q2 sc oc ic cut ti sl sv tr ou vr false) cx hP hD hS hl [9, 10, 11, 12] [0, 1, 2, 3, 4, 5, 6, 7, 8] (ci := 4) (q0 := 0) gX4_act_X4_decides hdX4_decides rfl rfl rfl ⟨Nat.le_of_ble_eq_true rfl, Nat.le_of_ble_eq_true rfl⟩ rfl rfl (by decide) (by decide) (by decide) dX4_act_72 rfl rfl (Nat.le_of_ble_eq_true rfl) ⟨Nat.le_of_ble_eq_true rfl, Nat.le_of_ble_eq_true rfl⟩ (fun r_5 u H locs hw_6 hP hD hS => ?_)
      have hP : va_P G vwCl [oB cd 0 [.ref d0, .ref d1, .ref d2, .ref d3, .int (nI n)], aI cI d0 24 ops, aI cI d1 24 xs, aI cI d2 24 ys, aI cI d3 24 zs, oB su 6 [.ref u0, .ref u1, .ref u2, .int (nI ob), .int (nI nt)], aI cI u0 48 inp, aI cI u1 72 row, aI cI u2 12 len, oB rn 4 [.ref q0, .ref q1, .ref q2, .int (nI sc), .int (nI oc), .int (nI (ic + 1)), .int cut, .int ti, .int sl, .int sv], aI cI q0 300 tr, aI cI q1 6 ou, aI cI q2 8 vr] H := hP
      have hD : va_D jA [oB cd 0 [.ref d0, .ref d1, .ref d2, .ref d3, .int (nI n)], aI cI d0 24 ops, aI cI d1 24 xs, aI cI d2 24 ys, aI cI d3 24 zs, oB su 6 [.ref u0, .ref u1, .ref u2, .int (nI ob), .int (nI nt)], aI cI u0 48 inp, aI cI u1 72 row, aI cI u2 12 len, oB rn 4 [.ref q0, .ref q1, .ref q2, .int (nI sc), .int (nI oc), .int (nI (ic + 1)), .int cut, .int ti, .int sl, .int sv], aI cI q0 300 tr, aI cI q1 6 ou, aI cI q2 8 vr] := hD
      rcases Bool.eq_false_or_eq_true (false != decide (nI ic = ti)) with hq | hq
      · skip
        rw [hq] at hw_6
        subst hw_6
        refine k_if_eq_f (tgt := 88) hx hb dX4_act_75 (by decide) (by decide) ?_
        refine lv_aload_n hx hb dX4_act_78 rfl (lv_at hl 2 rfl) ?_
        refine va_get (C := RX0) (T := TX0) (N := 5) (ci := 0) hx hb hts iX4_act_0 hown hK.1 hP 0 rfl rfl 3 (Nat.le_of_ble_eq_true rfl) (hts _ mX4_act_74) (fun _ h9 => h9) rfl dX4_act_79 ?_
        refine lv_iload hx hb dX4_act_82 (lv_at hl 5 rfl) ?_
        refine k_iald hx hb hK.1 hP 4 0 rfl rfl (by omega) (by decide) dX4_act_84 ?_
        refine k_topN (hz25.eq (by decide)) ?_
        refine lv_goto (tgt := 92) hx hb dX4_act_85 (by decide) ?_
        exact hret _ _ _ _ _ (tn (zs l), oc, ic + 1, vr, ou) dX4_act_92 (⟨rfl, by rw [r_act_5 hop, decide_eq_false (Int32.not_lt.mpr c_4), hq]; rfl, by have := hz25.lt (by decide); omega, by omega, by omega⟩) hP hD hS
      · skip
        rw [hq] at hw_6
        subst hw_6
        refine k_if_eq_t (tgt := 88) hx hb dX4_act_75 (by decide) (by decide) ?_
        refine lv_iload hx hb dX4_act_88 (lv_at hl 5 rfl) ?_
        refine lv_iconst (v := nI 1) hx hb dX4_act_90 (by decide) ?_
        refine k_iadd hx hb dX4_act_91 ?_
        exact hret _ _ _ _ _ (l + 1, oc, ic + 1, vr, ou) dX4_act_92 (⟨rfl, by rw [r_act_5 hop, decide_eq_false (Int32.not_lt.mpr c_4), hq]; rfl, by omega, by omega, by omega⟩) hP hD hS
    · skip
      refine lv_iconst (v := nI 1) hx hb dX4_act_67 (by decide) ?_
      refine lv_goto (tgt := 72) hx hb dX4_act_68 (by decide) ?_
      refine Ki.callV (wr := [oB cd 0 [.ref d0, .ref d1, .ref d2, .ref d3, .int (nI n)], aI cI d0 24 ops, aI cI d1 24 xs, aI cI d2 24 ys, aI cI d3 24 zs, oB su 6 [.ref u0, .ref u1, .ref u2, .int (nI ob), .int (nI nt)], aI cI u0 48 inp, aI cI u1 72 row, aI cI u2 12 len]) (rest := []) (CX4_decides jl G cI cZ cJ rn q0 q1 q2 sc oc ic cut ti sl sv tr ou vr true) cx hP hD hS hl [9, 10, 11, 12] [0, 1, 2, 3, 4, 5, 6, 7, 8] (ci := 4) (q0 := 0) gX4_act_X4_decides hdX4_decides rfl rfl rfl ⟨Nat.le_of_ble_eq_true rfl, Nat.le_of_ble_eq_true rfl⟩ rfl rfl (by decide) (by decide) (by decide) dX4_act_72 rfl rfl (Nat.le_of_ble_eq_true rfl) ⟨Nat.le_of_ble_eq_true rfl, Nat.le_of_ble_eq_true rfl⟩ (fun r_9 u H locs hw_10 hP hD hS => ?_)
      have hP : va_P G vwCl [oB cd 0 [.ref d0, .ref d1, .ref d2, .ref d3, .int (nI n)], aI cI d0 24 ops, aI cI d1 24 xs, aI cI d2 24 ys, aI cI d3 24 zs, oB su 6 [.ref u0, .ref u1, .ref u2, .int (nI ob), .int (nI nt)], aI cI u0 48 inp, aI cI u1 72 row, aI cI u2 12 len, oB rn 4 [.ref q0, .ref q1, .ref q2, .int (nI sc), .int (nI oc), .int (nI (ic + 1)), .int cut, .int ti, .int sl, .int sv], aI cI q0 300 tr, aI cI q1 6 ou, aI cI q2 8 vr] H := hP
      have hD : va_D jA [oB cd 0 [.ref d0, .ref d1, .ref d2, .ref d3, .int (nI n)], aI cI d0 24 ops, aI cI d1 24 xs, aI cI d2 24 ys, aI cI d3 24 zs, oB su 6 [.ref u0, .ref u1, .ref u2, .int (nI ob), .int (nI nt)], aI cI u0 48 inp, aI cI u1 72 row, aI cI u2 12 len, oB rn 4 [.ref q0, .ref q1, .ref q2, .int (nI sc), .int (nI oc), .int (nI (ic + 1)), .int cut, .int ti, .int sl, .int sv], aI cI q0 300 tr, aI cI q1 6 ou, aI cI q2 8 vr] := hD
      rcases Bool.eq_false_or_eq_true (true != decide (nI ic = ti)) with hq | hq
      · skip
        rw [hq] at hw_10
        subst hw_10
        refine k_if_eq_f (tgt := 88) hx hb dX4_act_75 (by decide) (by decide) ?_
        refine lv_aload_n hx hb dX4_act_78 rfl (lv_at hl 2 rfl) ?_
        refine va_get (C := RX0) (T := TX0) (N := 5) (ci := 0) hx hb hts iX4_act_0 hown hK.1 hP 0 rfl rfl 3 (Nat.le_of_ble_eq_true rfl) (hts _ mX4_act_74) (fun _ h9 => h9) rfl dX4_act_79 ?_
        refine lv_iload hx hb dX4_act_82 (lv_at hl 5 rfl) ?_
        refine k_iald hx hb hK.1 hP 4 0 rfl rfl (by omega) (by decide) dX4_act_84 ?_
        refine k_topN (hz25.eq (by decide)) ?_
        refine lv_goto (tgt := 92) hx hb dX4_act_85 (by decide) ?_
        exact hret _ _ _ _ _ (tn (zs l), oc, ic + 1, vr, ou) dX4_act_92 (⟨rfl, by rw [r_act_5 hop, decide_eq_true (Int32.not_le.mp c_4), hq]; rfl, by have := hz25.lt (by decide); omega, by omega, by omega⟩) hP hD hS
      · skip
        rw [hq] at hw_10
        subst hw_10
        refine k_if_eq_t (tgt := 88) hx hb dX4_act_75 (by decide) (by decide) ?_
        refine lv_iload hx hb dX4_act_88 (lv_at hl 5 rfl) ?_
        refine lv_iconst (v := nI 1) hx hb dX4_act_90 (by decide) ?_
        refine k_iadd hx hb dX4_act_91 ?_
        exact hret _ _ _ _ _ (l + 1, oc, ic + 1, vr, ou) dX4_act_92 (⟨rfl, by rw [r_act_5 hop, decide_eq_true (Int32.not_le.mp c_4), hq]; rfl, by omega, by omega, by omega⟩) hP hD hS
  · skip
    refine lv_tableIn (tgt := 93) (off := 77) hx hb dX4_act_16 (by decide) (by decide) (by decide) (by decide) ?_
    have hz25 := h6 rfl
    refine lv_aload_n hx hb dX4_act_93 rfl (lv_at hl 2 rfl) ?_
    refine va_get (C := RX0) (T := TX0) (N := 5) (ci := 0) hx hb hts iX4_act_0 hown hK.1 hP 0 rfl rfl 3 (Nat.le_of_ble_eq_true rfl) (hts _ mX4_act_74) (fun _ h9 => h9) rfl dX4_act_94 ?_
    refine lv_iload hx hb dX4_act_97 (lv_at hl 5 rfl) ?_
    refine k_iald hx hb hK.1 hP 4 0 rfl rfl (by omega) (by decide) dX4_act_99 ?_
    refine k_topN (hz25.eq (by decide)) ?_
    exact hret _ _ _ _ _ (tn (zs l), oc, ic, vr, ou) dX4_act_100 (⟨rfl, by rw [r_act_6 hop], by have := hz25.lt (by decide); omega, by omega, by omega⟩) hP hD hS
  · skip
    refine lv_tableIn (tgt := 101) (off := 85) hx hb dX4_act_16 (by decide) (by decide) (by decide) (by decide) ?_
    have hx8 := hx8 (by omega)
    refine lv_aload_n hx hb dX4_act_101 rfl (lv_at hl 1 rfl) ?_
    refine va_get (C := RX4) (T := TX4) (N := 10) (ci := 4) hx hb hts iX4_act_4 hown hK.1 hP 9 rfl rfl 1 (Nat.le_of_ble_eq_true rfl) (hts _ mX4_act_15) (fun _ h9 => h9) rfl dX4_act_102 ?_
    refine lv_aload_n hx hb dX4_act_105 rfl (lv_at hl 1 rfl) ?_
    refine va_get (C := RX4) (T := TX4) (N := 10) (ci := 4) hx hb hts iX4_act_4 hown hK.1 hP 9 rfl rfl 4 (Nat.le_of_ble_eq_true rfl) (hts _ mX4_act_25) (fun _ h9 => h9) rfl dX4_act_106 ?_
    refine lv_aload_n hx hb dX4_act_109 rfl (lv_at hl 1 rfl) ?_
    refine va_get (C := RX4) (T := TX4) (N := 10) (ci := 4) hx hb hts iX4_act_4 hown hK.1 hP 9 rfl rfl 2 (Nat.le_of_ble_eq_true rfl) (hts _ mX4_act_18) (fun _ h9 => h9) rfl dX4_act_110 ?_
    refine lv_iload hx hb dX4_act_113 (lv_at hl 0 rfl) ?_
    refine k_topN (hx8.eq (by decide)) ?_
    refine k_iald hx hb hK.1 hP 12 0 rfl rfl (hx8.lt (by decide)) (by decide) dX4_act_115 ?_
    refine k_iast hx hb hK.1 hP hD hS 11 0 rfl rfl (by omega) (by decide) dX4_act_116 (fun H locs hP hD hS => ?_)
    have hP : va_P G vwCl [oB cd 0 [.ref d0, .ref d1, .ref d2, .ref d3, .int (nI n)], aI cI d0 24 ops, aI cI d1 24 xs, aI cI d2 24 ys, aI cI d3 24 zs, oB su 6 [.ref u0, .ref u1, .ref u2, .int (nI ob), .int (nI nt)], aI cI u0 48 inp, aI cI u1 72 row, aI cI u2 12 len, oB rn 4 [.ref q0, .ref q1, .ref q2, .int (nI sc), .int (nI oc), .int (nI ic), .int cut, .int ti, .int sl, .int sv], aI cI q0 300 tr, aI cI q1 6 (upd ou oc (vr (tn (xs l)))), aI cI q2 8 vr] H := hP
    have hD : va_D jA [oB cd 0 [.ref d0, .ref d1, .ref d2, .ref d3, .int (nI n)], aI cI d0 24 ops, aI cI d1 24 xs, aI cI d2 24 ys, aI cI d3 24 zs, oB su 6 [.ref u0, .ref u1, .ref u2, .int (nI ob), .int (nI nt)], aI cI u0 48 inp, aI cI u1 72 row, aI cI u2 12 len, oB rn 4 [.ref q0, .ref q1, .ref q2, .int (nI sc), .int (nI oc), .int (nI ic), .int cut, .int ti, .int sl, .int sv], aI cI q0 300 tr, aI cI q1 6 (upd ou oc (vr (tn (xs l)))), aI cI q2 8 vr] := hD
    refine lv_aload_n hx hb dX4_act_117 rfl (lv_at hl 1 rfl) ?_
    refine lv_dup hx hb dX4_act_118 rfl ?_
    refine va_get (C := RX4) (T := TX4) (N := 10) (ci := 4) hx hb hts iX4_act_4 hown hK.1 hP 9 rfl rfl 4 (Nat.le_of_ble_eq_true rfl) (hts _ mX4_act_25) (fun _ h9 => h9) rfl dX4_act_119 ?_
    refine lv_iconst (v := nI 1) hx hb dX4_act_122 (by decide) ?_
    refine k_iadd hx hb dX4_act_123 ?_
    refine va_put (C := RX4) (T := TX4) (N := 10) (ci := 4) (v := .int (nI (oc + 1))) (ty := tyX4 4) hx hb hts iX4_act_4 tyX4 tyX4_ok nmX4 hown hK.1 hP hD hS 9 rfl rfl 4 (Nat.le_of_ble_eq_true rfl) (hts _ mX4_act_25) (fun _ h9 => h9) rfl (tyX4_ok 4 (Nat.le_of_ble_eq_true rfl)) (rfl) (rfl) (Nat.le_of_ble_eq_true rfl) dX4_act_124 (fun H locs hP hD hS => ?_)
    have hP : va_P G vwCl [oB cd 0 [.ref d0, .ref d1, .ref d2, .ref d3, .int (nI n)], aI cI d0 24 ops, aI cI d1 24 xs, aI cI d2 24 ys, aI cI d3 24 zs, oB su 6 [.ref u0, .ref u1, .ref u2, .int (nI ob), .int (nI nt)], aI cI u0 48 inp, aI cI u1 72 row, aI cI u2 12 len, oB rn 4 [.ref q0, .ref q1, .ref q2, .int (nI sc), .int (nI (oc + 1)), .int (nI ic), .int cut, .int ti, .int sl, .int sv], aI cI q0 300 tr, aI cI q1 6 (upd ou oc (vr (tn (xs l)))), aI cI q2 8 vr] H := hP
    have hD : va_D jA [oB cd 0 [.ref d0, .ref d1, .ref d2, .ref d3, .int (nI n)], aI cI d0 24 ops, aI cI d1 24 xs, aI cI d2 24 ys, aI cI d3 24 zs, oB su 6 [.ref u0, .ref u1, .ref u2, .int (nI ob), .int (nI nt)], aI cI u0 48 inp, aI cI u1 72 row, aI cI u2 12 len, oB rn 4 [.ref q0, .ref q1, .ref q2, .int (nI sc), .int (nI (oc + 1)), .int (nI ic), .int cut, .int ti, .int sl, .int sv], aI cI q0 300 tr, aI cI q1 6 (upd ou oc (vr (tn (xs l)))), aI cI q2 8 vr] := hD
    refine lv_iload hx hb dX4_act_127 (lv_at hl 5 rfl) ?_
    refine lv_iconst (v := nI 1) hx hb dX4_act_129 (by decide) ?_
    refine k_iadd hx hb dX4_act_130 ?_
    exact hret _ _ _ _ _ (l + 1, oc + 1, ic, vr, upd ou oc (vr (tn (xs l)))) dX4_act_131 (⟨rfl, by rw [r_act_7 hop], by omega, by omega, by omega⟩) hP hD hS

theorem iX4_go_4 : ∀ w ∈ wsX40, w ∈ wsX4_go := by decide +kernel
theorem mX4_go_9 : Cond.fieldLink RX4 9 "LineFinder$Run" "trace" "[I" ∈ wsX4_go := List.mem_of_getElem? (i := 5) rfl
theorem mX4_go_18 : Cond.fieldLink RX4 18 "LineFinder$Run" "variables" "[I" ∈ wsX4_go := List.mem_of_getElem? (i := 4) rfl
theorem mX4_go_21 : Cond.fieldLink RX4 21 "LineFinder$Run" "stepCount" "I" ∈ wsX4_go := List.mem_of_getElem? (i := 1) rfl
theorem mX4_go_25 : Cond.fieldLink RX4 25 "LineFinder$Run" "outCount" "I" ∈ wsX4_go := List.mem_of_getElem? (i := 2) rfl
theorem mX4_go_28 : Cond.fieldLink RX4 28 "LineFinder$Run" "ifCount" "I" ∈ wsX4_go := List.mem_of_getElem? (i := 3) rfl
theorem mX4_go_31 : Cond.fieldLink RX4 31 "LineFinder$Run" "wasCut" "Z" ∈ wsX4_go := List.mem_of_getElem? (i := 6) rfl
theorem hdX4_goesOn : yX4_goesOn.cls = RX4 ∧ yX4_goesOn.cls ≠ "java/lang/invoke/MethodHandle" ∧ yX4_goesOn.cls ≠ "java/lang/invoke/VarHandle" ∧ (parseMethodDescriptor yX4_goesOn.desc).map (fun d => d.parameters.length) = some 2 := by decide +kernel
theorem hdX4_act : yX4_act.cls = RX4 ∧ yX4_act.cls ≠ "java/lang/invoke/MethodHandle" ∧ yX4_act.cls ≠ "java/lang/invoke/VarHandle" ∧ (parseMethodDescriptor yX4_act.desc).map (fun d => d.parameters.length) = some 4 := by decide +kernel
abbrev rCX4_go : Room := { frames := 3, cells := 0, slots := 0, locals := 73 }
set_option maxHeartbeats 4000000 in
set_option maxRecDepth 100000 in
theorem CX4_go (jl : Launch) (G : va_G) (cI cZ cJ : ClassId) (cd d0 d1 d2 d3 n : Nat) (ops xs ys zs : Fn) (su u0 u1 u2 ob nt : Nat) (inp row len : Fn) (rn q0 q1 q2 sc oc ic : Nat) (cut ti sl sv : Int32) (tr ou vr : Fn) (os : Fn) (t : Nat) (hn : n ≤ 24) (ht : t < 12) (hok : ∀ i, i < n → rowOk (ops i) (xs i) (ys i) (zs i)) : Kv jl yX4_go wsX4_go rCX4_go G cI cZ cJ [.ref rn, .ref cd, .ref su, .int (nI t)] [oB cd 0 [.ref d0, .ref d1, .ref d2, .ref d3, .int (nI n)], aI cI d0 24 ops, aI cI d1 24 xs, aI cI d2 24 ys, aI cI d3 24 zs, oB su 6 [.ref u0, .ref u1, .ref u2, .int (nI ob), .int (nI nt)], aI cI u0 48 inp, aI cI u1 72 row, aI cI u2 12 len, oB rn 4 [.ref q0, .ref q1, .ref q2, .int (nI sc), .int (nI oc), .int (nI ic), .int cut, .int ti, .int sl, .int sv], aI cI q0 300 tr, aI cI q1 6 ou, aI cI q2 8 vr] (S := RS) (fun (u : RS) => match u with | (l1, sc1, oc1, ic1, tr1, vr1, ou1, os1) => (l1, sc1, oc1, ic1, tr1, vr1, ou1, os1) = r_run n ops xs ys zs (fun y => inp (t * 4 + y)) ti sl sv tr vr ou os ∧ l1 ≤ 24 ∧ sc1 ≤ 300 ∧ oc1 ≤ 6 ∧ ic1 ≤ 300) (fun (u : RS) => match u with | (l1, sc1, oc1, ic1, tr1, vr1, ou1, os1) => [oB cd 0 [.ref d0, .ref d1, .ref d2, .ref d3, .int (nI n)], aI cI d0 24 ops, aI cI d1 24 xs, aI cI d2 24 ys, aI cI d3 24 zs, oB su 6 [.ref u0, .ref u1, .ref u2, .int (nI ob), .int (nI nt)], aI cI u0 48 inp, aI cI u1 72 row, aI cI u2 12 len, oB rn 4 [.ref q0, .ref q1, .ref q2, .int (nI sc1), .int (nI oc1), .int (nI ic1), .int (bI (r_on n (l1, sc1, oc1, ic1, tr1, vr1, ou1, os1))), .int ti, .int sl, .int sv], aI cI q0 300 tr1, aI cI q1 6 ou1, aI cI q2 8 vr1]) := by
  refine Kv.of (cc := cX4_go) (maxL := 5) (by decide +kernel) rfl (Nat.le_of_ble_eq_true rfl) ?_
  intro jp je js jm ja jb jt jc jA jQ ls cx hnm hP hD hS hl hret
  obtain ⟨hx, hb, hml, hown, hts, hK, hA⟩ := id cx
  have hl : lv_has ls 5 [(0, .ref rn), (1, .ref cd), (2, .ref su), (3, .int (nI t))] := hl
  obtain ⟨H, hH⟩ : ∃ H, H = js.heap := ⟨_, rfl⟩
  obtain ⟨locs, hlocs⟩ : ∃ z : List Loc, z = [] := ⟨_, rfl⟩
  have hP : va_P G vwCl [oB cd 0 [.ref d0, .ref d1, .ref d2, .ref d3, .int (nI n)], aI cI d0 24 ops, aI cI d1 24 xs, aI cI d2 24 ys, aI cI d3 24 zs, oB su 6 [.ref u0, .ref u1, .ref u2, .int (nI ob), .int (nI nt)], aI cI u0 48 inp, aI cI u1 72 row, aI cI u2 12 len, oB rn 4 [.ref q0, .ref q1, .ref q2, .int (nI sc), .int (nI oc), .int (nI ic), .int cut, .int ti, .int sl, .int sv], aI cI q0 300 tr, aI cI q1 6 ou, aI cI q2 8 vr] H := by rw [hH]; exact hP
  have hS : va_S jA js.heap H locs := by rw [hH, hlocs]; exact hS
  rw [← hlocs]; rw [show W jp jl je rCX4_go js jm ja jb jt jc js.heap locs 0 0 jQ (F0 jm 0 ls []) = W jp jl je rCX4_go js jm ja jb jt jc H locs 0 0 jQ (F0 jm 0 ls []) by rw [hH]]
  clear hH hlocs
  refine lv_aload_n hx hb dX4_go_0 rfl (lv_at hl 0 rfl) ?_
  refine lv_iconst (v := nI 0) hx hb dX4_go_1 (by decide) ?_
  refine va_put (C := RX4) (T := TX4) (N := 10) (ci := 4) (v := .int (nI 0)) (ty := tyX4 3) hx hb hts iX4_go_4 tyX4 tyX4_ok nmX4 hown hK.1 hP hD hS 9 rfl rfl 3 (Nat.le_of_ble_eq_true rfl) (hts _ mX4_go_21) (fun _ h9 => h9) rfl (tyX4_ok 3 (Nat.le_of_ble_eq_true rfl)) (rfl) (rfl) (Nat.le_of_ble_eq_true rfl) dX4_go_2 (fun H locs hP hD hS => ?_)
  have hP : va_P G vwCl [oB cd 0 [.ref d0, .ref d1, .ref d2, .ref d3, .int (nI n)], aI cI d0 24 ops, aI cI d1 24 xs, aI cI d2 24 ys, aI cI d3 24 zs, oB su 6 [.ref u0, .ref u1, .ref u2, .int (nI ob), .int (nI nt)], aI cI u0 48 inp, aI cI u1 72 row, aI cI u2 12 len, oB rn 4 [.ref q0, .ref q1, .ref q2, .int (nI 0), .int (nI oc), .int (nI ic), .int cut, .int ti, .int sl, .int sv], aI cI q0 300 tr, aI cI q1 6 ou, aI cI q2 8 vr] H := hP
  have hD : va_D jA [oB cd 0 [.ref d0, .ref d1, .ref d2, .ref d3, .int (nI n)], aI cI d0 24 ops, aI cI d1 24 xs, aI cI d2 24 ys, aI cI d3 24 zs, oB su 6 [.ref u0, .ref u1, .ref u2, .int (nI ob), .int (nI nt)], aI cI u0 48 inp, aI cI u1 72 row, aI cI u2 12 len, oB rn 4 [.ref q0, .ref q1, .ref q2, .int (nI 0), .int (nI oc), .int (nI ic), .int cut, .int ti, .int sl, .int sv], aI cI q0 300 tr, aI cI q1 6 ou, aI cI q2 8 vr] := hD
  refine lv_aload_n hx hb dX4_go_5 rfl (lv_at hl 0 rfl) ?_
  refine lv_iconst (v := nI 0) hx hb dX4_go_6 (by decide) ?_
  refine va_put (C := RX4) (T := TX4) (N := 10) (ci := 4) (v := .int (nI 0)) (ty := tyX4 4) hx hb hts iX4_go_4 tyX4 tyX4_ok nmX4 hown hK.1 hP hD hS 9 rfl rfl 4 (Nat.le_of_ble_eq_true rfl) (hts _ mX4_go_25) (fun _ h9 => h9) rfl (tyX4_ok 4 (Nat.le_of_ble_eq_true rfl)) (rfl) (rfl) (Nat.le_of_ble_eq_true rfl) dX4_go_7 (fun H locs hP hD hS => ?_)
  have hP : va_P G vwCl [oB cd 0 [.ref d0, .ref d1, .ref d2, .ref d3, .int (nI n)], aI cI d0 24 ops, aI cI d1 24 xs, aI cI d2 24 ys, aI cI d3 24 zs, oB su 6 [.ref u0, .ref u1, .ref u2, .int (nI ob), .int (nI nt)], aI cI u0 48 inp, aI cI u1 72 row, aI cI u2 12 len, oB rn 4 [.ref q0, .ref q1, .ref q2, .int (nI 0), .int (nI 0), .int (nI ic), .int cut, .int ti, .int sl, .int sv], aI cI q0 300 tr, aI cI q1 6 ou, aI cI q2 8 vr] H := hP
  have hD : va_D jA [oB cd 0 [.ref d0, .ref d1, .ref d2, .ref d3, .int (nI n)], aI cI d0 24 ops, aI cI d1 24 xs, aI cI d2 24 ys, aI cI d3 24 zs, oB su 6 [.ref u0, .ref u1, .ref u2, .int (nI ob), .int (nI nt)], aI cI u0 48 inp, aI cI u1 72 row, aI cI u2 12 len, oB rn 4 [.ref q0, .ref q1, .ref q2, .int (nI 0), .int (nI 0), .int (nI ic), .int cut, .int ti, .int sl, .int sv], aI cI q0 300 tr, aI cI q1 6 ou, aI cI q2 8 vr] := hD
  refine lv_aload_n hx hb dX4_go_10 rfl (lv_at hl 0 rfl) ?_
  refine lv_iconst (v := nI 0) hx hb dX4_go_11 (by decide) ?_
  refine va_put (C := RX4) (T := TX4) (N := 10) (ci := 4) (v := .int (nI 0)) (ty := tyX4 5) hx hb hts iX4_go_4 tyX4 tyX4_ok nmX4 hown hK.1 hP hD hS 9 rfl rfl 5 (Nat.le_of_ble_eq_true rfl) (hts _ mX4_go_28) (fun _ h9 => h9) rfl (tyX4_ok 5 (Nat.le_of_ble_eq_true rfl)) (rfl) (rfl) (Nat.le_of_ble_eq_true rfl) dX4_go_12 (fun H locs hP hD hS => ?_)
  have hP : va_P G vwCl [oB cd 0 [.ref d0, .ref d1, .ref d2, .ref d3, .int (nI n)], aI cI d0 24 ops, aI cI d1 24 xs, aI cI d2 24 ys, aI cI d3 24 zs, oB su 6 [.ref u0, .ref u1, .ref u2, .int (nI ob), .int (nI nt)], aI cI u0 48 inp, aI cI u1 72 row, aI cI u2 12 len, oB rn 4 [.ref q0, .ref q1, .ref q2, .int (nI 0), .int (nI 0), .int (nI 0), .int cut, .int ti, .int sl, .int sv], aI cI q0 300 tr, aI cI q1 6 ou, aI cI q2 8 vr] H := hP
  have hD : va_D jA [oB cd 0 [.ref d0, .ref d1, .ref d2, .ref d3, .int (nI n)], aI cI d0 24 ops, aI cI d1 24 xs, aI cI d2 24 ys, aI cI d3 24 zs, oB su 6 [.ref u0, .ref u1, .ref u2, .int (nI ob), .int (nI nt)], aI cI u0 48 inp, aI cI u1 72 row, aI cI u2 12 len, oB rn 4 [.ref q0, .ref q1, .ref q2, .int (nI 0), .int (nI 0), .int (nI 0), .int cut, .int ti, .int sl, .int sv], aI cI q0 300 tr, aI cI q1 6 ou, aI cI q2 8 vr] := hD
  refine lv_iconst (v := nI 0) hx hb dX4_go_15 (by decide) ?_
  refine lv_istore (lv' := [(4, .int (nI 0)), (0, .ref rn), (1, .ref cd), (2, .ref su), (3, .int (nI t))]) hx hb dX4_go_16 hl (by decide) rfl (fun ls hl => ?_)
  have L18 : ∀ (fu : Nat), ∀ (i : Nat), ∀ (v1 : Fn), (8 < i + fu) → (i ≤ 8) → (v1 = fl (fun _ => nI 0) vr i) → ∀ (H : Heap) (locs : List Loc) (ls : Array Slot), va_P G vwCl [oB cd 0 [.ref d0, .ref d1, .ref d2, .ref d3, .int (nI n)], aI cI d0 24 ops, aI cI d1 24 xs, aI cI d2 24 ys, aI cI d3 24 zs, oB su 6 [.ref u0, .ref u1, .ref u2, .int (nI ob), .int (nI nt)], aI cI u0 48 inp, aI cI u1 72 row, aI cI u2 12 len, oB rn 4 [.ref q0, .ref q1, .ref q2, .int (nI 0), .int (nI 0), .int (nI 0), .int cut, .int ti, .int sl, .int sv], aI cI q0 300 tr, aI cI q1 6 ou, aI cI q2 8 v1] H → va_D jA [oB cd 0 [.ref d0, .ref d1, .ref d2, .ref d3, .int (nI n)], aI cI d0 24 ops, aI cI d1 24 xs, aI cI d2 24 ys, aI cI d3 24 zs, oB su 6 [.ref u0, .ref u1, .ref u2, .int (nI ob), .int (nI nt)], aI cI u0 48 inp, aI cI u1 72 row, aI cI u2 12 len, oB rn 4 [.ref q0, .ref q1, .ref q2, .int (nI 0), .int (nI 0), .int (nI 0), .int cut, .int ti, .int sl, .int sv], aI cI q0 300 tr, aI cI q1 6 ou, aI cI q2 8 v1] → va_S jA js.heap H locs → lv_has ls 5 [(0, .ref rn), (1, .ref cd), (2, .ref su), (3, .int (nI t)), (4, .int (nI i))] → W jp jl je rCX4_go js jm ja jb jt jc H locs 0 0 jQ (F0 jm 18 ls []) := by
    intro fu
    induction fu with
    | zero =>
      intro i v1 hfu hi ev H locs ls hP hD hS hl
      exact absurd hfu (by omega)
    | succ fu ih18 =>
      intro i v1 hfu hi ev H locs ls hP hD hS hl
      refine lv_iload hx hb dX4_go_18 (lv_at hl 4 rfl) ?_
      refine lv_bipush (v := nI 8) hx hb dX4_go_20 (by decide) ?_
      refine k_cmp_ge (tgt := 39) hx hb dX4_go_22 (by decide) (by omega) (by omega) (fun c_1 => ?_) (fun c_1 => ?_)
      · skip
        have hie : i = 8 := by omega
        subst hie; subst ev
        refine lv_iconst (v := nI 0) hx hb dX4_go_39 (by decide) ?_
        refine lv_istore (lv' := [(4, .int (nI 0)), (0, .ref rn), (1, .ref cd), (2, .ref su), (3, .int (nI t))]) hx hb dX4_go_40 hl (by decide) rfl (fun ls hl => ?_)
        have L42 : ∀ (fu : Nat), ∀ (l2 : Nat), ∀ (sc2 : Nat), ∀ (oc2 : Nat), ∀ (ic2 : Nat), ∀ (tr2 : Fn), ∀ (vr2 : Fn), ∀ (ou2 : Fn), ∀ (os2 : Fn), (300 < sc2 + fu) → (r_loop n ops xs ys zs (fun y => inp (t * 4 + y)) ti sl sv (300 - sc2) (l2, sc2, oc2, ic2, tr2, vr2, ou2, os2) = r_run n ops xs ys zs (fun y => inp (t * 4 + y)) ti sl sv tr vr ou os) → (l2 ≤ 24) → (sc2 ≤ 300) → (oc2 ≤ 6) → (ic2 ≤ sc2) → ∀ (H : Heap) (locs : List Loc) (ls : Array Slot), va_P G vwCl [oB cd 0 [.ref d0, .ref d1, .ref d2, .ref d3, .int (nI n)], aI cI d0 24 ops, aI cI d1 24 xs, aI cI d2 24 ys, aI cI d3 24 zs, oB su 6 [.ref u0, .ref u1, .ref u2, .int (nI ob), .int (nI nt)], aI cI u0 48 inp, aI cI u1 72 row, aI cI u2 12 len, oB rn 4 [.ref q0, .ref q1, .ref q2, .int (nI sc2), .int (nI oc2), .int (nI ic2), .int cut, .int ti, .int sl, .int sv], aI cI q0 300 tr2, aI cI q1 6 ou2, aI cI q2 8 vr2] H → va_D jA [oB cd 0 [.ref d0, .ref d1, .ref d2, .ref d3, .int (nI n)], aI cI d0 24 ops, aI cI d1 24 xs, aI cI d2 24 ys, aI cI d3 24 zs, oB su 6 [.ref u0, .ref u1, .ref u2, .int (nI ob), .int (nI nt)], aI cI u0 48 inp, aI cI u1 72 row, aI cI u2 12 len, oB rn 4 [.ref q0, .ref q1, .ref q2, .int (nI sc2), .int (nI oc2), .int (nI ic2), .int cut, .int ti, .int sl, .int sv], aI cI q0 300 tr2, aI cI q1 6 ou2, aI cI q2 8 vr2] → va_S jA js.heap H locs → lv_has ls 5 [(0, .ref rn), (1, .ref cd), (2, .ref su), (3, .int (nI t)), (4, .int (nI l2))] → W jp jl je rCX4_go js jm ja jb jt jc H locs 0 0 jQ (F0 jm 42 ls []) := by
          intro fu
          induction fu with
          | zero =>
            intro l2 sc2 oc2 ic2 tr2 vr2 ou2 os2 hfu hinv b1 b2 b3 b4 H locs ls hP hD hS hl
            exact absurd hfu (by omega)
          | succ fu ih42 =>
            intro l2 sc2 oc2 ic2 tr2 vr2 ou2 os2 hfu hinv b1 b2 b3 b4 H locs ls hP hD hS hl
            refine lv_aload_n hx hb dX4_go_42 rfl (lv_at hl 0 rfl) ?_
            refine va_get (C := RX4) (T := TX4) (N := 10) (ci := 4) hx hb hts iX4_go_4 hown hK.1 hP 9 rfl rfl 3 (Nat.le_of_ble_eq_true rfl) (hts _ mX4_go_21) (fun _ h9 => h9) rfl dX4_go_43 ?_
            refine lv_sipush (v := nI 300) hx hb dX4_go_46 (by decide) ?_
            refine k_cmp_ge (tgt := 97) hx hb dX4_go_49 (by decide) (by omega) (by omega) (fun c_2 => ?_) (fun c_2 => ?_)
            · skip
              refine lv_aload_n hx hb dX4_go_97 rfl (lv_at hl 0 rfl) ?_
              refine lv_aload_n hx hb dX4_go_98 rfl (lv_at hl 0 rfl) ?_
              refine lv_aload_n hx hb dX4_go_99 rfl (lv_at hl 1 rfl) ?_
              refine lv_iload hx hb dX4_go_100 (lv_at hl 4 rfl) ?_
              refine Ki.callV (wr := [oB su 6 [.ref u0, .ref u1, .ref u2, .int (nI ob), .int (nI nt)], aI cI u0 48 inp, aI cI u1 72 row, aI cI u2 12 len]) (rest := [.ref rn]) (CX4_goesOn jl G cI cZ cJ cd d0 d1 d2 d3 n ops xs ys zs rn q0 q1 q2 sc2 oc2 ic2 cut ti sl sv tr2 ou2 vr2 l2 (by omega) hn b3) cx hP hD hS hl [0, 1, 2, 3, 4, 9, 10, 11, 12] [5, 6, 7, 8] (ci := 4) (q0 := 5) gX4_go_X4_goesOn hdX4_goesOn rfl rfl rfl ⟨Nat.le_of_ble_eq_true rfl, Nat.le_of_ble_eq_true rfl⟩ rfl rfl (by decide) (by decide) (by decide) dX4_go_102 rfl rfl (Nat.le_of_ble_eq_true rfl) ⟨Nat.le_of_ble_eq_true rfl, Nat.le_of_ble_eq_true rfl⟩ (fun r9 u H locs hw9 hP hD hS => ?_)
              have hP : va_P G vwCl [oB su 6 [.ref u0, .ref u1, .ref u2, .int (nI ob), .int (nI nt)], aI cI u0 48 inp, aI cI u1 72 row, aI cI u2 12 len, oB cd 0 [.ref d0, .ref d1, .ref d2, .ref d3, .int (nI n)], aI cI d0 24 ops, aI cI d1 24 xs, aI cI d2 24 ys, aI cI d3 24 zs, oB rn 4 [.ref q0, .ref q1, .ref q2, .int (nI sc2), .int (nI oc2), .int (nI ic2), .int cut, .int ti, .int sl, .int sv], aI cI q0 300 tr2, aI cI q1 6 ou2, aI cI q2 8 vr2] H := hP
              have hD : va_D jA [oB su 6 [.ref u0, .ref u1, .ref u2, .int (nI ob), .int (nI nt)], aI cI u0 48 inp, aI cI u1 72 row, aI cI u2 12 len, oB cd 0 [.ref d0, .ref d1, .ref d2, .ref d3, .int (nI n)], aI cI d0 24 ops, aI cI d1 24 xs, aI cI d2 24 ys, aI cI d3 24 zs, oB rn 4 [.ref q0, .ref q1, .ref q2, .int (nI sc2), .int (nI oc2), .int (nI ic2), .int cut, .int ti, .int sl, .int sv], aI cI q0 300 tr2, aI cI q1 6 ou2, aI cI q2 8 vr2] := hD
              have hr9 : r9 = bI (r_on n (l2, sc2, oc2, ic2, tr2, vr2, ou2, os2)) := hw9
              subst hr9
              refine va_put (C := RX4) (T := TX4) (N := 10) (ci := 4) (v := .int (bI (r_on n (l2, sc2, oc2, ic2, tr2, vr2, ou2, os2)))) (ty := tyX4 6) hx hb hts iX4_go_4 tyX4 tyX4_ok nmX4 hown hK.1 hP hD hS 9 rfl rfl 6 (Nat.le_of_ble_eq_true rfl) (hts _ mX4_go_31) (fun _ h9 => h9) rfl (tyX4_ok 6 (Nat.le_of_ble_eq_true rfl)) (bI_nar _) (bI_fits _) (Nat.le_of_ble_eq_true rfl) dX4_go_105 (fun H locs hP hD hS => ?_)
              have hP : va_P G vwCl [oB su 6 [.ref u0, .ref u1, .ref u2, .int (nI ob), .int (nI nt)], aI cI u0 48 inp, aI cI u1 72 row, aI cI u2 12 len, oB cd 0 [.ref d0, .ref d1, .ref d2, .ref d3, .int (nI n)], aI cI d0 24 ops, aI cI d1 24 xs, aI cI d2 24 ys, aI cI d3 24 zs, oB rn 4 [.ref q0, .ref q1, .ref q2, .int (nI sc2), .int (nI oc2), .int (nI ic2), .int (bI (r_on n (l2, sc2, oc2, ic2, tr2, vr2, ou2, os2))), .int ti, .int sl, .int sv], aI cI q0 300 tr2, aI cI q1 6 ou2, aI cI q2 8 vr2] H := hP
              have hD : va_D jA [oB su 6 [.ref u0, .ref u1, .ref u2, .int (nI ob), .int (nI nt)], aI cI u0 48 inp, aI cI u1 72 row, aI cI u2 12 len, oB cd 0 [.ref d0, .ref d1, .ref d2, .ref d3, .int (nI n)], aI cI d0 24 ops, aI cI d1 24 xs, aI cI d2 24 ys, aI cI d3 24 zs, oB rn 4 [.ref q0, .ref q1, .ref q2, .int (nI sc2), .int (nI oc2), .int (nI ic2), .int (bI (r_on n (l2, sc2, oc2, ic2, tr2, vr2, ou2, os2))), .int ti, .int sl, .int sv], aI cI q0 300 tr2, aI cI q1 6 ou2, aI cI q2 8 vr2] := hD
              obtain ⟨hP, hD⟩ := k_sub (w' := [oB cd 0 [.ref d0, .ref d1, .ref d2, .ref d3, .int (nI n)], aI cI d0 24 ops, aI cI d1 24 xs, aI cI d2 24 ys, aI cI d3 24 zs, oB su 6 [.ref u0, .ref u1, .ref u2, .int (nI ob), .int (nI nt)], aI cI u0 48 inp, aI cI u1 72 row, aI cI u2 12 len, oB rn 4 [.ref q0, .ref q1, .ref q2, .int (nI sc2), .int (nI oc2), .int (nI ic2), .int (bI (r_on n (l2, sc2, oc2, ic2, tr2, vr2, ou2, os2))), .int ti, .int sl, .int sv], aI cI q0 300 tr2, aI cI q1 6 ou2, aI cI q2 8 vr2]) hP hD [4, 5, 6, 7, 8, 0, 1, 2, 3, 9, 10, 11, 12] rfl (by decide)
              exact hret _ _ _ _ (l2, sc2, oc2, ic2, tr2, vr2, ou2, os2) dX4_go_108 (⟨by rw [← hinv, show 300 - sc2 = 0 by omega]; rfl, b1, b2, b3, by omega⟩) hP hD hS
            · skip
              refine lv_aload_n hx hb dX4_go_52 rfl (lv_at hl 0 rfl) ?_
              refine lv_aload_n hx hb dX4_go_53 rfl (lv_at hl 1 rfl) ?_
              refine lv_iload hx hb dX4_go_54 (lv_at hl 4 rfl) ?_
              refine Ki.callV (wr := [oB su 6 [.ref u0, .ref u1, .ref u2, .int (nI ob), .int (nI nt)], aI cI u0 48 inp, aI cI u1 72 row, aI cI u2 12 len]) (rest := []) (CX4_goesOn jl G cI cZ cJ cd d0 d1 d2 d3 n ops xs ys zs rn q0 q1 q2 sc2 oc2 ic2 cut ti sl sv tr2 ou2 vr2 l2 (by omega) hn b3) cx hP hD hS hl [0, 1, 2, 3, 4, 9, 10, 11, 12] [5, 6, 7, 8] (ci := 4) (q0 := 5) gX4_go_X4_goesOn hdX4_goesOn rfl rfl rfl ⟨Nat.le_of_ble_eq_true rfl, Nat.le_of_ble_eq_true rfl⟩ rfl rfl (by decide) (by decide) (by decide) dX4_go_56 rfl rfl (Nat.le_of_ble_eq_true rfl) ⟨Nat.le_of_ble_eq_true rfl, Nat.le_of_ble_eq_true rfl⟩ (fun r_3 u H locs hw_4 hP hD hS => ?_)
              have hP : va_P G vwCl [oB su 6 [.ref u0, .ref u1, .ref u2, .int (nI ob), .int (nI nt)], aI cI u0 48 inp, aI cI u1 72 row, aI cI u2 12 len, oB cd 0 [.ref d0, .ref d1, .ref d2, .ref d3, .int (nI n)], aI cI d0 24 ops, aI cI d1 24 xs, aI cI d2 24 ys, aI cI d3 24 zs, oB rn 4 [.ref q0, .ref q1, .ref q2, .int (nI sc2), .int (nI oc2), .int (nI ic2), .int cut, .int ti, .int sl, .int sv], aI cI q0 300 tr2, aI cI q1 6 ou2, aI cI q2 8 vr2] H := hP
              have hD : va_D jA [oB su 6 [.ref u0, .ref u1, .ref u2, .int (nI ob), .int (nI nt)], aI cI u0 48 inp, aI cI u1 72 row, aI cI u2 12 len, oB cd 0 [.ref d0, .ref d1, .ref d2, .ref d3, .int (nI n)], aI cI d0 24 ops, aI cI d1 24 xs, aI cI d2 24 ys, aI cI d3 24 zs, oB rn 4 [.ref q0, .ref q1, .ref q2, .int (nI sc2), .int (nI oc2), .int (nI ic2), .int cut, .int ti, .int sl, .int sv], aI cI q0 300 tr2, aI cI q1 6 ou2, aI cI q2 8 vr2] := hD
              rcases Bool.eq_false_or_eq_true (decide (l2 < n) && decide (oc2 < 6)) with hq | hq
              · skip
                rw [hq] at hw_4
                subst hw_4
                have hq := (Bool.and_eq_true _ _).mp hq
                have hq : l2 < n ∧ oc2 < 6 := ⟨of_decide_eq_true hq.1, of_decide_eq_true hq.2⟩
                refine k_if_eq_f (tgt := 97) hx hb dX4_go_59 (by decide) (by decide) ?_
                refine lv_aload_n hx hb dX4_go_62 rfl (lv_at hl 0 rfl) ?_
                refine va_get (C := RX4) (T := TX4) (N := 10) (ci := 4) hx hb hts iX4_go_4 hown hK.1 hP 9 rfl rfl 0 (Nat.le_of_ble_eq_true rfl) (hts _ mX4_go_9) (fun _ h9 => h9) rfl dX4_go_63 ?_
                refine lv_aload_n hx hb dX4_go_66 rfl (lv_at hl 0 rfl) ?_
                refine va_get (C := RX4) (T := TX4) (N := 10) (ci := 4) hx hb hts iX4_go_4 hown hK.1 hP 9 rfl rfl 3 (Nat.le_of_ble_eq_true rfl) (hts _ mX4_go_21) (fun _ h9 => h9) rfl dX4_go_67 ?_
                refine lv_iload hx hb dX4_go_70 (lv_at hl 4 rfl) ?_
                refine k_iast hx hb hK.1 hP hD hS 10 0 rfl rfl (by omega) (by decide) dX4_go_72 (fun H locs hP hD hS => ?_)
                have hP : va_P G vwCl [oB su 6 [.ref u0, .ref u1, .ref u2, .int (nI ob), .int (nI nt)], aI cI u0 48 inp, aI cI u1 72 row, aI cI u2 12 len, oB cd 0 [.ref d0, .ref d1, .ref d2, .ref d3, .int (nI n)], aI cI d0 24 ops, aI cI d1 24 xs, aI cI d2 24 ys, aI cI d3 24 zs, oB rn 4 [.ref q0, .ref q1, .ref q2, .int (nI sc2), .int (nI oc2), .int (nI ic2), .int cut, .int ti, .int sl, .int sv], aI cI q0 300 (upd tr2 sc2 (nI l2)), aI cI q1 6 ou2, aI cI q2 8 vr2] H := hP
                have hD : va_D jA [oB su 6 [.ref u0, .ref u1, .ref u2, .int (nI ob), .int (nI nt)], aI cI u0 48 inp, aI cI u1 72 row, aI cI u2 12 len, oB cd 0 [.ref d0, .ref d1, .ref d2, .ref d3, .int (nI n)], aI cI d0 24 ops, aI cI d1 24 xs, aI cI d2 24 ys, aI cI d3 24 zs, oB rn 4 [.ref q0, .ref q1, .ref q2, .int (nI sc2), .int (nI oc2), .int (nI ic2), .int cut, .int ti, .int sl, .int sv], aI cI q0 300 (upd tr2 sc2 (nI l2)), aI cI q1 6 ou2, aI cI q2 8 vr2] := hD
                refine lv_aload_n hx hb dX4_go_73 rfl (lv_at hl 0 rfl) ?_
                refine lv_dup hx hb dX4_go_74 rfl ?_
                refine va_get (C := RX4) (T := TX4) (N := 10) (ci := 4) hx hb hts iX4_go_4 hown hK.1 hP 9 rfl rfl 3 (Nat.le_of_ble_eq_true rfl) (hts _ mX4_go_21) (fun _ h9 => h9) rfl dX4_go_75 ?_
                refine lv_iconst (v := nI 1) hx hb dX4_go_78 (by decide) ?_
                refine k_iadd hx hb dX4_go_79 ?_
                refine va_put (C := RX4) (T := TX4) (N := 10) (ci := 4) (v := .int (nI (sc2 + 1))) (ty := tyX4 3) hx hb hts iX4_go_4 tyX4 tyX4_ok nmX4 hown hK.1 hP hD hS 9 rfl rfl 3 (Nat.le_of_ble_eq_true rfl) (hts _ mX4_go_21) (fun _ h9 => h9) rfl (tyX4_ok 3 (Nat.le_of_ble_eq_true rfl)) (rfl) (rfl) (Nat.le_of_ble_eq_true rfl) dX4_go_80 (fun H locs hP hD hS => ?_)
                have hP : va_P G vwCl [oB su 6 [.ref u0, .ref u1, .ref u2, .int (nI ob), .int (nI nt)], aI cI u0 48 inp, aI cI u1 72 row, aI cI u2 12 len, oB cd 0 [.ref d0, .ref d1, .ref d2, .ref d3, .int (nI n)], aI cI d0 24 ops, aI cI d1 24 xs, aI cI d2 24 ys, aI cI d3 24 zs, oB rn 4 [.ref q0, .ref q1, .ref q2, .int (nI (sc2 + 1)), .int (nI oc2), .int (nI ic2), .int cut, .int ti, .int sl, .int sv], aI cI q0 300 (upd tr2 sc2 (nI l2)), aI cI q1 6 ou2, aI cI q2 8 vr2] H := hP
                have hD : va_D jA [oB su 6 [.ref u0, .ref u1, .ref u2, .int (nI ob), .int (nI nt)], aI cI u0 48 inp, aI cI u1 72 row, aI cI u2 12 len, oB cd 0 [.ref d0, .ref d1, .ref d2, .ref d3, .int (nI n)], aI cI d0 24 ops, aI cI d1 24 xs, aI cI d2 24 ys, aI cI d3 24 zs, oB rn 4 [.ref q0, .ref q1, .ref q2, .int (nI (sc2 + 1)), .int (nI oc2), .int (nI ic2), .int cut, .int ti, .int sl, .int sv], aI cI q0 300 (upd tr2 sc2 (nI l2)), aI cI q1 6 ou2, aI cI q2 8 vr2] := hD
                refine lv_aload_n hx hb dX4_go_83 rfl (lv_at hl 0 rfl) ?_
                refine lv_aload_n hx hb dX4_go_84 rfl (lv_at hl 1 rfl) ?_
                refine lv_aload_n hx hb dX4_go_85 rfl (lv_at hl 2 rfl) ?_
                refine lv_iload_n hx hb dX4_go_86 rfl (lv_at hl 3 rfl) ?_
                refine lv_iload hx hb dX4_go_87 (lv_at hl 4 rfl) ?_
                refine Ki.callV (wr := []) (rest := []) (CX4_act jl G cI cZ cJ cd d0 d1 d2 d3 n ops xs ys zs su u0 u1 u2 ob nt inp row len rn q0 q1 q2 (sc2 + 1) oc2 ic2 cut ti sl sv (upd tr2 sc2 (nI l2)) ou2 vr2 t l2 (by omega) ht hq.2 (hok l2 hq.1)) cx hP hD hS hl [4, 5, 6, 7, 8, 0, 1, 2, 3, 9, 10, 11, 12] [] (ci := 4) (q0 := 9) gX4_go_X4_act hdX4_act rfl rfl rfl ⟨Nat.le_of_ble_eq_true rfl, Nat.le_of_ble_eq_true rfl⟩ rfl rfl (by decide) (by decide) (by decide) dX4_go_89 rfl rfl (Nat.le_of_ble_eq_true rfl) ⟨Nat.le_of_ble_eq_true rfl, Nat.le_of_ble_eq_true rfl⟩ (fun r_6 u H locs hw2 hP hD hS => ?_)
                obtain ⟨l3, oc3, ic3, vr3, ou3⟩ := u
                try dsimp only at hw2
                have hP : va_P G vwCl [oB cd 0 [.ref d0, .ref d1, .ref d2, .ref d3, .int (nI n)], aI cI d0 24 ops, aI cI d1 24 xs, aI cI d2 24 ys, aI cI d3 24 zs, oB su 6 [.ref u0, .ref u1, .ref u2, .int (nI ob), .int (nI nt)], aI cI u0 48 inp, aI cI u1 72 row, aI cI u2 12 len, oB rn 4 [.ref q0, .ref q1, .ref q2, .int (nI (sc2 + 1)), .int (nI oc3), .int (nI ic3), .int cut, .int ti, .int sl, .int sv], aI cI q0 300 (upd tr2 sc2 (nI l2)), aI cI q1 6 ou3, aI cI q2 8 vr3] H := hP
                have hD : va_D jA [oB cd 0 [.ref d0, .ref d1, .ref d2, .ref d3, .int (nI n)], aI cI d0 24 ops, aI cI d1 24 xs, aI cI d2 24 ys, aI cI d3 24 zs, oB su 6 [.ref u0, .ref u1, .ref u2, .int (nI ob), .int (nI nt)], aI cI u0 48 inp, aI cI u1 72 row, aI cI u2 12 len, oB rn 4 [.ref q0, .ref q1, .ref q2, .int (nI (sc2 + 1)), .int (nI oc3), .int (nI ic3), .int cut, .int ti, .int sl, .int sv], aI cI q0 300 (upd tr2 sc2 (nI l2)), aI cI q1 6 ou3, aI cI q2 8 vr3] := hD
                have hr9 := hw2.1
                subst hr9
                refine lv_istore (lv' := [(4, .int (nI l3)), (0, .ref rn), (1, .ref cd), (2, .ref su), (3, .int (nI t))]) hx hb dX4_go_92 hl (by decide) rfl (fun ls hl => ?_)
                refine lv_goto (tgt := 42) hx hb dX4_go_94 (by decide) ?_
                exact ih42 l3 (sc2 + 1) oc3 ic3 (upd tr2 sc2 (nI l2)) vr3 ou3 (r_os ops l2 sc2 oc2 os2) (by omega) (r_loop_go hinv (by omega) (r_on_t hq.1 hq.2) hw2.2.1) (hw2.2.2.1) (by omega) (by have := hw2.2.2.2.1; omega) (by have := hw2.2.2.2.2; omega) _ _ _ hP hD hS (lv_sub hl [1, 2, 3, 4, 0] rfl)
              · skip
                rw [hq] at hw_4
                subst hw_4
                refine k_if_eq_t (tgt := 97) hx hb dX4_go_59 (by decide) (by decide) ?_
                refine lv_aload_n hx hb dX4_go_97 rfl (lv_at hl 0 rfl) ?_
                refine lv_aload_n hx hb dX4_go_98 rfl (lv_at hl 0 rfl) ?_
                refine lv_aload_n hx hb dX4_go_99 rfl (lv_at hl 1 rfl) ?_
                refine lv_iload hx hb dX4_go_100 (lv_at hl 4 rfl) ?_
                refine Ki.callV (wr := [oB su 6 [.ref u0, .ref u1, .ref u2, .int (nI ob), .int (nI nt)], aI cI u0 48 inp, aI cI u1 72 row, aI cI u2 12 len]) (rest := [.ref rn]) (CX4_goesOn jl G cI cZ cJ cd d0 d1 d2 d3 n ops xs ys zs rn q0 q1 q2 sc2 oc2 ic2 cut ti sl sv tr2 ou2 vr2 l2 (by omega) hn b3) cx hP hD hS hl [4, 5, 6, 7, 8, 9, 10, 11, 12] [0, 1, 2, 3] (ci := 4) (q0 := 5) gX4_go_X4_goesOn hdX4_goesOn rfl rfl rfl ⟨Nat.le_of_ble_eq_true rfl, Nat.le_of_ble_eq_true rfl⟩ rfl rfl (by decide) (by decide) (by decide) dX4_go_102 rfl rfl (Nat.le_of_ble_eq_true rfl) ⟨Nat.le_of_ble_eq_true rfl, Nat.le_of_ble_eq_true rfl⟩ (fun r9 u H locs hw9 hP hD hS => ?_)
                have hP : va_P G vwCl [oB su 6 [.ref u0, .ref u1, .ref u2, .int (nI ob), .int (nI nt)], aI cI u0 48 inp, aI cI u1 72 row, aI cI u2 12 len, oB cd 0 [.ref d0, .ref d1, .ref d2, .ref d3, .int (nI n)], aI cI d0 24 ops, aI cI d1 24 xs, aI cI d2 24 ys, aI cI d3 24 zs, oB rn 4 [.ref q0, .ref q1, .ref q2, .int (nI sc2), .int (nI oc2), .int (nI ic2), .int cut, .int ti, .int sl, .int sv], aI cI q0 300 tr2, aI cI q1 6 ou2, aI cI q2 8 vr2] H := hP
                have hD : va_D jA [oB su 6 [.ref u0, .ref u1, .ref u2, .int (nI ob), .int (nI nt)], aI cI u0 48 inp, aI cI u1 72 row, aI cI u2 12 len, oB cd 0 [.ref d0, .ref d1, .ref d2, .ref d3, .int (nI n)], aI cI d0 24 ops, aI cI d1 24 xs, aI cI d2 24 ys, aI cI d3 24 zs, oB rn 4 [.ref q0, .ref q1, .ref q2, .int (nI sc2), .int (nI oc2), .int (nI ic2), .int cut, .int ti, .int sl, .int sv], aI cI q0 300 tr2, aI cI q1 6 ou2, aI cI q2 8 vr2] := hD
                have hr9 : r9 = bI (r_on n (l2, sc2, oc2, ic2, tr2, vr2, ou2, os2)) := hw9
                subst hr9
                refine va_put (C := RX4) (T := TX4) (N := 10) (ci := 4) (v := .int (bI (r_on n (l2, sc2, oc2, ic2, tr2, vr2, ou2, os2)))) (ty := tyX4 6) hx hb hts iX4_go_4 tyX4 tyX4_ok nmX4 hown hK.1 hP hD hS 9 rfl rfl 6 (Nat.le_of_ble_eq_true rfl) (hts _ mX4_go_31) (fun _ h9 => h9) rfl (tyX4_ok 6 (Nat.le_of_ble_eq_true rfl)) (bI_nar _) (bI_fits _) (Nat.le_of_ble_eq_true rfl) dX4_go_105 (fun H locs hP hD hS => ?_)
                have hP : va_P G vwCl [oB su 6 [.ref u0, .ref u1, .ref u2, .int (nI ob), .int (nI nt)], aI cI u0 48 inp, aI cI u1 72 row, aI cI u2 12 len, oB cd 0 [.ref d0, .ref d1, .ref d2, .ref d3, .int (nI n)], aI cI d0 24 ops, aI cI d1 24 xs, aI cI d2 24 ys, aI cI d3 24 zs, oB rn 4 [.ref q0, .ref q1, .ref q2, .int (nI sc2), .int (nI oc2), .int (nI ic2), .int (bI (r_on n (l2, sc2, oc2, ic2, tr2, vr2, ou2, os2))), .int ti, .int sl, .int sv], aI cI q0 300 tr2, aI cI q1 6 ou2, aI cI q2 8 vr2] H := hP
                have hD : va_D jA [oB su 6 [.ref u0, .ref u1, .ref u2, .int (nI ob), .int (nI nt)], aI cI u0 48 inp, aI cI u1 72 row, aI cI u2 12 len, oB cd 0 [.ref d0, .ref d1, .ref d2, .ref d3, .int (nI n)], aI cI d0 24 ops, aI cI d1 24 xs, aI cI d2 24 ys, aI cI d3 24 zs, oB rn 4 [.ref q0, .ref q1, .ref q2, .int (nI sc2), .int (nI oc2), .int (nI ic2), .int (bI (r_on n (l2, sc2, oc2, ic2, tr2, vr2, ou2, os2))), .int ti, .int sl, .int sv], aI cI q0 300 tr2, aI cI q1 6 ou2, aI cI q2 8 vr2] := hD
                obtain ⟨hP, hD⟩ := k_sub (w' := [oB cd 0 [.ref d0, .ref d1, .ref d2, .ref d3, .int (nI n)], aI cI d0 24 ops, aI cI d1 24 xs, aI cI d2 24 ys, aI cI d3 24 zs, oB su 6 [.ref u0, .ref u1, .ref u2, .int (nI ob), .int (nI nt)], aI cI u0 48 inp, aI cI u1 72 row, aI cI u2 12 len, oB rn 4 [.ref q0, .ref q1, .ref q2, .int (nI sc2), .int (nI oc2), .int (nI ic2), .int (bI (r_on n (l2, sc2, oc2, ic2, tr2, vr2, ou2, os2))), .int ti, .int sl, .int sv], aI cI q0 300 tr2, aI cI q1 6 ou2, aI cI q2 8 vr2]) hP hD [4, 5, 6, 7, 8, 0, 1, 2, 3, 9, 10, 11, 12] rfl (by decide)
                exact hret _ _ _ _ (l2, sc2, oc2, ic2, tr2, vr2, ou2, os2) dX4_go_108 (⟨by rw [← hinv]; exact (r_loop_end (show r_on n (l2, sc2, oc2, ic2, tr2, vr2, ou2, os2) = false from hq)).symm, b1, b2, b3, by omega⟩) hP hD hS
        exact L42 301 0 0 0 0 tr (fl (fun _ => nI 0) vr 8) ou os (by omega) (rfl) (by omega) (by omega) (by omega) (by omega) _ _ _ hP hD hS (lv_sub hl [1, 2, 3, 4, 0] rfl)
      · skip
        refine lv_aload_n hx hb dX4_go_25 rfl (lv_at hl 0 rfl) ?_
        refine va_get (C := RX4) (T := TX4) (N := 10) (ci := 4) hx hb hts iX4_go_4 hown hK.1 hP 9 rfl rfl 2 (Nat.le_of_ble_eq_true rfl) (hts _ mX4_go_18) (fun _ h9 => h9) rfl dX4_go_26 ?_
        refine lv_iload hx hb dX4_go_29 (lv_at hl 4 rfl) ?_
        refine lv_iconst (v := nI 0) hx hb dX4_go_31 (by decide) ?_
        refine k_iast hx hb hK.1 hP hD hS 12 0 rfl rfl (by omega) (by decide) dX4_go_32 (fun H locs hP hD hS => ?_)
        have hP : va_P G vwCl [oB cd 0 [.ref d0, .ref d1, .ref d2, .ref d3, .int (nI n)], aI cI d0 24 ops, aI cI d1 24 xs, aI cI d2 24 ys, aI cI d3 24 zs, oB su 6 [.ref u0, .ref u1, .ref u2, .int (nI ob), .int (nI nt)], aI cI u0 48 inp, aI cI u1 72 row, aI cI u2 12 len, oB rn 4 [.ref q0, .ref q1, .ref q2, .int (nI 0), .int (nI 0), .int (nI 0), .int cut, .int ti, .int sl, .int sv], aI cI q0 300 tr, aI cI q1 6 ou, aI cI q2 8 (upd v1 i (nI 0))] H := hP
        have hD : va_D jA [oB cd 0 [.ref d0, .ref d1, .ref d2, .ref d3, .int (nI n)], aI cI d0 24 ops, aI cI d1 24 xs, aI cI d2 24 ys, aI cI d3 24 zs, oB su 6 [.ref u0, .ref u1, .ref u2, .int (nI ob), .int (nI nt)], aI cI u0 48 inp, aI cI u1 72 row, aI cI u2 12 len, oB rn 4 [.ref q0, .ref q1, .ref q2, .int (nI 0), .int (nI 0), .int (nI 0), .int cut, .int ti, .int sl, .int sv], aI cI q0 300 tr, aI cI q1 6 ou, aI cI q2 8 (upd v1 i (nI 0))] := hD
        refine lv_iinc (v := nI (i + 1)) (lv' := [(4, .int (nI (i + 1))), (0, .ref rn), (1, .ref cd), (2, .ref su), (3, .int (nI t))]) hx hb dX4_go_33 hl (k := 4) rfl (nI_add i 1) (by decide) rfl (fun ls hl => ?_)
        refine lv_goto (tgt := 18) hx hb dX4_go_36 (by decide) ?_
        exact ih18 (i + 1) (upd v1 i (nI 0)) (by omega) (by omega) (by rw [ev]; exact fl_succ _ _ _) _ _ _ hP hD hS (lv_sub hl [1, 2, 3, 4, 0] rfl)
  exact L18 9 0 vr (by omega) (by omega) ((fl_0 _ _).symm) _ _ _ hP hD hS (lv_sub hl [1, 2, 3, 4, 0] rfl)

theorem iX4_plainly_4 : ∀ w ∈ wsX40, w ∈ wsX4_plainly := by decide +kernel
theorem mX4_plainly_35 : Cond.fieldLink RX4 35 "LineFinder$Run" "turnedIf" "I" ∈ wsX4_plainly := List.mem_of_getElem? (i := 1) rfl
theorem mX4_plainly_38 : Cond.fieldLink RX4 38 "LineFinder$Run" "setLine" "I" ∈ wsX4_plainly := List.mem_of_getElem? (i := 2) rfl
theorem hdX4_go : yX4_go.cls = RX4 ∧ yX4_go.cls ≠ "java/lang/invoke/MethodHandle" ∧ yX4_go.cls ≠ "java/lang/invoke/VarHandle" ∧ (parseMethodDescriptor yX4_go.desc).map (fun d => d.parameters.length) = some 3 := by decide +kernel
abbrev rCX4_plainly : Room := { frames := 4, cells := 0, slots := 0, locals := 97 }
set_option maxHeartbeats 4000000 in
set_option maxRecDepth 100000 in
theorem CX4_plainly (jl : Launch) (G : va_G) (cI cZ cJ : ClassId) (cd d0 d1 d2 d3 n : Nat) (ops xs ys zs : Fn) (su u0 u1 u2 ob nt : Nat) (inp row len : Fn) (rn q0 q1 q2 sc oc ic : Nat) (cut ti sl sv : Int32) (tr ou vr : Fn) (os : Fn) (t : Nat) (hn : n ≤ 24) (ht : t < 12) (hok : ∀ i, i < n → rowOk (ops i) (xs i) (ys i) (zs i)) : Kv jl yX4_plainly wsX4_plainly rCX4_plainly G cI cZ cJ [.ref rn, .ref cd, .ref su, .int (nI t)] [oB cd 0 [.ref d0, .ref d1, .ref d2, .ref d3, .int (nI n)], aI cI d0 24 ops, aI cI d1 24 xs, aI cI d2 24 ys, aI cI d3 24 zs, oB su 6 [.ref u0, .ref u1, .ref u2, .int (nI ob), .int (nI nt)], aI cI u0 48 inp, aI cI u1 72 row, aI cI u2 12 len, oB rn 4 [.ref q0, .ref q1, .ref q2, .int (nI sc), .int (nI oc), .int (nI ic), .int cut, .int ti, .int sl, .int sv], aI cI q0 300 tr, aI cI q1 6 ou, aI cI q2 8 vr] (S := RS) (fun (u : RS) => match u with | (l1, sc1, oc1, ic1, tr1, vr1, ou1, os1) => (l1, sc1, oc1, ic1, tr1, vr1, ou1, os1) = r_run n ops xs ys zs (fun y => inp (t * 4 + y)) (-1) (-1) sv tr vr ou os ∧ l1 ≤ 24 ∧ sc1 ≤ 300 ∧ oc1 ≤ 6 ∧ ic1 ≤ 300) (fun (u : RS) => match u with | (l1, sc1, oc1, ic1, tr1, vr1, ou1, os1) => [oB cd 0 [.ref d0, .ref d1, .ref d2, .ref d3, .int (nI n)], aI cI d0 24 ops, aI cI d1 24 xs, aI cI d2 24 ys, aI cI d3 24 zs, oB su 6 [.ref u0, .ref u1, .ref u2, .int (nI ob), .int (nI nt)], aI cI u0 48 inp, aI cI u1 72 row, aI cI u2 12 len, oB rn 4 [.ref q0, .ref q1, .ref q2, .int (nI sc1), .int (nI oc1), .int (nI ic1), .int (bI (r_on n (l1, sc1, oc1, ic1, tr1, vr1, ou1, os1))), .int (-1), .int (-1), .int sv], aI cI q0 300 tr1, aI cI q1 6 ou1, aI cI q2 8 vr1]) := by
  refine Kv.of (cc := cX4_plainly) (maxL := 4) (by decide +kernel) rfl (Nat.le_of_ble_eq_true rfl) ?_
  intro jp je js jm ja jb jt jc jA jQ ls cx hnm hP hD hS hl hret
  obtain ⟨hx, hb, hml, hown, hts, hK, hA⟩ := id cx
  have hl : lv_has ls 4 [(0, .ref rn), (1, .ref cd), (2, .ref su), (3, .int (nI t))] := hl
  obtain ⟨H, hH⟩ : ∃ H, H = js.heap := ⟨_, rfl⟩
  obtain ⟨locs, hlocs⟩ : ∃ z : List Loc, z = [] := ⟨_, rfl⟩
  have hP : va_P G vwCl [oB cd 0 [.ref d0, .ref d1, .ref d2, .ref d3, .int (nI n)], aI cI d0 24 ops, aI cI d1 24 xs, aI cI d2 24 ys, aI cI d3 24 zs, oB su 6 [.ref u0, .ref u1, .ref u2, .int (nI ob), .int (nI nt)], aI cI u0 48 inp, aI cI u1 72 row, aI cI u2 12 len, oB rn 4 [.ref q0, .ref q1, .ref q2, .int (nI sc), .int (nI oc), .int (nI ic), .int cut, .int ti, .int sl, .int sv], aI cI q0 300 tr, aI cI q1 6 ou, aI cI q2 8 vr] H := by rw [hH]; exact hP
  have hS : va_S jA js.heap H locs := by rw [hH, hlocs]; exact hS
  rw [← hlocs]; rw [show W jp jl je rCX4_plainly js jm ja jb jt jc js.heap locs 0 0 jQ (F0 jm 0 ls []) = W jp jl je rCX4_plainly js jm ja jb jt jc H locs 0 0 jQ (F0 jm 0 ls []) by rw [hH]]
  clear hH hlocs
  refine lv_aload_n hx hb dX4_plainly_0 rfl (lv_at hl 0 rfl) ?_
  refine lv_iconst (v := (-1)) hx hb dX4_plainly_1 (by decide) ?_
  refine va_put (C := RX4) (T := TX4) (N := 10) (ci := 4) (v := .int (-1)) (ty := tyX4 7) hx hb hts iX4_plainly_4 tyX4 tyX4_ok nmX4 hown hK.1 hP hD hS 9 rfl rfl 7 (Nat.le_of_ble_eq_true rfl) (hts _ mX4_plainly_35) (fun _ h9 => h9) rfl (tyX4_ok 7 (Nat.le_of_ble_eq_true rfl)) (rfl) (rfl) (Nat.le_of_ble_eq_true rfl) dX4_plainly_2 (fun H locs hP hD hS => ?_)
  have hP : va_P G vwCl [oB cd 0 [.ref d0, .ref d1, .ref d2, .ref d3, .int (nI n)], aI cI d0 24 ops, aI cI d1 24 xs, aI cI d2 24 ys, aI cI d3 24 zs, oB su 6 [.ref u0, .ref u1, .ref u2, .int (nI ob), .int (nI nt)], aI cI u0 48 inp, aI cI u1 72 row, aI cI u2 12 len, oB rn 4 [.ref q0, .ref q1, .ref q2, .int (nI sc), .int (nI oc), .int (nI ic), .int cut, .int (-1), .int sl, .int sv], aI cI q0 300 tr, aI cI q1 6 ou, aI cI q2 8 vr] H := hP
  have hD : va_D jA [oB cd 0 [.ref d0, .ref d1, .ref d2, .ref d3, .int (nI n)], aI cI d0 24 ops, aI cI d1 24 xs, aI cI d2 24 ys, aI cI d3 24 zs, oB su 6 [.ref u0, .ref u1, .ref u2, .int (nI ob), .int (nI nt)], aI cI u0 48 inp, aI cI u1 72 row, aI cI u2 12 len, oB rn 4 [.ref q0, .ref q1, .ref q2, .int (nI sc), .int (nI oc), .int (nI ic), .int cut, .int (-1), .int sl, .int sv], aI cI q0 300 tr, aI cI q1 6 ou, aI cI q2 8 vr] := hD
  refine lv_aload_n hx hb dX4_plainly_5 rfl (lv_at hl 0 rfl) ?_
  refine lv_iconst (v := (-1)) hx hb dX4_plainly_6 (by decide) ?_
  refine va_put (C := RX4) (T := TX4) (N := 10) (ci := 4) (v := .int (-1)) (ty := tyX4 8) hx hb hts iX4_plainly_4 tyX4 tyX4_ok nmX4 hown hK.1 hP hD hS 9 rfl rfl 8 (Nat.le_of_ble_eq_true rfl) (hts _ mX4_plainly_38) (fun _ h9 => h9) rfl (tyX4_ok 8 (Nat.le_of_ble_eq_true rfl)) (rfl) (rfl) (Nat.le_of_ble_eq_true rfl) dX4_plainly_7 (fun H locs hP hD hS => ?_)
  have hP : va_P G vwCl [oB cd 0 [.ref d0, .ref d1, .ref d2, .ref d3, .int (nI n)], aI cI d0 24 ops, aI cI d1 24 xs, aI cI d2 24 ys, aI cI d3 24 zs, oB su 6 [.ref u0, .ref u1, .ref u2, .int (nI ob), .int (nI nt)], aI cI u0 48 inp, aI cI u1 72 row, aI cI u2 12 len, oB rn 4 [.ref q0, .ref q1, .ref q2, .int (nI sc), .int (nI oc), .int (nI ic), .int cut, .int (-1), .int (-1), .int sv], aI cI q0 300 tr, aI cI q1 6 ou, aI cI q2 8 vr] H := hP
  have hD : va_D jA [oB cd 0 [.ref d0, .ref d1, .ref d2, .ref d3, .int (nI n)], aI cI d0 24 ops, aI cI d1 24 xs, aI cI d2 24 ys, aI cI d3 24 zs, oB su 6 [.ref u0, .ref u1, .ref u2, .int (nI ob), .int (nI nt)], aI cI u0 48 inp, aI cI u1 72 row, aI cI u2 12 len, oB rn 4 [.ref q0, .ref q1, .ref q2, .int (nI sc), .int (nI oc), .int (nI ic), .int cut, .int (-1), .int (-1), .int sv], aI cI q0 300 tr, aI cI q1 6 ou, aI cI q2 8 vr] := hD
  refine lv_aload_n hx hb dX4_plainly_10 rfl (lv_at hl 0 rfl) ?_
  refine lv_aload_n hx hb dX4_plainly_11 rfl (lv_at hl 1 rfl) ?_
  refine lv_aload_n hx hb dX4_plainly_12 rfl (lv_at hl 2 rfl) ?_
  refine lv_iload_n hx hb dX4_plainly_13 rfl (lv_at hl 3 rfl) ?_
  refine Kv.callV (wr := []) (rest := []) (CX4_go jl G cI cZ cJ cd d0 d1 d2 d3 n ops xs ys zs su u0 u1 u2 ob nt inp row len rn q0 q1 q2 sc oc ic cut (-1) (-1) sv tr ou vr os t hn ht hok) cx hP hD hS hl [0, 1, 2, 3, 4, 5, 6, 7, 8, 9, 10, 11, 12] [] (ci := 4) (q0 := 9) gX4_plainly_X4_go hdX4_go rfl rfl rfl ⟨Nat.le_of_ble_eq_true rfl, Nat.le_of_ble_eq_true rfl⟩ rfl rfl (by decide) (by decide) (by decide) dX4_plainly_14 rfl rfl (Nat.le_of_ble_eq_true rfl) ⟨Nat.le_of_ble_eq_true rfl, Nat.le_of_ble_eq_true rfl⟩ (fun u H locs hw9 hP hD hS => ?_)
  obtain ⟨l1, sc1, oc1, ic1, tr1, vr1, ou1, os1⟩ := u
  try dsimp only at hw9
  have hP : va_P G vwCl [oB cd 0 [.ref d0, .ref d1, .ref d2, .ref d3, .int (nI n)], aI cI d0 24 ops, aI cI d1 24 xs, aI cI d2 24 ys, aI cI d3 24 zs, oB su 6 [.ref u0, .ref u1, .ref u2, .int (nI ob), .int (nI nt)], aI cI u0 48 inp, aI cI u1 72 row, aI cI u2 12 len, oB rn 4 [.ref q0, .ref q1, .ref q2, .int (nI sc1), .int (nI oc1), .int (nI ic1), .int (bI (r_on n (l1, sc1, oc1, ic1, tr1, vr1, ou1, os1))), .int (-1), .int (-1), .int sv], aI cI q0 300 tr1, aI cI q1 6 ou1, aI cI q2 8 vr1] H := hP
  have hD : va_D jA [oB cd 0 [.ref d0, .ref d1, .ref d2, .ref d3, .int (nI n)], aI cI d0 24 ops, aI cI d1 24 xs, aI cI d2 24 ys, aI cI d3 24 zs, oB su 6 [.ref u0, .ref u1, .ref u2, .int (nI ob), .int (nI nt)], aI cI u0 48 inp, aI cI u1 72 row, aI cI u2 12 len, oB rn 4 [.ref q0, .ref q1, .ref q2, .int (nI sc1), .int (nI oc1), .int (nI ic1), .int (bI (r_on n (l1, sc1, oc1, ic1, tr1, vr1, ou1, os1))), .int (-1), .int (-1), .int sv], aI cI q0 300 tr1, aI cI q1 6 ou1, aI cI q2 8 vr1] := hD
  exact hret _ _ _ _ (l1, sc1, oc1, ic1, tr1, vr1, ou1, os1) dX4_plainly_17 (hw9) hP hD hS

theorem iX4_turning_4 : ∀ w ∈ wsX40, w ∈ wsX4_turning := by decide +kernel
theorem mX4_turning_35 : Cond.fieldLink RX4 35 "LineFinder$Run" "turnedIf" "I" ∈ wsX4_turning := List.mem_of_getElem? (i := 1) rfl
theorem mX4_turning_38 : Cond.fieldLink RX4 38 "LineFinder$Run" "setLine" "I" ∈ wsX4_turning := List.mem_of_getElem? (i := 2) rfl
abbrev rCX4_turning : Room := { frames := 4, cells := 0, slots := 0, locals := 97 }
set_option maxHeartbeats 4000000 in
set_option maxRecDepth 100000 in
theorem CX4_turning (jl : Launch) (G : va_G) (cI cZ cJ : ClassId) (cd d0 d1 d2 d3 n : Nat) (ops xs ys zs : Fn) (su u0 u1 u2 ob nt : Nat) (inp row len : Fn) (rn q0 q1 q2 sc oc ic : Nat) (cut ti sl sv : Int32) (tr ou vr : Fn) (os : Fn) (t : Nat) (hn : n ≤ 24) (ht : t < 12) (hok : ∀ i, i < n → rowOk (ops i) (xs i) (ys i) (zs i)) (kk : Int32) : Kv jl yX4_turning wsX4_turning rCX4_turning G cI cZ cJ [.ref rn, .ref cd, .ref su, .int (nI t), .int kk] [oB cd 0 [.ref d0, .ref d1, .ref d2, .ref d3, .int (nI n)], aI cI d0 24 ops, aI cI d1 24 xs, aI cI d2 24 ys, aI cI d3 24 zs, oB su 6 [.ref u0, .ref u1, .ref u2, .int (nI ob), .int (nI nt)], aI cI u0 48 inp, aI cI u1 72 row, aI cI u2 12 len, oB rn 4 [.ref q0, .ref q1, .ref q2, .int (nI sc), .int (nI oc), .int (nI ic), .int cut, .int ti, .int sl, .int sv], aI cI q0 300 tr, aI cI q1 6 ou, aI cI q2 8 vr] (S := RS) (fun (u : RS) => match u with | (l1, sc1, oc1, ic1, tr1, vr1, ou1, os1) => (l1, sc1, oc1, ic1, tr1, vr1, ou1, os1) = r_run n ops xs ys zs (fun y => inp (t * 4 + y)) kk (-1) sv tr vr ou os ∧ l1 ≤ 24 ∧ sc1 ≤ 300 ∧ oc1 ≤ 6 ∧ ic1 ≤ 300) (fun (u : RS) => match u with | (l1, sc1, oc1, ic1, tr1, vr1, ou1, os1) => [oB cd 0 [.ref d0, .ref d1, .ref d2, .ref d3, .int (nI n)], aI cI d0 24 ops, aI cI d1 24 xs, aI cI d2 24 ys, aI cI d3 24 zs, oB su 6 [.ref u0, .ref u1, .ref u2, .int (nI ob), .int (nI nt)], aI cI u0 48 inp, aI cI u1 72 row, aI cI u2 12 len, oB rn 4 [.ref q0, .ref q1, .ref q2, .int (nI sc1), .int (nI oc1), .int (nI ic1), .int (bI (r_on n (l1, sc1, oc1, ic1, tr1, vr1, ou1, os1))), .int kk, .int (-1), .int sv], aI cI q0 300 tr1, aI cI q1 6 ou1, aI cI q2 8 vr1]) := by
  refine Kv.of (cc := cX4_turning) (maxL := 5) (by decide +kernel) rfl (Nat.le_of_ble_eq_true rfl) ?_
  intro jp je js jm ja jb jt jc jA jQ ls cx hnm hP hD hS hl hret
  obtain ⟨hx, hb, hml, hown, hts, hK, hA⟩ := id cx
  have hl : lv_has ls 5 [(0, .ref rn), (1, .ref cd), (2, .ref su), (3, .int (nI t)), (4, .int kk)] := hl
  obtain ⟨H, hH⟩ : ∃ H, H = js.heap := ⟨_, rfl⟩
  obtain ⟨locs, hlocs⟩ : ∃ z : List Loc, z = [] := ⟨_, rfl⟩
  have hP : va_P G vwCl [oB cd 0 [.ref d0, .ref d1, .ref d2, .ref d3, .int (nI n)], aI cI d0 24 ops, aI cI d1 24 xs, aI cI d2 24 ys, aI cI d3 24 zs, oB su 6 [.ref u0, .ref u1, .ref u2, .int (nI ob), .int (nI nt)], aI cI u0 48 inp, aI cI u1 72 row, aI cI u2 12 len, oB rn 4 [.ref q0, .ref q1, .ref q2, .int (nI sc), .int (nI oc), .int (nI ic), .int cut, .int ti, .int sl, .int sv], aI cI q0 300 tr, aI cI q1 6 ou, aI cI q2 8 vr] H := by rw [hH]; exact hP
  have hS : va_S jA js.heap H locs := by rw [hH, hlocs]; exact hS
  rw [← hlocs]; rw [show W jp jl je rCX4_turning js jm ja jb jt jc js.heap locs 0 0 jQ (F0 jm 0 ls []) = W jp jl je rCX4_turning js jm ja jb jt jc H locs 0 0 jQ (F0 jm 0 ls []) by rw [hH]]
  clear hH hlocs
  refine lv_aload_n hx hb dX4_turning_0 rfl (lv_at hl 0 rfl) ?_
  refine lv_iload hx hb dX4_turning_1 (lv_at hl 4 rfl) ?_
  refine va_put (C := RX4) (T := TX4) (N := 10) (ci := 4) (v := .int kk) (ty := tyX4 7) hx hb hts iX4_turning_4 tyX4 tyX4_ok nmX4 hown hK.1 hP hD hS 9 rfl rfl 7 (Nat.le_of_ble_eq_true rfl) (hts _ mX4_turning_35) (fun _ h9 => h9) rfl (tyX4_ok 7 (Nat.le_of_ble_eq_true rfl)) (rfl) (rfl) (Nat.le_of_ble_eq_true rfl) dX4_turning_3 (fun H locs hP hD hS => ?_)
  have hP : va_P G vwCl [oB cd 0 [.ref d0, .ref d1, .ref d2, .ref d3, .int (nI n)], aI cI d0 24 ops, aI cI d1 24 xs, aI cI d2 24 ys, aI cI d3 24 zs, oB su 6 [.ref u0, .ref u1, .ref u2, .int (nI ob), .int (nI nt)], aI cI u0 48 inp, aI cI u1 72 row, aI cI u2 12 len, oB rn 4 [.ref q0, .ref q1, .ref q2, .int (nI sc), .int (nI oc), .int (nI ic), .int cut, .int kk, .int sl, .int sv], aI cI q0 300 tr, aI cI q1 6 ou, aI cI q2 8 vr] H := hP
  have hD : va_D jA [oB cd 0 [.ref d0, .ref d1, .ref d2, .ref d3, .int (nI n)], aI cI d0 24 ops, aI cI d1 24 xs, aI cI d2 24 ys, aI cI d3 24 zs, oB su 6 [.ref u0, .ref u1, .ref u2, .int (nI ob), .int (nI nt)], aI cI u0 48 inp, aI cI u1 72 row, aI cI u2 12 len, oB rn 4 [.ref q0, .ref q1, .ref q2, .int (nI sc), .int (nI oc), .int (nI ic), .int cut, .int kk, .int sl, .int sv], aI cI q0 300 tr, aI cI q1 6 ou, aI cI q2 8 vr] := hD
  refine lv_aload_n hx hb dX4_turning_6 rfl (lv_at hl 0 rfl) ?_
  refine lv_iconst (v := (-1)) hx hb dX4_turning_7 (by decide) ?_
  refine va_put (C := RX4) (T := TX4) (N := 10) (ci := 4) (v := .int (-1)) (ty := tyX4 8) hx hb hts iX4_turning_4 tyX4 tyX4_ok nmX4 hown hK.1 hP hD hS 9 rfl rfl 8 (Nat.le_of_ble_eq_true rfl) (hts _ mX4_turning_38) (fun _ h9 => h9) rfl (tyX4_ok 8 (Nat.le_of_ble_eq_true rfl)) (rfl) (rfl) (Nat.le_of_ble_eq_true rfl) dX4_turning_8 (fun H locs hP hD hS => ?_)
  have hP : va_P G vwCl [oB cd 0 [.ref d0, .ref d1, .ref d2, .ref d3, .int (nI n)], aI cI d0 24 ops, aI cI d1 24 xs, aI cI d2 24 ys, aI cI d3 24 zs, oB su 6 [.ref u0, .ref u1, .ref u2, .int (nI ob), .int (nI nt)], aI cI u0 48 inp, aI cI u1 72 row, aI cI u2 12 len, oB rn 4 [.ref q0, .ref q1, .ref q2, .int (nI sc), .int (nI oc), .int (nI ic), .int cut, .int kk, .int (-1), .int sv], aI cI q0 300 tr, aI cI q1 6 ou, aI cI q2 8 vr] H := hP
  have hD : va_D jA [oB cd 0 [.ref d0, .ref d1, .ref d2, .ref d3, .int (nI n)], aI cI d0 24 ops, aI cI d1 24 xs, aI cI d2 24 ys, aI cI d3 24 zs, oB su 6 [.ref u0, .ref u1, .ref u2, .int (nI ob), .int (nI nt)], aI cI u0 48 inp, aI cI u1 72 row, aI cI u2 12 len, oB rn 4 [.ref q0, .ref q1, .ref q2, .int (nI sc), .int (nI oc), .int (nI ic), .int cut, .int kk, .int (-1), .int sv], aI cI q0 300 tr, aI cI q1 6 ou, aI cI q2 8 vr] := hD
  refine lv_aload_n hx hb dX4_turning_11 rfl (lv_at hl 0 rfl) ?_
  refine lv_aload_n hx hb dX4_turning_12 rfl (lv_at hl 1 rfl) ?_
  refine lv_aload_n hx hb dX4_turning_13 rfl (lv_at hl 2 rfl) ?_
  refine lv_iload_n hx hb dX4_turning_14 rfl (lv_at hl 3 rfl) ?_
  refine Kv.callV (wr := []) (rest := []) (CX4_go jl G cI cZ cJ cd d0 d1 d2 d3 n ops xs ys zs su u0 u1 u2 ob nt inp row len rn q0 q1 q2 sc oc ic cut kk (-1) sv tr ou vr os t hn ht hok) cx hP hD hS hl [0, 1, 2, 3, 4, 5, 6, 7, 8, 9, 10, 11, 12] [] (ci := 4) (q0 := 9) gX4_turning_X4_go hdX4_go rfl rfl rfl ⟨Nat.le_of_ble_eq_true rfl, Nat.le_of_ble_eq_true rfl⟩ rfl rfl (by decide) (by decide) (by decide) dX4_turning_15 rfl rfl (Nat.le_of_ble_eq_true rfl) ⟨Nat.le_of_ble_eq_true rfl, Nat.le_of_ble_eq_true rfl⟩ (fun u H locs hw9 hP hD hS => ?_)
  obtain ⟨l1, sc1, oc1, ic1, tr1, vr1, ou1, os1⟩ := u
  try dsimp only at hw9
  have hP : va_P G vwCl [oB cd 0 [.ref d0, .ref d1, .ref d2, .ref d3, .int (nI n)], aI cI d0 24 ops, aI cI d1 24 xs, aI cI d2 24 ys, aI cI d3 24 zs, oB su 6 [.ref u0, .ref u1, .ref u2, .int (nI ob), .int (nI nt)], aI cI u0 48 inp, aI cI u1 72 row, aI cI u2 12 len, oB rn 4 [.ref q0, .ref q1, .ref q2, .int (nI sc1), .int (nI oc1), .int (nI ic1), .int (bI (r_on n (l1, sc1, oc1, ic1, tr1, vr1, ou1, os1))), .int kk, .int (-1), .int sv], aI cI q0 300 tr1, aI cI q1 6 ou1, aI cI q2 8 vr1] H := hP
  have hD : va_D jA [oB cd 0 [.ref d0, .ref d1, .ref d2, .ref d3, .int (nI n)], aI cI d0 24 ops, aI cI d1 24 xs, aI cI d2 24 ys, aI cI d3 24 zs, oB su 6 [.ref u0, .ref u1, .ref u2, .int (nI ob), .int (nI nt)], aI cI u0 48 inp, aI cI u1 72 row, aI cI u2 12 len, oB rn 4 [.ref q0, .ref q1, .ref q2, .int (nI sc1), .int (nI oc1), .int (nI ic1), .int (bI (r_on n (l1, sc1, oc1, ic1, tr1, vr1, ou1, os1))), .int kk, .int (-1), .int sv], aI cI q0 300 tr1, aI cI q1 6 ou1, aI cI q2 8 vr1] := hD
  exact hret _ _ _ _ (l1, sc1, oc1, ic1, tr1, vr1, ou1, os1) dX4_turning_18 (hw9) hP hD hS

theorem iX4_setting_4 : ∀ w ∈ wsX40, w ∈ wsX4_setting := by decide +kernel
theorem mX4_setting_35 : Cond.fieldLink RX4 35 "LineFinder$Run" "turnedIf" "I" ∈ wsX4_setting := List.mem_of_getElem? (i := 1) rfl
theorem mX4_setting_38 : Cond.fieldLink RX4 38 "LineFinder$Run" "setLine" "I" ∈ wsX4_setting := List.mem_of_getElem? (i := 2) rfl
theorem mX4_setting_41 : Cond.fieldLink RX4 41 "LineFinder$Run" "setValue" "I" ∈ wsX4_setting := List.mem_of_getElem? (i := 3) rfl
abbrev rCX4_setting : Room := { frames := 4, cells := 0, slots := 0, locals := 97 }
set_option maxHeartbeats 4000000 in
set_option maxRecDepth 100000 in
theorem CX4_setting (jl : Launch) (G : va_G) (cI cZ cJ : ClassId) (cd d0 d1 d2 d3 n : Nat) (ops xs ys zs : Fn) (su u0 u1 u2 ob nt : Nat) (inp row len : Fn) (rn q0 q1 q2 sc oc ic : Nat) (cut ti sl sv : Int32) (tr ou vr : Fn) (os : Fn) (t : Nat) (hn : n ≤ 24) (ht : t < 12) (hok : ∀ i, i < n → rowOk (ops i) (xs i) (ys i) (zs i)) (ln v : Int32) : Kv jl yX4_setting wsX4_setting rCX4_setting G cI cZ cJ [.ref rn, .ref cd, .ref su, .int (nI t), .int ln, .int v] [oB cd 0 [.ref d0, .ref d1, .ref d2, .ref d3, .int (nI n)], aI cI d0 24 ops, aI cI d1 24 xs, aI cI d2 24 ys, aI cI d3 24 zs, oB su 6 [.ref u0, .ref u1, .ref u2, .int (nI ob), .int (nI nt)], aI cI u0 48 inp, aI cI u1 72 row, aI cI u2 12 len, oB rn 4 [.ref q0, .ref q1, .ref q2, .int (nI sc), .int (nI oc), .int (nI ic), .int cut, .int ti, .int sl, .int sv], aI cI q0 300 tr, aI cI q1 6 ou, aI cI q2 8 vr] (S := RS) (fun (u : RS) => match u with | (l1, sc1, oc1, ic1, tr1, vr1, ou1, os1) => (l1, sc1, oc1, ic1, tr1, vr1, ou1, os1) = r_run n ops xs ys zs (fun y => inp (t * 4 + y)) (-1) ln v tr vr ou os ∧ l1 ≤ 24 ∧ sc1 ≤ 300 ∧ oc1 ≤ 6 ∧ ic1 ≤ 300) (fun (u : RS) => match u with | (l1, sc1, oc1, ic1, tr1, vr1, ou1, os1) => [oB cd 0 [.ref d0, .ref d1, .ref d2, .ref d3, .int (nI n)], aI cI d0 24 ops, aI cI d1 24 xs, aI cI d2 24 ys, aI cI d3 24 zs, oB su 6 [.ref u0, .ref u1, .ref u2, .int (nI ob), .int (nI nt)], aI cI u0 48 inp, aI cI u1 72 row, aI cI u2 12 len, oB rn 4 [.ref q0, .ref q1, .ref q2, .int (nI sc1), .int (nI oc1), .int (nI ic1), .int (bI (r_on n (l1, sc1, oc1, ic1, tr1, vr1, ou1, os1))), .int (-1), .int ln, .int v], aI cI q0 300 tr1, aI cI q1 6 ou1, aI cI q2 8 vr1]) := by
  refine Kv.of (cc := cX4_setting) (maxL := 6) (by decide +kernel) rfl (Nat.le_of_ble_eq_true rfl) ?_
  intro jp je js jm ja jb jt jc jA jQ ls cx hnm hP hD hS hl hret
  obtain ⟨hx, hb, hml, hown, hts, hK, hA⟩ := id cx
  have hl : lv_has ls 6 [(0, .ref rn), (1, .ref cd), (2, .ref su), (3, .int (nI t)), (4, .int ln), (5, .int v)] := hl
  obtain ⟨H, hH⟩ : ∃ H, H = js.heap := ⟨_, rfl⟩
  obtain ⟨locs, hlocs⟩ : ∃ z : List Loc, z = [] := ⟨_, rfl⟩
  have hP : va_P G vwCl [oB cd 0 [.ref d0, .ref d1, .ref d2, .ref d3, .int (nI n)], aI cI d0 24 ops, aI cI d1 24 xs, aI cI d2 24 ys, aI cI d3 24 zs, oB su 6 [.ref u0, .ref u1, .ref u2, .int (nI ob), .int (nI nt)], aI cI u0 48 inp, aI cI u1 72 row, aI cI u2 12 len, oB rn 4 [.ref q0, .ref q1, .ref q2, .int (nI sc), .int (nI oc), .int (nI ic), .int cut, .int ti, .int sl, .int sv], aI cI q0 300 tr, aI cI q1 6 ou, aI cI q2 8 vr] H := by rw [hH]; exact hP
  have hS : va_S jA js.heap H locs := by rw [hH, hlocs]; exact hS
  rw [← hlocs]; rw [show W jp jl je rCX4_setting js jm ja jb jt jc js.heap locs 0 0 jQ (F0 jm 0 ls []) = W jp jl je rCX4_setting js jm ja jb jt jc H locs 0 0 jQ (F0 jm 0 ls []) by rw [hH]]
  clear hH hlocs
  refine lv_aload_n hx hb dX4_setting_0 rfl (lv_at hl 0 rfl) ?_
  refine lv_iconst (v := (-1)) hx hb dX4_setting_1 (by decide) ?_
  refine va_put (C := RX4) (T := TX4) (N := 10) (ci := 4) (v := .int (-1)) (ty := tyX4 7) hx hb hts iX4_setting_4 tyX4 tyX4_ok nmX4 hown hK.1 hP hD hS 9 rfl rfl 7 (Nat.le_of_ble_eq_true rfl) (hts _ mX4_setting_35) (fun _ h9 => h9) rfl (tyX4_ok 7 (Nat.le_of_ble_eq_true rfl)) (rfl) (rfl) (Nat.le_of_ble_eq_true rfl) dX4_setting_2 (fun H locs hP hD hS => ?_)
  have hP : va_P G vwCl [oB cd 0 [.ref d0, .ref d1, .ref d2, .ref d3, .int (nI n)], aI cI d0 24 ops, aI cI d1 24 xs, aI cI d2 24 ys, aI cI d3 24 zs, oB su 6 [.ref u0, .ref u1, .ref u2, .int (nI ob), .int (nI nt)], aI cI u0 48 inp, aI cI u1 72 row, aI cI u2 12 len, oB rn 4 [.ref q0, .ref q1, .ref q2, .int (nI sc), .int (nI oc), .int (nI ic), .int cut, .int (-1), .int sl, .int sv], aI cI q0 300 tr, aI cI q1 6 ou, aI cI q2 8 vr] H := hP
  have hD : va_D jA [oB cd 0 [.ref d0, .ref d1, .ref d2, .ref d3, .int (nI n)], aI cI d0 24 ops, aI cI d1 24 xs, aI cI d2 24 ys, aI cI d3 24 zs, oB su 6 [.ref u0, .ref u1, .ref u2, .int (nI ob), .int (nI nt)], aI cI u0 48 inp, aI cI u1 72 row, aI cI u2 12 len, oB rn 4 [.ref q0, .ref q1, .ref q2, .int (nI sc), .int (nI oc), .int (nI ic), .int cut, .int (-1), .int sl, .int sv], aI cI q0 300 tr, aI cI q1 6 ou, aI cI q2 8 vr] := hD
  refine lv_aload_n hx hb dX4_setting_5 rfl (lv_at hl 0 rfl) ?_
  refine lv_iload hx hb dX4_setting_6 (lv_at hl 4 rfl) ?_
  refine va_put (C := RX4) (T := TX4) (N := 10) (ci := 4) (v := .int ln) (ty := tyX4 8) hx hb hts iX4_setting_4 tyX4 tyX4_ok nmX4 hown hK.1 hP hD hS 9 rfl rfl 8 (Nat.le_of_ble_eq_true rfl) (hts _ mX4_setting_38) (fun _ h9 => h9) rfl (tyX4_ok 8 (Nat.le_of_ble_eq_true rfl)) (rfl) (rfl) (Nat.le_of_ble_eq_true rfl) dX4_setting_8 (fun H locs hP hD hS => ?_)
  have hP : va_P G vwCl [oB cd 0 [.ref d0, .ref d1, .ref d2, .ref d3, .int (nI n)], aI cI d0 24 ops, aI cI d1 24 xs, aI cI d2 24 ys, aI cI d3 24 zs, oB su 6 [.ref u0, .ref u1, .ref u2, .int (nI ob), .int (nI nt)], aI cI u0 48 inp, aI cI u1 72 row, aI cI u2 12 len, oB rn 4 [.ref q0, .ref q1, .ref q2, .int (nI sc), .int (nI oc), .int (nI ic), .int cut, .int (-1), .int ln, .int sv], aI cI q0 300 tr, aI cI q1 6 ou, aI cI q2 8 vr] H := hP
  have hD : va_D jA [oB cd 0 [.ref d0, .ref d1, .ref d2, .ref d3, .int (nI n)], aI cI d0 24 ops, aI cI d1 24 xs, aI cI d2 24 ys, aI cI d3 24 zs, oB su 6 [.ref u0, .ref u1, .ref u2, .int (nI ob), .int (nI nt)], aI cI u0 48 inp, aI cI u1 72 row, aI cI u2 12 len, oB rn 4 [.ref q0, .ref q1, .ref q2, .int (nI sc), .int (nI oc), .int (nI ic), .int cut, .int (-1), .int ln, .int sv], aI cI q0 300 tr, aI cI q1 6 ou, aI cI q2 8 vr] := hD
  refine lv_aload_n hx hb dX4_setting_11 rfl (lv_at hl 0 rfl) ?_
  refine lv_iload hx hb dX4_setting_12 (lv_at hl 5 rfl) ?_
  refine va_put (C := RX4) (T := TX4) (N := 10) (ci := 4) (v := .int v) (ty := tyX4 9) hx hb hts iX4_setting_4 tyX4 tyX4_ok nmX4 hown hK.1 hP hD hS 9 rfl rfl 9 (Nat.le_of_ble_eq_true rfl) (hts _ mX4_setting_41) (fun _ h9 => h9) rfl (tyX4_ok 9 (Nat.le_of_ble_eq_true rfl)) (rfl) (rfl) (Nat.le_of_ble_eq_true rfl) dX4_setting_14 (fun H locs hP hD hS => ?_)
  have hP : va_P G vwCl [oB cd 0 [.ref d0, .ref d1, .ref d2, .ref d3, .int (nI n)], aI cI d0 24 ops, aI cI d1 24 xs, aI cI d2 24 ys, aI cI d3 24 zs, oB su 6 [.ref u0, .ref u1, .ref u2, .int (nI ob), .int (nI nt)], aI cI u0 48 inp, aI cI u1 72 row, aI cI u2 12 len, oB rn 4 [.ref q0, .ref q1, .ref q2, .int (nI sc), .int (nI oc), .int (nI ic), .int cut, .int (-1), .int ln, .int v], aI cI q0 300 tr, aI cI q1 6 ou, aI cI q2 8 vr] H := hP
  have hD : va_D jA [oB cd 0 [.ref d0, .ref d1, .ref d2, .ref d3, .int (nI n)], aI cI d0 24 ops, aI cI d1 24 xs, aI cI d2 24 ys, aI cI d3 24 zs, oB su 6 [.ref u0, .ref u1, .ref u2, .int (nI ob), .int (nI nt)], aI cI u0 48 inp, aI cI u1 72 row, aI cI u2 12 len, oB rn 4 [.ref q0, .ref q1, .ref q2, .int (nI sc), .int (nI oc), .int (nI ic), .int cut, .int (-1), .int ln, .int v], aI cI q0 300 tr, aI cI q1 6 ou, aI cI q2 8 vr] := hD
  refine lv_aload_n hx hb dX4_setting_17 rfl (lv_at hl 0 rfl) ?_
  refine lv_aload_n hx hb dX4_setting_18 rfl (lv_at hl 1 rfl) ?_
  refine lv_aload_n hx hb dX4_setting_19 rfl (lv_at hl 2 rfl) ?_
  refine lv_iload_n hx hb dX4_setting_20 rfl (lv_at hl 3 rfl) ?_
  refine Kv.callV (wr := []) (rest := []) (CX4_go jl G cI cZ cJ cd d0 d1 d2 d3 n ops xs ys zs su u0 u1 u2 ob nt inp row len rn q0 q1 q2 sc oc ic cut (-1) ln v tr ou vr os t hn ht hok) cx hP hD hS hl [0, 1, 2, 3, 4, 5, 6, 7, 8, 9, 10, 11, 12] [] (ci := 4) (q0 := 9) gX4_setting_X4_go hdX4_go rfl rfl rfl ⟨Nat.le_of_ble_eq_true rfl, Nat.le_of_ble_eq_true rfl⟩ rfl rfl (by decide) (by decide) (by decide) dX4_setting_21 rfl rfl (Nat.le_of_ble_eq_true rfl) ⟨Nat.le_of_ble_eq_true rfl, Nat.le_of_ble_eq_true rfl⟩ (fun u H locs hw9 hP hD hS => ?_)
  obtain ⟨l1, sc1, oc1, ic1, tr1, vr1, ou1, os1⟩ := u
  try dsimp only at hw9
  have hP : va_P G vwCl [oB cd 0 [.ref d0, .ref d1, .ref d2, .ref d3, .int (nI n)], aI cI d0 24 ops, aI cI d1 24 xs, aI cI d2 24 ys, aI cI d3 24 zs, oB su 6 [.ref u0, .ref u1, .ref u2, .int (nI ob), .int (nI nt)], aI cI u0 48 inp, aI cI u1 72 row, aI cI u2 12 len, oB rn 4 [.ref q0, .ref q1, .ref q2, .int (nI sc1), .int (nI oc1), .int (nI ic1), .int (bI (r_on n (l1, sc1, oc1, ic1, tr1, vr1, ou1, os1))), .int (-1), .int ln, .int v], aI cI q0 300 tr1, aI cI q1 6 ou1, aI cI q2 8 vr1] H := hP
  have hD : va_D jA [oB cd 0 [.ref d0, .ref d1, .ref d2, .ref d3, .int (nI n)], aI cI d0 24 ops, aI cI d1 24 xs, aI cI d2 24 ys, aI cI d3 24 zs, oB su 6 [.ref u0, .ref u1, .ref u2, .int (nI ob), .int (nI nt)], aI cI u0 48 inp, aI cI u1 72 row, aI cI u2 12 len, oB rn 4 [.ref q0, .ref q1, .ref q2, .int (nI sc1), .int (nI oc1), .int (nI ic1), .int (bI (r_on n (l1, sc1, oc1, ic1, tr1, vr1, ou1, os1))), .int (-1), .int ln, .int v], aI cI q0 300 tr1, aI cI q1 6 ou1, aI cI q2 8 vr1] := hD
  exact hret _ _ _ _ (l1, sc1, oc1, ic1, tr1, vr1, ou1, os1) dX4_setting_24 (hw9) hP hD hS

theorem iX4_bringsOut_4 : ∀ w ∈ wsX40, w ∈ wsX4_bringsOut := by decide +kernel
theorem iX4_bringsOut_6 : ∀ w ∈ wsX60, w ∈ wsX4_bringsOut := by decide +kernel
theorem mX4_bringsOut_15 : Cond.fieldLink RX4 15 "LineFinder$Run" "outRow" "[I" ∈ wsX4_bringsOut := List.mem_of_getElem? (i := 4) rfl
theorem mX4_bringsOut_25 : Cond.fieldLink RX4 25 "LineFinder$Run" "outCount" "I" ∈ wsX4_bringsOut := List.mem_of_getElem? (i := 2) rfl
theorem mX4_bringsOut_31 : Cond.fieldLink RX4 31 "LineFinder$Run" "wasCut" "Z" ∈ wsX4_bringsOut := List.mem_of_getElem? (i := 1) rfl
theorem mX4_bringsOut_86 : Cond.fieldLink RX4 86 "LineFinder$Suite" "lengths" "[I" ∈ wsX4_bringsOut := List.mem_of_getElem? (i := 3) rfl
theorem hdX6_wantedOf : yX6_wantedOf.cls = RX6 ∧ yX6_wantedOf.cls ≠ "java/lang/invoke/MethodHandle" ∧ yX6_wantedOf.cls ≠ "java/lang/invoke/VarHandle" ∧ (parseMethodDescriptor yX6_wantedOf.desc).map (fun d => d.parameters.length) = some 2 := by decide +kernel
abbrev rCX4_bringsOut : Room := { frames := 1, cells := 0, slots := 0, locals := 22 }
set_option maxHeartbeats 4000000 in
set_option maxRecDepth 100000 in
theorem CX4_bringsOut (jl : Launch) (G : va_G) (cI cZ cJ : ClassId) (su u0 u1 u2 ob nt : Nat) (inp row len : Fn) (rn q0 q1 q2 sc oc ic : Nat) (ti sl sv : Int32) (tr ou vr : Fn) (cu : Bool) (t : Nat) (ht : t < 12) (hoc : oc ≤ 6) : Ki jl yX4_bringsOut wsX4_bringsOut rCX4_bringsOut G cI cZ cJ [.ref rn, .ref su, .int (nI t)] [oB su 6 [.ref u0, .ref u1, .ref u2, .int (nI ob), .int (nI nt)], aI cI u0 48 inp, aI cI u1 72 row, aI cI u2 12 len, oB rn 4 [.ref q0, .ref q1, .ref q2, .int (nI sc), .int (nI oc), .int (nI ic), .int (bI cu), .int ti, .int sl, .int sv], aI cI q0 300 tr, aI cI q1 6 ou, aI cI q2 8 vr] (S := Unit) (fun (r : Int32) (_ : Unit) => r = bI (r_well cu oc ou (len t) (fun i => row (t * 6 + i)))) (fun (_ : Unit) => [oB su 6 [.ref u0, .ref u1, .ref u2, .int (nI ob), .int (nI nt)], aI cI u0 48 inp, aI cI u1 72 row, aI cI u2 12 len, oB rn 4 [.ref q0, .ref q1, .ref q2, .int (nI sc), .int (nI oc), .int (nI ic), .int (bI cu), .int ti, .int sl, .int sv], aI cI q0 300 tr, aI cI q1 6 ou, aI cI q2 8 vr]) := by
  refine Ki.ofZ (cc := cX4_bringsOut) (maxL := 4) (by decide +kernel) rfl (Nat.le_of_ble_eq_true rfl) ?_
  intro jp je js jm ja jb jt jc jA jQ ls cx hnm hP hD hS hl hret
  obtain ⟨hx, hb, hml, hown, hts, hK, hA⟩ := id cx
  have hl : lv_has ls 4 [(0, .ref rn), (1, .ref su), (2, .int (nI t))] := hl
  obtain ⟨H, hH⟩ : ∃ H, H = js.heap := ⟨_, rfl⟩
  obtain ⟨locs, hlocs⟩ : ∃ z : List Loc, z = [] := ⟨_, rfl⟩
  have hP : va_P G vwCl [oB su 6 [.ref u0, .ref u1, .ref u2, .int (nI ob), .int (nI nt)], aI cI u0 48 inp, aI cI u1 72 row, aI cI u2 12 len, oB rn 4 [.ref q0, .ref q1, .ref q2, .int (nI sc), .int (nI oc), .int (nI ic), .int (bI cu), .int ti, .int sl, .int sv], aI cI q0 300 tr, aI cI q1 6 ou, aI cI q2 8 vr] H := by rw [hH]; exact hP
  have hS : va_S jA js.heap H locs := by rw [hH, hlocs]; exact hS
  rw [← hlocs]; rw [show W jp jl je rCX4_bringsOut js jm ja jb jt jc js.heap locs 0 0 jQ (F0 jm 0 ls []) = W jp jl je rCX4_bringsOut js jm ja jb jt jc H locs 0 0 jQ (F0 jm 0 ls []) by rw [hH]]
  clear hH hlocs
  refine lv_aload_n hx hb dX4_bringsOut_0 rfl (lv_at hl 0 rfl) ?_
  refine va_get (C := RX4) (T := TX4) (N := 10) (ci := 4) hx hb hts iX4_bringsOut_4 hown hK.1 hP 4 rfl rfl 6 (Nat.le_of_ble_eq_true rfl) (hts _ mX4_bringsOut_31) (fun _ h9 => h9) rfl dX4_bringsOut_1 ?_
  refine lv_if_ne (tgt := 20) hx hb dX4_bringsOut_4 (by decide) (fun c_1 => ?_) (fun c_1 => ?_)
  · skip
    refine lv_iconst (v := nI 0) hx hb dX4_bringsOut_20 (by decide) ?_
    exact hret _ _ _ _ _ () dX4_bringsOut_21 (by decide) (by cases cu with | true => rfl | false => exact absurd rfl c_1) hP hD hS
  · skip
    refine lv_aload_n hx hb dX4_bringsOut_7 rfl (lv_at hl 0 rfl) ?_
    refine va_get (C := RX4) (T := TX4) (N := 10) (ci := 4) hx hb hts iX4_bringsOut_4 hown hK.1 hP 4 rfl rfl 4 (Nat.le_of_ble_eq_true rfl) (hts _ mX4_bringsOut_25) (fun _ h9 => h9) rfl dX4_bringsOut_8 ?_
    refine lv_aload_n hx hb dX4_bringsOut_11 rfl (lv_at hl 1 rfl) ?_
    refine va_get (C := RX6) (T := TX6) (N := 5) (ci := 6) hx hb hts iX4_bringsOut_6 hown hK.1 hP 0 rfl rfl 2 (Nat.le_of_ble_eq_true rfl) (hts _ mX4_bringsOut_86) (fun _ h9 => h9) rfl dX4_bringsOut_12 ?_
    refine lv_iload_n hx hb dX4_bringsOut_15 rfl (lv_at hl 2 rfl) ?_
    refine k_iald hx hb hK.1 hP 3 0 rfl rfl (by omega) (by decide) dX4_bringsOut_16 ?_
    refine lv_icmp_eq (tgt := 22) hx hb dX4_bringsOut_17 (by decide) (fun c_2 => ?_) (fun c_2 => ?_)
    · skip
      refine lv_iconst (v := nI 0) hx hb dX4_bringsOut_22 (by decide) ?_
      refine lv_istore_n (lv' := [(3, .int (nI 0)), (0, .ref rn), (1, .ref su), (2, .int (nI t))]) hx hb dX4_bringsOut_23 rfl hl (by decide) rfl (fun ls hl => ?_)
      have L24 : ∀ (fu : Nat), ∀ (i : Nat), (oc < i + fu) → (i ≤ oc) → (eqN ou (fun i => row (t * 6 + i)) i = true) → ∀ (H : Heap) (locs : List Loc) (ls : Array Slot), va_P G vwCl [oB su 6 [.ref u0, .ref u1, .ref u2, .int (nI ob), .int (nI nt)], aI cI u0 48 inp, aI cI u1 72 row, aI cI u2 12 len, oB rn 4 [.ref q0, .ref q1, .ref q2, .int (nI sc), .int (nI oc), .int (nI ic), .int (bI cu), .int ti, .int sl, .int sv], aI cI q0 300 tr, aI cI q1 6 ou, aI cI q2 8 vr] H → va_D jA [oB su 6 [.ref u0, .ref u1, .ref u2, .int (nI ob), .int (nI nt)], aI cI u0 48 inp, aI cI u1 72 row, aI cI u2 12 len, oB rn 4 [.ref q0, .ref q1, .ref q2, .int (nI sc), .int (nI oc), .int (nI ic), .int (bI cu), .int ti, .int sl, .int sv], aI cI q0 300 tr, aI cI q1 6 ou, aI cI q2 8 vr] → va_S jA js.heap H locs → lv_has ls 4 [(0, .ref rn), (1, .ref su), (2, .int (nI t)), (3, .int (nI i))] → W jp jl je rCX4_bringsOut js jm ja jb jt jc H locs 0 0 jQ (F0 jm 24 ls []) := by
        intro fu
        induction fu with
        | zero =>
          intro i hfu hi heq H locs ls hP hD hS hl
          exact absurd hfu (by omega)
        | succ fu ih24 =>
          intro i hfu hi heq H locs ls hP hD hS hl
          refine lv_iload_n hx hb dX4_bringsOut_24 rfl (lv_at hl 3 rfl) ?_
          refine lv_aload_n hx hb dX4_bringsOut_25 rfl (lv_at hl 0 rfl) ?_
          refine va_get (C := RX4) (T := TX4) (N := 10) (ci := 4) hx hb hts iX4_bringsOut_4 hown hK.1 hP 4 rfl rfl 4 (Nat.le_of_ble_eq_true rfl) (hts _ mX4_bringsOut_25) (fun _ h9 => h9) rfl dX4_bringsOut_26 ?_
          refine k_cmp_ge (tgt := 55) hx hb dX4_bringsOut_29 (by decide) (by omega) (by omega) (fun c_3 => ?_) (fun c_3 => ?_)
          · skip
            refine lv_iconst (v := nI 1) hx hb dX4_bringsOut_55 (by decide) ?_
            have hcu : cu = false := by cases cu with | true => exact absurd c_1 (by decide) | false => rfl
            have hie : i = oc := by omega
            exact hret _ _ _ _ _ () dX4_bringsOut_56 (by decide) (by subst hcu; unfold r_well; rw [decide_eq_true c_2, ← hie, heq]; rfl) hP hD hS
          · skip
            refine lv_aload_n hx hb dX4_bringsOut_32 rfl (lv_at hl 0 rfl) ?_
            refine va_get (C := RX4) (T := TX4) (N := 10) (ci := 4) hx hb hts iX4_bringsOut_4 hown hK.1 hP 4 rfl rfl 1 (Nat.le_of_ble_eq_true rfl) (hts _ mX4_bringsOut_15) (fun _ h9 => h9) rfl dX4_bringsOut_33 ?_
            refine lv_iload_n hx hb dX4_bringsOut_36 rfl (lv_at hl 3 rfl) ?_
            refine k_iald hx hb hK.1 hP 6 0 rfl rfl (by omega) (by decide) dX4_bringsOut_37 ?_
            refine lv_aload_n hx hb dX4_bringsOut_38 rfl (lv_at hl 1 rfl) ?_
            refine lv_iload_n hx hb dX4_bringsOut_39 rfl (lv_at hl 2 rfl) ?_
            refine lv_iload_n hx hb dX4_bringsOut_40 rfl (lv_at hl 3 rfl) ?_
            refine Ki.callV (wr := [oB rn 4 [.ref q0, .ref q1, .ref q2, .int (nI sc), .int (nI oc), .int (nI ic), .int (bI cu), .int ti, .int sl, .int sv], aI cI q0 300 tr, aI cI q1 6 ou, aI cI q2 8 vr]) (rest := [.int (ou i)]) (CX6_wantedOf jl G cI cZ cJ su u0 u1 u2 ob nt inp row len t i ht (by omega)) cx hP hD hS hl [0, 1, 2, 3] [4, 5, 6, 7] (ci := 6) (q0 := 0) gX4_bringsOut_X6_wantedOf hdX6_wantedOf rfl rfl rfl ⟨Nat.le_of_ble_eq_true rfl, Nat.le_of_ble_eq_true rfl⟩ rfl rfl (by decide) (by decide) (by decide) dX4_bringsOut_41 rfl rfl (Nat.le_of_ble_eq_true rfl) ⟨Nat.le_of_ble_eq_true rfl, Nat.le_of_ble_eq_true rfl⟩ (fun r_4 u H locs hw_5 hP hD hS => ?_)
            have hP : va_P G vwCl [oB rn 4 [.ref q0, .ref q1, .ref q2, .int (nI sc), .int (nI oc), .int (nI ic), .int (bI cu), .int ti, .int sl, .int sv], aI cI q0 300 tr, aI cI q1 6 ou, aI cI q2 8 vr, oB su 6 [.ref u0, .ref u1, .ref u2, .int (nI ob), .int (nI nt)], aI cI u0 48 inp, aI cI u1 72 row, aI cI u2 12 len] H := hP
            have hD : va_D jA [oB rn 4 [.ref q0, .ref q1, .ref q2, .int (nI sc), .int (nI oc), .int (nI ic), .int (bI cu), .int ti, .int sl, .int sv], aI cI q0 300 tr, aI cI q1 6 ou, aI cI q2 8 vr, oB su 6 [.ref u0, .ref u1, .ref u2, .int (nI ob), .int (nI nt)], aI cI u0 48 inp, aI cI u1 72 row, aI cI u2 12 len] := hD
            subst hw_5
            refine lv_icmp_eq (tgt := 49) hx hb dX4_bringsOut_44 (by decide) (fun heq1 => ?_) (fun heq1 => ?_)
            · skip
              refine lv_iinc (v := nI (i + 1)) (lv' := [(3, .int (nI (i + 1))), (0, .ref rn), (1, .ref su), (2, .int (nI t))]) hx hb dX4_bringsOut_49 hl (k := 3) rfl (nI_add i 1) (by decide) rfl (fun ls hl => ?_)
              refine lv_goto (tgt := 24) hx hb dX4_bringsOut_52 (by decide) ?_
              obtain ⟨hP, hD⟩ := k_sub (w' := [oB su 6 [.ref u0, .ref u1, .ref u2, .int (nI ob), .int (nI nt)], aI cI u0 48 inp, aI cI u1 72 row, aI cI u2 12 len, oB rn 4 [.ref q0, .ref q1, .ref q2, .int (nI sc), .int (nI oc), .int (nI ic), .int (bI cu), .int ti, .int sl, .int sv], aI cI q0 300 tr, aI cI q1 6 ou, aI cI q2 8 vr]) hP hD [4, 5, 6, 7, 0, 1, 2, 3] rfl (by decide)
              exact ih24 (i + 1) (by omega) (by omega) (eqN_succ heq heq1) _ _ _ hP hD hS (lv_sub hl [1, 2, 3, 0] rfl)
            · skip
              refine lv_iconst (v := nI 0) hx hb dX4_bringsOut_47 (by decide) ?_
              have hcu : cu = false := by cases cu with | true => exact absurd c_1 (by decide) | false => rfl
              obtain ⟨hP, hD⟩ := k_sub (w' := [oB su 6 [.ref u0, .ref u1, .ref u2, .int (nI ob), .int (nI nt)], aI cI u0 48 inp, aI cI u1 72 row, aI cI u2 12 len, oB rn 4 [.ref q0, .ref q1, .ref q2, .int (nI sc), .int (nI oc), .int (nI ic), .int (bI cu), .int ti, .int sl, .int sv], aI cI q0 300 tr, aI cI q1 6 ou, aI cI q2 8 vr]) hP hD [4, 5, 6, 7, 0, 1, 2, 3] rfl (by decide)
              exact hret _ _ _ _ _ () dX4_bringsOut_48 (by decide) (by subst hcu; unfold r_well; rw [eqN_false (by omega : i < oc) heq1, Bool.and_false]; rfl) hP hD hS
      exact L24 (oc + 1) 0 (by omega) (by omega) (rfl) _ _ _ hP hD hS (lv_sub hl [1, 2, 3, 0] rfl)
    · skip
      refine lv_iconst (v := nI 0) hx hb dX4_bringsOut_20 (by decide) ?_
      have hcu : cu = false := by cases cu with | true => exact absurd c_1 (by decide) | false => rfl
      exact hret _ _ _ _ _ () dX4_bringsOut_21 (by decide) (by subst hcu; unfold r_well; rw [decide_eq_false c_2]; rfl) hP hD hS

theorem iX4_timesDone_4 : ∀ w ∈ wsX40, w ∈ wsX4_timesDone := by decide +kernel
theorem mX4_timesDone_9 : Cond.fieldLink RX4 9 "LineFinder$Run" "trace" "[I" ∈ wsX4_timesDone := List.mem_of_getElem? (i := 2) rfl
theorem mX4_timesDone_21 : Cond.fieldLink RX4 21 "LineFinder$Run" "stepCount" "I" ∈ wsX4_timesDone := List.mem_of_getElem? (i := 1) rfl
abbrev rCX4_timesDone : Room := { frames := 0, cells := 0, slots := 0, locals := 0 }
set_option maxHeartbeats 4000000 in
set_option maxRecDepth 100000 in
theorem CX4_timesDone (jl : Launch) (G : va_G) (cI cZ cJ : ClassId) (rn q0 q1 q2 sc oc ic : Nat) (cut ti sl sv : Int32) (tr ou vr : Fn) (p : Int32) (hsc : sc ≤ 300) : Ki jl yX4_timesDone wsX4_timesDone rCX4_timesDone G cI cZ cJ [.ref rn, .int p] [oB rn 4 [.ref q0, .ref q1, .ref q2, .int (nI sc), .int (nI oc), .int (nI ic), .int cut, .int ti, .int sl, .int sv], aI cI q0 300 tr, aI cI q1 6 ou, aI cI q2 8 vr] (S := Unit) (fun (r : Int32) (_ : Unit) => r = nI (cntE tr p sc)) (fun (_ : Unit) => [oB rn 4 [.ref q0, .ref q1, .ref q2, .int (nI sc), .int (nI oc), .int (nI ic), .int cut, .int ti, .int sl, .int sv], aI cI q0 300 tr, aI cI q1 6 ou, aI cI q2 8 vr]) := by
  refine Ki.of (cc := cX4_timesDone) (maxL := 4) (by decide +kernel) rfl (Nat.le_of_ble_eq_true rfl) ?_
  intro jp je js jm ja jb jt jc jA jQ ls cx hnm hP hD hS hl hret
  obtain ⟨hx, hb, hml, hown, hts, hK, hA⟩ := id cx
  have hl : lv_has ls 4 [(0, .ref rn), (1, .int p)] := hl
  obtain ⟨H, hH⟩ : ∃ H, H = js.heap := ⟨_, rfl⟩
  obtain ⟨locs, hlocs⟩ : ∃ z : List Loc, z = [] := ⟨_, rfl⟩
  have hP : va_P G vwCl [oB rn 4 [.ref q0, .ref q1, .ref q2, .int (nI sc), .int (nI oc), .int (nI ic), .int cut, .int ti, .int sl, .int sv], aI cI q0 300 tr, aI cI q1 6 ou, aI cI q2 8 vr] H := by rw [hH]; exact hP
  have hS : va_S jA js.heap H locs := by rw [hH, hlocs]; exact hS
  rw [← hlocs]; rw [show W jp jl je rCX4_timesDone js jm ja jb jt jc js.heap locs 0 0 jQ (F0 jm 0 ls []) = W jp jl je rCX4_timesDone js jm ja jb jt jc H locs 0 0 jQ (F0 jm 0 ls []) by rw [hH]]
  clear hH hlocs
  refine lv_iconst (v := nI 0) hx hb dX4_timesDone_0 (by decide) ?_
  refine lv_istore_n (lv' := [(2, .int (nI 0)), (0, .ref rn), (1, .int p)]) hx hb dX4_timesDone_1 rfl hl (by decide) rfl (fun ls hl => ?_)
  refine lv_iconst (v := nI 0) hx hb dX4_timesDone_2 (by decide) ?_
  refine lv_istore_n (lv' := [(3, .int (nI 0)), (2, .int (nI 0)), (0, .ref rn), (1, .int p)]) hx hb dX4_timesDone_3 rfl hl (by decide) rfl (fun ls hl => ?_)
  have L4 : ∀ (fu : Nat), ∀ (i : Nat), ∀ (q : Nat), (sc < i + fu) → (i ≤ sc) → (q = cntE tr p i) → ∀ (H : Heap) (locs : List Loc) (ls : Array Slot), va_P G vwCl [oB rn 4 [.ref q0, .ref q1, .ref q2, .int (nI sc), .int (nI oc), .int (nI ic), .int cut, .int ti, .int sl, .int sv], aI cI q0 300 tr, aI cI q1 6 ou, aI cI q2 8 vr] H → va_D jA [oB rn 4 [.ref q0, .ref q1, .ref q2, .int (nI sc), .int (nI oc), .int (nI ic), .int cut, .int ti, .int sl, .int sv], aI cI q0 300 tr, aI cI q1 6 ou, aI cI q2 8 vr] → va_S jA js.heap H locs → lv_has ls 4 [(0, .ref rn), (1, .int p), (2, .int (nI q)), (3, .int (nI i))] → W jp jl je rCX4_timesDone js jm ja jb jt jc H locs 0 0 jQ (F0 jm 4 ls []) := by
    intro fu
    induction fu with
    | zero =>
      intro i q hfu hi eq_ H locs ls hP hD hS hl
      exact absurd hfu (by omega)
    | succ fu ih4 =>
      intro i q hfu hi eq_ H locs ls hP hD hS hl
      refine lv_iload_n hx hb dX4_timesDone_4 rfl (lv_at hl 3 rfl) ?_
      refine lv_aload_n hx hb dX4_timesDone_5 rfl (lv_at hl 0 rfl) ?_
      refine va_get (C := RX4) (T := TX4) (N := 10) (ci := 4) hx hb hts iX4_timesDone_4 hown hK.1 hP 0 rfl rfl 3 (Nat.le_of_ble_eq_true rfl) (hts _ mX4_timesDone_21) (fun _ h9 => h9) rfl dX4_timesDone_6 ?_
      refine k_cmp_ge (tgt := 31) hx hb dX4_timesDone_9 (by decide) (by omega) (by omega) (fun c_1 => ?_) (fun c_1 => ?_)
      · skip
        refine lv_iload_n hx hb dX4_timesDone_31 rfl (lv_at hl 2 rfl) ?_
        exact hret _ _ _ _ _ () dX4_timesDone_32 (by rw [eq_, show i = sc by omega]) hP hD hS
      · skip
        refine lv_aload_n hx hb dX4_timesDone_12 rfl (lv_at hl 0 rfl) ?_
        refine va_get (C := RX4) (T := TX4) (N := 10) (ci := 4) hx hb hts iX4_timesDone_4 hown hK.1 hP 0 rfl rfl 0 (Nat.le_of_ble_eq_true rfl) (hts _ mX4_timesDone_9) (fun _ h9 => h9) rfl dX4_timesDone_13 ?_
        refine lv_iload_n hx hb dX4_timesDone_16 rfl (lv_at hl 3 rfl) ?_
        refine k_iald hx hb hK.1 hP 1 0 rfl rfl (by omega) (by decide) dX4_timesDone_17 ?_
        refine lv_iload_n hx hb dX4_timesDone_18 rfl (lv_at hl 1 rfl) ?_
        refine lv_icmp_ne (tgt := 25) hx hb dX4_timesDone_19 (by decide) (fun hh => ?_) (fun hh => ?_)
        · skip
          refine lv_iinc (v := nI (i + 1)) (lv' := [(3, .int (nI (i + 1))), (0, .ref rn), (1, .int p), (2, .int (nI q))]) hx hb dX4_timesDone_25 hl (k := 3) rfl (nI_add i 1) (by decide) rfl (fun ls hl => ?_)
          refine lv_goto (tgt := 4) hx hb dX4_timesDone_28 (by decide) ?_
          exact ih4 (i + 1) q (by omega) (by omega) (by rw [cntE_n hh]; omega) _ _ _ hP hD hS (lv_sub hl [1, 2, 3, 0] rfl)
        · skip
          refine lv_iinc (v := nI (q + 1)) (lv' := [(2, .int (nI (q + 1))), (0, .ref rn), (1, .int p), (3, .int (nI i))]) hx hb dX4_timesDone_22 hl (k := 2) rfl (nI_add q 1) (by decide) rfl (fun ls hl => ?_)
          refine lv_iinc (v := nI (i + 1)) (lv' := [(3, .int (nI (i + 1))), (2, .int (nI (q + 1))), (0, .ref rn), (1, .int p)]) hx hb dX4_timesDone_25 hl (k := 3) rfl (nI_add i 1) (by decide) rfl (fun ls hl => ?_)
          refine lv_goto (tgt := 4) hx hb dX4_timesDone_28 (by decide) ?_
          exact ih4 (i + 1) (q + 1) (by omega) (by omega) (by rw [cntE_y hh]; omega) _ _ _ hP hD hS (lv_sub hl [2, 3, 1, 0] rfl)
  exact L4 (sc + 1) 0 0 (by omega) (by omega) (rfl) _ _ _ hP hD hS (lv_sub hl [2, 3, 1, 0] rfl)
