theorem mk_step {mb : Fn} {X : Nat → Nat} {tr : Fn} {k b : Nat} (h : ∀ i, i < 24 → mb i = nI (X i ||| (if hasE tr (nI i) k = true then b else 0))) (e : tr k = nI (tn (tr k))) (hl : tn (tr k) < 24) :
    ∀ i, i < 24 → upd mb (tn (tr k)) (nI ((X (tn (tr k)) ||| (if hasE tr (nI (tn (tr k))) k = true then b else 0)) ||| b)) i = nI (X i ||| (if hasE tr (nI i) (k + 1) = true then b else 0)) := by
  intro i hi
  unfold upd
  by_cases q : i = tn (tr k)
  · rw [if_pos q]
    have hh : hasE tr (nI i) (k + 1) = true := by unfold hasE; rw [q, decide_eq_true e, Bool.or_true]
    rw [if_pos hh, q]
    congr 1
    split
    · rw [Nat.or_assoc, Nat.or_self]
    · rw [Nat.or_zero]
  · rw [if_neg q, h i hi]
    have hh : hasE tr (nI i) (k + 1) = hasE tr (nI i) k := by
      have hn : ¬ tr k = nI i := fun z => q (((nI_eq (by omega) (by omega)).mp (e.symm.trans z)).symm)
      rw [hasE, decide_eq_false hn, Bool.or_false]
    rw [hh]

theorem iX8_note_4 : ∀ w ∈ wsX40, w ∈ wsX8_note := by decide +kernel
theorem iX8_note_8 : ∀ w ∈ wsX80, w ∈ wsX8_note := by decide +kernel
theorem mX8_note_9 : Cond.fieldLink RX8 9 "LineFinder$Verdicts" "metBy" "[I" ∈ wsX8_note := List.mem_of_getElem? (i := 2) rfl
theorem mX8_note_15 : Cond.fieldLink RX8 15 "LineFinder$Verdicts" "failing" "I" ∈ wsX8_note := List.mem_of_getElem? (i := 7) rfl
theorem mX8_note_19 : Cond.fieldLink RX8 19 "LineFinder$Verdicts" "passing" "I" ∈ wsX8_note := List.mem_of_getElem? (i := 6) rfl
theorem mX8_note_22 : Cond.fieldLink RX8 22 "LineFinder$Verdicts" "cut" "I" ∈ wsX8_note := List.mem_of_getElem? (i := 5) rfl
theorem mX8_note_40 : Cond.fieldLink RX8 40 "LineFinder$Run" "stepCount" "I" ∈ wsX8_note := List.mem_of_getElem? (i := 1) rfl
theorem mX8_note_43 : Cond.fieldLink RX8 43 "LineFinder$Run" "trace" "[I" ∈ wsX8_note := List.mem_of_getElem? (i := 3) rfl
theorem mX8_note_46 : Cond.fieldLink RX8 46 "LineFinder$Run" "wasCut" "Z" ∈ wsX8_note := List.mem_of_getElem? (i := 4) rfl
theorem hdX6_isOpen : yX6_isOpen.cls = RX6 ∧ yX6_isOpen.cls ≠ "java/lang/invoke/MethodHandle" ∧ yX6_isOpen.cls ≠ "java/lang/invoke/VarHandle" ∧ (parseMethodDescriptor yX6_isOpen.desc).map (fun d => d.parameters.length) = some 1 := by decide +kernel
theorem hdX4_bringsOut : yX4_bringsOut.cls = RX4 ∧ yX4_bringsOut.cls ≠ "java/lang/invoke/MethodHandle" ∧ yX4_bringsOut.cls ≠ "java/lang/invoke/VarHandle" ∧ (parseMethodDescriptor yX4_bringsOut.desc).map (fun d => d.parameters.length) = some 2 := by decide +kernel
abbrev rCX8_note : Room := { frames := 2, cells := 0, slots := 0, locals := 45 }
set_option maxHeartbeats 4000000 in
set_option maxRecDepth 100000 in
theorem CX8_note (jl : Launch) (G : va_G) (cI cZ cJ : ClassId) (ve m0 fa pa cu : Nat) (mb : Fn) (su u0 u1 u2 ob nt : Nat) (inp row len : Fn) (rn q0 q1 q2 sc oc ic : Nat) (ti sl sv : Int32) (tr ou vr : Fn) (cub : Bool) (X : Nat → Nat) (t : Nat) (ht : t < 12) (hob : ob < 2 ^ 31) (hsc : sc ≤ 300) (hoc : oc ≤ 6) (hfa : fa < 4096) (hpa : pa < 4096) (hcu : cu < 4096) (htr : ∀ k, k < sc → ix (tr k) 24) (hmb : ∀ i, i < 24 → mb i = nI (X i)) : Kv jl yX8_note wsX8_note rCX8_note G cI cZ cJ [.ref ve, .ref su, .ref rn, .int (nI t)] [oB ve 8 [.ref m0, .int (nI fa), .int (nI pa), .int (nI cu)], aI cI m0 24 mb, oB su 6 [.ref u0, .ref u1, .ref u2, .int (nI ob), .int (nI nt)], aI cI u0 48 inp, aI cI u1 72 row, aI cI u2 12 len, oB rn 4 [.ref q0, .ref q1, .ref q2, .int (nI sc), .int (nI oc), .int (nI ic), .int (bI cub), .int ti, .int sl, .int sv], aI cI q0 300 tr, aI cI q1 6 ou, aI cI q2 8 vr] (S := Nat × Nat × Nat × Fn) (fun (u : Nat × Nat × Nat × Fn) => match u with | (fa1, pa1, cu1, mb1) => (∀ i, i < 24 → mb1 i = nI (X i ||| (if hasE tr (nI i) sc = true then 2 ^ t else 0))) ∧ cu1 = cu ||| (if cub = true then 2 ^ t else 0) ∧ fa1 = fa ||| (if (!ob.testBit t && !(r_well cub oc ou (len t) (fun i => row (t * 6 + i)))) = true then 2 ^ t else 0) ∧ pa1 = pa ||| (if (!ob.testBit t && (r_well cub oc ou (len t) (fun i => row (t * 6 + i)))) = true then 2 ^ t else 0)) (fun (u : Nat × Nat × Nat × Fn) => match u with | (fa1, pa1, cu1, mb1) => [oB ve 8 [.ref m0, .int (nI fa1), .int (nI pa1), .int (nI cu1)], aI cI m0 24 mb1, oB su 6 [.ref u0, .ref u1, .ref u2, .int (nI ob), .int (nI nt)], aI cI u0 48 inp, aI cI u1 72 row, aI cI u2 12 len, oB rn 4 [.ref q0, .ref q1, .ref q2, .int (nI sc), .int (nI oc), .int (nI ic), .int (bI cub), .int ti, .int sl, .int sv], aI cI q0 300 tr, aI cI q1 6 ou, aI cI q2 8 vr]) := by
  refine Kv.of (cc := cX8_note) (maxL := 6) (by decide +kernel) rfl (Nat.le_of_ble_eq_true rfl) ?_
  intro jp je js jm ja jb jt jc jA jQ ls cx hnm hP hD hS hl hret
  obtain ⟨hx, hb, hml, hown, hts, hK, hA⟩ := id cx
  have hl : lv_has ls 6 [(0, .ref ve), (1, .ref su), (2, .ref rn), (3, .int (nI t))] := hl
  obtain ⟨H, hH⟩ : ∃ H, H = js.heap := ⟨_, rfl⟩
  obtain ⟨locs, hlocs⟩ : ∃ z : List Loc, z = [] := ⟨_, rfl⟩
  have hP : va_P G vwCl [oB ve 8 [.ref m0, .int (nI fa), .int (nI pa), .int (nI cu)], aI cI m0 24 mb, oB su 6 [.ref u0, .ref u1, .ref u2, .int (nI ob), .int (nI nt)], aI cI u0 48 inp, aI cI u1 72 row, aI cI u2 12 len, oB rn 4 [.ref q0, .ref q1, .ref q2, .int (nI sc), .int (nI oc), .int (nI ic), .int (bI cub), .int ti, .int sl, .int sv], aI cI q0 300 tr, aI cI q1 6 ou, aI cI q2 8 vr] H := by rw [hH]; exact hP
  have hS : va_S jA js.heap H locs := by rw [hH, hlocs]; exact hS
  rw [← hlocs]; rw [show W jp jl je rCX8_note js jm ja jb jt jc js.heap locs 0 0 jQ (F0 jm 0 ls []) = W jp jl je rCX8_note js jm ja jb jt jc H locs 0 0 jQ (F0 jm 0 ls []) by rw [hH]]
  clear hH hlocs
  refine lv_iconst (v := nI 1) hx hb dX8_note_0 (by decide) ?_
  refine lv_iload_n hx hb dX8_note_1 rfl (lv_at hl 3 rfl) ?_
  refine k_ishl hx hb dX8_note_2 (by omega) (by have := p2_12 ht; omega) ?_
  rw [Nat.one_mul]
  refine lv_istore (lv' := [(4, .int (nI (2 ^ t))), (0, .ref ve), (1, .ref su), (2, .ref rn), (3, .int (nI t))]) hx hb dX8_note_3 hl (by decide) rfl (fun ls hl => ?_)
  refine lv_iconst (v := nI 0) hx hb dX8_note_5 (by decide) ?_
  refine lv_istore (lv' := [(5, .int (nI 0)), (4, .int (nI (2 ^ t))), (0, .ref ve), (1, .ref su), (2, .ref rn), (3, .int (nI t))]) hx hb dX8_note_6 hl (by decide) rfl (fun ls hl => ?_)
  have L8 : ∀ (fu : Nat), ∀ (k : Nat), ∀ (mb2 : Fn), (sc < k + fu) → (k ≤ sc) → (∀ i, i < 24 → mb2 i = nI (X i ||| (if hasE tr (nI i) k = true then 2 ^ t else 0))) → ∀ (H : Heap) (locs : List Loc) (ls : Array Slot), va_P G vwCl [oB ve 8 [.ref m0, .int (nI fa), .int (nI pa), .int (nI cu)], aI cI m0 24 mb2, oB su 6 [.ref u0, .ref u1, .ref u2, .int (nI ob), .int (nI nt)], aI cI u0 48 inp, aI cI u1 72 row, aI cI u2 12 len, oB rn 4 [.ref q0, .ref q1, .ref q2, .int (nI sc), .int (nI oc), .int (nI ic), .int (bI cub), .int ti, .int sl, .int sv], aI cI q0 300 tr, aI cI q1 6 ou, aI cI q2 8 vr] H → va_D jA [oB ve 8 [.ref m0, .int (nI fa), .int (nI pa), .int (nI cu)], aI cI m0 24 mb2, oB su 6 [.ref u0, .ref u1, .ref u2, .int (nI ob), .int (nI nt)], aI cI u0 48 inp, aI cI u1 72 row, aI cI u2 12 len, oB rn 4 [.ref q0, .ref q1, .ref q2, .int (nI sc), .int (nI oc), .int (nI ic), .int (bI cub), .int ti, .int sl, .int sv], aI cI q0 300 tr, aI cI q1 6 ou, aI cI q2 8 vr] → va_S jA js.heap H locs → lv_has ls 6 [(0, .ref ve), (1, .ref su), (2, .ref rn), (3, .int (nI t)), (4, .int (nI (2 ^ t))), (5, .int (nI k))] → W jp jl je rCX8_note js jm ja jb jt jc H locs 0 0 jQ (F0 jm 8 ls []) := by
    intro fu
    induction fu with
    | zero =>
      intro k mb2 hfu hk hm2 H locs ls hP hD hS hl
      exact absurd hfu (by omega)
    | succ fu ih8 =>
      intro k mb2 hfu hk hm2 H locs ls hP hD hS hl
      refine lv_iload hx hb dX8_note_8 (lv_at hl 5 rfl) ?_
      refine lv_aload_n hx hb dX8_note_10 rfl (lv_at hl 2 rfl) ?_
      refine va_get (C := RX4) (T := TX4) (N := 10) (ci := 4) hx hb hts iX8_note_4 hown hK.1 hP 6 rfl rfl 3 (Nat.le_of_ble_eq_true rfl) (hts _ mX8_note_40) (fun _ h9 => h9) rfl dX8_note_11 ?_
      refine k_cmp_ge (tgt := 40) hx hb dX8_note_14 (by decide) (by omega) (by omega) (fun c_1 => ?_) (fun c_1 => ?_)
      · skip
        have hke : k = sc := by omega
        subst hke
        cases cub with
        | true =>
          have hP : va_P G vwCl [oB ve 8 [.ref m0, .int (nI fa), .int (nI pa), .int (nI cu)], aI cI m0 24 mb2, oB su 6 [.ref u0, .ref u1, .ref u2, .int (nI ob), .int (nI nt)], aI cI u0 48 inp, aI cI u1 72 row, aI cI u2 12 len, oB rn 4 [.ref q0, .ref q1, .ref q2, .int (nI k), .int (nI oc), .int (nI ic), .int (nI 1), .int ti, .int sl, .int sv], aI cI q0 300 tr, aI cI q1 6 ou, aI cI q2 8 vr] H := hP
          have hD : va_D jA [oB ve 8 [.ref m0, .int (nI fa), .int (nI pa), .int (nI cu)], aI cI m0 24 mb2, oB su 6 [.ref u0, .ref u1, .ref u2, .int (nI ob), .int (nI nt)], aI cI u0 48 inp, aI cI u1 72 row, aI cI u2 12 len, oB rn 4 [.ref q0, .ref q1, .ref q2, .int (nI k), .int (nI oc), .int (nI ic), .int (nI 1), .int ti, .int sl, .int sv], aI cI q0 300 tr, aI cI q1 6 ou, aI cI q2 8 vr] := hD
          refine lv_aload_n hx hb dX8_note_40 rfl (lv_at hl 2 rfl) ?_
          refine va_get (C := RX4) (T := TX4) (N := 10) (ci := 4) hx hb hts iX8_note_4 hown hK.1 hP 6 rfl rfl 6 (Nat.le_of_ble_eq_true rfl) (hts _ mX8_note_46) (fun _ h9 => h9) rfl dX8_note_41 ?_
          refine k_if_eq_f (tgt := 58) hx hb dX8_note_44 (by decide) (by decide) ?_
          refine lv_aload_n hx hb dX8_note_47 rfl (lv_at hl 0 rfl) ?_
          refine lv_dup hx hb dX8_note_48 rfl ?_
          refine va_get (C := RX8) (T := TX8) (N := 4) (ci := 8) hx hb hts iX8_note_8 hown hK.1 hP 0 rfl rfl 3 (Nat.le_of_ble_eq_true rfl) (hts _ mX8_note_22) (fun _ h9 => h9) rfl dX8_note_49 ?_
          refine lv_iload hx hb dX8_note_52 (lv_at hl 4 rfl) ?_
          refine k_ior hx hb dX8_note_54 ?_
          refine va_put (C := RX8) (T := TX8) (N := 4) (ci := 8) (v := .int (nI (cu ||| (2 ^ t)))) (ty := tyX8 3) hx hb hts iX8_note_8 tyX8 tyX8_ok nmX8 hown hK.1 hP hD hS 0 rfl rfl 3 (Nat.le_of_ble_eq_true rfl) (hts _ mX8_note_22) (fun _ h9 => h9) rfl (tyX8_ok 3 (Nat.le_of_ble_eq_true rfl)) (rfl) (rfl) (Nat.le_of_ble_eq_true rfl) dX8_note_55 (fun H locs hP hD hS => ?_)
          have hP : va_P G vwCl [oB ve 8 [.ref m0, .int (nI fa), .int (nI pa), .int (nI (cu ||| (2 ^ t)))], aI cI m0 24 mb2, oB su 6 [.ref u0, .ref u1, .ref u2, .int (nI ob), .int (nI nt)], aI cI u0 48 inp, aI cI u1 72 row, aI cI u2 12 len, oB rn 4 [.ref q0, .ref q1, .ref q2, .int (nI k), .int (nI oc), .int (nI ic), .int (nI 1), .int ti, .int sl, .int sv], aI cI q0 300 tr, aI cI q1 6 ou, aI cI q2 8 vr] H := hP
          have hD : va_D jA [oB ve 8 [.ref m0, .int (nI fa), .int (nI pa), .int (nI (cu ||| (2 ^ t)))], aI cI m0 24 mb2, oB su 6 [.ref u0, .ref u1, .ref u2, .int (nI ob), .int (nI nt)], aI cI u0 48 inp, aI cI u1 72 row, aI cI u2 12 len, oB rn 4 [.ref q0, .ref q1, .ref q2, .int (nI k), .int (nI oc), .int (nI ic), .int (nI 1), .int ti, .int sl, .int sv], aI cI q0 300 tr, aI cI q1 6 ou, aI cI q2 8 vr] := hD
          refine lv_aload_n hx hb dX8_note_58 rfl (lv_at hl 1 rfl) ?_
          refine lv_iload_n hx hb dX8_note_59 rfl (lv_at hl 3 rfl) ?_
          refine Ki.callV (wr := [oB ve 8 [.ref m0, .int (nI fa), .int (nI pa), .int (nI (cu ||| (2 ^ t)))], aI cI m0 24 mb2, oB rn 4 [.ref q0, .ref q1, .ref q2, .int (nI k), .int (nI oc), .int (nI ic), .int (nI 1), .int ti, .int sl, .int sv], aI cI q0 300 tr, aI cI q1 6 ou, aI cI q2 8 vr]) (rest := []) (CX6_isOpen jl G cI cZ cJ su u0 u1 u2 ob nt inp row len hob t ht) cx hP hD hS hl [2, 3, 4, 5] [0, 1, 6, 7, 8, 9] (ci := 6) (q0 := 0) gX8_note_X6_isOpen hdX6_isOpen rfl rfl rfl ⟨Nat.le_of_ble_eq_true rfl, Nat.le_of_ble_eq_true rfl⟩ rfl rfl (by decide) (by decide) (by decide) dX8_note_60 rfl rfl (Nat.le_of_ble_eq_true rfl) ⟨Nat.le_of_ble_eq_true rfl, Nat.le_of_ble_eq_true rfl⟩ (fun r_3 u H locs hw_4 hP hD hS => ?_)
          have hP : va_P G vwCl [oB ve 8 [.ref m0, .int (nI fa), .int (nI pa), .int (nI (cu ||| (2 ^ t)))], aI cI m0 24 mb2, oB rn 4 [.ref q0, .ref q1, .ref q2, .int (nI k), .int (nI oc), .int (nI ic), .int (nI 1), .int ti, .int sl, .int sv], aI cI q0 300 tr, aI cI q1 6 ou, aI cI q2 8 vr, oB su 6 [.ref u0, .ref u1, .ref u2, .int (nI ob), .int (nI nt)], aI cI u0 48 inp, aI cI u1 72 row, aI cI u2 12 len] H := hP
          have hD : va_D jA [oB ve 8 [.ref m0, .int (nI fa), .int (nI pa), .int (nI (cu ||| (2 ^ t)))], aI cI m0 24 mb2, oB rn 4 [.ref q0, .ref q1, .ref q2, .int (nI k), .int (nI oc), .int (nI ic), .int (nI 1), .int ti, .int sl, .int sv], aI cI q0 300 tr, aI cI q1 6 ou, aI cI q2 8 vr, oB su 6 [.ref u0, .ref u1, .ref u2, .int (nI ob), .int (nI nt)], aI cI u0 48 inp, aI cI u1 72 row, aI cI u2 12 len] := hD
          rcases Bool.eq_false_or_eq_true (ob.testBit t) with ho | ho
          · skip
            rw [ho] at hw_4
            subst hw_4
            refine k_if_eq_f (tgt := 67) hx hb dX8_note_63 (by decide) (by decide) ?_
            obtain ⟨hP, hD⟩ := k_sub (w' := [oB ve 8 [.ref m0, .int (nI fa), .int (nI pa), .int (nI (cu ||| (2 ^ t)))], aI cI m0 24 mb2, oB su 6 [.ref u0, .ref u1, .ref u2, .int (nI ob), .int (nI nt)], aI cI u0 48 inp, aI cI u1 72 row, aI cI u2 12 len, oB rn 4 [.ref q0, .ref q1, .ref q2, .int (nI k), .int (nI oc), .int (nI ic), .int (nI 1), .int ti, .int sl, .int sv], aI cI q0 300 tr, aI cI q1 6 ou, aI cI q2 8 vr]) hP hD [0, 1, 6, 7, 8, 9, 2, 3, 4, 5] rfl (by decide)
            exact hret _ _ _ _ (fa, pa, cu ||| (2 ^ t), mb2) dX8_note_66 (⟨hm2, by simp, by rw [ho]; simp, by rw [ho]; simp⟩) hP hD hS
          · skip
            rw [ho] at hw_4
            subst hw_4
            refine k_if_eq_t (tgt := 67) hx hb dX8_note_63 (by decide) (by decide) ?_
            refine lv_aload_n hx hb dX8_note_67 rfl (lv_at hl 2 rfl) ?_
            refine lv_aload_n hx hb dX8_note_68 rfl (lv_at hl 1 rfl) ?_
            refine lv_iload_n hx hb dX8_note_69 rfl (lv_at hl 3 rfl) ?_
            refine Ki.callV (wr := [oB ve 8 [.ref m0, .int (nI fa), .int (nI pa), .int (nI (cu ||| (2 ^ t)))], aI cI m0 24 mb2]) (rest := []) (CX4_bringsOut jl G cI cZ cJ su u0 u1 u2 ob nt inp row len rn q0 q1 q2 k oc ic ti sl sv tr ou vr true t ht hoc) cx hP hD hS hl [6, 7, 8, 9, 2, 3, 4, 5] [0, 1] (ci := 4) (q0 := 4) gX8_note_X4_bringsOut hdX4_bringsOut rfl rfl rfl ⟨Nat.le_of_ble_eq_true rfl, Nat.le_of_ble_eq_true rfl⟩ rfl rfl (by decide) (by decide) (by decide) dX8_note_70 rfl rfl (Nat.le_of_ble_eq_true rfl) ⟨Nat.le_of_ble_eq_true rfl, Nat.le_of_ble_eq_true rfl⟩ (fun r_7 u H locs hw_8 hP hD hS => ?_)
            have hP : va_P G vwCl [oB ve 8 [.ref m0, .int (nI fa), .int (nI pa), .int (nI (cu ||| (2 ^ t)))], aI cI m0 24 mb2, oB su 6 [.ref u0, .ref u1, .ref u2, .int (nI ob), .int (nI nt)], aI cI u0 48 inp, aI cI u1 72 row, aI cI u2 12 len, oB rn 4 [.ref q0, .ref q1, .ref q2, .int (nI k), .int (nI oc), .int (nI ic), .int (bI true), .int ti, .int sl, .int sv], aI cI q0 300 tr, aI cI q1 6 ou, aI cI q2 8 vr] H := hP
            have hD : va_D jA [oB ve 8 [.ref m0, .int (nI fa), .int (nI pa), .int (nI (cu ||| (2 ^ t)))], aI cI m0 24 mb2, oB su 6 [.ref u0, .ref u1, .ref u2, .int (nI ob), .int (nI nt)], aI cI u0 48 inp, aI cI u1 72 row, aI cI u2 12 len, oB rn 4 [.ref q0, .ref q1, .ref q2, .int (nI k), .int (nI oc), .int (nI ic), .int (bI true), .int ti, .int sl, .int sv], aI cI q0 300 tr, aI cI q1 6 ou, aI cI q2 8 vr] := hD
            rcases Bool.eq_false_or_eq_true (r_well true oc ou (len t) (fun i => row (t * 6 + i))) with hwl | hwl
            · skip
              rw [hwl] at hw_8
              subst hw_8
              refine k_if_eq_f (tgt := 90) hx hb dX8_note_73 (by decide) (by decide) ?_
              refine lv_aload_n hx hb dX8_note_76 rfl (lv_at hl 0 rfl) ?_
              refine lv_dup hx hb dX8_note_77 rfl ?_
              refine va_get (C := RX8) (T := TX8) (N := 4) (ci := 8) hx hb hts iX8_note_8 hown hK.1 hP 0 rfl rfl 2 (Nat.le_of_ble_eq_true rfl) (hts _ mX8_note_19) (fun _ h9 => h9) rfl dX8_note_78 ?_
              refine lv_iload hx hb dX8_note_81 (lv_at hl 4 rfl) ?_
              refine k_ior hx hb dX8_note_83 ?_
              refine va_put (C := RX8) (T := TX8) (N := 4) (ci := 8) (v := .int (nI (pa ||| (2 ^ t)))) (ty := tyX8 2) hx hb hts iX8_note_8 tyX8 tyX8_ok nmX8 hown hK.1 hP hD hS 0 rfl rfl 2 (Nat.le_of_ble_eq_true rfl) (hts _ mX8_note_19) (fun _ h9 => h9) rfl (tyX8_ok 2 (Nat.le_of_ble_eq_true rfl)) (rfl) (rfl) (Nat.le_of_ble_eq_true rfl) dX8_note_84 (fun H locs hP hD hS => ?_)
              have hP : va_P G vwCl [oB ve 8 [.ref m0, .int (nI fa), .int (nI (pa ||| (2 ^ t))), .int (nI (cu ||| (2 ^ t)))], aI cI m0 24 mb2, oB su 6 [.ref u0, .ref u1, .ref u2, .int (nI ob), .int (nI nt)], aI cI u0 48 inp, aI cI u1 72 row, aI cI u2 12 len, oB rn 4 [.ref q0, .ref q1, .ref q2, .int (nI k), .int (nI oc), .int (nI ic), .int (bI true), .int ti, .int sl, .int sv], aI cI q0 300 tr, aI cI q1 6 ou, aI cI q2 8 vr] H := hP
              have hD : va_D jA [oB ve 8 [.ref m0, .int (nI fa), .int (nI (pa ||| (2 ^ t))), .int (nI (cu ||| (2 ^ t)))], aI cI m0 24 mb2, oB su 6 [.ref u0, .ref u1, .ref u2, .int (nI ob), .int (nI nt)], aI cI u0 48 inp, aI cI u1 72 row, aI cI u2 12 len, oB rn 4 [.ref q0, .ref q1, .ref q2, .int (nI k), .int (nI oc), .int (nI ic), .int (bI true), .int ti, .int sl, .int sv], aI cI q0 300 tr, aI cI q1 6 ou, aI cI q2 8 vr] := hD
              refine lv_goto (tgt := 101) hx hb dX8_note_87 (by decide) ?_
              exact hret _ _ _ _ (fa, pa ||| (2 ^ t), cu ||| (2 ^ t), mb2) dX8_note_101 (⟨hm2, by simp, by rw [ho, hwl]; simp, by rw [ho, hwl]; simp⟩) hP hD hS
            · skip
              rw [hwl] at hw_8
              subst hw_8
              refine k_if_eq_t (tgt := 90) hx hb dX8_note_73 (by decide) (by decide) ?_
              refine lv_aload_n hx hb dX8_note_90 rfl (lv_at hl 0 rfl) ?_
              refine lv_dup hx hb dX8_note_91 rfl ?_
              refine va_get (C := RX8) (T := TX8) (N := 4) (ci := 8) hx hb hts iX8_note_8 hown hK.1 hP 0 rfl rfl 1 (Nat.le_of_ble_eq_true rfl) (hts _ mX8_note_15) (fun _ h9 => h9) rfl dX8_note_92 ?_
              refine lv_iload hx hb dX8_note_95 (lv_at hl 4 rfl) ?_
              refine k_ior hx hb dX8_note_97 ?_
              refine va_put (C := RX8) (T := TX8) (N := 4) (ci := 8) (v := .int (nI (fa ||| (2 ^ t)))) (ty := tyX8 1) hx hb hts iX8_note_8 tyX8 tyX8_ok nmX8 hown hK.1 hP hD hS 0 rfl rfl 1 (Nat.le_of_ble_eq_true rfl) (hts _ mX8_note_15) (fun _ h9 => h9) rfl (tyX8_ok 1 (Nat.le_of_ble_eq_true rfl)) (rfl) (rfl) (Nat.le_of_ble_eq_true rfl) dX8_note_98 (fun H locs hP hD hS => ?_)
              have hP : va_P G vwCl [oB ve 8 [.ref m0, .int (nI (fa ||| (2 ^ t))), .int (nI pa), .int (nI (cu ||| (2 ^ t)))], aI cI m0 24 mb2, oB su 6 [.ref u0, .ref u1, .ref u2, .int (nI ob), .int (nI nt)], aI cI u0 48 inp, aI cI u1 72 row, aI cI u2 12 len, oB rn 4 [.ref q0, .ref q1, .ref q2, .int (nI k), .int (nI oc), .int (nI ic), .int (bI true), .int ti, .int sl, .int sv], aI cI q0 300 tr, aI cI q1 6 ou, aI cI q2 8 vr] H := hP
              have hD : va_D jA [oB ve 8 [.ref m0, .int (nI (fa ||| (2 ^ t))), .int (nI pa), .int (nI (cu ||| (2 ^ t)))], aI cI m0 24 mb2, oB su 6 [.ref u0, .ref u1, .ref u2, .int (nI ob), .int (nI nt)], aI cI u0 48 inp, aI cI u1 72 row, aI cI u2 12 len, oB rn 4 [.ref q0, .ref q1, .ref q2, .int (nI k), .int (nI oc), .int (nI ic), .int (bI true), .int ti, .int sl, .int sv], aI cI q0 300 tr, aI cI q1 6 ou, aI cI q2 8 vr] := hD
              exact hret _ _ _ _ (fa ||| (2 ^ t), pa, cu ||| (2 ^ t), mb2) dX8_note_101 (⟨hm2, by simp, by rw [ho, hwl]; simp, by rw [ho, hwl]; simp⟩) hP hD hS
        | false =>
          have hP : va_P G vwCl [oB ve 8 [.ref m0, .int (nI fa), .int (nI pa), .int (nI cu)], aI cI m0 24 mb2, oB su 6 [.ref u0, .ref u1, .ref u2, .int (nI ob), .int (nI nt)], aI cI u0 48 inp, aI cI u1 72 row, aI cI u2 12 len, oB rn 4 [.ref q0, .ref q1, .ref q2, .int (nI k), .int (nI oc), .int (nI ic), .int (nI 0), .int ti, .int sl, .int sv], aI cI q0 300 tr, aI cI q1 6 ou, aI cI q2 8 vr] H := hP
          have hD : va_D jA [oB ve 8 [.ref m0, .int (nI fa), .int (nI pa), .int (nI cu)], aI cI m0 24 mb2, oB su 6 [.ref u0, .ref u1, .ref u2, .int (nI ob), .int (nI nt)], aI cI u0 48 inp, aI cI u1 72 row, aI cI u2 12 len, oB rn 4 [.ref q0, .ref q1, .ref q2, .int (nI k), .int (nI oc), .int (nI ic), .int (nI 0), .int ti, .int sl, .int sv], aI cI q0 300 tr, aI cI q1 6 ou, aI cI q2 8 vr] := hD
          refine lv_aload_n hx hb dX8_note_40 rfl (lv_at hl 2 rfl) ?_
          refine va_get (C := RX4) (T := TX4) (N := 10) (ci := 4) hx hb hts iX8_note_4 hown hK.1 hP 6 rfl rfl 6 (Nat.le_of_ble_eq_true rfl) (hts _ mX8_note_46) (fun _ h9 => h9) rfl dX8_note_41 ?_
          refine k_if_eq_t (tgt := 58) hx hb dX8_note_44 (by decide) (by decide) ?_
          refine lv_aload_n hx hb dX8_note_58 rfl (lv_at hl 1 rfl) ?_
          refine lv_iload_n hx hb dX8_note_59 rfl (lv_at hl 3 rfl) ?_
          refine Ki.callV (wr := [oB ve 8 [.ref m0, .int (nI fa), .int (nI pa), .int (nI cu)], aI cI m0 24 mb2, oB rn 4 [.ref q0, .ref q1, .ref q2, .int (nI k), .int (nI oc), .int (nI ic), .int (nI 0), .int ti, .int sl, .int sv], aI cI q0 300 tr, aI cI q1 6 ou, aI cI q2 8 vr]) (rest := []) (CX6_isOpen jl G cI cZ cJ su u0 u1 u2 ob nt inp row len hob t ht) cx hP hD hS hl [2, 3, 4, 5] [0, 1, 6, 7, 8, 9] (ci := 6) (q0 := 0) gX8_note_X6_isOpen hdX6_isOpen rfl rfl rfl ⟨Nat.le_of_ble_eq_true rfl, Nat.le_of_ble_eq_true rfl⟩ rfl rfl (by decide) (by decide) (by decide) dX8_note_60 rfl rfl (Nat.le_of_ble_eq_true rfl) ⟨Nat.le_of_ble_eq_true rfl, Nat.le_of_ble_eq_true rfl⟩ (fun r_12 u H locs hw_13 hP hD hS => ?_)
          have hP : va_P G vwCl [oB ve 8 [.ref m0, .int (nI fa), .int (nI pa), .int (nI cu)], aI cI m0 24 mb2, oB rn 4 [.ref q0, .ref q1, .ref q2, .int (nI k), .int (nI oc), .int (nI ic), .int (nI 0), .int ti, .int sl, .int sv], aI cI q0 300 tr, aI cI q1 6 ou, aI cI q2 8 vr, oB su 6 [.ref u0, .ref u1, .ref u2, .int (nI ob), .int (nI nt)], aI cI u0 48 inp, aI cI u1 72 row, aI cI u2 12 len] H := hP
          have hD : va_D jA [oB ve 8 [.ref m0, .int (nI fa), .int (nI pa), .int (nI cu)], aI cI m0 24 mb2, oB rn 4 [.ref q0, .ref q1, .ref q2, .int (nI k), .int (nI oc), .int (nI ic), .int (nI 0), .int ti, .int sl, .int sv], aI cI q0 300 tr, aI cI q1 6 ou, aI cI q2 8 vr, oB su 6 [.ref u0, .ref u1, .ref u2, .int (nI ob), .int (nI nt)], aI cI u0 48 inp, aI cI u1 72 row, aI cI u2 12 len] := hD
          rcases Bool.eq_false_or_eq_true (ob.testBit t) with ho | ho
          · skip
            rw [ho] at hw_13
            subst hw_13
            refine k_if_eq_f (tgt := 67) hx hb dX8_note_63 (by decide) (by decide) ?_
            obtain ⟨hP, hD⟩ := k_sub (w' := [oB ve 8 [.ref m0, .int (nI fa), .int (nI pa), .int (nI cu)], aI cI m0 24 mb2, oB su 6 [.ref u0, .ref u1, .ref u2, .int (nI ob), .int (nI nt)], aI cI u0 48 inp, aI cI u1 72 row, aI cI u2 12 len, oB rn 4 [.ref q0, .ref q1, .ref q2, .int (nI k), .int (nI oc), .int (nI ic), .int (nI 0), .int ti, .int sl, .int sv], aI cI q0 300 tr, aI cI q1 6 ou, aI cI q2 8 vr]) hP hD [0, 1, 6, 7, 8, 9, 2, 3, 4, 5] rfl (by decide)
            exact hret _ _ _ _ (fa, pa, cu, mb2) dX8_note_66 (⟨hm2, by simp, by rw [ho]; simp, by rw [ho]; simp⟩) hP hD hS
          · skip
            rw [ho] at hw_13
            subst hw_13
            refine k_if_eq_t (tgt := 67) hx hb dX8_note_63 (by decide) (by decide) ?_
            refine lv_aload_n hx hb dX8_note_67 rfl (lv_at hl 2 rfl) ?_
            refine lv_aload_n hx hb dX8_note_68 rfl (lv_at hl 1 rfl) ?_
            refine lv_iload_n hx hb dX8_note_69 rfl (lv_at hl 3 rfl) ?_
            refine Ki.callV (wr := [oB ve 8 [.ref m0, .int (nI fa), .int (nI pa), .int (nI cu)], aI cI m0 24 mb2]) (rest := []) (CX4_bringsOut jl G cI cZ cJ su u0 u1 u2 ob nt inp row len rn q0 q1 q2 k oc ic ti sl sv tr ou vr false t ht hoc) cx hP hD hS hl [6, 7, 8, 9, 2, 3, 4, 5] [0, 1] (ci := 4) (q0 := 4) gX8_note_X4_bringsOut hdX4_bringsOut rfl rfl rfl ⟨Nat.le_of_ble_eq_true rfl, Nat.le_of_ble_eq_true rfl⟩ rfl rfl (by decide) (by decide) (by decide) dX8_note_70 rfl rfl (Nat.le_of_ble_eq_true rfl) ⟨Nat.le_of_ble_eq_true rfl, Nat.le_of_ble_eq_true rfl⟩ (fun r_16 u H locs hw_17 hP hD hS => ?_)
            have hP : va_P G vwCl [oB ve 8 [.ref m0, .int (nI fa), .int (nI pa), .int (nI cu)], aI cI m0 24 mb2, oB su 6 [.ref u0, .ref u1, .ref u2, .int (nI ob), .int (nI nt)], aI cI u0 48 inp, aI cI u1 72 row, aI cI u2 12 len, oB rn 4 [.ref q0, .ref q1, .ref q2, .int (nI k), .int (nI oc), .int (nI ic), .int (bI false), .int ti, .int sl, .int sv], aI cI q0 300 tr, aI cI q1 6 ou, aI cI q2 8 vr] H := hP
            have hD : va_D jA [oB ve 8 [.ref m0, .int (nI fa), .int (nI pa), .int (nI cu)], aI cI m0 24 mb2, oB su 6 [.ref u0, .ref u1, .ref u2, .int (nI ob), .int (nI nt)], aI cI u0 48 inp, aI cI u1 72 row, aI cI u2 12 len, oB rn 4 [.ref q0, .ref q1, .ref q2, .int (nI k), .int (nI oc), .int (nI ic), .int (bI false), .int ti, .int sl, .int sv], aI cI q0 300 tr, aI cI q1 6 ou, aI cI q2 8 vr] := hD
            rcases Bool.eq_false_or_eq_true (r_well false oc ou (len t) (fun i => row (t * 6 + i))) with hwl | hwl
            · skip
              rw [hwl] at hw_17
              subst hw_17
              refine k_if_eq_f (tgt := 90) hx hb dX8_note_73 (by decide) (by decide) ?_
              refine lv_aload_n hx hb dX8_note_76 rfl (lv_at hl 0 rfl) ?_
              refine lv_dup hx hb dX8_note_77 rfl ?_
              refine va_get (C := RX8) (T := TX8) (N := 4) (ci := 8) hx hb hts iX8_note_8 hown hK.1 hP 0 rfl rfl 2 (Nat.le_of_ble_eq_true rfl) (hts _ mX8_note_19) (fun _ h9 => h9) rfl dX8_note_78 ?_
              refine lv_iload hx hb dX8_note_81 (lv_at hl 4 rfl) ?_
              refine k_ior hx hb dX8_note_83 ?_
              refine va_put (C := RX8) (T := TX8) (N := 4) (ci := 8) (v := .int (nI (pa ||| (2 ^ t)))) (ty := tyX8 2) hx hb hts iX8_note_8 tyX8 tyX8_ok nmX8 hown hK.1 hP hD hS 0 rfl rfl 2 (Nat.le_of_ble_eq_true rfl) (hts _ mX8_note_19) (fun _ h9 => h9) rfl (tyX8_ok 2 (Nat.le_of_ble_eq_true rfl)) (rfl) (rfl) (Nat.le_of_ble_eq_true rfl) dX8_note_84 (fun H locs hP hD hS => ?_)
              have hP : va_P G vwCl [oB ve 8 [.ref m0, .int (nI fa), .int (nI (pa ||| (2 ^ t))), .int (nI cu)], aI cI m0 24 mb2, oB su 6 [.ref u0, .ref u1, .ref u2, .int (nI ob), .int (nI nt)], aI cI u0 48 inp, aI cI u1 72 row, aI cI u2 12 len, oB rn 4 [.ref q0, .ref q1, .ref q2, .int (nI k), .int (nI oc), .int (nI ic), .int (bI false), .int ti, .int sl, .int sv], aI cI q0 300 tr, aI cI q1 6 ou, aI cI q2 8 vr] H := hP
              have hD : va_D jA [oB ve 8 [.ref m0, .int (nI fa), .int (nI (pa ||| (2 ^ t))), .int (nI cu)], aI cI m0 24 mb2, oB su 6 [.ref u0, .ref u1, .ref u2, .int (nI ob), .int (nI nt)], aI cI u0 48 inp, aI cI u1 72 row, aI cI u2 12 len, oB rn 4 [.ref q0, .ref q1, .ref q2, .int (nI k), .int (nI oc), .int (nI ic), .int (bI false), .int ti, .int sl, .int sv], aI cI q0 300 tr, aI cI q1 6 ou, aI cI q2 8 vr] := hD
              refine lv_goto (tgt := 101) hx hb dX8_note_87 (by decide) ?_
              exact hret _ _ _ _ (fa, pa ||| (2 ^ t), cu, mb2) dX8_note_101 (⟨hm2, by simp, by rw [ho, hwl]; simp, by rw [ho, hwl]; simp⟩) hP hD hS
            · skip
              rw [hwl] at hw_17
              subst hw_17
              refine k_if_eq_t (tgt := 90) hx hb dX8_note_73 (by decide) (by decide) ?_
              refine lv_aload_n hx hb dX8_note_90 rfl (lv_at hl 0 rfl) ?_
              refine lv_dup hx hb dX8_note_91 rfl ?_
              refine va_get (C := RX8) (T := TX8) (N := 4) (ci := 8) hx hb hts iX8_note_8 hown hK.1 hP 0 rfl rfl 1 (Nat.le_of_ble_eq_true rfl) (hts _ mX8_note_15) (fun _ h9 => h9) rfl dX8_note_92 ?_
              refine lv_iload hx hb dX8_note_95 (lv_at hl 4 rfl) ?_
              refine k_ior hx hb dX8_note_97 ?_
              refine va_put (C := RX8) (T := TX8) (N := 4) (ci := 8) (v := .int (nI (fa ||| (2 ^ t)))) (ty := tyX8 1) hx hb hts iX8_note_8 tyX8 tyX8_ok nmX8 hown hK.1 hP hD hS 0 rfl rfl 1 (Nat.le_of_ble_eq_true rfl) (hts _ mX8_note_15) (fun _ h9 => h9) rfl (tyX8_ok 1 (Nat.le_of_ble_eq_true rfl)) (rfl) (rfl) (Nat.le_of_ble_eq_true rfl) dX8_note_98 (fun H locs hP hD hS => ?_)
              have hP : va_P G vwCl [oB ve 8 [.ref m0, .int (nI (fa ||| (2 ^ t))), .int (nI pa), .int (nI cu)], aI cI m0 24 mb2, oB su 6 [.ref u0, .ref u1, .ref u2, .int (nI ob), .int (nI nt)], aI cI u0 48 inp, aI cI u1 72 row, aI cI u2 12 len, oB rn 4 [.ref q0, .ref q1, .ref q2, .int (nI k), .int (nI oc), .int (nI ic), .int (bI false), .int ti, .int sl, .int sv], aI cI q0 300 tr, aI cI q1 6 ou, aI cI q2 8 vr] H := hP
              have hD : va_D jA [oB ve 8 [.ref m0, .int (nI (fa ||| (2 ^ t))), .int (nI pa), .int (nI cu)], aI cI m0 24 mb2, oB su 6 [.ref u0, .ref u1, .ref u2, .int (nI ob), .int (nI nt)], aI cI u0 48 inp, aI cI u1 72 row, aI cI u2 12 len, oB rn 4 [.ref q0, .ref q1, .ref q2, .int (nI k), .int (nI oc), .int (nI ic), .int (bI false), .int ti, .int sl, .int sv], aI cI q0 300 tr, aI cI q1 6 ou, aI cI q2 8 vr] := hD
              exact hret _ _ _ _ (fa ||| (2 ^ t), pa, cu, mb2) dX8_note_101 (⟨hm2, by simp, by rw [ho, hwl]; simp, by rw [ho, hwl]; simp⟩) hP hD hS
      · skip
        refine lv_aload_n hx hb dX8_note_17 rfl (lv_at hl 0 rfl) ?_
        refine va_get (C := RX8) (T := TX8) (N := 4) (ci := 8) hx hb hts iX8_note_8 hown hK.1 hP 0 rfl rfl 0 (Nat.le_of_ble_eq_true rfl) (hts _ mX8_note_9) (fun _ h9 => h9) rfl dX8_note_18 ?_
        refine lv_aload_n hx hb dX8_note_21 rfl (lv_at hl 2 rfl) ?_
        refine va_get (C := RX4) (T := TX4) (N := 10) (ci := 4) hx hb hts iX8_note_4 hown hK.1 hP 6 rfl rfl 0 (Nat.le_of_ble_eq_true rfl) (hts _ mX8_note_43) (fun _ h9 => h9) rfl dX8_note_22 ?_
        refine lv_iload hx hb dX8_note_25 (lv_at hl 5 rfl) ?_
        refine k_iald hx hb hK.1 hP 7 0 rfl rfl (by omega) (by decide) dX8_note_27 ?_
        refine k_topN ((htr k (by omega)).eq (by decide)) ?_
        refine lv_dup2_11 hx hb dX8_note_28 rfl rfl ?_
        refine k_iald hx hb hK.1 hP 1 0 rfl rfl ((htr k (by omega)).lt (by decide)) (by decide) dX8_note_29 ?_
        refine k_topN (hm2 _ ((htr k (by omega)).lt (by decide))) ?_
        refine lv_iload hx hb dX8_note_30 (lv_at hl 4 rfl) ?_
        refine k_ior hx hb dX8_note_32 ?_
        refine k_iast hx hb hK.1 hP hD hS 1 0 rfl rfl ((htr k (by omega)).lt (by decide)) (by decide) dX8_note_33 (fun H locs hP hD hS => ?_)
        have hP : va_P G vwCl [oB ve 8 [.ref m0, .int (nI fa), .int (nI pa), .int (nI cu)], aI cI m0 24 (upd mb2 (tn (tr k)) (nI ((X (tn (tr k)) ||| (if hasE tr (nI (tn (tr k))) k = true then 2 ^ t else 0)) ||| (2 ^ t)))), oB su 6 [.ref u0, .ref u1, .ref u2, .int (nI ob), .int (nI nt)], aI cI u0 48 inp, aI cI u1 72 row, aI cI u2 12 len, oB rn 4 [.ref q0, .ref q1, .ref q2, .int (nI sc), .int (nI oc), .int (nI ic), .int (bI cub), .int ti, .int sl, .int sv], aI cI q0 300 tr, aI cI q1 6 ou, aI cI q2 8 vr] H := hP
        have hD : va_D jA [oB ve 8 [.ref m0, .int (nI fa), .int (nI pa), .int (nI cu)], aI cI m0 24 (upd mb2 (tn (tr k)) (nI ((X (tn (tr k)) ||| (if hasE tr (nI (tn (tr k))) k = true then 2 ^ t else 0)) ||| (2 ^ t)))), oB su 6 [.ref u0, .ref u1, .ref u2, .int (nI ob), .int (nI nt)], aI cI u0 48 inp, aI cI u1 72 row, aI cI u2 12 len, oB rn 4 [.ref q0, .ref q1, .ref q2, .int (nI sc), .int (nI oc), .int (nI ic), .int (bI cub), .int ti, .int sl, .int sv], aI cI q0 300 tr, aI cI q1 6 ou, aI cI q2 8 vr] := hD
        refine lv_iinc (v := nI (k + 1)) (lv' := [(5, .int (nI (k + 1))), (0, .ref ve), (1, .ref su), (2, .ref rn), (3, .int (nI t)), (4, .int (nI (2 ^ t)))]) hx hb dX8_note_34 hl (k := 5) rfl (nI_add k 1) (by decide) rfl (fun ls hl => ?_)
        refine lv_goto (tgt := 8) hx hb dX8_note_37 (by decide) ?_
        exact ih8 (k + 1) (upd mb2 (tn (tr k)) (nI ((X (tn (tr k)) ||| (if hasE tr (nI (tn (tr k))) k = true then 2 ^ t else 0)) ||| (2 ^ t)))) (by omega) (by omega) (mk_step hm2 ((htr k (by omega)).eq (by decide)) ((htr k (by omega)).lt (by decide))) _ _ _ hP hD hS (lv_sub hl [1, 2, 3, 4, 5, 0] rfl)
  exact L8 (sc + 1) 0 mb (by omega) (by omega) (fun i hi => by rw [hmb i hi]; simp [hasE]) _ _ _ hP hD hS (lv_sub hl [2, 3, 4, 5, 1, 0] rfl)

theorem iX8_become_6 : ∀ w ∈ wsX60, w ∈ wsX8_become := by decide +kernel
theorem iX8_become_8 : ∀ w ∈ wsX80, w ∈ wsX8_become := by decide +kernel
theorem mX8_become_9 : Cond.fieldLink RX8 9 "LineFinder$Verdicts" "metBy" "[I" ∈ wsX8_become := List.mem_of_getElem? (i := 1) rfl
theorem mX8_become_15 : Cond.fieldLink RX8 15 "LineFinder$Verdicts" "failing" "I" ∈ wsX8_become := List.mem_of_getElem? (i := 2) rfl
theorem mX8_become_19 : Cond.fieldLink RX8 19 "LineFinder$Verdicts" "passing" "I" ∈ wsX8_become := List.mem_of_getElem? (i := 3) rfl
theorem mX8_become_22 : Cond.fieldLink RX8 22 "LineFinder$Verdicts" "cut" "I" ∈ wsX8_become := List.mem_of_getElem? (i := 4) rfl
theorem mX8_become_25 : Cond.fieldLink RX8 25 "LineFinder$Suite" "size" "I" ∈ wsX8_become := List.mem_of_getElem? (i := 5) rfl
theorem hdX4_plainly : yX4_plainly.cls = RX4 ∧ yX4_plainly.cls ≠ "java/lang/invoke/MethodHandle" ∧ yX4_plainly.cls ≠ "java/lang/invoke/VarHandle" ∧ (parseMethodDescriptor yX4_plainly.desc).map (fun d => d.parameters.length) = some 3 := by decide +kernel
theorem hdX8_note : yX8_note.cls = RX8 ∧ yX8_note.cls ≠ "java/lang/invoke/MethodHandle" ∧ yX8_note.cls ≠ "java/lang/invoke/VarHandle" ∧ (parseMethodDescriptor yX8_note.desc).map (fun d => d.parameters.length) = some 3 := by decide +kernel
abbrev rCX8_become : Room := { frames := 5, cells := 0, slots := 0, locals := 120 }
set_option maxHeartbeats 4000000 in
set_option maxRecDepth 100000 in
theorem CX8_become (jl : Launch) (G : va_G) (cI cZ cJ : ClassId) (ve m0 fa pa cu : Nat) (mb : Fn) (cd d0 d1 d2 d3 n : Nat) (ops xs ys zs : Fn) (su u0 u1 u2 ob nt : Nat) (inp row len : Fn) (rn q0 q1 q2 sc oc ic : Nat) (cut ti sl sv : Int32) (tr ou vr : Fn) (hn : n ≤ 24) (hnt : nt ≤ 12) (hob : ob < 2 ^ 31) (hok : ∀ i, i < n → rowOk (ops i) (xs i) (ys i) (zs i)) : Kv jl yX8_become wsX8_become rCX8_become G cI cZ cJ [.ref ve, .ref cd, .ref su, .ref rn] [oB ve 8 [.ref m0, .int (nI fa), .int (nI pa), .int (nI cu)], aI cI m0 24 mb, oB cd 0 [.ref d0, .ref d1, .ref d2, .ref d3, .int (nI n)], aI cI d0 24 ops, aI cI d1 24 xs, aI cI d2 24 ys, aI cI d3 24 zs, oB su 6 [.ref u0, .ref u1, .ref u2, .int (nI ob), .int (nI nt)], aI cI u0 48 inp, aI cI u1 72 row, aI cI u2 12 len, oB rn 4 [.ref q0, .ref q1, .ref q2, .int (nI sc), .int (nI oc), .int (nI ic), .int cut, .int ti, .int sl, .int sv], aI cI q0 300 tr, aI cI q1 6 ou, aI cI q2 8 vr] (S := Nat × Nat × Nat × Fn × Nat × Nat × Nat × Int32 × Int32 × Int32 × Fn × Fn × Fn) (fun (u : Nat × Nat × Nat × Fn × Nat × Nat × Nat × Int32 × Int32 × Int32 × Fn × Fn × Fn) => match u with | (fa1, pa1, cu1, mb1, sc1, oc1, ic1, cut1, ti1, sl1, tr1, ou1, vr1) => fa1 = bs (fun t => !ob.testBit t && !r_pass n (len t) (fun i => row (t * 6 + i)) (rp n ops xs ys zs inp t)) nt ∧ pa1 = bs (fun t => !ob.testBit t && r_pass n (len t) (fun i => row (t * 6 + i)) (rp n ops xs ys zs inp t)) nt ∧ cu1 = bs (fun t => r_on n (rp n ops xs ys zs inp t)) nt ∧ (∀ i, i < 24 → mb1 i = nI (bs (fun t => hasE (rp n ops xs ys zs inp t).2.2.2.2.1 (nI i) (rp n ops xs ys zs inp t).2.1) nt))) (fun (u : Nat × Nat × Nat × Fn × Nat × Nat × Nat × Int32 × Int32 × Int32 × Fn × Fn × Fn) => match u with | (fa1, pa1, cu1, mb1, sc1, oc1, ic1, cut1, ti1, sl1, tr1, ou1, vr1) => [oB ve 8 [.ref m0, .int (nI fa1), .int (nI pa1), .int (nI cu1)], aI cI m0 24 mb1, oB cd 0 [.ref d0, .ref d1, .ref d2, .ref d3, .int (nI n)], aI cI d0 24 ops, aI cI d1 24 xs, aI cI d2 24 ys, aI cI d3 24 zs, oB su 6 [.ref u0, .ref u1, .ref u2, .int (nI ob), .int (nI nt)], aI cI u0 48 inp, aI cI u1 72 row, aI cI u2 12 len, oB rn 4 [.ref q0, .ref q1, .ref q2, .int (nI sc1), .int (nI oc1), .int (nI ic1), .int cut1, .int ti1, .int sl1, .int sv], aI cI q0 300 tr1, aI cI q1 6 ou1, aI cI q2 8 vr1]) := by
  refine Kv.of (cc := cX8_become) (maxL := 5) (by decide +kernel) rfl (Nat.le_of_ble_eq_true rfl) ?_
  intro jp je js jm ja jb jt jc jA jQ ls cx hnm hP hD hS hl hret
  obtain ⟨hx, hb, hml, hown, hts, hK, hA⟩ := id cx
  have hl : lv_has ls 5 [(0, .ref ve), (1, .ref cd), (2, .ref su), (3, .ref rn)] := hl
  obtain ⟨H, hH⟩ : ∃ H, H = js.heap := ⟨_, rfl⟩
  obtain ⟨locs, hlocs⟩ : ∃ z : List Loc, z = [] := ⟨_, rfl⟩
  have hP : va_P G vwCl [oB ve 8 [.ref m0, .int (nI fa), .int (nI pa), .int (nI cu)], aI cI m0 24 mb, oB cd 0 [.ref d0, .ref d1, .ref d2, .ref d3, .int (nI n)], aI cI d0 24 ops, aI cI d1 24 xs, aI cI d2 24 ys, aI cI d3 24 zs, oB su 6 [.ref u0, .ref u1, .ref u2, .int (nI ob), .int (nI nt)], aI cI u0 48 inp, aI cI u1 72 row, aI cI u2 12 len, oB rn 4 [.ref q0, .ref q1, .ref q2, .int (nI sc), .int (nI oc), .int (nI ic), .int cut, .int ti, .int sl, .int sv], aI cI q0 300 tr, aI cI q1 6 ou, aI cI q2 8 vr] H := by rw [hH]; exact hP
  have hS : va_S jA js.heap H locs := by rw [hH, hlocs]; exact hS
  rw [← hlocs]; rw [show W jp jl je rCX8_become js jm ja jb jt jc js.heap locs 0 0 jQ (F0 jm 0 ls []) = W jp jl je rCX8_become js jm ja jb jt jc H locs 0 0 jQ (F0 jm 0 ls []) by rw [hH]]
  clear hH hlocs
  refine lv_iconst (v := nI 0) hx hb dX8_become_0 (by decide) ?_
  refine lv_istore (lv' := [(4, .int (nI 0)), (0, .ref ve), (1, .ref cd), (2, .ref su), (3, .ref rn)]) hx hb dX8_become_1 hl (by decide) rfl (fun ls hl => ?_)
  have L3 : ∀ (fu : Nat), ∀ (i : Nat), ∀ (mb2 : Fn), (24 < i + fu) → (i ≤ 24) → (mb2 = fl Z0 mb i) → ∀ (H : Heap) (locs : List Loc) (ls : Array Slot), va_P G vwCl [oB ve 8 [.ref m0, .int (nI fa), .int (nI pa), .int (nI cu)], aI cI m0 24 mb2, oB cd 0 [.ref d0, .ref d1, .ref d2, .ref d3, .int (nI n)], aI cI d0 24 ops, aI cI d1 24 xs, aI cI d2 24 ys, aI cI d3 24 zs, oB su 6 [.ref u0, .ref u1, .ref u2, .int (nI ob), .int (nI nt)], aI cI u0 48 inp, aI cI u1 72 row, aI cI u2 12 len, oB rn 4 [.ref q0, .ref q1, .ref q2, .int (nI sc), .int (nI oc), .int (nI ic), .int cut, .int ti, .int sl, .int sv], aI cI q0 300 tr, aI cI q1 6 ou, aI cI q2 8 vr] H → va_D jA [oB ve 8 [.ref m0, .int (nI fa), .int (nI pa), .int (nI cu)], aI cI m0 24 mb2, oB cd 0 [.ref d0, .ref d1, .ref d2, .ref d3, .int (nI n)], aI cI d0 24 ops, aI cI d1 24 xs, aI cI d2 24 ys, aI cI d3 24 zs, oB su 6 [.ref u0, .ref u1, .ref u2, .int (nI ob), .int (nI nt)], aI cI u0 48 inp, aI cI u1 72 row, aI cI u2 12 len, oB rn 4 [.ref q0, .ref q1, .ref q2, .int (nI sc), .int (nI oc), .int (nI ic), .int cut, .int ti, .int sl, .int sv], aI cI q0 300 tr, aI cI q1 6 ou, aI cI q2 8 vr] → va_S jA js.heap H locs → lv_has ls 5 [(0, .ref ve), (1, .ref cd), (2, .ref su), (3, .ref rn), (4, .int (nI i))] → W jp jl je rCX8_become js jm ja jb jt jc H locs 0 0 jQ (F0 jm 3 ls []) := by
    intro fu
    induction fu with
    | zero =>
      intro i mb2 hfu hi ez H locs ls hP hD hS hl
      exact absurd hfu (by omega)
    | succ fu ih3 =>
      intro i mb2 hfu hi ez H locs ls hP hD hS hl
      refine lv_iload hx hb dX8_become_3 (lv_at hl 4 rfl) ?_
      refine lv_bipush (v := nI 24) hx hb dX8_become_5 (by decide) ?_
      refine k_cmp_ge (tgt := 24) hx hb dX8_become_7 (by decide) (by omega) (by omega) (fun c_1 => ?_) (fun c_1 => ?_)
      · skip
        have hie : i = 24 := by omega
        subst hie
        refine lv_aload_n hx hb dX8_become_24 rfl (lv_at hl 0 rfl) ?_
        refine lv_iconst (v := nI 0) hx hb dX8_become_25 (by decide) ?_
        refine va_put (C := RX8) (T := TX8) (N := 4) (ci := 8) (v := .int (nI 0)) (ty := tyX8 1) hx hb hts iX8_become_8 tyX8 tyX8_ok nmX8 hown hK.1 hP hD hS 0 rfl rfl 1 (Nat.le_of_ble_eq_true rfl) (hts _ mX8_become_15) (fun _ h9 => h9) rfl (tyX8_ok 1 (Nat.le_of_ble_eq_true rfl)) (rfl) (rfl) (Nat.le_of_ble_eq_true rfl) dX8_become_26 (fun H locs hP hD hS => ?_)
        have hP : va_P G vwCl [oB ve 8 [.ref m0, .int (nI 0), .int (nI pa), .int (nI cu)], aI cI m0 24 mb2, oB cd 0 [.ref d0, .ref d1, .ref d2, .ref d3, .int (nI n)], aI cI d0 24 ops, aI cI d1 24 xs, aI cI d2 24 ys, aI cI d3 24 zs, oB su 6 [.ref u0, .ref u1, .ref u2, .int (nI ob), .int (nI nt)], aI cI u0 48 inp, aI cI u1 72 row, aI cI u2 12 len, oB rn 4 [.ref q0, .ref q1, .ref q2, .int (nI sc), .int (nI oc), .int (nI ic), .int cut, .int ti, .int sl, .int sv], aI cI q0 300 tr, aI cI q1 6 ou, aI cI q2 8 vr] H := hP
        have hD : va_D jA [oB ve 8 [.ref m0, .int (nI 0), .int (nI pa), .int (nI cu)], aI cI m0 24 mb2, oB cd 0 [.ref d0, .ref d1, .ref d2, .ref d3, .int (nI n)], aI cI d0 24 ops, aI cI d1 24 xs, aI cI d2 24 ys, aI cI d3 24 zs, oB su 6 [.ref u0, .ref u1, .ref u2, .int (nI ob), .int (nI nt)], aI cI u0 48 inp, aI cI u1 72 row, aI cI u2 12 len, oB rn 4 [.ref q0, .ref q1, .ref q2, .int (nI sc), .int (nI oc), .int (nI ic), .int cut, .int ti, .int sl, .int sv], aI cI q0 300 tr, aI cI q1 6 ou, aI cI q2 8 vr] := hD
        refine lv_aload_n hx hb dX8_become_29 rfl (lv_at hl 0 rfl) ?_
        refine lv_iconst (v := nI 0) hx hb dX8_become_30 (by decide) ?_
        refine va_put (C := RX8) (T := TX8) (N := 4) (ci := 8) (v := .int (nI 0)) (ty := tyX8 2) hx hb hts iX8_become_8 tyX8 tyX8_ok nmX8 hown hK.1 hP hD hS 0 rfl rfl 2 (Nat.le_of_ble_eq_true rfl) (hts _ mX8_become_19) (fun _ h9 => h9) rfl (tyX8_ok 2 (Nat.le_of_ble_eq_true rfl)) (rfl) (rfl) (Nat.le_of_ble_eq_true rfl) dX8_become_31 (fun H locs hP hD hS => ?_)
        have hP : va_P G vwCl [oB ve 8 [.ref m0, .int (nI 0), .int (nI 0), .int (nI cu)], aI cI m0 24 mb2, oB cd 0 [.ref d0, .ref d1, .ref d2, .ref d3, .int (nI n)], aI cI d0 24 ops, aI cI d1 24 xs, aI cI d2 24 ys, aI cI d3 24 zs, oB su 6 [.ref u0, .ref u1, .ref u2, .int (nI ob), .int (nI nt)], aI cI u0 48 inp, aI cI u1 72 row, aI cI u2 12 len, oB rn 4 [.ref q0, .ref q1, .ref q2, .int (nI sc), .int (nI oc), .int (nI ic), .int cut, .int ti, .int sl, .int sv], aI cI q0 300 tr, aI cI q1 6 ou, aI cI q2 8 vr] H := hP
        have hD : va_D jA [oB ve 8 [.ref m0, .int (nI 0), .int (nI 0), .int (nI cu)], aI cI m0 24 mb2, oB cd 0 [.ref d0, .ref d1, .ref d2, .ref d3, .int (nI n)], aI cI d0 24 ops, aI cI d1 24 xs, aI cI d2 24 ys, aI cI d3 24 zs, oB su 6 [.ref u0, .ref u1, .ref u2, .int (nI ob), .int (nI nt)], aI cI u0 48 inp, aI cI u1 72 row, aI cI u2 12 len, oB rn 4 [.ref q0, .ref q1, .ref q2, .int (nI sc), .int (nI oc), .int (nI ic), .int cut, .int ti, .int sl, .int sv], aI cI q0 300 tr, aI cI q1 6 ou, aI cI q2 8 vr] := hD
        refine lv_aload_n hx hb dX8_become_34 rfl (lv_at hl 0 rfl) ?_
        refine lv_iconst (v := nI 0) hx hb dX8_become_35 (by decide) ?_
        refine va_put (C := RX8) (T := TX8) (N := 4) (ci := 8) (v := .int (nI 0)) (ty := tyX8 3) hx hb hts iX8_become_8 tyX8 tyX8_ok nmX8 hown hK.1 hP hD hS 0 rfl rfl 3 (Nat.le_of_ble_eq_true rfl) (hts _ mX8_become_22) (fun _ h9 => h9) rfl (tyX8_ok 3 (Nat.le_of_ble_eq_true rfl)) (rfl) (rfl) (Nat.le_of_ble_eq_true rfl) dX8_become_36 (fun H locs hP hD hS => ?_)
        have hP : va_P G vwCl [oB ve 8 [.ref m0, .int (nI 0), .int (nI 0), .int (nI 0)], aI cI m0 24 mb2, oB cd 0 [.ref d0, .ref d1, .ref d2, .ref d3, .int (nI n)], aI cI d0 24 ops, aI cI d1 24 xs, aI cI d2 24 ys, aI cI d3 24 zs, oB su 6 [.ref u0, .ref u1, .ref u2, .int (nI ob), .int (nI nt)], aI cI u0 48 inp, aI cI u1 72 row, aI cI u2 12 len, oB rn 4 [.ref q0, .ref q1, .ref q2, .int (nI sc), .int (nI oc), .int (nI ic), .int cut, .int ti, .int sl, .int sv], aI cI q0 300 tr, aI cI q1 6 ou, aI cI q2 8 vr] H := hP
        have hD : va_D jA [oB ve 8 [.ref m0, .int (nI 0), .int (nI 0), .int (nI 0)], aI cI m0 24 mb2, oB cd 0 [.ref d0, .ref d1, .ref d2, .ref d3, .int (nI n)], aI cI d0 24 ops, aI cI d1 24 xs, aI cI d2 24 ys, aI cI d3 24 zs, oB su 6 [.ref u0, .ref u1, .ref u2, .int (nI ob), .int (nI nt)], aI cI u0 48 inp, aI cI u1 72 row, aI cI u2 12 len, oB rn 4 [.ref q0, .ref q1, .ref q2, .int (nI sc), .int (nI oc), .int (nI ic), .int cut, .int ti, .int sl, .int sv], aI cI q0 300 tr, aI cI q1 6 ou, aI cI q2 8 vr] := hD
        refine lv_iconst (v := nI 0) hx hb dX8_become_39 (by decide) ?_
        refine lv_istore (lv' := [(4, .int (nI 0)), (0, .ref ve), (1, .ref cd), (2, .ref su), (3, .ref rn)]) hx hb dX8_become_40 hl (by decide) rfl (fun ls hl => ?_)
        have L42 : ∀ (fu : Nat), ∀ (T : Nat), ∀ (fa2 : Nat), ∀ (pa2 : Nat), ∀ (cu2 : Nat), ∀ (mb3 : Fn), ∀ (sc2 : Nat), ∀ (oc2 : Nat), ∀ (ic2 : Nat), ∀ (cut2 : Int32), ∀ (ti2 : Int32), ∀ (sl2 : Int32), ∀ (tr2 : Fn), ∀ (ou2 : Fn), ∀ (vr2 : Fn), (nt < T + fu) → (T ≤ nt) → (fa2 = bs (fun t => !ob.testBit t && !r_pass n (len t) (fun i => row (t * 6 + i)) (rp n ops xs ys zs inp t)) T) → (pa2 = bs (fun t => !ob.testBit t && r_pass n (len t) (fun i => row (t * 6 + i)) (rp n ops xs ys zs inp t)) T) → (cu2 = bs (fun t => r_on n (rp n ops xs ys zs inp t)) T) → (∀ i, i < 24 → mb3 i = nI (bs (fun t => hasE (rp n ops xs ys zs inp t).2.2.2.2.1 (nI i) (rp n ops xs ys zs inp t).2.1) T)) → ∀ (H : Heap) (locs : List Loc) (ls : Array Slot), va_P G vwCl [oB ve 8 [.ref m0, .int (nI fa2), .int (nI pa2), .int (nI cu2)], aI cI m0 24 mb3, oB cd 0 [.ref d0, .ref d1, .ref d2, .ref d3, .int (nI n)], aI cI d0 24 ops, aI cI d1 24 xs, aI cI d2 24 ys, aI cI d3 24 zs, oB su 6 [.ref u0, .ref u1, .ref u2, .int (nI ob), .int (nI nt)], aI cI u0 48 inp, aI cI u1 72 row, aI cI u2 12 len, oB rn 4 [.ref q0, .ref q1, .ref q2, .int (nI sc2), .int (nI oc2), .int (nI ic2), .int cut2, .int ti2, .int sl2, .int sv], aI cI q0 300 tr2, aI cI q1 6 ou2, aI cI q2 8 vr2] H → va_D jA [oB ve 8 [.ref m0, .int (nI fa2), .int (nI pa2), .int (nI cu2)], aI cI m0 24 mb3, oB cd 0 [.ref d0, .ref d1, .ref d2, .ref d3, .int (nI n)], aI cI d0 24 ops, aI cI d1 24 xs, aI cI d2 24 ys, aI cI d3 24 zs, oB su 6 [.ref u0, .ref u1, .ref u2, .int (nI ob), .int (nI nt)], aI cI u0 48 inp, aI cI u1 72 row, aI cI u2 12 len, oB rn 4 [.ref q0, .ref q1, .ref q2, .int (nI sc2), .int (nI oc2), .int (nI ic2), .int cut2, .int ti2, .int sl2, .int sv], aI cI q0 300 tr2, aI cI q1 6 ou2, aI cI q2 8 vr2] → va_S jA js.heap H locs → lv_has ls 5 [(0, .ref ve), (1, .ref cd), (2, .ref su), (3, .ref rn), (4, .int (nI T))] → W jp jl je rCX8_become js jm ja jb jt jc H locs 0 0 jQ (F0 jm 42 ls []) := by
          intro fu
          induction fu with
          | zero =>
            intro T fa2 pa2 cu2 mb3 sc2 oc2 ic2 cut2 ti2 sl2 tr2 ou2 vr2 hfu hT h1 h2 h3 h4 H locs ls hP hD hS hl
            exact absurd hfu (by omega)
          | succ fu ih42 =>
            intro T fa2 pa2 cu2 mb3 sc2 oc2 ic2 cut2 ti2 sl2 tr2 ou2 vr2 hfu hT h1 h2 h3 h4 H locs ls hP hD hS hl
            refine lv_iload hx hb dX8_become_42 (lv_at hl 4 rfl) ?_
            refine lv_aload_n hx hb dX8_become_44 rfl (lv_at hl 2 rfl) ?_
            refine va_get (C := RX6) (T := TX6) (N := 5) (ci := 6) hx hb hts iX8_become_6 hown hK.1 hP 7 rfl rfl 4 (Nat.le_of_ble_eq_true rfl) (hts _ mX8_become_25) (fun _ h9 => h9) rfl dX8_become_45 ?_
            refine k_cmp_ge (tgt := 73) hx hb dX8_become_48 (by decide) (by omega) (by omega) (fun c_2 => ?_) (fun c_2 => ?_)
            · skip
              have hTe : T = nt := by omega
              subst hTe
              exact hret _ _ _ _ (fa2, pa2, cu2, mb3, sc2, oc2, ic2, cut2, ti2, sl2, tr2, ou2, vr2) dX8_become_73 (⟨h1, h2, h3, h4⟩) hP hD hS
            · skip
              refine lv_aload_n hx hb dX8_become_51 rfl (lv_at hl 3 rfl) ?_
              refine lv_aload_n hx hb dX8_become_52 rfl (lv_at hl 1 rfl) ?_
              refine lv_aload_n hx hb dX8_become_53 rfl (lv_at hl 2 rfl) ?_
              refine lv_iload hx hb dX8_become_54 (lv_at hl 4 rfl) ?_
              refine Kv.callV (wr := [oB ve 8 [.ref m0, .int (nI fa2), .int (nI pa2), .int (nI cu2)], aI cI m0 24 mb3]) (rest := []) (CX4_plainly jl G cI cZ cJ cd d0 d1 d2 d3 n ops xs ys zs su u0 u1 u2 ob nt inp row len rn q0 q1 q2 sc2 oc2 ic2 cut2 ti2 sl2 sv tr2 ou2 vr2 Z0 T hn (by omega) hok) cx hP hD hS hl [2, 3, 4, 5, 6, 7, 8, 9, 10, 11, 12, 13, 14] [0, 1] (ci := 4) (q0 := 9) gX8_become_X4_plainly hdX4_plainly rfl rfl rfl ⟨Nat.le_of_ble_eq_true rfl, Nat.le_of_ble_eq_true rfl⟩ rfl rfl (by decide) (by decide) (by decide) dX8_become_56 rfl rfl (Nat.le_of_ble_eq_true rfl) ⟨Nat.le_of_ble_eq_true rfl, Nat.le_of_ble_eq_true rfl⟩ (fun u H locs hw8 hP hD hS => ?_)
              obtain ⟨l3, sc3, oc3, ic3, tr3, vr3, ou3, os3⟩ := u
              try dsimp only at hw8
              have hP : va_P G vwCl [oB ve 8 [.ref m0, .int (nI fa2), .int (nI pa2), .int (nI cu2)], aI cI m0 24 mb3, oB cd 0 [.ref d0, .ref d1, .ref d2, .ref d3, .int (nI n)], aI cI d0 24 ops, aI cI d1 24 xs, aI cI d2 24 ys, aI cI d3 24 zs, oB su 6 [.ref u0, .ref u1, .ref u2, .int (nI ob), .int (nI nt)], aI cI u0 48 inp, aI cI u1 72 row, aI cI u2 12 len, oB rn 4 [.ref q0, .ref q1, .ref q2, .int (nI sc3), .int (nI oc3), .int (nI ic3), .int (bI (r_on n (l3, sc3, oc3, ic3, tr3, vr3, ou3, os3))), .int (-1), .int (-1), .int sv], aI cI q0 300 tr3, aI cI q1 6 ou3, aI cI q2 8 vr3] H := hP
              have hD : va_D jA [oB ve 8 [.ref m0, .int (nI fa2), .int (nI pa2), .int (nI cu2)], aI cI m0 24 mb3, oB cd 0 [.ref d0, .ref d1, .ref d2, .ref d3, .int (nI n)], aI cI d0 24 ops, aI cI d1 24 xs, aI cI d2 24 ys, aI cI d3 24 zs, oB su 6 [.ref u0, .ref u1, .ref u2, .int (nI ob), .int (nI nt)], aI cI u0 48 inp, aI cI u1 72 row, aI cI u2 12 len, oB rn 4 [.ref q0, .ref q1, .ref q2, .int (nI sc3), .int (nI oc3), .int (nI ic3), .int (bI (r_on n (l3, sc3, oc3, ic3, tr3, vr3, ou3, os3))), .int (-1), .int (-1), .int sv], aI cI q0 300 tr3, aI cI q1 6 ou3, aI cI q2 8 vr3] := hD
              have hag := r_run_rp hn hok hw8.1
              have hp9 : r_well (r_on n (l3, sc3, oc3, ic3, tr3, vr3, ou3, os3)) oc3 ou3 (len T) (fun i => row (T * 6 + i)) = r_pass n (len T) (fun i => row (T * 6 + i)) (rp n ops xs ys zs inp T) := r_pass_ag hag
              have hc9 : r_on n (l3, sc3, oc3, ic3, tr3, vr3, ou3, os3) = r_on n (rp n ops xs ys zs inp T) := r_on_ag hag
              have he9 : ∀ i, hasE tr3 (nI i) sc3 = hasE (rp n ops xs ys zs inp T).2.2.2.2.1 (nI i) (rp n ops xs ys zs inp T).2.1 := fun i => by rw [← hag.2.1]; exact hasE_ag hag.2.2.2.2.1
              have hli : ∀ k, k < sc3 → ix (tr3 k) 24 := fun k hk => by
                obtain ⟨j, h1, h2⟩ := (show r_lin n (l3, sc3, oc3, ic3, tr3, vr3, ou3, os3) by rw [hw8.1]; exact r_run_lin) k hk
                exact ⟨j, by omega, h2⟩
              refine lv_aload_n hx hb dX8_become_59 rfl (lv_at hl 0 rfl) ?_
              refine lv_aload_n hx hb dX8_become_60 rfl (lv_at hl 2 rfl) ?_
              refine lv_aload_n hx hb dX8_become_61 rfl (lv_at hl 3 rfl) ?_
              refine lv_iload hx hb dX8_become_62 (lv_at hl 4 rfl) ?_
              refine Kv.callV (wr := [oB cd 0 [.ref d0, .ref d1, .ref d2, .ref d3, .int (nI n)], aI cI d0 24 ops, aI cI d1 24 xs, aI cI d2 24 ys, aI cI d3 24 zs]) (rest := []) (CX8_note jl G cI cZ cJ ve m0 fa2 pa2 cu2 mb3 su u0 u1 u2 ob nt inp row len rn q0 q1 q2 sc3 oc3 ic3 (-1) (-1) sv tr3 ou3 vr3 (r_on n (l3, sc3, oc3, ic3, tr3, vr3, ou3, os3)) (fun i => bs (fun t => hasE (rp n ops xs ys zs inp t).2.2.2.2.1 (nI i) (rp n ops xs ys zs inp t).2.1) T) T (by omega) hob hw8.2.2.1 hw8.2.2.2.1 (by rw [h1]; exact bs_lt12 _ (by omega)) (by rw [h2]; exact bs_lt12 _ (by omega)) (by rw [h3]; exact bs_lt12 _ (by omega)) hli h4) cx hP hD hS hl [0, 1, 7, 8, 9, 10, 11, 12, 13, 14] [2, 3, 4, 5, 6] (ci := 8) (q0 := 0) gX8_become_X8_note hdX8_note rfl rfl rfl ⟨Nat.le_of_ble_eq_true rfl, Nat.le_of_ble_eq_true rfl⟩ rfl rfl (by decide) (by decide) (by decide) dX8_become_64 rfl rfl (Nat.le_of_ble_eq_true rfl) ⟨Nat.le_of_ble_eq_true rfl, Nat.le_of_ble_eq_true rfl⟩ (fun u H locs hn9 hP hD hS => ?_)
              obtain ⟨fa4, pa4, cu4, mb4⟩ := u
              try dsimp only at hn9
              have hP : va_P G vwCl [oB cd 0 [.ref d0, .ref d1, .ref d2, .ref d3, .int (nI n)], aI cI d0 24 ops, aI cI d1 24 xs, aI cI d2 24 ys, aI cI d3 24 zs, oB ve 8 [.ref m0, .int (nI fa4), .int (nI pa4), .int (nI cu4)], aI cI m0 24 mb4, oB su 6 [.ref u0, .ref u1, .ref u2, .int (nI ob), .int (nI nt)], aI cI u0 48 inp, aI cI u1 72 row, aI cI u2 12 len, oB rn 4 [.ref q0, .ref q1, .ref q2, .int (nI sc3), .int (nI oc3), .int (nI ic3), .int (bI (r_on n (l3, sc3, oc3, ic3, tr3, vr3, ou3, os3))), .int (-1), .int (-1), .int sv], aI cI q0 300 tr3, aI cI q1 6 ou3, aI cI q2 8 vr3] H := hP
              have hD : va_D jA [oB cd 0 [.ref d0, .ref d1, .ref d2, .ref d3, .int (nI n)], aI cI d0 24 ops, aI cI d1 24 xs, aI cI d2 24 ys, aI cI d3 24 zs, oB ve 8 [.ref m0, .int (nI fa4), .int (nI pa4), .int (nI cu4)], aI cI m0 24 mb4, oB su 6 [.ref u0, .ref u1, .ref u2, .int (nI ob), .int (nI nt)], aI cI u0 48 inp, aI cI u1 72 row, aI cI u2 12 len, oB rn 4 [.ref q0, .ref q1, .ref q2, .int (nI sc3), .int (nI oc3), .int (nI ic3), .int (bI (r_on n (l3, sc3, oc3, ic3, tr3, vr3, ou3, os3))), .int (-1), .int (-1), .int sv], aI cI q0 300 tr3, aI cI q1 6 ou3, aI cI q2 8 vr3] := hD
              refine lv_iinc (v := nI (T + 1)) (lv' := [(4, .int (nI (T + 1))), (0, .ref ve), (1, .ref cd), (2, .ref su), (3, .ref rn)]) hx hb dX8_become_67 hl (k := 4) rfl (nI_add T 1) (by decide) rfl (fun ls hl => ?_)
              refine lv_goto (tgt := 42) hx hb dX8_become_70 (by decide) ?_
              obtain ⟨hP, hD⟩ := k_sub (w' := [oB ve 8 [.ref m0, .int (nI fa4), .int (nI pa4), .int (nI cu4)], aI cI m0 24 mb4, oB cd 0 [.ref d0, .ref d1, .ref d2, .ref d3, .int (nI n)], aI cI d0 24 ops, aI cI d1 24 xs, aI cI d2 24 ys, aI cI d3 24 zs, oB su 6 [.ref u0, .ref u1, .ref u2, .int (nI ob), .int (nI nt)], aI cI u0 48 inp, aI cI u1 72 row, aI cI u2 12 len, oB rn 4 [.ref q0, .ref q1, .ref q2, .int (nI sc3), .int (nI oc3), .int (nI ic3), .int (bI (r_on n (l3, sc3, oc3, ic3, tr3, vr3, ou3, os3))), .int (-1), .int (-1), .int sv], aI cI q0 300 tr3, aI cI q1 6 ou3, aI cI q2 8 vr3]) hP hD [5, 6, 0, 1, 2, 3, 4, 7, 8, 9, 10, 11, 12, 13, 14] rfl (by decide)
              exact ih42 (T + 1) fa4 pa4 cu4 mb4 sc3 oc3 ic3 (bI (r_on n (l3, sc3, oc3, ic3, tr3, vr3, ou3, os3))) (-1) (-1) tr3 ou3 vr3 (by omega) (by omega) (by rw [hn9.2.2.1, h1, hp9]; rfl) (by rw [hn9.2.2.2, h2, hp9]; rfl) (by rw [hn9.2.1, h3, hc9]; rfl) (fun i hi => by rw [hn9.1 i hi, he9 i]; rfl) _ _ _ hP hD hS (lv_sub hl [1, 2, 3, 4, 0] rfl)
        exact L42 (nt + 1) 0 0 0 0 mb2 sc oc ic cut ti sl tr ou vr (by omega) (by omega) (rfl) (rfl) (rfl) (fun i hi => by rw [ez, fl_in hi]; rfl) _ _ _ hP hD hS (lv_sub hl [1, 2, 3, 4, 0] rfl)
      · skip
        refine lv_aload_n hx hb dX8_become_10 rfl (lv_at hl 0 rfl) ?_
        refine va_get (C := RX8) (T := TX8) (N := 4) (ci := 8) hx hb hts iX8_become_8 hown hK.1 hP 0 rfl rfl 0 (Nat.le_of_ble_eq_true rfl) (hts _ mX8_become_9) (fun _ h9 => h9) rfl dX8_become_11 ?_
        refine lv_iload hx hb dX8_become_14 (lv_at hl 4 rfl) ?_
        refine lv_iconst (v := nI 0) hx hb dX8_become_16 (by decide) ?_
        refine k_iast hx hb hK.1 hP hD hS 1 0 rfl rfl (by omega) (by decide) dX8_become_17 (fun H locs hP hD hS => ?_)
        have hP : va_P G vwCl [oB ve 8 [.ref m0, .int (nI fa), .int (nI pa), .int (nI cu)], aI cI m0 24 (upd mb2 i (nI 0)), oB cd 0 [.ref d0, .ref d1, .ref d2, .ref d3, .int (nI n)], aI cI d0 24 ops, aI cI d1 24 xs, aI cI d2 24 ys, aI cI d3 24 zs, oB su 6 [.ref u0, .ref u1, .ref u2, .int (nI ob), .int (nI nt)], aI cI u0 48 inp, aI cI u1 72 row, aI cI u2 12 len, oB rn 4 [.ref q0, .ref q1, .ref q2, .int (nI sc), .int (nI oc), .int (nI ic), .int cut, .int ti, .int sl, .int sv], aI cI q0 300 tr, aI cI q1 6 ou, aI cI q2 8 vr] H := hP
        have hD : va_D jA [oB ve 8 [.ref m0, .int (nI fa), .int (nI pa), .int (nI cu)], aI cI m0 24 (upd mb2 i (nI 0)), oB cd 0 [.ref d0, .ref d1, .ref d2, .ref d3, .int (nI n)], aI cI d0 24 ops, aI cI d1 24 xs, aI cI d2 24 ys, aI cI d3 24 zs, oB su 6 [.ref u0, .ref u1, .ref u2, .int (nI ob), .int (nI nt)], aI cI u0 48 inp, aI cI u1 72 row, aI cI u2 12 len, oB rn 4 [.ref q0, .ref q1, .ref q2, .int (nI sc), .int (nI oc), .int (nI ic), .int cut, .int ti, .int sl, .int sv], aI cI q0 300 tr, aI cI q1 6 ou, aI cI q2 8 vr] := hD
        refine lv_iinc (v := nI (i + 1)) (lv' := [(4, .int (nI (i + 1))), (0, .ref ve), (1, .ref cd), (2, .ref su), (3, .ref rn)]) hx hb dX8_become_18 hl (k := 4) rfl (nI_add i 1) (by decide) rfl (fun ls hl => ?_)
        refine lv_goto (tgt := 3) hx hb dX8_become_21 (by decide) ?_
        exact ih3 (i + 1) (upd mb2 i (nI 0)) (by omega) (by omega) (by rw [ez]; exact fl_succ Z0 _ _) _ _ _ hP hD hS (lv_sub hl [1, 2, 3, 4, 0] rfl)
  exact L3 25 0 mb (by omega) (by omega) ((fl_0 _ _).symm) _ _ _ hP hD hS (lv_sub hl [1, 2, 3, 4, 0] rfl)
