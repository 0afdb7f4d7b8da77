theorem iX7_gather_7 : ∀ w ∈ wsX70, w ∈ wsX7_gather := by decide +kernel
theorem iX7_gather_8 : ∀ w ∈ wsX80, w ∈ wsX7_gather := by decide +kernel
theorem mX7_gather_21 : Cond.fieldLink RX7 21 "LineFinder$Suspicion" "size" "I" ∈ wsX7_gather := List.mem_of_getElem? (i := 1) rfl
theorem mX7_gather_25 : Cond.fieldLink RX7 25 "LineFinder$Suspicion" "lines" "I" ∈ wsX7_gather := List.mem_of_getElem? (i := 2) rfl
theorem mX7_gather_28 : Cond.fieldLink RX7 28 "LineFinder$Suspicion" "verdicts" "LLineFinder$Verdicts;" ∈ wsX7_gather := List.mem_of_getElem? (i := 3) rfl
theorem mX7_gather_32 : Cond.fieldLink RX7 32 "LineFinder$Verdicts" "failing" "I" ∈ wsX7_gather := List.mem_of_getElem? (i := 4) rfl
theorem hdX7_gatherTriples : yX7_gatherTriples.cls = RX7 ∧ yX7_gatherTriples.cls ≠ "java/lang/invoke/MethodHandle" ∧ yX7_gatherTriples.cls ≠ "java/lang/invoke/VarHandle" ∧ (parseMethodDescriptor yX7_gatherTriples.desc).map (fun d => d.parameters.length) = some 1 := by decide +kernel
theorem hdX7_gatherPairs : yX7_gatherPairs.cls = RX7 ∧ yX7_gatherPairs.cls ≠ "java/lang/invoke/MethodHandle" ∧ yX7_gatherPairs.cls ≠ "java/lang/invoke/VarHandle" ∧ (parseMethodDescriptor yX7_gatherPairs.desc).map (fun d => d.parameters.length) = some 1 := by decide +kernel
theorem hdX7_gatherSingle : yX7_gatherSingle.cls = RX7 ∧ yX7_gatherSingle.cls ≠ "java/lang/invoke/MethodHandle" ∧ yX7_gatherSingle.cls ≠ "java/lang/invoke/VarHandle" ∧ (parseMethodDescriptor yX7_gatherSingle.desc).map (fun d => d.parameters.length) = some 1 := by decide +kernel
abbrev rCX7_gather : Room := { frames := 3, cells := 0, slots := 0, locals := 69 }
set_option maxHeartbeats 4000000 in
set_option maxRecDepth 100000 in
theorem CX7_gather (jl : Launch) (G : va_G) (cI cZ cJ : ClassId) (ve m0 fa pa cu : Nat) (mb : Fn) (sp s1 s2 s3 sz ln : Nat) (se sm pr : Fn) (X : Nat → Nat) (hmb : ∀ i, i < 24 → mb i = nI (X i)) (hX : ∀ i, X i < 4096) (hfa : fa < 4096) (n : Nat) (hn : n ≤ 24) : Kv jl yX7_gather wsX7_gather rCX7_gather G cI cZ cJ [.ref sp, .int (nI n)] [oB sp 7 [.ref ve, .ref s1, .ref s2, .ref s3, .int (nI sz), .int (nI ln)], aI cI s1 2324 se, aI cI s2 2324 sm, aI cI s3 24 pr, oB ve 8 [.ref m0, .int (nI fa), .int (nI pa), .int (nI cu)], aI cI m0 24 mb] (S := Nat × Fn × Fn) (fun (u : Nat × Fn × Fn) => match u with | (sz1, se1, sm1) => sz1 = (allS X fa n).length ∧ SL se1 sm1 (allS X fa n)) (fun (u : Nat × Fn × Fn) => match u with | (sz1, se1, sm1) => [oB sp 7 [.ref ve, .ref s1, .ref s2, .ref s3, .int (nI sz1), .int (nI n)], aI cI s1 2324 se1, aI cI s2 2324 sm1, aI cI s3 24 pr, oB ve 8 [.ref m0, .int (nI fa), .int (nI pa), .int (nI cu)], aI cI m0 24 mb]) := by
  refine Kv.of (cc := cX7_gather) (maxL := 3) (by decide +kernel) rfl (Nat.le_of_ble_eq_true rfl) ?_
  intro jp je js jm ja jb jt jc jA jQ ls cx hnm hP hD hS hl hret
  obtain ⟨hx, hb, hml, hown, hts, hK, hA⟩ := id cx
  have hl : lv_has ls 3 [(0, .ref sp), (1, .int (nI n))] := hl
  obtain ⟨H, hH⟩ : ∃ H, H = js.heap := ⟨_, rfl⟩
  obtain ⟨locs, hlocs⟩ : ∃ z : List Loc, z = [] := ⟨_, rfl⟩
  have hP : va_P G vwCl [oB sp 7 [.ref ve, .ref s1, .ref s2, .ref s3, .int (nI sz), .int (nI ln)], aI cI s1 2324 se, aI cI s2 2324 sm, aI cI s3 24 pr, oB ve 8 [.ref m0, .int (nI fa), .int (nI pa), .int (nI cu)], aI cI m0 24 mb] H := by rw [hH]; exact hP
  have hS : va_S jA js.heap H locs := by rw [hH, hlocs]; exact hS
  rw [← hlocs]; rw [show W jp jl je rCX7_gather js jm ja jb jt jc js.heap locs 0 0 jQ (F0 jm 0 ls []) = W jp jl je rCX7_gather js jm ja jb jt jc H locs 0 0 jQ (F0 jm 0 ls []) by rw [hH]]
  clear hH hlocs
  refine lv_aload_n hx hb dX7_gather_0 rfl (lv_at hl 0 rfl) ?_
  refine lv_iconst (v := nI 0) hx hb dX7_gather_1 (by decide) ?_
  refine va_put (C := RX7) (T := TX7) (N := 6) (ci := 7) (v := .int (nI 0)) (ty := tyX7 4) hx hb hts iX7_gather_7 tyX7 tyX7_ok nmX7 hown hK.1 hP hD hS 0 rfl rfl 4 (Nat.le_of_ble_eq_true rfl) (hts _ mX7_gather_21) (fun _ h9 => h9) rfl (tyX7_ok 4 (Nat.le_of_ble_eq_true rfl)) (rfl) (rfl) (Nat.le_of_ble_eq_true rfl) dX7_gather_2 (fun H locs hP hD hS => ?_)
  have hP : va_P G vwCl [oB sp 7 [.ref ve, .ref s1, .ref s2, .ref s3, .int (nI 0), .int (nI ln)], aI cI s1 2324 se, aI cI s2 2324 sm, aI cI s3 24 pr, oB ve 8 [.ref m0, .int (nI fa), .int (nI pa), .int (nI cu)], aI cI m0 24 mb] H := hP
  have hD : va_D jA [oB sp 7 [.ref ve, .ref s1, .ref s2, .ref s3, .int (nI 0), .int (nI ln)], aI cI s1 2324 se, aI cI s2 2324 sm, aI cI s3 24 pr, oB ve 8 [.ref m0, .int (nI fa), .int (nI pa), .int (nI cu)], aI cI m0 24 mb] := hD
  refine lv_aload_n hx hb dX7_gather_5 rfl (lv_at hl 0 rfl) ?_
  refine lv_iload_n hx hb dX7_gather_6 rfl (lv_at hl 1 rfl) ?_
  refine va_put (C := RX7) (T := TX7) (N := 6) (ci := 7) (v := .int (nI n)) (ty := tyX7 5) hx hb hts iX7_gather_7 tyX7 tyX7_ok nmX7 hown hK.1 hP hD hS 0 rfl rfl 5 (Nat.le_of_ble_eq_true rfl) (hts _ mX7_gather_25) (fun _ h9 => h9) rfl (tyX7_ok 5 (Nat.le_of_ble_eq_true rfl)) (rfl) (rfl) (Nat.le_of_ble_eq_true rfl) dX7_gather_7 (fun H locs hP hD hS => ?_)
  have hP : va_P G vwCl [oB sp 7 [.ref ve, .ref s1, .ref s2, .ref s3, .int (nI 0), .int (nI n)], aI cI s1 2324 se, aI cI s2 2324 sm, aI cI s3 24 pr, oB ve 8 [.ref m0, .int (nI fa), .int (nI pa), .int (nI cu)], aI cI m0 24 mb] H := hP
  have hD : va_D jA [oB sp 7 [.ref ve, .ref s1, .ref s2, .ref s3, .int (nI 0), .int (nI n)], aI cI s1 2324 se, aI cI s2 2324 sm, aI cI s3 24 pr, oB ve 8 [.ref m0, .int (nI fa), .int (nI pa), .int (nI cu)], aI cI m0 24 mb] := hD
  refine lv_aload_n hx hb dX7_gather_10 rfl (lv_at hl 0 rfl) ?_
  refine va_get (C := RX7) (T := TX7) (N := 6) (ci := 7) hx hb hts iX7_gather_7 hown hK.1 hP 0 rfl rfl 0 (Nat.le_of_ble_eq_true rfl) (hts _ mX7_gather_28) (fun _ h9 => h9) rfl dX7_gather_11 ?_
  refine va_get (C := RX8) (T := TX8) (N := 4) (ci := 8) hx hb hts iX7_gather_8 hown hK.1 hP 4 rfl rfl 1 (Nat.le_of_ble_eq_true rfl) (hts _ mX7_gather_32) (fun _ h9 => h9) rfl dX7_gather_14 ?_
  refine k_if_ne (tgt := 21) hx hb dX7_gather_17 (by decide) (by omega) (fun hf0 => ?_) (fun hf0 => ?_)
  · skip
    refine lv_iconst (v := nI 0) hx hb dX7_gather_21 (by decide) ?_
    refine lv_istore_n (lv' := [(2, .int (nI 0)), (0, .ref sp), (1, .int (nI n))]) hx hb dX7_gather_22 rfl hl (by decide) rfl (fun ls hl => ?_)
    have LS : ∀ (fu : Nat), ∀ (c : Nat), ∀ (sz2 : Nat), ∀ (se2 : Fn), ∀ (sm2 : Fn), (n < c + fu) → (c ≤ n ∨ c = 0) → (0 ≤ c) → (sz2 = (fm (gS X fa) c).length) → (SL se2 sm2 (fm (gS X fa) c)) → ∀ (H : Heap) (locs : List Loc) (ls : Array Slot), va_P G vwCl [oB sp 7 [.ref ve, .ref s1, .ref s2, .ref s3, .int (nI sz2), .int (nI n)], aI cI s1 2324 se2, aI cI s2 2324 sm2, aI cI s3 24 pr, oB ve 8 [.ref m0, .int (nI fa), .int (nI pa), .int (nI cu)], aI cI m0 24 mb] H → va_D jA [oB sp 7 [.ref ve, .ref s1, .ref s2, .ref s3, .int (nI sz2), .int (nI n)], aI cI s1 2324 se2, aI cI s2 2324 sm2, aI cI s3 24 pr, oB ve 8 [.ref m0, .int (nI fa), .int (nI pa), .int (nI cu)], aI cI m0 24 mb] → va_S jA js.heap H locs → lv_has ls 3 [(0, .ref sp), (1, .int (nI n)), (2, .int (nI c))] → W jp jl je rCX7_gather js jm ja jb jt jc H locs 0 0 jQ (F0 jm 23 ls []) := by
      intro fu
      induction fu with
      | zero =>
        intro c sz2 se2 sm2 hfu hc_ hcl hz2 hs2 H locs ls hP hD hS hl
        exact absurd hfu (by omega)
      | succ fu ih23 =>
        intro c sz2 se2 sm2 hfu hc_ hcl hz2 hs2 H locs ls hP hD hS hl
        have hlen := aS_len X fa c
        refine lv_iload_n hx hb dX7_gather_23 rfl (lv_at hl 2 rfl) ?_
        refine lv_aload_n hx hb dX7_gather_24 rfl (lv_at hl 0 rfl) ?_
        refine va_get (C := RX7) (T := TX7) (N := 6) (ci := 7) hx hb hts iX7_gather_7 hown hK.1 hP 0 rfl rfl 5 (Nat.le_of_ble_eq_true rfl) (hts _ mX7_gather_25) (fun _ h9 => h9) rfl dX7_gather_25 ?_
        refine k_cmp_ge (tgt := 42) hx hb dX7_gather_28 (by decide) (by omega) (by omega) (fun c_1 => ?_) (fun c_1 => ?_)
        · skip
          have hce : c = n := by omega
          refine lv_iconst (v := nI 1) hx hb dX7_gather_42 (by decide) ?_
          refine lv_istore_n (lv' := [(2, .int (nI 1)), (0, .ref sp), (1, .int (nI n))]) hx hb dX7_gather_43 rfl hl (by decide) rfl (fun ls hl => ?_)
          have LP : ∀ (fu : Nat), ∀ (c : Nat), ∀ (sz2 : Nat), ∀ (se2 : Fn), ∀ (sm2 : Fn), (n + 1 < c + fu) → (c ≤ n ∨ c = 1) → (1 ≤ c) → (sz2 = (fm (gS X fa) n ++ fm (sPs X fa) c).length) → (SL se2 sm2 (fm (gS X fa) n ++ fm (sPs X fa) c)) → ∀ (H : Heap) (locs : List Loc) (ls : Array Slot), va_P G vwCl [oB sp 7 [.ref ve, .ref s1, .ref s2, .ref s3, .int (nI sz2), .int (nI n)], aI cI s1 2324 se2, aI cI s2 2324 sm2, aI cI s3 24 pr, oB ve 8 [.ref m0, .int (nI fa), .int (nI pa), .int (nI cu)], aI cI m0 24 mb] H → va_D jA [oB sp 7 [.ref ve, .ref s1, .ref s2, .ref s3, .int (nI sz2), .int (nI n)], aI cI s1 2324 se2, aI cI s2 2324 sm2, aI cI s3 24 pr, oB ve 8 [.ref m0, .int (nI fa), .int (nI pa), .int (nI cu)], aI cI m0 24 mb] → va_S jA js.heap H locs → lv_has ls 3 [(0, .ref sp), (1, .int (nI n)), (2, .int (nI c))] → W jp jl je rCX7_gather js jm ja jb jt jc H locs 0 0 jQ (F0 jm 44 ls []) := by
            intro fu
            induction fu with
            | zero =>
              intro c sz2 se2 sm2 hfu hc_ hcl hz2 hs2 H locs ls hP hD hS hl
              exact absurd hfu (by omega)
            | succ fu ih44 =>
              intro c sz2 se2 sm2 hfu hc_ hcl hz2 hs2 H locs ls hP hD hS hl
              have hlen := aP_len X fa c
              have hlS := aS_len X fa n
              have hla : (fm (gS X fa) n ++ fm (sPs X fa) c).length ≤ n + tri c := by rw [List.length_append]; omega
              refine lv_iload_n hx hb dX7_gather_44 rfl (lv_at hl 2 rfl) ?_
              refine lv_aload_n hx hb dX7_gather_45 rfl (lv_at hl 0 rfl) ?_
              refine va_get (C := RX7) (T := TX7) (N := 6) (ci := 7) hx hb hts iX7_gather_7 hown hK.1 hP 0 rfl rfl 5 (Nat.le_of_ble_eq_true rfl) (hts _ mX7_gather_25) (fun _ h9 => h9) rfl dX7_gather_46 ?_
              refine k_cmp_ge (tgt := 63) hx hb dX7_gather_49 (by decide) (by omega) (by omega) (fun c_2 => ?_) (fun c_2 => ?_)
              · skip
                have hPe : fm (gS X fa) n ++ fm (sPs X fa) c = fm (gS X fa) n ++ fm (sPs X fa) n := by
                  rcases (show c = n ∨ (c = 1 ∧ n = 0) by omega) with rfl | ⟨rfl, rfl⟩
                  · rfl
                  · rfl
                refine lv_iconst (v := nI 2) hx hb dX7_gather_63 (by decide) ?_
                refine lv_istore_n (lv' := [(2, .int (nI 2)), (0, .ref sp), (1, .int (nI n))]) hx hb dX7_gather_64 rfl hl (by decide) rfl (fun ls hl => ?_)
                have LT : ∀ (fu : Nat), ∀ (c : Nat), ∀ (sz2 : Nat), ∀ (se2 : Fn), ∀ (sm2 : Fn), (n + 2 < c + fu) → (c ≤ n ∨ c = 2) → (2 ≤ c) → (sz2 = (fm (gS X fa) n ++ fm (sPs X fa) n ++ fm (sTs X fa) c).length) → (SL se2 sm2 (fm (gS X fa) n ++ fm (sPs X fa) n ++ fm (sTs X fa) c)) → ∀ (H : Heap) (locs : List Loc) (ls : Array Slot), va_P G vwCl [oB sp 7 [.ref ve, .ref s1, .ref s2, .ref s3, .int (nI sz2), .int (nI n)], aI cI s1 2324 se2, aI cI s2 2324 sm2, aI cI s3 24 pr, oB ve 8 [.ref m0, .int (nI fa), .int (nI pa), .int (nI cu)], aI cI m0 24 mb] H → va_D jA [oB sp 7 [.ref ve, .ref s1, .ref s2, .ref s3, .int (nI sz2), .int (nI n)], aI cI s1 2324 se2, aI cI s2 2324 sm2, aI cI s3 24 pr, oB ve 8 [.ref m0, .int (nI fa), .int (nI pa), .int (nI cu)], aI cI m0 24 mb] → va_S jA js.heap H locs → lv_has ls 3 [(0, .ref sp), (1, .int (nI n)), (2, .int (nI c))] → W jp jl je rCX7_gather js jm ja jb jt jc H locs 0 0 jQ (F0 jm 65 ls []) := by
                  intro fu
                  induction fu with
                  | zero =>
                    intro c sz2 se2 sm2 hfu hc_ hcl hz2 hs2 H locs ls hP hD hS hl
                    exact absurd hfu (by omega)
                  | succ fu ih65 =>
                    intro c sz2 se2 sm2 hfu hc_ hcl hz2 hs2 H locs ls hP hD hS hl
                    have hlen := aT_len X fa c
                    have hlP := aP_len X fa n
                    have hlS := aS_len X fa n
                    have hla : (fm (gS X fa) n ++ fm (sPs X fa) n ++ fm (sTs X fa) c).length ≤ n + tri n + tet c := by rw [List.length_append, List.length_append]; omega
                    refine lv_iload_n hx hb dX7_gather_65 rfl (lv_at hl 2 rfl) ?_
                    refine lv_aload_n hx hb dX7_gather_66 rfl (lv_at hl 0 rfl) ?_
                    refine va_get (C := RX7) (T := TX7) (N := 6) (ci := 7) hx hb hts iX7_gather_7 hown hK.1 hP 0 rfl rfl 5 (Nat.le_of_ble_eq_true rfl) (hts _ mX7_gather_25) (fun _ h9 => h9) rfl dX7_gather_67 ?_
                    refine k_cmp_ge (tgt := 84) hx hb dX7_gather_70 (by decide) (by omega) (by omega) (fun c_3 => ?_) (fun c_3 => ?_)
                    · skip
                      have hTe : fm (gS X fa) n ++ fm (sPs X fa) n ++ fm (sTs X fa) c = allS X fa n := by
                        unfold allS; rw [if_neg (by omega), ← List.append_assoc]
                        rcases (show c = n ∨ (c = 2 ∧ n = 0) ∨ (c = 2 ∧ n = 1) by omega) with rfl | ⟨rfl, rfl⟩ | ⟨rfl, rfl⟩
                        · rfl
                        · rfl
                        · rfl
                      exact hret _ _ _ _ (sz2, se2, sm2) dX7_gather_84 (⟨by rw [hz2, hTe], by rw [← hTe]; exact hs2⟩) hP hD hS
                    · skip
                      refine lv_aload_n hx hb dX7_gather_73 rfl (lv_at hl 0 rfl) ?_
                      refine lv_iload_n hx hb dX7_gather_74 rfl (lv_at hl 2 rfl) ?_
                      have ht1 : tet (c + 1) ≤ tet 24 := tet_mono (by omega)
                      have ht2 : tet (c + 1) = tet c + tri c := rfl
                      have ht3 : tet 24 = 2024 := rfl
                      have ht4 : tri n ≤ tri 24 := tri_mono hn
                      have ht5 : tri 24 = 276 := rfl
                      refine Kv.callV (wr := []) (rest := []) (CX7_gatherTriples jl G cI cZ cJ ve m0 fa pa cu mb sp s1 s2 s3 sz2 n se2 sm2 pr X hmb hX hfa (fm (gS X fa) n ++ fm (sPs X fa) n ++ fm (sTs X fa) c) hz2 hs2 c (by omega) (by omega)) cx hP hD hS hl [0, 1, 2, 3, 4, 5] [] (ci := 7) (q0 := 0) gX7_gather_X7_gatherTriples hdX7_gatherTriples rfl rfl rfl ⟨Nat.le_of_ble_eq_true rfl, Nat.le_of_ble_eq_true rfl⟩ rfl rfl (by decide) (by decide) (by decide) dX7_gather_75 rfl rfl (Nat.le_of_ble_eq_true rfl) ⟨Nat.le_of_ble_eq_true rfl, Nat.le_of_ble_eq_true rfl⟩ (fun u H locs hw9 hP hD hS => ?_)
                      obtain ⟨sz3, se3, sm3⟩ := u
                      try dsimp only at hw9
                      have hP : va_P G vwCl [oB sp 7 [.ref ve, .ref s1, .ref s2, .ref s3, .int (nI sz3), .int (nI n)], aI cI s1 2324 se3, aI cI s2 2324 sm3, aI cI s3 24 pr, oB ve 8 [.ref m0, .int (nI fa), .int (nI pa), .int (nI cu)], aI cI m0 24 mb] H := hP
                      have hD : va_D jA [oB sp 7 [.ref ve, .ref s1, .ref s2, .ref s3, .int (nI sz3), .int (nI n)], aI cI s1 2324 se3, aI cI s2 2324 sm3, aI cI s3 24 pr, oB ve 8 [.ref m0, .int (nI fa), .int (nI pa), .int (nI cu)], aI cI m0 24 mb] := hD
                      refine lv_iinc (v := nI (c + 1)) (lv' := [(2, .int (nI (c + 1))), (0, .ref sp), (1, .int (nI n))]) hx hb dX7_gather_78 hl (k := 2) rfl (nI_add c 1) (by decide) rfl (fun ls hl => ?_)
                      refine lv_goto (tgt := 65) hx hb dX7_gather_81 (by decide) ?_
                      exact ih65 (c + 1) sz3 se3 sm3 (by omega) (by omega) (by omega) (by rw [hw9.1, List.append_assoc]; rfl) (by have := hw9.2; rw [List.append_assoc] at this; exact this) _ _ _ hP hD hS (lv_sub hl [1, 2, 0] rfl)
                exact LT (n + 3) 2 sz2 se2 sm2 (by omega) (by omega) (by omega) (by rw [show fm (sTs X fa) 2 = [] from rfl, List.append_nil, ← hPe]; exact hz2) (by rw [show fm (sTs X fa) 2 = [] from rfl, List.append_nil, ← hPe]; exact hs2) _ _ _ hP hD hS (lv_sub hl [1, 2, 0] rfl)
              · skip
                refine lv_aload_n hx hb dX7_gather_52 rfl (lv_at hl 0 rfl) ?_
                refine lv_iload_n hx hb dX7_gather_53 rfl (lv_at hl 2 rfl) ?_
                have ht1 : tri (c + 1) ≤ tri 24 := tri_mono (by omega)
                have ht2 : tri (c + 1) = tri c + c := rfl
                have ht3 : tri 24 = 276 := rfl
                refine Kv.callV (wr := []) (rest := []) (CX7_gatherPairs jl G cI cZ cJ ve m0 fa pa cu mb sp s1 s2 s3 sz2 n se2 sm2 pr X hmb hX hfa (fm (gS X fa) n ++ fm (sPs X fa) c) hz2 hs2 c (by omega) (by omega)) cx hP hD hS hl [0, 1, 2, 3, 4, 5] [] (ci := 7) (q0 := 0) gX7_gather_X7_gatherPairs hdX7_gatherPairs rfl rfl rfl ⟨Nat.le_of_ble_eq_true rfl, Nat.le_of_ble_eq_true rfl⟩ rfl rfl (by decide) (by decide) (by decide) dX7_gather_54 rfl rfl (Nat.le_of_ble_eq_true rfl) ⟨Nat.le_of_ble_eq_true rfl, Nat.le_of_ble_eq_true rfl⟩ (fun u H locs hw9 hP hD hS => ?_)
                obtain ⟨sz3, se3, sm3⟩ := u
                try dsimp only at hw9
                have hP : va_P G vwCl [oB sp 7 [.ref ve, .ref s1, .ref s2, .ref s3, .int (nI sz3), .int (nI n)], aI cI s1 2324 se3, aI cI s2 2324 sm3, aI cI s3 24 pr, oB ve 8 [.ref m0, .int (nI fa), .int (nI pa), .int (nI cu)], aI cI m0 24 mb] H := hP
                have hD : va_D jA [oB sp 7 [.ref ve, .ref s1, .ref s2, .ref s3, .int (nI sz3), .int (nI n)], aI cI s1 2324 se3, aI cI s2 2324 sm3, aI cI s3 24 pr, oB ve 8 [.ref m0, .int (nI fa), .int (nI pa), .int (nI cu)], aI cI m0 24 mb] := hD
                refine lv_iinc (v := nI (c + 1)) (lv' := [(2, .int (nI (c + 1))), (0, .ref sp), (1, .int (nI n))]) hx hb dX7_gather_57 hl (k := 2) rfl (nI_add c 1) (by decide) rfl (fun ls hl => ?_)
                refine lv_goto (tgt := 44) hx hb dX7_gather_60 (by decide) ?_
                exact ih44 (c + 1) sz3 se3 sm3 (by omega) (by omega) (by omega) (by rw [hw9.1, List.append_assoc]; rfl) (by have := hw9.2; rw [List.append_assoc] at this; exact this) _ _ _ hP hD hS (lv_sub hl [1, 2, 0] rfl)
          exact LP (n + 2) 1 sz2 se2 sm2 (by omega) (by omega) (by omega) (by rw [show fm (sPs X fa) 1 = [] from rfl, List.append_nil, ← hce]; exact hz2) (by rw [show fm (sPs X fa) 1 = [] from rfl, List.append_nil, ← hce]; exact hs2) _ _ _ hP hD hS (lv_sub hl [1, 2, 0] rfl)
        · skip
          refine lv_aload_n hx hb dX7_gather_31 rfl (lv_at hl 0 rfl) ?_
          refine lv_iload_n hx hb dX7_gather_32 rfl (lv_at hl 2 rfl) ?_
          refine Kv.callV (wr := []) (rest := []) (CX7_gatherSingle jl G cI cZ cJ ve m0 fa pa cu mb sp s1 s2 s3 sz2 n se2 sm2 pr X hmb hX hfa (fm (gS X fa) c) hz2 hs2 c (by omega) (by omega)) cx hP hD hS hl [0, 1, 2, 3, 4, 5] [] (ci := 7) (q0 := 0) gX7_gather_X7_gatherSingle hdX7_gatherSingle rfl rfl rfl ⟨Nat.le_of_ble_eq_true rfl, Nat.le_of_ble_eq_true rfl⟩ rfl rfl (by decide) (by decide) (by decide) dX7_gather_33 rfl rfl (Nat.le_of_ble_eq_true rfl) ⟨Nat.le_of_ble_eq_true rfl, Nat.le_of_ble_eq_true rfl⟩ (fun u H locs hw9 hP hD hS => ?_)
          obtain ⟨sz3, se3, sm3⟩ := u
          try dsimp only at hw9
          have hP : va_P G vwCl [oB sp 7 [.ref ve, .ref s1, .ref s2, .ref s3, .int (nI sz3), .int (nI n)], aI cI s1 2324 se3, aI cI s2 2324 sm3, aI cI s3 24 pr, oB ve 8 [.ref m0, .int (nI fa), .int (nI pa), .int (nI cu)], aI cI m0 24 mb] H := hP
          have hD : va_D jA [oB sp 7 [.ref ve, .ref s1, .ref s2, .ref s3, .int (nI sz3), .int (nI n)], aI cI s1 2324 se3, aI cI s2 2324 sm3, aI cI s3 24 pr, oB ve 8 [.ref m0, .int (nI fa), .int (nI pa), .int (nI cu)], aI cI m0 24 mb] := hD
          refine lv_iinc (v := nI (c + 1)) (lv' := [(2, .int (nI (c + 1))), (0, .ref sp), (1, .int (nI n))]) hx hb dX7_gather_36 hl (k := 2) rfl (nI_add c 1) (by decide) rfl (fun ls hl => ?_)
          refine lv_goto (tgt := 23) hx hb dX7_gather_39 (by decide) ?_
          exact ih23 (c + 1) sz3 se3 sm3 (by omega) (by omega) (by omega) (hw9.1) (hw9.2) _ _ _ hP hD hS (lv_sub hl [1, 2, 0] rfl)
    exact LS (n + 1) 0 0 se sm (by omega) (by omega) (by omega) (rfl) (SL_nil) _ _ _ hP hD hS (lv_sub hl [1, 2, 0] rfl)
  · skip
    exact hret _ _ _ _ (0, se, sm) dX7_gather_20 (by unfold allS; rw [if_pos hf0]; exact ⟨rfl, SL_nil⟩) hP hD hS

theorem iX7_weigh_7 : ∀ w ∈ wsX70, w ∈ wsX7_weigh := by decide +kernel
theorem iX7_weigh_8 : ∀ w ∈ wsX80, w ∈ wsX7_weigh := by decide +kernel
theorem mX7_weigh_9 : Cond.fieldLink RX7 9 "LineFinder$Suspicion" "sets" "[I" ∈ wsX7_weigh := List.mem_of_getElem? (i := 2) rfl
theorem mX7_weigh_15 : Cond.fieldLink RX7 15 "LineFinder$Suspicion" "setMetBy" "[I" ∈ wsX7_weigh := List.mem_of_getElem? (i := 6) rfl
theorem mX7_weigh_18 : Cond.fieldLink RX7 18 "LineFinder$Suspicion" "priors" "[I" ∈ wsX7_weigh := List.mem_of_getElem? (i := 3) rfl
theorem mX7_weigh_25 : Cond.fieldLink RX7 25 "LineFinder$Suspicion" "lines" "I" ∈ wsX7_weigh := List.mem_of_getElem? (i := 1) rfl
theorem mX7_weigh_28 : Cond.fieldLink RX7 28 "LineFinder$Suspicion" "verdicts" "LLineFinder$Verdicts;" ∈ wsX7_weigh := List.mem_of_getElem? (i := 4) rfl
theorem mX7_weigh_66 : Cond.fieldLink RX7 66 "LineFinder$Verdicts" "passing" "I" ∈ wsX7_weigh := List.mem_of_getElem? (i := 5) rfl
abbrev rCX7_weigh : Room := { frames := 1, cells := 0, slots := 0, locals := 20 }
set_option maxHeartbeats 4000000 in
set_option maxRecDepth 100000 in
theorem CX7_weigh (jl : Launch) (G : va_G) (cI cZ cJ : ClassId) (ve m0 fa pa cu : Nat) (sp s1 s2 s3 sz ln : Nat) (se sm pr : Fn) (i x y : Nat) (hi : i < 2324) (hln : ln ≤ 24) (hxe : se i = nI x) (hye : sm i = nI y) (hx24 : x < 2 ^ 24) (hpa : pa < 4096) : Kl jl yX7_weigh wsX7_weigh rCX7_weigh G cI cZ cJ [.ref sp, .int (nI i)] [oB sp 7 [.ref ve, .ref s1, .ref s2, .ref s3, .int (nI sz), .int (nI ln)], aI cI s1 2324 se, aI cI s2 2324 sm, aI cI s3 24 pr, oB ve 8 [.ref m0, .int (nI fa), .int (nI pa), .int (nI cu)]] (S := Unit) (fun (r : Int64) (_ : Unit) => r = wOf pr ln pa x y) (fun (_ : Unit) => [oB sp 7 [.ref ve, .ref s1, .ref s2, .ref s3, .int (nI sz), .int (nI ln)], aI cI s1 2324 se, aI cI s2 2324 sm, aI cI s3 24 pr, oB ve 8 [.ref m0, .int (nI fa), .int (nI pa), .int (nI cu)]]) := by
  refine Kl.of (cc := cX7_weigh) (maxL := 6) (by decide +kernel) rfl (Nat.le_of_ble_eq_true rfl) ?_
  intro jp je js jm ja jb jt jc jA jQ ls cx hnm hP hD hS hl hret
  obtain ⟨hx, hb, hml, hown, hts, hK, hA⟩ := id cx
  have hl : lv_has ls 6 [(0, .ref sp), (1, .int (nI i))] := hl
  obtain ⟨H, hH⟩ : ∃ H, H = js.heap := ⟨_, rfl⟩
  obtain ⟨locs, hlocs⟩ : ∃ z : List Loc, z = [] := ⟨_, rfl⟩
  have hP : va_P G vwCl [oB sp 7 [.ref ve, .ref s1, .ref s2, .ref s3, .int (nI sz), .int (nI ln)], aI cI s1 2324 se, aI cI s2 2324 sm, aI cI s3 24 pr, oB ve 8 [.ref m0, .int (nI fa), .int (nI pa), .int (nI cu)]] H := by rw [hH]; exact hP
  have hS : va_S jA js.heap H locs := by rw [hH, hlocs]; exact hS
  rw [← hlocs]; rw [show W jp jl je rCX7_weigh js jm ja jb jt jc js.heap locs 0 0 jQ (F0 jm 0 ls []) = W jp jl je rCX7_weigh js jm ja jb jt jc H locs 0 0 jQ (F0 jm 0 ls []) by rw [hH]]
  clear hH hlocs
  refine lv_lconst (v := 1) hx hb dX7_weigh_0 (by decide) ?_
  refine lv_lstore_n (lv' := [(2, .long 1), (0, .ref sp), (1, .int (nI i))]) hx hb dX7_weigh_1 rfl hl (by decide) rfl (fun ls hl => ?_)
  refine lv_iconst (v := nI 0) hx hb dX7_weigh_2 (by decide) ?_
  refine lv_istore (lv' := [(4, .int (nI 0)), (2, .long 1), (0, .ref sp), (1, .int (nI i))]) hx hb dX7_weigh_3 hl (by decide) rfl (fun ls hl => ?_)
  have L5 : ∀ (fu : Nat), ∀ (w : Int64), ∀ (l : Nat), (24 < l + fu) → (l ≤ ln) → (l ≤ 12) → (w = wgt pr x l) → ∀ (H : Heap) (locs : List Loc) (ls : Array Slot), va_P G vwCl [oB sp 7 [.ref ve, .ref s1, .ref s2, .ref s3, .int (nI sz), .int (nI ln)], aI cI s1 2324 se, aI cI s2 2324 sm, aI cI s3 24 pr, oB ve 8 [.ref m0, .int (nI fa), .int (nI pa), .int (nI cu)]] H → va_D jA [oB sp 7 [.ref ve, .ref s1, .ref s2, .ref s3, .int (nI sz), .int (nI ln)], aI cI s1 2324 se, aI cI s2 2324 sm, aI cI s3 24 pr, oB ve 8 [.ref m0, .int (nI fa), .int (nI pa), .int (nI cu)]] → va_S jA js.heap H locs → lv_has ls 6 [(0, .ref sp), (1, .int (nI i)), (2, .long w), (4, .int (nI l))] → W jp jl je rCX7_weigh js jm ja jb jt jc H locs 0 0 jQ (F0 jm 5 ls []) := by
    intro fu
    induction fu with
    | zero =>
      intro w l hfu hl1 hl2 hw H locs ls hP hD hS hl
      exact absurd hfu (by omega)
    | succ fu ih5 =>
      intro w l hfu hl1 hl2 hw H locs ls hP hD hS hl
      refine lv_iload hx hb dX7_weigh_5 (lv_at hl 3 rfl) ?_
      refine lv_aload_n hx hb dX7_weigh_7 rfl (lv_at hl 0 rfl) ?_
      refine va_get (C := RX7) (T := TX7) (N := 6) (ci := 7) hx hb hts iX7_weigh_7 hown hK.1 hP 0 rfl rfl 5 (Nat.le_of_ble_eq_true rfl) (hts _ mX7_weigh_25) (fun _ h9 => h9) rfl dX7_weigh_8 ?_
      refine k_cmp_ge (tgt := 78) hx hb dX7_weigh_11 (by decide) (by omega) (by omega) (fun c_1 => ?_) (fun c_1 => ?_)
      · skip
        have hle : l = min ln 12 := by omega
        refine lv_lload_n hx hb dX7_weigh_78 rfl (lv_at hl 2 rfl) ?_
        refine lv_aload_n hx hb dX7_weigh_79 rfl (lv_at hl 0 rfl) ?_
        refine va_get (C := RX7) (T := TX7) (N := 6) (ci := 7) hx hb hts iX7_weigh_7 hown hK.1 hP 0 rfl rfl 0 (Nat.le_of_ble_eq_true rfl) (hts _ mX7_weigh_28) (fun _ h9 => h9) rfl dX7_weigh_80 ?_
        refine va_get (C := RX8) (T := TX8) (N := 4) (ci := 8) hx hb hts iX7_weigh_8 hown hK.1 hP 4 rfl rfl 2 (Nat.le_of_ble_eq_true rfl) (hts _ mX7_weigh_66) (fun _ h9 => h9) rfl dX7_weigh_83 ?_
        refine lv_aload_n hx hb dX7_weigh_86 rfl (lv_at hl 0 rfl) ?_
        refine va_get (C := RX7) (T := TX7) (N := 6) (ci := 7) hx hb hts iX7_weigh_7 hown hK.1 hP 0 rfl rfl 2 (Nat.le_of_ble_eq_true rfl) (hts _ mX7_weigh_15) (fun _ h9 => h9) rfl dX7_weigh_87 ?_
        refine lv_iload_n hx hb dX7_weigh_90 rfl (lv_at hl 1 rfl) ?_
        refine k_iald hx hb hK.1 hP 2 0 rfl rfl (by omega) (by decide) dX7_weigh_91 ?_
        refine k_topN hye ?_
        refine lv_iconst (v := (-1)) hx hb dX7_weigh_92 (by decide) ?_
        rw [nb_m1]
        refine k_ixor hx hb dX7_weigh_93 ?_
        refine k_iand hx hb dX7_weigh_94 ?_
        refine Ki.callS (wr := [oB sp 7 [.ref ve, .ref s1, .ref s2, .ref s3, .int (nI sz), .int (nI ln)], aI cI s1 2324 se, aI cI s2 2324 sm, aI cI s3 24 pr, oB ve 8 [.ref m0, .int (nI fa), .int (nI pa), .int (nI cu)]]) (rest := [.long w]) (CJ6_bitCount_0f7a4 jl G cI cZ cJ (pa &&& (y ^^^ 4294967295)) (Nat.lt_of_le_of_lt Nat.and_le_left hpa)) cx hP hD hS hl [] [0, 1, 2, 3, 4] gX7_weigh_J6_bitCount_0f7a4 hdJ6_bitCount_0f7a4 rfl ⟨Nat.le_of_ble_eq_true rfl, Nat.le_of_ble_eq_true rfl⟩ rfl rfl (by decide) (by decide) (by decide) dX7_weigh_95 rfl rfl (Nat.le_of_ble_eq_true rfl) ⟨Nat.le_of_ble_eq_true rfl, Nat.le_of_ble_eq_true rfl⟩ (fun r_2 u H locs hw_3 hP hD hS => ?_)
        have hP : va_P G vwCl [oB sp 7 [.ref ve, .ref s1, .ref s2, .ref s3, .int (nI sz), .int (nI ln)], aI cI s1 2324 se, aI cI s2 2324 sm, aI cI s3 24 pr, oB ve 8 [.ref m0, .int (nI fa), .int (nI pa), .int (nI cu)]] H := hP
        have hD : va_D jA [oB sp 7 [.ref ve, .ref s1, .ref s2, .ref s3, .int (nI sz), .int (nI ln)], aI cI s1 2324 se, aI cI s2 2324 sm, aI cI s3 24 pr, oB ve 8 [.ref m0, .int (nI fa), .int (nI pa), .int (nI cu)]] := hD
        subst hw_3
        refine lv_lshl hx hb dX7_weigh_98 rfl ?_
        exact hret _ _ _ _ _ () dX7_weigh_99 (by unfold wOf; rw [hw, hle]) hP hD hS
      · skip
        refine lv_iload hx hb dX7_weigh_14 (lv_at hl 3 rfl) ?_
        refine lv_bipush (v := nI 12) hx hb dX7_weigh_16 (by decide) ?_
        refine k_cmp_ge (tgt := 78) hx hb dX7_weigh_18 (by decide) (by omega) (by omega) (fun c_4 => ?_) (fun c_4 => ?_)
        · skip
          have hle : l = min ln 12 := by omega
          refine lv_lload_n hx hb dX7_weigh_78 rfl (lv_at hl 2 rfl) ?_
          refine lv_aload_n hx hb dX7_weigh_79 rfl (lv_at hl 0 rfl) ?_
          refine va_get (C := RX7) (T := TX7) (N := 6) (ci := 7) hx hb hts iX7_weigh_7 hown hK.1 hP 0 rfl rfl 0 (Nat.le_of_ble_eq_true rfl) (hts _ mX7_weigh_28) (fun _ h9 => h9) rfl dX7_weigh_80 ?_
          refine va_get (C := RX8) (T := TX8) (N := 4) (ci := 8) hx hb hts iX7_weigh_8 hown hK.1 hP 4 rfl rfl 2 (Nat.le_of_ble_eq_true rfl) (hts _ mX7_weigh_66) (fun _ h9 => h9) rfl dX7_weigh_83 ?_
          refine lv_aload_n hx hb dX7_weigh_86 rfl (lv_at hl 0 rfl) ?_
          refine va_get (C := RX7) (T := TX7) (N := 6) (ci := 7) hx hb hts iX7_weigh_7 hown hK.1 hP 0 rfl rfl 2 (Nat.le_of_ble_eq_true rfl) (hts _ mX7_weigh_15) (fun _ h9 => h9) rfl dX7_weigh_87 ?_
          refine lv_iload_n hx hb dX7_weigh_90 rfl (lv_at hl 1 rfl) ?_
          refine k_iald hx hb hK.1 hP 2 0 rfl rfl (by omega) (by decide) dX7_weigh_91 ?_
          refine k_topN hye ?_
          refine lv_iconst (v := (-1)) hx hb dX7_weigh_92 (by decide) ?_
          rw [nb_m1]
          refine k_ixor hx hb dX7_weigh_93 ?_
          refine k_iand hx hb dX7_weigh_94 ?_
          refine Ki.callS (wr := [oB sp 7 [.ref ve, .ref s1, .ref s2, .ref s3, .int (nI sz), .int (nI ln)], aI cI s1 2324 se, aI cI s2 2324 sm, aI cI s3 24 pr, oB ve 8 [.ref m0, .int (nI fa), .int (nI pa), .int (nI cu)]]) (rest := [.long w]) (CJ6_bitCount_0f7a4 jl G cI cZ cJ (pa &&& (y ^^^ 4294967295)) (Nat.lt_of_le_of_lt Nat.and_le_left hpa)) cx hP hD hS hl [] [0, 1, 2, 3, 4] gX7_weigh_J6_bitCount_0f7a4 hdJ6_bitCount_0f7a4 rfl ⟨Nat.le_of_ble_eq_true rfl, Nat.le_of_ble_eq_true rfl⟩ rfl rfl (by decide) (by decide) (by decide) dX7_weigh_95 rfl rfl (Nat.le_of_ble_eq_true rfl) ⟨Nat.le_of_ble_eq_true rfl, Nat.le_of_ble_eq_true rfl⟩ (fun r_5 u H locs hw_6 hP hD hS => ?_)
          have hP : va_P G vwCl [oB sp 7 [.ref ve, .ref s1, .ref s2, .ref s3, .int (nI sz), .int (nI ln)], aI cI s1 2324 se, aI cI s2 2324 sm, aI cI s3 24 pr, oB ve 8 [.ref m0, .int (nI fa), .int (nI pa), .int (nI cu)]] H := hP
          have hD : va_D jA [oB sp 7 [.ref ve, .ref s1, .ref s2, .ref s3, .int (nI sz), .int (nI ln)], aI cI s1 2324 se, aI cI s2 2324 sm, aI cI s3 24 pr, oB ve 8 [.ref m0, .int (nI fa), .int (nI pa), .int (nI cu)]] := hD
          subst hw_6
          refine lv_lshl hx hb dX7_weigh_98 rfl ?_
          exact hret _ _ _ _ _ () dX7_weigh_99 (by unfold wOf; rw [hw, hle]) hP hD hS
        · skip
          refine lv_aload_n hx hb dX7_weigh_21 rfl (lv_at hl 0 rfl) ?_
          refine va_get (C := RX7) (T := TX7) (N := 6) (ci := 7) hx hb hts iX7_weigh_7 hown hK.1 hP 0 rfl rfl 1 (Nat.le_of_ble_eq_true rfl) (hts _ mX7_weigh_9) (fun _ h9 => h9) rfl dX7_weigh_22 ?_
          refine lv_iload_n hx hb dX7_weigh_25 rfl (lv_at hl 1 rfl) ?_
          refine k_iald hx hb hK.1 hP 1 0 rfl rfl (by omega) (by decide) dX7_weigh_26 ?_
          refine k_topN hxe ?_
          refine lv_iload hx hb dX7_weigh_27 (lv_at hl 3 rfl) ?_
          refine k_ishr hx hb dX7_weigh_29 (by omega) (by omega) ?_
          refine lv_iconst (v := nI 1) hx hb dX7_weigh_30 (by decide) ?_
          refine k_iand hx hb dX7_weigh_31 ?_
          refine k_if_eq (tgt := 39) hx hb dX7_weigh_32 (by decide) (by exact Nat.lt_of_le_of_lt Nat.and_le_right (by decide)) (fun hbt => ?_) (fun hbt => ?_)
          · skip
            refine lv_iconst (v := nI 0) hx hb dX7_weigh_39 (by decide) ?_
            refine lv_istore (lv' := [(5, .int (nI 0)), (0, .ref sp), (1, .int (nI i)), (2, .long w), (4, .int (nI l))]) hx hb dX7_weigh_40 hl (by decide) rfl (fun ls hl => ?_)
            refine lv_lload_n hx hb dX7_weigh_42 rfl (lv_at hl 3 rfl) ?_
            refine lv_iload hx hb dX7_weigh_43 (lv_at hl 0 rfl) ?_
            refine k_if_eq_t (tgt := 59) hx hb dX7_weigh_45 (by decide) (by decide) ?_
            refine lv_bipush (v := nI 10) hx hb dX7_weigh_59 (by decide) ?_
            refine lv_aload_n hx hb dX7_weigh_61 rfl (lv_at hl 1 rfl) ?_
            refine va_get (C := RX7) (T := TX7) (N := 6) (ci := 7) hx hb hts iX7_weigh_7 hown hK.1 hP 0 rfl rfl 3 (Nat.le_of_ble_eq_true rfl) (hts _ mX7_weigh_18) (fun _ h9 => h9) rfl dX7_weigh_62 ?_
            refine lv_iload hx hb dX7_weigh_65 (lv_at hl 4 rfl) ?_
            refine k_iald hx hb hK.1 hP 3 0 rfl rfl (by omega) (by decide) dX7_weigh_67 ?_
            refine lv_isub hx hb dX7_weigh_68 ?_
            refine lv_i2l hx hb dX7_weigh_69 rfl ?_
            refine lv_lmul hx hb dX7_weigh_70 ?_
            refine lv_lstore_n (lv' := [(2, .long (w * (((nI 10) - (pr l)).toInt64))), (5, .int (nI 0)), (0, .ref sp), (1, .int (nI i)), (4, .int (nI l))]) hx hb dX7_weigh_71 rfl hl (by decide) rfl (fun ls hl => ?_)
            refine lv_iinc (v := nI (l + 1)) (lv' := [(4, .int (nI (l + 1))), (2, .long (w * (((nI 10) - (pr l)).toInt64))), (5, .int (nI 0)), (0, .ref sp), (1, .int (nI i))]) hx hb dX7_weigh_72 hl (k := 4) rfl (nI_add l 1) (by decide) rfl (fun ls hl => ?_)
            refine lv_goto (tgt := 5) hx hb dX7_weigh_75 (by decide) ?_
            exact ih5 (w * (((nI 10) - (pr l)).toInt64)) (l + 1) (by omega) (by omega) (by omega) (by rw [wgt, if_neg (by rw [tb_zero hbt]; decide), ← hw]) _ _ _ hP hD hS (lv_sub hl [3, 4, 1, 0] rfl)
          · skip
            refine lv_iconst (v := nI 1) hx hb dX7_weigh_35 (by decide) ?_
            refine lv_goto (tgt := 40) hx hb dX7_weigh_36 (by decide) ?_
            refine lv_istore (lv' := [(5, .int (nI 1)), (0, .ref sp), (1, .int (nI i)), (2, .long w), (4, .int (nI l))]) hx hb dX7_weigh_40 hl (by decide) rfl (fun ls hl => ?_)
            refine lv_lload_n hx hb dX7_weigh_42 rfl (lv_at hl 3 rfl) ?_
            refine lv_iload hx hb dX7_weigh_43 (lv_at hl 0 rfl) ?_
            refine k_if_eq_f (tgt := 59) hx hb dX7_weigh_45 (by decide) (by decide) ?_
            refine lv_aload_n hx hb dX7_weigh_48 rfl (lv_at hl 1 rfl) ?_
            refine va_get (C := RX7) (T := TX7) (N := 6) (ci := 7) hx hb hts iX7_weigh_7 hown hK.1 hP 0 rfl rfl 3 (Nat.le_of_ble_eq_true rfl) (hts _ mX7_weigh_18) (fun _ h9 => h9) rfl dX7_weigh_49 ?_
            refine lv_iload hx hb dX7_weigh_52 (lv_at hl 4 rfl) ?_
            refine k_iald hx hb hK.1 hP 3 0 rfl rfl (by omega) (by decide) dX7_weigh_54 ?_
            refine lv_i2l hx hb dX7_weigh_55 rfl ?_
            refine lv_goto (tgt := 70) hx hb dX7_weigh_56 (by decide) ?_
            refine lv_lmul hx hb dX7_weigh_70 ?_
            refine lv_lstore_n (lv' := [(2, .long (w * ((pr l).toInt64))), (5, .int (nI 1)), (0, .ref sp), (1, .int (nI i)), (4, .int (nI l))]) hx hb dX7_weigh_71 rfl hl (by decide) rfl (fun ls hl => ?_)
            refine lv_iinc (v := nI (l + 1)) (lv' := [(4, .int (nI (l + 1))), (2, .long (w * ((pr l).toInt64))), (5, .int (nI 1)), (0, .ref sp), (1, .int (nI i))]) hx hb dX7_weigh_72 hl (k := 4) rfl (nI_add l 1) (by decide) rfl (fun ls hl => ?_)
            refine lv_goto (tgt := 5) hx hb dX7_weigh_75 (by decide) ?_
            exact ih5 (w * ((pr l).toInt64)) (l + 1) (by omega) (by omega) (by omega) (by rw [wgt, if_pos (tb_pos hbt), ← hw]) _ _ _ hP hD hS (lv_sub hl [3, 4, 1, 0] rfl)
  exact L5 25 1 0 (by omega) (by omega) (by omega) (rfl) _ _ _ hP hD hS (lv_sub hl [2, 3, 1, 0] rfl)

theorem iX7_awayFromHalf_7 : ∀ w ∈ wsX70, w ∈ wsX7_awayFromHalf := by decide +kernel
theorem mX7_awayFromHalf_15 : Cond.fieldLink RX7 15 "LineFinder$Suspicion" "setMetBy" "[I" ∈ wsX7_awayFromHalf := List.mem_of_getElem? (i := 2) rfl
theorem mX7_awayFromHalf_21 : Cond.fieldLink RX7 21 "LineFinder$Suspicion" "size" "I" ∈ wsX7_awayFromHalf := List.mem_of_getElem? (i := 1) rfl
theorem wX7_awayFromHalf_abco : Cond.code Lib.MathLoose.abs_long.x Lib.MathLoose.abs_long.code 2 (some .long) ∈ wsX7_awayFromHalf := List.mem_of_getElem? (i := 7) rfl
theorem wX7_awayFromHalf_abin : Cond.initialized "java/lang/Math" ∈ wsX7_awayFromHalf := List.mem_of_getElem? (i := 6) rfl
theorem wX7_awayFromHalf_ablk : Cond.methodLink RX7 81 Lib.MathLoose.abs_long.x ∈ wsX7_awayFromHalf := List.mem_of_getElem? (i := 4) rfl
theorem wX7_awayFromHalf_abst : Cond.static Lib.MathLoose.abs_long.x ∈ wsX7_awayFromHalf := List.mem_of_getElem? (i := 5) rfl
theorem wX7_awayFromHalf_k79 : Cond.constantLong RX7 79 (2) ∈ wsX7_awayFromHalf := List.mem_of_getElem? (i := 3) rfl
theorem hdX7_weigh : yX7_weigh.cls = RX7 ∧ yX7_weigh.cls ≠ "java/lang/invoke/MethodHandle" ∧ yX7_weigh.cls ≠ "java/lang/invoke/VarHandle" ∧ (parseMethodDescriptor yX7_weigh.desc).map (fun d => d.parameters.length) = some 1 := by decide +kernel
abbrev rCX7_awayFromHalf : Room := { frames := 2, cells := 0, slots := 0, locals := 45 }
set_option maxHeartbeats 4000000 in
set_option maxRecDepth 100000 in
theorem CX7_awayFromHalf (jl : Launch) (G : va_G) (cI cZ cJ : ClassId) (ve m0 fa pa cu : Nat) (sp s1 s2 s3 sz ln : Nat) (se sm pr : Fn) (L : List (Nat × Nat)) (hsz : sz = L.length) (hsz2 : sz ≤ 2324) (hSL : SL se sm L) (hsm : smL L) (hln : ln ≤ 24) (hpa : pa < 4096) (t : Nat) (ht : t < 12) : Kl jl yX7_awayFromHalf wsX7_awayFromHalf rCX7_awayFromHalf G cI cZ cJ [.ref sp, .int (nI t)] [oB sp 7 [.ref ve, .ref s1, .ref s2, .ref s3, .int (nI sz), .int (nI ln)], aI cI s1 2324 se, aI cI s2 2324 sm, aI cI s3 24 pr, oB ve 8 [.ref m0, .int (nI fa), .int (nI pa), .int (nI cu)]] (S := Unit) (fun (r : Int64) (_ : Unit) => r = lAbs (2 * sL (fun i => if (L.getD i (0, 0)).2.testBit t = true then wI pr ln pa L i else 0) sz - sL (wI pr ln pa L) sz)) (fun (_ : Unit) => [oB sp 7 [.ref ve, .ref s1, .ref s2, .ref s3, .int (nI sz), .int (nI ln)], aI cI s1 2324 se, aI cI s2 2324 sm, aI cI s3 24 pr, oB ve 8 [.ref m0, .int (nI fa), .int (nI pa), .int (nI cu)]]) := by
  refine Kl.of (cc := cX7_awayFromHalf) (maxL := 9) (by decide +kernel) rfl (Nat.le_of_ble_eq_true rfl) ?_
  intro jp je js jm ja jb jt jc jA jQ ls cx hnm hP hD hS hl hret
  obtain ⟨hx, hb, hml, hown, hts, hK, hA⟩ := id cx
  have hl : lv_has ls 9 [(0, .ref sp), (1, .int (nI t))] := hl
  obtain ⟨H, hH⟩ : ∃ H, H = js.heap := ⟨_, rfl⟩
  obtain ⟨locs, hlocs⟩ : ∃ z : List Loc, z = [] := ⟨_, rfl⟩
  have hP : va_P G vwCl [oB sp 7 [.ref ve, .ref s1, .ref s2, .ref s3, .int (nI sz), .int (nI ln)], aI cI s1 2324 se, aI cI s2 2324 sm, aI cI s3 24 pr, oB ve 8 [.ref m0, .int (nI fa), .int (nI pa), .int (nI cu)]] H := by rw [hH]; exact hP
  have hS : va_S jA js.heap H locs := by rw [hH, hlocs]; exact hS
  rw [← hlocs]; rw [show W jp jl je rCX7_awayFromHalf js jm ja jb jt jc js.heap locs 0 0 jQ (F0 jm 0 ls []) = W jp jl je rCX7_awayFromHalf js jm ja jb jt jc H locs 0 0 jQ (F0 jm 0 ls []) by rw [hH]]
  clear hH hlocs
  refine lv_lconst (v := 0) hx hb dX7_awayFromHalf_0 (by decide) ?_
  refine lv_lstore_n (lv' := [(2, .long 0), (0, .ref sp), (1, .int (nI t))]) hx hb dX7_awayFromHalf_1 rfl hl (by decide) rfl (fun ls hl => ?_)
  refine lv_lconst (v := 0) hx hb dX7_awayFromHalf_2 (by decide) ?_
  refine lv_lstore (lv' := [(4, .long 0), (2, .long 0), (0, .ref sp), (1, .int (nI t))]) hx hb dX7_awayFromHalf_3 hl (by decide) rfl (fun ls hl => ?_)
  refine lv_iconst (v := nI 0) hx hb dX7_awayFromHalf_5 (by decide) ?_
  refine lv_istore (lv' := [(6, .int (nI 0)), (4, .long 0), (2, .long 0), (0, .ref sp), (1, .int (nI t))]) hx hb dX7_awayFromHalf_6 hl (by decide) rfl (fun ls hl => ?_)
  have L8 : ∀ (fu : Nat), ∀ (me : Int64), ∀ (al : Int64), ∀ (i : Nat), (sz < i + fu) → (i ≤ sz) → (me = sL (fun i => if (L.getD i (0, 0)).2.testBit t = true then wI pr ln pa L i else 0) i) → (al = sL (wI pr ln pa L) i) → ∀ (H : Heap) (locs : List Loc) (ls : Array Slot), va_P G vwCl [oB sp 7 [.ref ve, .ref s1, .ref s2, .ref s3, .int (nI sz), .int (nI ln)], aI cI s1 2324 se, aI cI s2 2324 sm, aI cI s3 24 pr, oB ve 8 [.ref m0, .int (nI fa), .int (nI pa), .int (nI cu)]] H → va_D jA [oB sp 7 [.ref ve, .ref s1, .ref s2, .ref s3, .int (nI sz), .int (nI ln)], aI cI s1 2324 se, aI cI s2 2324 sm, aI cI s3 24 pr, oB ve 8 [.ref m0, .int (nI fa), .int (nI pa), .int (nI cu)]] → va_S jA js.heap H locs → lv_has ls 9 [(0, .ref sp), (1, .int (nI t)), (2, .long me), (4, .long al), (6, .int (nI i))] → W jp jl je rCX7_awayFromHalf js jm ja jb jt jc H locs 0 0 jQ (F0 jm 8 ls []) := by
    intro fu
    induction fu with
    | zero =>
      intro me al i hfu hi hm ha H locs ls hP hD hS hl
      exact absurd hfu (by omega)
    | succ fu ih8 =>
      intro me al i hfu hi hm ha H locs ls hP hD hS hl
      refine lv_iload hx hb dX7_awayFromHalf_8 (lv_at hl 4 rfl) ?_
      refine lv_aload_n hx hb dX7_awayFromHalf_10 rfl (lv_at hl 0 rfl) ?_
      refine va_get (C := RX7) (T := TX7) (N := 6) (ci := 7) hx hb hts iX7_awayFromHalf_7 hown hK.1 hP 0 rfl rfl 4 (Nat.le_of_ble_eq_true rfl) (hts _ mX7_awayFromHalf_21) (fun _ h9 => h9) rfl dX7_awayFromHalf_11 ?_
      refine k_cmp_ge (tgt := 57) hx hb dX7_awayFromHalf_14 (by decide) (by omega) (by omega) (fun c_1 => ?_) (fun c_1 => ?_)
      · skip
        refine lv_ldc2 (own := RX7) (v := 2) hx hb hown (hts _ wX7_awayFromHalf_k79) dX7_awayFromHalf_57 ?_
        refine lv_lload_n hx hb dX7_awayFromHalf_60 rfl (lv_at hl 2 rfl) ?_
        refine lv_lmul hx hb dX7_awayFromHalf_61 ?_
        refine lv_lload hx hb dX7_awayFromHalf_62 (lv_at hl 3 rfl) ?_
        refine lv_lsub hx hb dX7_awayFromHalf_64 ?_
        refine va_mabs_long hx hb (hml.trans hl.1.symm) hown (hts _ wX7_awayFromHalf_ablk) (hts _ wX7_awayFromHalf_abst) (hts _ wX7_awayFromHalf_abin) (hts _ wX7_awayFromHalf_abco) (Nat.le_of_ble_eq_true rfl) (Nat.le_of_ble_eq_true rfl) (Nat.zero_le _) (Nat.zero_le _) dX7_awayFromHalf_65 ?_
        exact hret _ _ _ _ _ () dX7_awayFromHalf_68 (by rw [hm, ha, show i = sz by omega]; rfl) hP hD hS
      · skip
        refine lv_aload_n hx hb dX7_awayFromHalf_17 rfl (lv_at hl 0 rfl) ?_
        refine lv_iload hx hb dX7_awayFromHalf_18 (lv_at hl 4 rfl) ?_
        have hat := hSL.at (show i < L.length by omega)
        have hmm := hsm _ (getD_mem (show i < L.length by omega))
        refine Kl.callV (wr := []) (rest := []) (CX7_weigh jl G cI cZ cJ ve m0 fa pa cu sp s1 s2 s3 sz ln se sm pr i ((L.getD i (0, 0)).1) ((L.getD i (0, 0)).2) (by omega) hln hat.1 hat.2 hmm.1 hpa) cx hP hD hS hl [0, 1, 2, 3, 4] [] (ci := 7) (q0 := 0) gX7_awayFromHalf_X7_weigh hdX7_weigh rfl rfl rfl ⟨Nat.le_of_ble_eq_true rfl, Nat.le_of_ble_eq_true rfl⟩ rfl rfl (by decide) (by decide) (by decide) dX7_awayFromHalf_20 rfl rfl (Nat.le_of_ble_eq_true rfl) ⟨Nat.le_of_ble_eq_true rfl, Nat.le_of_ble_eq_true rfl⟩ (fun w9 u H locs hw9 hP hD hS => ?_)
        have hP : va_P G vwCl [oB sp 7 [.ref ve, .ref s1, .ref s2, .ref s3, .int (nI sz), .int (nI ln)], aI cI s1 2324 se, aI cI s2 2324 sm, aI cI s3 24 pr, oB ve 8 [.ref m0, .int (nI fa), .int (nI pa), .int (nI cu)]] H := hP
        have hD : va_D jA [oB sp 7 [.ref ve, .ref s1, .ref s2, .ref s3, .int (nI sz), .int (nI ln)], aI cI s1 2324 se, aI cI s2 2324 sm, aI cI s3 24 pr, oB ve 8 [.ref m0, .int (nI fa), .int (nI pa), .int (nI cu)]] := hD
        have hw9 : w9 = wI pr ln pa L i := hw9
        subst hw9
        refine lv_lstore (lv' := [(7, .long (wI pr ln pa L i)), (0, .ref sp), (1, .int (nI t)), (2, .long me), (4, .long al), (6, .int (nI i))]) hx hb dX7_awayFromHalf_23 hl (by decide) rfl (fun ls hl => ?_)
        refine lv_lload hx hb dX7_awayFromHalf_25 (lv_at hl 4 rfl) ?_
        refine lv_lload hx hb dX7_awayFromHalf_27 (lv_at hl 0 rfl) ?_
        refine lv_ladd hx hb dX7_awayFromHalf_29 ?_
        refine lv_lstore (lv' := [(4, .long (al + (wI pr ln pa L i))), (7, .long (wI pr ln pa L i)), (0, .ref sp), (1, .int (nI t)), (2, .long me), (6, .int (nI i))]) hx hb dX7_awayFromHalf_30 hl (by decide) rfl (fun ls hl => ?_)
        refine lv_aload_n hx hb dX7_awayFromHalf_32 rfl (lv_at hl 2 rfl) ?_
        refine va_get (C := RX7) (T := TX7) (N := 6) (ci := 7) hx hb hts iX7_awayFromHalf_7 hown hK.1 hP 0 rfl rfl 2 (Nat.le_of_ble_eq_true rfl) (hts _ mX7_awayFromHalf_15) (fun _ h9 => h9) rfl dX7_awayFromHalf_33 ?_
        refine lv_iload hx hb dX7_awayFromHalf_36 (lv_at hl 5 rfl) ?_
        refine k_iald hx hb hK.1 hP 2 0 rfl rfl (by omega) (by decide) dX7_awayFromHalf_38 ?_
        refine k_topN hat.2 ?_
        refine lv_iload_n hx hb dX7_awayFromHalf_39 rfl (lv_at hl 3 rfl) ?_
        refine k_ishr hx hb dX7_awayFromHalf_40 (by omega) (by have := hmm.2; omega) ?_
        refine lv_iconst (v := nI 1) hx hb dX7_awayFromHalf_41 (by decide) ?_
        refine k_iand hx hb dX7_awayFromHalf_42 ?_
        refine k_if_eq (tgt := 51) hx hb dX7_awayFromHalf_43 (by decide) (by exact Nat.lt_of_le_of_lt Nat.and_le_right (by decide)) (fun hbt => ?_) (fun hbt => ?_)
        · skip
          refine lv_iinc (v := nI (i + 1)) (lv' := [(6, .int (nI (i + 1))), (4, .long (al + (wI pr ln pa L i))), (7, .long (wI pr ln pa L i)), (0, .ref sp), (1, .int (nI t)), (2, .long me)]) hx hb dX7_awayFromHalf_51 hl (k := 5) rfl (nI_add i 1) (by decide) rfl (fun ls hl => ?_)
          refine lv_goto (tgt := 8) hx hb dX7_awayFromHalf_54 (by decide) ?_
          exact ih8 me (al + (wI pr ln pa L i)) (i + 1) (by omega) (by omega) (by rw [sL, if_neg (by rw [tb_zero hbt]; decide), Int64.add_zero, ← hm]) (by rw [sL, ← ha]) _ _ _ hP hD hS (lv_sub hl [3, 4, 5, 1, 0] rfl)
        · skip
          refine lv_lload_n hx hb dX7_awayFromHalf_46 rfl (lv_at hl 4 rfl) ?_
          refine lv_lload hx hb dX7_awayFromHalf_47 (lv_at hl 1 rfl) ?_
          refine lv_ladd hx hb dX7_awayFromHalf_49 ?_
          refine lv_lstore_n (lv' := [(2, .long (me + (wI pr ln pa L i))), (4, .long (al + (wI pr ln pa L i))), (7, .long (wI pr ln pa L i)), (0, .ref sp), (1, .int (nI t)), (6, .int (nI i))]) hx hb dX7_awayFromHalf_50 rfl hl (by decide) rfl (fun ls hl => ?_)
          refine lv_iinc (v := nI (i + 1)) (lv' := [(6, .int (nI (i + 1))), (2, .long (me + (wI pr ln pa L i))), (4, .long (al + (wI pr ln pa L i))), (7, .long (wI pr ln pa L i)), (0, .ref sp), (1, .int (nI t))]) hx hb dX7_awayFromHalf_51 hl (k := 5) rfl (nI_add i 1) (by decide) rfl (fun ls hl => ?_)
          refine lv_goto (tgt := 8) hx hb dX7_awayFromHalf_54 (by decide) ?_
          exact ih8 (me + (wI pr ln pa L i)) (al + (wI pr ln pa L i)) (i + 1) (by omega) (by omega) (by rw [sL, if_pos (tb_pos hbt), ← hm]) (by rw [sL, ← ha]) _ _ _ hP hD hS (lv_sub hl [4, 5, 1, 2, 0] rfl)
  exact L8 (sz + 1) 0 0 0 (by omega) (by omega) (rfl) (rfl) _ _ _ hP hD hS (lv_sub hl [3, 4, 2, 1, 0] rfl)

abbrev rCX9_writes : Room := { frames := 0, cells := 0, slots := 0, locals := 0 }
set_option maxHeartbeats 4000000 in
set_option maxRecDepth 100000 in
theorem CX9_writes (jl : Launch) (G : va_G) (cI cZ cJ : ClassId) (k : Nat) (hk : k < 8) : Ki jl yX9_writes wsX9_writes rCX9_writes G cI cZ cJ [.int (nI k)] [] (S := Unit) (fun (r : Int32) (_ : Unit) => r = bI (decide (k < 5))) (fun (_ : Unit) => []) := by
  refine Ki.ofZ (cc := cX9_writes) (maxL := 1) (by decide +kernel) rfl (Nat.le_of_ble_eq_true rfl) ?_
  intro jp je js jm ja jb jt jc jA jQ ls cx hnm hP hD hS hl hret
  obtain ⟨hx, hb, hml, hown, hts, hK, hA⟩ := id cx
  have hl : lv_has ls 1 [(0, .int (nI k))] := hl
  obtain ⟨H, hH⟩ : ∃ H, H = js.heap := ⟨_, rfl⟩
  obtain ⟨locs, hlocs⟩ : ∃ z : List Loc, z = [] := ⟨_, rfl⟩
  have hP : va_P G vwCl [] H := by rw [hH]; exact hP
  have hS : va_S jA js.heap H locs := by rw [hH, hlocs]; exact hS
  rw [← hlocs]; rw [show W jp jl je rCX9_writes js jm ja jb jt jc js.heap locs 0 0 jQ (F0 jm 0 ls []) = W jp jl je rCX9_writes js jm ja jb jt jc H locs 0 0 jQ (F0 jm 0 ls []) by rw [hH]]
  clear hH hlocs
  refine lv_iload_n hx hb dX9_writes_0 rfl (lv_at hl 0 rfl) ?_
  refine k_if_lt hx hb dX9_writes_1 (tgt := 13) (by decide) (by omega) ?_
  refine lv_iload_n hx hb dX9_writes_4 rfl (lv_at hl 0 rfl) ?_
  refine lv_iconst (v := nI 4) hx hb dX9_writes_5 (by decide) ?_
  refine k_cmp_gt (tgt := 13) hx hb dX9_writes_6 (by decide) (by omega) (by omega) (fun h1 => ?_) (fun h1 => ?_)
  · skip
    refine lv_iconst (v := nI 0) hx hb dX9_writes_13 (by decide) ?_
    exact hret _ _ _ _ _ () dX9_writes_14 (by decide) ((bI_n _ (by omega)).symm) hP hD hS
  · skip
    refine lv_iconst (v := nI 1) hx hb dX9_writes_9 (by decide) ?_
    refine lv_goto (tgt := 14) hx hb dX9_writes_10 (by decide) ?_
    exact hret _ _ _ _ _ () dX9_writes_14 (by decide) ((bI_d _ (by omega)).symm) hP hD hS

theorem iX5_behindReads_0 : ∀ w ∈ wsX00, w ∈ wsX5_behindReads := by decide +kernel
theorem iX5_behindReads_5 : ∀ w ∈ wsX50, w ∈ wsX5_behindReads := by decide +kernel
theorem mX5_behindReads_9 : Cond.fieldLink RX5 9 "LineFinder$Slicer" "behindVariables" "[I" ∈ wsX5_behindReads := List.mem_of_getElem? (i := 2) rfl
theorem mX5_behindReads_24 : Cond.fieldLink RX5 24 "LineFinder$Code" "ops" "[I" ∈ wsX5_behindReads := List.mem_of_getElem? (i := 1) rfl
theorem mX5_behindReads_37 : Cond.fieldLink RX5 37 "LineFinder$Code" "xs" "[I" ∈ wsX5_behindReads := List.mem_of_getElem? (i := 5) rfl
theorem mX5_behindReads_40 : Cond.fieldLink RX5 40 "LineFinder$Code" "ys" "[I" ∈ wsX5_behindReads := List.mem_of_getElem? (i := 3) rfl
theorem mX5_behindReads_43 : Cond.fieldLink RX5 43 "LineFinder$Code" "zs" "[I" ∈ wsX5_behindReads := List.mem_of_getElem? (i := 4) rfl
abbrev rCX5_behindReads : Room := { frames := 0, cells := 0, slots := 0, locals := 0 }
set_option maxHeartbeats 4000000 in
set_option maxRecDepth 100000 in
theorem CX5_behindReads (jl : Launch) (G : va_G) (cI cZ cJ : ClassId) (sx x0 : Nat) (bv : Fn) (cd d0 d1 d2 d3 n : Nat) (ops xs ys zs : Fn) (V : Nat → Nat) (hV : ∀ v, v < 8 → bv v = nI (V v)) (l : Nat) (hl24 : l < 24) (hok : rowOk (ops l) (xs l) (ys l) (zs l)) : Ki jl yX5_behindReads wsX5_behindReads rCX5_behindReads G cI cZ cJ [.ref sx, .ref cd, .int (nI l)] [oB sx 5 [.ref x0], aI cI x0 8 bv, oB cd 0 [.ref d0, .ref d1, .ref d2, .ref d3, .int (nI n)], aI cI d0 24 ops, aI cI d1 24 xs, aI cI d2 24 ys, aI cI d3 24 zs] (S := Unit) (fun (r : Int32) (_ : Unit) => r = nI (s_reads ops xs ys zs V l)) (fun (_ : Unit) => [oB sx 5 [.ref x0], aI cI x0 8 bv, oB cd 0 [.ref d0, .ref d1, .ref d2, .ref d3, .int (nI n)], aI cI d0 24 ops, aI cI d1 24 xs, aI cI d2 24 ys, aI cI d3 24 zs]) := by
  refine Ki.of (cc := cX5_behindReads) (maxL := 3) (by decide +kernel) rfl (Nat.le_of_ble_eq_true rfl) ?_
  intro jp je js jm ja jb jt jc jA jQ ls cx hnm hP hD hS hl hret
  obtain ⟨hx, hb, hml, hown, hts, hK, hA⟩ := id cx
  have hl : lv_has ls 3 [(0, .ref sx), (1, .ref cd), (2, .int (nI l))] := hl
  obtain ⟨H, hH⟩ : ∃ H, H = js.heap := ⟨_, rfl⟩
  obtain ⟨locs, hlocs⟩ : ∃ z : List Loc, z = [] := ⟨_, rfl⟩
  have hP : va_P G vwCl [oB sx 5 [.ref x0], aI cI x0 8 bv, oB cd 0 [.ref d0, .ref d1, .ref d2, .ref d3, .int (nI n)], aI cI d0 24 ops, aI cI d1 24 xs, aI cI d2 24 ys, aI cI d3 24 zs] H := by rw [hH]; exact hP
  have hS : va_S jA js.heap H locs := by rw [hH, hlocs]; exact hS
  rw [← hlocs]; rw [show W jp jl je rCX5_behindReads js jm ja jb jt jc js.heap locs 0 0 jQ (F0 jm 0 ls []) = W jp jl je rCX5_behindReads js jm ja jb jt jc H locs 0 0 jQ (F0 jm 0 ls []) by rw [hH]]
  clear hH hlocs
  obtain ⟨k, hk8, hop, hx8, h123, h4, h5, h6⟩ := hok
  refine lv_aload_n hx hb dX5_behindReads_0 rfl (lv_at hl 1 rfl) ?_
  refine va_get (C := RX0) (T := TX0) (N := 5) (ci := 0) hx hb hts iX5_behindReads_0 hown hK.1 hP 2 rfl rfl 0 (Nat.le_of_ble_eq_true rfl) (hts _ mX5_behindReads_24) (fun _ h9 => h9) rfl dX5_behindReads_1 ?_
  refine lv_iload_n hx hb dX5_behindReads_4 rfl (lv_at hl 2 rfl) ?_
  refine k_iald hx hb hK.1 hP 3 0 rfl rfl (by omega) (by decide) dX5_behindReads_5 ?_
  refine k_topN hop ?_
  rcases (show k = 0 ∨ k = 1 ∨ k = 2 ∨ k = 3 ∨ k = 4 ∨ k = 5 ∨ k = 6 ∨ k = 7 by omega) with rfl | rfl | rfl | rfl | rfl | rfl | rfl | rfl
  · skip
    refine lv_tableOut (tgt := 108) hx hb dX5_behindReads_6 (Or.inl (by decide)) (by decide) ?_
    refine lv_iconst (v := nI 0) hx hb dX5_behindReads_108 (by decide) ?_
    exact hret _ _ _ _ _ () dX5_behindReads_109 (by rw [s_reads_k hop (by decide)]; rfl) hP hD hS
  · skip
    refine lv_tableIn (tgt := 48) (off := 42) hx hb dX5_behindReads_6 (by decide) (by decide) (by decide) (by decide) ?_
    obtain ⟨hy8, hz8⟩ := h123 (by omega)
    refine lv_aload_n hx hb dX5_behindReads_48 rfl (lv_at hl 0 rfl) ?_
    refine va_get (C := RX5) (T := TX5) (N := 1) (ci := 5) hx hb hts iX5_behindReads_5 hown hK.1 hP 0 rfl rfl 0 (Nat.le_of_ble_eq_true rfl) (hts _ mX5_behindReads_9) (fun _ h9 => h9) rfl dX5_behindReads_49 ?_
    refine lv_aload_n hx hb dX5_behindReads_52 rfl (lv_at hl 1 rfl) ?_
    refine va_get (C := RX0) (T := TX0) (N := 5) (ci := 0) hx hb hts iX5_behindReads_0 hown hK.1 hP 2 rfl rfl 2 (Nat.le_of_ble_eq_true rfl) (hts _ mX5_behindReads_40) (fun _ h9 => h9) rfl dX5_behindReads_53 ?_
    refine lv_iload_n hx hb dX5_behindReads_56 rfl (lv_at hl 2 rfl) ?_
    refine k_iald hx hb hK.1 hP 5 0 rfl rfl (by omega) (by decide) dX5_behindReads_57 ?_
    refine k_topN (hy8.eq (by decide)) ?_
    refine k_iald hx hb hK.1 hP 1 0 rfl rfl (hy8.lt (by decide)) (by decide) dX5_behindReads_58 ?_
    refine k_topN (hV _ (hy8.lt (by decide))) ?_
    refine lv_aload_n hx hb dX5_behindReads_59 rfl (lv_at hl 0 rfl) ?_
    refine va_get (C := RX5) (T := TX5) (N := 1) (ci := 5) hx hb hts iX5_behindReads_5 hown hK.1 hP 0 rfl rfl 0 (Nat.le_of_ble_eq_true rfl) (hts _ mX5_behindReads_9) (fun _ h9 => h9) rfl dX5_behindReads_60 ?_
    refine lv_aload_n hx hb dX5_behindReads_63 rfl (lv_at hl 1 rfl) ?_
    refine va_get (C := RX0) (T := TX0) (N := 5) (ci := 0) hx hb hts iX5_behindReads_0 hown hK.1 hP 2 rfl rfl 3 (Nat.le_of_ble_eq_true rfl) (hts _ mX5_behindReads_43) (fun _ h9 => h9) rfl dX5_behindReads_64 ?_
    refine lv_iload_n hx hb dX5_behindReads_67 rfl (lv_at hl 2 rfl) ?_
    refine k_iald hx hb hK.1 hP 6 0 rfl rfl (by omega) (by decide) dX5_behindReads_68 ?_
    refine k_topN (hz8.eq (by decide)) ?_
    refine k_iald hx hb hK.1 hP 1 0 rfl rfl (hz8.lt (by decide)) (by decide) dX5_behindReads_69 ?_
    refine k_topN (hV _ (hz8.lt (by decide))) ?_
    refine k_ior hx hb dX5_behindReads_70 ?_
    exact hret _ _ _ _ _ () dX5_behindReads_71 (by rw [s_reads_k hop (by decide)]; rfl) hP hD hS
  · skip
    refine lv_tableIn (tgt := 48) (off := 42) hx hb dX5_behindReads_6 (by decide) (by decide) (by decide) (by decide) ?_
    obtain ⟨hy8, hz8⟩ := h123 (by omega)
    refine lv_aload_n hx hb dX5_behindReads_48 rfl (lv_at hl 0 rfl) ?_
    refine va_get (C := RX5) (T := TX5) (N := 1) (ci := 5) hx hb hts iX5_behindReads_5 hown hK.1 hP 0 rfl rfl 0 (Nat.le_of_ble_eq_true rfl) (hts _ mX5_behindReads_9) (fun _ h9 => h9) rfl dX5_behindReads_49 ?_
    refine lv_aload_n hx hb dX5_behindReads_52 rfl (lv_at hl 1 rfl) ?_
    refine va_get (C := RX0) (T := TX0) (N := 5) (ci := 0) hx hb hts iX5_behindReads_0 hown hK.1 hP 2 rfl rfl 2 (Nat.le_of_ble_eq_true rfl) (hts _ mX5_behindReads_40) (fun _ h9 => h9) rfl dX5_behindReads_53 ?_
    refine lv_iload_n hx hb dX5_behindReads_56 rfl (lv_at hl 2 rfl) ?_
    refine k_iald hx hb hK.1 hP 5 0 rfl rfl (by omega) (by decide) dX5_behindReads_57 ?_
    refine k_topN (hy8.eq (by decide)) ?_
    refine k_iald hx hb hK.1 hP 1 0 rfl rfl (hy8.lt (by decide)) (by decide) dX5_behindReads_58 ?_
    refine k_topN (hV _ (hy8.lt (by decide))) ?_
    refine lv_aload_n hx hb dX5_behindReads_59 rfl (lv_at hl 0 rfl) ?_
    refine va_get (C := RX5) (T := TX5) (N := 1) (ci := 5) hx hb hts iX5_behindReads_5 hown hK.1 hP 0 rfl rfl 0 (Nat.le_of_ble_eq_true rfl) (hts _ mX5_behindReads_9) (fun _ h9 => h9) rfl dX5_behindReads_60 ?_
    refine lv_aload_n hx hb dX5_behindReads_63 rfl (lv_at hl 1 rfl) ?_
    refine va_get (C := RX0) (T := TX0) (N := 5) (ci := 0) hx hb hts iX5_behindReads_0 hown hK.1 hP 2 rfl rfl 3 (Nat.le_of_ble_eq_true rfl) (hts _ mX5_behindReads_43) (fun _ h9 => h9) rfl dX5_behindReads_64 ?_
    refine lv_iload_n hx hb dX5_behindReads_67 rfl (lv_at hl 2 rfl) ?_
    refine k_iald hx hb hK.1 hP 6 0 rfl rfl (by omega) (by decide) dX5_behindReads_68 ?_
    refine k_topN (hz8.eq (by decide)) ?_
    refine k_iald hx hb hK.1 hP 1 0 rfl rfl (hz8.lt (by decide)) (by decide) dX5_behindReads_69 ?_
    refine k_topN (hV _ (hz8.lt (by decide))) ?_
    refine k_ior hx hb dX5_behindReads_70 ?_
    exact hret _ _ _ _ _ () dX5_behindReads_71 (by rw [s_reads_k hop (by decide)]; rfl) hP hD hS
  · skip
    refine lv_tableIn (tgt := 48) (off := 42) hx hb dX5_behindReads_6 (by decide) (by decide) (by decide) (by decide) ?_
    obtain ⟨hy8, hz8⟩ := h123 (by omega)
    refine lv_aload_n hx hb dX5_behindReads_48 rfl (lv_at hl 0 rfl) ?_
    refine va_get (C := RX5) (T := TX5) (N := 1) (ci := 5) hx hb hts iX5_behindReads_5 hown hK.1 hP 0 rfl rfl 0 (Nat.le_of_ble_eq_true rfl) (hts _ mX5_behindReads_9) (fun _ h9 => h9) rfl dX5_behindReads_49 ?_
    refine lv_aload_n hx hb dX5_behindReads_52 rfl (lv_at hl 1 rfl) ?_
    refine va_get (C := RX0) (T := TX0) (N := 5) (ci := 0) hx hb hts iX5_behindReads_0 hown hK.1 hP 2 rfl rfl 2 (Nat.le_of_ble_eq_true rfl) (hts _ mX5_behindReads_40) (fun _ h9 => h9) rfl dX5_behindReads_53 ?_
    refine lv_iload_n hx hb dX5_behindReads_56 rfl (lv_at hl 2 rfl) ?_
    refine k_iald hx hb hK.1 hP 5 0 rfl rfl (by omega) (by decide) dX5_behindReads_57 ?_
    refine k_topN (hy8.eq (by decide)) ?_
    refine k_iald hx hb hK.1 hP 1 0 rfl rfl (hy8.lt (by decide)) (by decide) dX5_behindReads_58 ?_
    refine k_topN (hV _ (hy8.lt (by decide))) ?_
    refine lv_aload_n hx hb dX5_behindReads_59 rfl (lv_at hl 0 rfl) ?_
    refine va_get (C := RX5) (T := TX5) (N := 1) (ci := 5) hx hb hts iX5_behindReads_5 hown hK.1 hP 0 rfl rfl 0 (Nat.le_of_ble_eq_true rfl) (hts _ mX5_behindReads_9) (fun _ h9 => h9) rfl dX5_behindReads_60 ?_
    refine lv_aload_n hx hb dX5_behindReads_63 rfl (lv_at hl 1 rfl) ?_
    refine va_get (C := RX0) (T := TX0) (N := 5) (ci := 0) hx hb hts iX5_behindReads_0 hown hK.1 hP 2 rfl rfl 3 (Nat.le_of_ble_eq_true rfl) (hts _ mX5_behindReads_43) (fun _ h9 => h9) rfl dX5_behindReads_64 ?_
    refine lv_iload_n hx hb dX5_behindReads_67 rfl (lv_at hl 2 rfl) ?_
    refine k_iald hx hb hK.1 hP 6 0 rfl rfl (by omega) (by decide) dX5_behindReads_68 ?_
    refine k_topN (hz8.eq (by decide)) ?_
    refine k_iald hx hb hK.1 hP 1 0 rfl rfl (hz8.lt (by decide)) (by decide) dX5_behindReads_69 ?_
    refine k_topN (hV _ (hz8.lt (by decide))) ?_
    refine k_ior hx hb dX5_behindReads_70 ?_
    exact hret _ _ _ _ _ () dX5_behindReads_71 (by rw [s_reads_k hop (by decide)]; rfl) hP hD hS
  · skip
    refine lv_tableIn (tgt := 108) (off := 102) hx hb dX5_behindReads_6 (by decide) (by decide) (by decide) (by decide) ?_
    refine lv_iconst (v := nI 0) hx hb dX5_behindReads_108 (by decide) ?_
    exact hret _ _ _ _ _ () dX5_behindReads_109 (by rw [s_reads_k hop (by decide)]; rfl) hP hD hS
  · skip
    refine lv_tableIn (tgt := 72) (off := 66) hx hb dX5_behindReads_6 (by decide) (by decide) (by decide) (by decide) ?_
    obtain ⟨hy8, hz25⟩ := h5 rfl
    have hx8 := hx8 (by decide)
    refine lv_aload_n hx hb dX5_behindReads_72 rfl (lv_at hl 0 rfl) ?_
    refine va_get (C := RX5) (T := TX5) (N := 1) (ci := 5) hx hb hts iX5_behindReads_5 hown hK.1 hP 0 rfl rfl 0 (Nat.le_of_ble_eq_true rfl) (hts _ mX5_behindReads_9) (fun _ h9 => h9) rfl dX5_behindReads_73 ?_
    refine lv_aload_n hx hb dX5_behindReads_76 rfl (lv_at hl 1 rfl) ?_
    refine va_get (C := RX0) (T := TX0) (N := 5) (ci := 0) hx hb hts iX5_behindReads_0 hown hK.1 hP 2 rfl rfl 1 (Nat.le_of_ble_eq_true rfl) (hts _ mX5_behindReads_37) (fun _ h9 => h9) rfl dX5_behindReads_77 ?_
    refine lv_iload_n hx hb dX5_behindReads_80 rfl (lv_at hl 2 rfl) ?_
    refine k_iald hx hb hK.1 hP 4 0 rfl rfl (by omega) (by decide) dX5_behindReads_81 ?_
    refine k_topN (hx8.eq (by decide)) ?_
    refine k_iald hx hb hK.1 hP 1 0 rfl rfl (hx8.lt (by decide)) (by decide) dX5_behindReads_82 ?_
    refine k_topN (hV _ (hx8.lt (by decide))) ?_
    refine lv_aload_n hx hb dX5_behindReads_83 rfl (lv_at hl 0 rfl) ?_
    refine va_get (C := RX5) (T := TX5) (N := 1) (ci := 5) hx hb hts iX5_behindReads_5 hown hK.1 hP 0 rfl rfl 0 (Nat.le_of_ble_eq_true rfl) (hts _ mX5_behindReads_9) (fun _ h9 => h9) rfl dX5_behindReads_84 ?_
    refine lv_aload_n hx hb dX5_behindReads_87 rfl (lv_at hl 1 rfl) ?_
    refine va_get (C := RX0) (T := TX0) (N := 5) (ci := 0) hx hb hts iX5_behindReads_0 hown hK.1 hP 2 rfl rfl 2 (Nat.le_of_ble_eq_true rfl) (hts _ mX5_behindReads_40) (fun _ h9 => h9) rfl dX5_behindReads_88 ?_
    refine lv_iload_n hx hb dX5_behindReads_91 rfl (lv_at hl 2 rfl) ?_
    refine k_iald hx hb hK.1 hP 5 0 rfl rfl (by omega) (by decide) dX5_behindReads_92 ?_
    refine k_topN (hy8.eq (by decide)) ?_
    refine k_iald hx hb hK.1 hP 1 0 rfl rfl (hy8.lt (by decide)) (by decide) dX5_behindReads_93 ?_
    refine k_topN (hV _ (hy8.lt (by decide))) ?_
    refine k_ior hx hb dX5_behindReads_94 ?_
    exact hret _ _ _ _ _ () dX5_behindReads_95 (by rw [s_reads_k hop (by decide)]; rfl) hP hD hS
  · skip
    refine lv_tableIn (tgt := 108) (off := 102) hx hb dX5_behindReads_6 (by decide) (by decide) (by decide) (by decide) ?_
    refine lv_iconst (v := nI 0) hx hb dX5_behindReads_108 (by decide) ?_
    exact hret _ _ _ _ _ () dX5_behindReads_109 (by rw [s_reads_k hop (by decide)]; rfl) hP hD hS
  · skip
    refine lv_tableIn (tgt := 96) (off := 90) hx hb dX5_behindReads_6 (by decide) (by decide) (by decide) (by decide) ?_
    have hx8 := hx8 (by decide)
    refine lv_aload_n hx hb dX5_behindReads_96 rfl (lv_at hl 0 rfl) ?_
    refine va_get (C := RX5) (T := TX5) (N := 1) (ci := 5) hx hb hts iX5_behindReads_5 hown hK.1 hP 0 rfl rfl 0 (Nat.le_of_ble_eq_true rfl) (hts _ mX5_behindReads_9) (fun _ h9 => h9) rfl dX5_behindReads_97 ?_
    refine lv_aload_n hx hb dX5_behindReads_100 rfl (lv_at hl 1 rfl) ?_
    refine va_get (C := RX0) (T := TX0) (N := 5) (ci := 0) hx hb hts iX5_behindReads_0 hown hK.1 hP 2 rfl rfl 1 (Nat.le_of_ble_eq_true rfl) (hts _ mX5_behindReads_37) (fun _ h9 => h9) rfl dX5_behindReads_101 ?_
    refine lv_iload_n hx hb dX5_behindReads_104 rfl (lv_at hl 2 rfl) ?_
    refine k_iald hx hb hK.1 hP 4 0 rfl rfl (by omega) (by decide) dX5_behindReads_105 ?_
    refine k_topN (hx8.eq (by decide)) ?_
    refine k_iald hx hb hK.1 hP 1 0 rfl rfl (hx8.lt (by decide)) (by decide) dX5_behindReads_106 ?_
    refine k_topN (hV _ (hx8.lt (by decide))) ?_
    exact hret _ _ _ _ _ () dX5_behindReads_107 (by rw [s_reads_k hop (by decide)]; rfl) hP hD hS

theorem iX5_linesBehind_0 : ∀ w ∈ wsX00, w ∈ wsX5_linesBehind := by decide +kernel
theorem iX5_linesBehind_4 : ∀ w ∈ wsX40, w ∈ wsX5_linesBehind := by decide +kernel
theorem iX5_linesBehind_5 : ∀ w ∈ wsX50, w ∈ wsX5_linesBehind := by decide +kernel
theorem mX5_linesBehind_9 : Cond.fieldLink RX5 9 "LineFinder$Slicer" "behindVariables" "[I" ∈ wsX5_linesBehind := List.mem_of_getElem? (i := 1) rfl
theorem mX5_linesBehind_15 : Cond.fieldLink RX5 15 "LineFinder$Run" "stepCount" "I" ∈ wsX5_linesBehind := List.mem_of_getElem? (i := 2) rfl
theorem mX5_linesBehind_21 : Cond.fieldLink RX5 21 "LineFinder$Run" "trace" "[I" ∈ wsX5_linesBehind := List.mem_of_getElem? (i := 3) rfl
theorem mX5_linesBehind_24 : Cond.fieldLink RX5 24 "LineFinder$Code" "ops" "[I" ∈ wsX5_linesBehind := List.mem_of_getElem? (i := 4) rfl
theorem mX5_linesBehind_37 : Cond.fieldLink RX5 37 "LineFinder$Code" "xs" "[I" ∈ wsX5_linesBehind := List.mem_of_getElem? (i := 5) rfl
theorem wX5_linesBehind_iniX9_writes : Cond.initialized RX9 ∈ wsX5_linesBehind := List.mem_of_getElem? (i := 14) rfl
theorem wX5_linesBehind_stX9_writes : Cond.static yX9_writes ∈ wsX5_linesBehind := List.mem_of_getElem? (i := 13) rfl
theorem hdX5_behindReads : yX5_behindReads.cls = RX5 ∧ yX5_behindReads.cls ≠ "java/lang/invoke/MethodHandle" ∧ yX5_behindReads.cls ≠ "java/lang/invoke/VarHandle" ∧ (parseMethodDescriptor yX5_behindReads.desc).map (fun d => d.parameters.length) = some 2 := by decide +kernel
theorem hdX9_writes : yX9_writes.cls ≠ "java/lang/invoke/MethodHandle" ∧ yX9_writes.cls ≠ "java/lang/invoke/VarHandle" ∧ (parseMethodDescriptor yX9_writes.desc).map (fun d => d.parameters.length) = some 1 := by decide +kernel
abbrev rCX5_linesBehind : Room := { frames := 1, cells := 0, slots := 0, locals := 22 }
set_option maxHeartbeats 4000000 in
set_option maxRecDepth 100000 in
theorem CX5_linesBehind (jl : Launch) (G : va_G) (cI cZ cJ : ClassId) (sx x0 : Nat) (bv : Fn) (cd d0 d1 d2 d3 n : Nat) (ops xs ys zs : Fn) (rn q0 q1 q2 sc oc ic : Nat) (cut ti sl sv : Int32) (tr ou vr : Fn) (i : Nat) (hi6 : i < 6) (hn : n ≤ 24) (hsc : sc ≤ 300) (hok : ∀ i, i < n → rowOk (ops i) (xs i) (ys i) (zs i)) (htr : ∀ k, k < sc → ix (tr k) n) : Ki jl yX5_linesBehind wsX5_linesBehind rCX5_linesBehind G cI cZ cJ [.ref sx, .ref cd, .ref rn, .int (nI i)] [oB sx 5 [.ref x0], aI cI x0 8 bv, oB cd 0 [.ref d0, .ref d1, .ref d2, .ref d3, .int (nI n)], aI cI d0 24 ops, aI cI d1 24 xs, aI cI d2 24 ys, aI cI d3 24 zs, oB rn 4 [.ref q0, .ref q1, .ref q2, .int (nI sc), .int (nI oc), .int (nI ic), .int cut, .int ti, .int sl, .int sv], aI cI q0 300 tr, aI cI q1 6 ou, aI cI q2 8 vr] (S := Fn) (fun (r : Int32) (bv1 : Fn) => r = nI (s_go ops xs ys zs tr i sc 0 (fun _ => 0) 0 0)) (fun (bv1 : Fn) => [oB sx 5 [.ref x0], aI cI x0 8 bv1, oB cd 0 [.ref d0, .ref d1, .ref d2, .ref d3, .int (nI n)], aI cI d0 24 ops, aI cI d1 24 xs, aI cI d2 24 ys, aI cI d3 24 zs, oB rn 4 [.ref q0, .ref q1, .ref q2, .int (nI sc), .int (nI oc), .int (nI ic), .int cut, .int ti, .int sl, .int sv], aI cI q0 300 tr, aI cI q1 6 ou, aI cI q2 8 vr]) := by
  refine Ki.of (cc := cX5_linesBehind) (maxL := 10) (by decide +kernel) rfl (Nat.le_of_ble_eq_true rfl) ?_
  intro jp je js jm ja jb jt jc jA jQ ls cx hnm hP hD hS hl hret
  obtain ⟨hx, hb, hml, hown, hts, hK, hA⟩ := id cx
  have hl : lv_has ls 10 [(0, .ref sx), (1, .ref cd), (2, .ref rn), (3, .int (nI i))] := hl
  obtain ⟨H, hH⟩ : ∃ H, H = js.heap := ⟨_, rfl⟩
  obtain ⟨locs, hlocs⟩ : ∃ z : List Loc, z = [] := ⟨_, rfl⟩
  have hP : va_P G vwCl [oB sx 5 [.ref x0], aI cI x0 8 bv, oB cd 0 [.ref d0, .ref d1, .ref d2, .ref d3, .int (nI n)], aI cI d0 24 ops, aI cI d1 24 xs, aI cI d2 24 ys, aI cI d3 24 zs, oB rn 4 [.ref q0, .ref q1, .ref q2, .int (nI sc), .int (nI oc), .int (nI ic), .int cut, .int ti, .int sl, .int sv], aI cI q0 300 tr, aI cI q1 6 ou, aI cI q2 8 vr] H := by rw [hH]; exact hP
  have hS : va_S jA js.heap H locs := by rw [hH, hlocs]; exact hS
  rw [← hlocs]; rw [show W jp jl je rCX5_linesBehind js jm ja jb jt jc js.heap locs 0 0 jQ (F0 jm 0 ls []) = W jp jl je rCX5_linesBehind js jm ja jb jt jc H locs 0 0 jQ (F0 jm 0 ls []) by rw [hH]]
  clear hH hlocs
  refine lv_iconst (v := nI 0) hx hb dX5_linesBehind_0 (by decide) ?_
  refine lv_istore (lv' := [(4, .int (nI 0)), (0, .ref sx), (1, .ref cd), (2, .ref rn), (3, .int (nI i))]) hx hb dX5_linesBehind_1 hl (by decide) rfl (fun ls hl => ?_)
  have L3 : ∀ (fu : Nat), ∀ (v : Nat), ∀ (b2 : Fn), (8 < v + fu) → (v ≤ 8) → (b2 = fl Z0 bv v) → ∀ (H : Heap) (locs : List Loc) (ls : Array Slot), va_P G vwCl [oB sx 5 [.ref x0], aI cI x0 8 b2, oB cd 0 [.ref d0, .ref d1, .ref d2, .ref d3, .int (nI n)], aI cI d0 24 ops, aI cI d1 24 xs, aI cI d2 24 ys, aI cI d3 24 zs, oB rn 4 [.ref q0, .ref q1, .ref q2, .int (nI sc), .int (nI oc), .int (nI ic), .int cut, .int ti, .int sl, .int sv], aI cI q0 300 tr, aI cI q1 6 ou, aI cI q2 8 vr] H → va_D jA [oB sx 5 [.ref x0], aI cI x0 8 b2, oB cd 0 [.ref d0, .ref d1, .ref d2, .ref d3, .int (nI n)], aI cI d0 24 ops, aI cI d1 24 xs, aI cI d2 24 ys, aI cI d3 24 zs, oB rn 4 [.ref q0, .ref q1, .ref q2, .int (nI sc), .int (nI oc), .int (nI ic), .int cut, .int ti, .int sl, .int sv], aI cI q0 300 tr, aI cI q1 6 ou, aI cI q2 8 vr] → va_S jA js.heap H locs → lv_has ls 10 [(0, .ref sx), (1, .ref cd), (2, .ref rn), (3, .int (nI i)), (4, .int (nI v))] → W jp jl je rCX5_linesBehind js jm ja jb jt jc H locs 0 0 jQ (F0 jm 3 ls []) := by
    intro fu
    induction fu with
    | zero =>
      intro v b2 hfu hv eb H locs ls hP hD hS hl
      exact absurd hfu (by omega)
    | succ fu ih3 =>
      intro v b2 hfu hv eb H locs ls hP hD hS hl
      refine lv_iload hx hb dX5_linesBehind_3 (lv_at hl 4 rfl) ?_
      refine lv_bipush (v := nI 8) hx hb dX5_linesBehind_5 (by decide) ?_
      refine k_cmp_ge (tgt := 24) hx hb dX5_linesBehind_7 (by decide) (by omega) (by omega) (fun c_1 => ?_) (fun c_1 => ?_)
      · skip
        obtain ⟨v9, hv9⟩ : ∃ v9, v9 = v := ⟨v, rfl⟩
        subst hv9
        refine lv_iconst (v := nI 0) hx hb dX5_linesBehind_24 (by decide) ?_
        refine lv_istore (lv' := [(4, .int (nI 0)), (0, .ref sx), (1, .ref cd), (2, .ref rn), (3, .int (nI i))]) hx hb dX5_linesBehind_25 hl (by decide) rfl (fun ls hl => ?_)
        refine lv_iconst (v := nI 0) hx hb dX5_linesBehind_27 (by decide) ?_
        refine lv_istore (lv' := [(5, .int (nI 0)), (4, .int (nI 0)), (0, .ref sx), (1, .ref cd), (2, .ref rn), (3, .int (nI i))]) hx hb dX5_linesBehind_28 hl (by decide) rfl (fun ls hl => ?_)
        refine lv_iconst (v := nI 0) hx hb dX5_linesBehind_30 (by decide) ?_
        refine lv_istore (lv' := [(6, .int (nI 0)), (5, .int (nI 0)), (4, .int (nI 0)), (0, .ref sx), (1, .ref cd), (2, .ref rn), (3, .int (nI i))]) hx hb dX5_linesBehind_31 hl (by decide) rfl (fun ls hl => ?_)
        have L33 : ∀ (fu : Nat), ∀ (F : Nat), ∀ (seen : Nat), ∀ (k : Nat), ∀ (b3 : Fn), ∀ (V : Nat → Nat), (sc < k + fu) → (k ≤ sc) → (seen ≤ k) → (∀ v, v < 8 → b3 v = nI (V v)) → (s_go ops xs ys zs tr i (sc - k) k V F seen = s_go ops xs ys zs tr i sc 0 (fun _ => 0) 0 0) → ∀ (H : Heap) (locs : List Loc) (ls : Array Slot), va_P G vwCl [oB sx 5 [.ref x0], aI cI x0 8 b3, oB cd 0 [.ref d0, .ref d1, .ref d2, .ref d3, .int (nI n)], aI cI d0 24 ops, aI cI d1 24 xs, aI cI d2 24 ys, aI cI d3 24 zs, oB rn 4 [.ref q0, .ref q1, .ref q2, .int (nI sc), .int (nI oc), .int (nI ic), .int cut, .int ti, .int sl, .int sv], aI cI q0 300 tr, aI cI q1 6 ou, aI cI q2 8 vr] H → va_D jA [oB sx 5 [.ref x0], aI cI x0 8 b3, oB cd 0 [.ref d0, .ref d1, .ref d2, .ref d3, .int (nI n)], aI cI d0 24 ops, aI cI d1 24 xs, aI cI d2 24 ys, aI cI d3 24 zs, oB rn 4 [.ref q0, .ref q1, .ref q2, .int (nI sc), .int (nI oc), .int (nI ic), .int cut, .int ti, .int sl, .int sv], aI cI q0 300 tr, aI cI q1 6 ou, aI cI q2 8 vr] → va_S jA js.heap H locs → lv_has ls 10 [(0, .ref sx), (1, .ref cd), (2, .ref rn), (3, .int (nI i)), (4, .int (nI F)), (5, .int (nI seen)), (6, .int (nI k))] → W jp jl je rCX5_linesBehind js jm ja jb jt jc H locs 0 0 jQ (F0 jm 33 ls []) := by
          intro fu
          induction fu with
          | zero =>
            intro F seen k b3 V hfu hk hse hV hg H locs ls hP hD hS hl
            exact absurd hfu (by omega)
          | succ fu ih33 =>
            intro F seen k b3 V hfu hk hse hV hg H locs ls hP hD hS hl
            refine lv_iload hx hb dX5_linesBehind_33 (lv_at hl 6 rfl) ?_
            refine lv_aload_n hx hb dX5_linesBehind_35 rfl (lv_at hl 2 rfl) ?_
            refine va_get (C := RX4) (T := TX4) (N := 10) (ci := 4) hx hb hts iX5_linesBehind_4 hown hK.1 hP 7 rfl rfl 3 (Nat.le_of_ble_eq_true rfl) (hts _ mX5_linesBehind_15) (fun _ h9 => h9) rfl dX5_linesBehind_36 ?_
            refine k_cmp_ge (tgt := 140) hx hb dX5_linesBehind_39 (by decide) (by omega) (by omega) (fun c_2 => ?_) (fun c_2 => ?_)
            · skip
              refine lv_iconst (v := nI 0) hx hb dX5_linesBehind_140 (by decide) ?_
              exact hret _ _ _ _ _ b3 dX5_linesBehind_141 (by rw [← hg, show sc - k = 0 by omega]; rfl) hP hD hS
            · skip
              refine lv_aload_n hx hb dX5_linesBehind_42 rfl (lv_at hl 2 rfl) ?_
              refine va_get (C := RX4) (T := TX4) (N := 10) (ci := 4) hx hb hts iX5_linesBehind_4 hown hK.1 hP 7 rfl rfl 0 (Nat.le_of_ble_eq_true rfl) (hts _ mX5_linesBehind_21) (fun _ h9 => h9) rfl dX5_linesBehind_43 ?_
              refine lv_iload hx hb dX5_linesBehind_46 (lv_at hl 6 rfl) ?_
              refine k_iald hx hb hK.1 hP 8 0 rfl rfl (by omega) (by decide) dX5_linesBehind_48 ?_
              have hti := htr k (by omega)
              have htl := hti.lt (by omega)
              obtain ⟨q, hq8, hop, hx8, h123, h4, h5, h6⟩ := id (hok _ htl)
              refine k_topN (hti.eq (by omega)) ?_
              refine lv_istore (lv' := [(7, .int (nI (tn (tr k)))), (0, .ref sx), (1, .ref cd), (2, .ref rn), (3, .int (nI i)), (4, .int (nI F)), (5, .int (nI seen)), (6, .int (nI k))]) hx hb dX5_linesBehind_49 hl (by decide) rfl (fun ls hl => ?_)
              refine lv_aload_n hx hb dX5_linesBehind_51 rfl (lv_at hl 2 rfl) ?_
              refine va_get (C := RX0) (T := TX0) (N := 5) (ci := 0) hx hb hts iX5_linesBehind_0 hown hK.1 hP 2 rfl rfl 0 (Nat.le_of_ble_eq_true rfl) (hts _ mX5_linesBehind_24) (fun _ h9 => h9) rfl dX5_linesBehind_52 ?_
              refine lv_iload hx hb dX5_linesBehind_55 (lv_at hl 0 rfl) ?_
              refine k_iald hx hb hK.1 hP 3 0 rfl rfl (by omega) (by decide) dX5_linesBehind_57 ?_
              refine k_topN hop ?_
              refine lv_istore (lv' := [(8, .int (nI q)), (7, .int (nI (tn (tr k)))), (0, .ref sx), (1, .ref cd), (2, .ref rn), (3, .int (nI i)), (4, .int (nI F)), (5, .int (nI seen)), (6, .int (nI k))]) hx hb dX5_linesBehind_58 hl (by decide) rfl (fun ls hl => ?_)
              refine lv_iconst (v := nI 1) hx hb dX5_linesBehind_60 (by decide) ?_
              refine lv_iload hx hb dX5_linesBehind_61 (lv_at hl 1 rfl) ?_
              refine k_ishl hx hb dX5_linesBehind_63 (by omega) (by have := p2_31 (show tn (tr k) < 31 by omega); omega) ?_
              rw [Nat.one_mul]
              refine lv_iload hx hb dX5_linesBehind_64 (lv_at hl 6 rfl) ?_
              refine k_ior hx hb dX5_linesBehind_66 ?_
              refine lv_aload_n hx hb dX5_linesBehind_67 rfl (lv_at hl 2 rfl) ?_
              refine lv_aload_n hx hb dX5_linesBehind_68 rfl (lv_at hl 3 rfl) ?_
              refine lv_iload hx hb dX5_linesBehind_69 (lv_at hl 1 rfl) ?_
              refine Ki.callV (wr := [oB rn 4 [.ref q0, .ref q1, .ref q2, .int (nI sc), .int (nI oc), .int (nI ic), .int cut, .int ti, .int sl, .int sv], aI cI q0 300 tr, aI cI q1 6 ou, aI cI q2 8 vr]) (rest := [.int (nI ((2 ^ tn (tr k)) ||| F))]) (CX5_behindReads jl G cI cZ cJ sx x0 b3 cd d0 d1 d2 d3 n ops xs ys zs V hV (tn (tr k)) (by omega) (hok _ htl)) cx hP hD hS hl [0, 1, 2, 3, 4, 5, 6] [7, 8, 9, 10] (ci := 5) (q0 := 0) gX5_linesBehind_X5_behindReads hdX5_behindReads rfl rfl rfl ⟨Nat.le_of_ble_eq_true rfl, Nat.le_of_ble_eq_true rfl⟩ rfl rfl (by decide) (by decide) (by decide) dX5_linesBehind_71 rfl rfl (Nat.le_of_ble_eq_true rfl) ⟨Nat.le_of_ble_eq_true rfl, Nat.le_of_ble_eq_true rfl⟩ (fun r_3 u H locs hw_4 hP hD hS => ?_)
              have hP : va_P G vwCl [oB rn 4 [.ref q0, .ref q1, .ref q2, .int (nI sc), .int (nI oc), .int (nI ic), .int cut, .int ti, .int sl, .int sv], aI cI q0 300 tr, aI cI q1 6 ou, aI cI q2 8 vr, oB sx 5 [.ref x0], aI cI x0 8 b3, oB cd 0 [.ref d0, .ref d1, .ref d2, .ref d3, .int (nI n)], aI cI d0 24 ops, aI cI d1 24 xs, aI cI d2 24 ys, aI cI d3 24 zs] H := hP
              have hD : va_D jA [oB rn 4 [.ref q0, .ref q1, .ref q2, .int (nI sc), .int (nI oc), .int (nI ic), .int cut, .int ti, .int sl, .int sv], aI cI q0 300 tr, aI cI q1 6 ou, aI cI q2 8 vr, oB sx 5 [.ref x0], aI cI x0 8 b3, oB cd 0 [.ref d0, .ref d1, .ref d2, .ref d3, .int (nI n)], aI cI d0 24 ops, aI cI d1 24 xs, aI cI d2 24 ys, aI cI d3 24 zs] := hD
              subst hw_4
              refine k_ior hx hb dX5_linesBehind_74 ?_
              refine k_topN (show _ = nI (s_lines ops xs ys zs V F (tn (tr k))) from rfl) ?_
              refine lv_istore (lv' := [(9, .int (nI (s_lines ops xs ys zs V F (tn (tr k))))), (8, .int (nI q)), (7, .int (nI (tn (tr k)))), (0, .ref sx), (1, .ref cd), (2, .ref rn), (3, .int (nI i)), (4, .int (nI F)), (5, .int (nI seen)), (6, .int (nI k))]) hx hb dX5_linesBehind_75 hl (by decide) rfl (fun ls hl => ?_)
              refine lv_iload hx hb dX5_linesBehind_77 (lv_at hl 1 rfl) ?_
              refine lv_iconst (v := nI 5) hx hb dX5_linesBehind_79 (by decide) ?_
              refine k_cmp_ne (tgt := 90) hx hb dX5_linesBehind_80 (by decide) (by omega) (by omega) (fun h80 => ?_) (fun h80 => ?_)
              · skip
                refine lv_iload hx hb dX5_linesBehind_90 (lv_at hl 1 rfl) ?_
                refine Ki.callSN (wr := [oB rn 4 [.ref q0, .ref q1, .ref q2, .int (nI sc), .int (nI oc), .int (nI ic), .int cut, .int ti, .int sl, .int sv], aI cI q0 300 tr, aI cI q1 6 ou, aI cI q2 8 vr, oB sx 5 [.ref x0], aI cI x0 8 b3, oB cd 0 [.ref d0, .ref d1, .ref d2, .ref d3, .int (nI n)], aI cI d0 24 ops, aI cI d1 24 xs, aI cI d2 24 ys, aI cI d3 24 zs]) (rest := []) (CX9_writes jl G cI cZ cJ q hq8) cx hP hD hS hl [] [0, 1, 2, 3, 4, 5, 6, 7, 8, 9, 10] ggX5_linesBehind_X9_writes (by decide +kernel) wX5_linesBehind_iniX9_writes wX5_linesBehind_stX9_writes hdX9_writes rfl ⟨Nat.le_of_ble_eq_true rfl, Nat.le_of_ble_eq_true rfl⟩ rfl rfl (by decide) (by decide) (by decide) dX5_linesBehind_92 rfl rfl (Nat.le_of_ble_eq_true rfl) ⟨Nat.le_of_ble_eq_true rfl, Nat.le_of_ble_eq_true rfl⟩ (fun r_5 u H locs hw_6 hP hD hS => ?_)
                have hP : va_P G vwCl [oB rn 4 [.ref q0, .ref q1, .ref q2, .int (nI sc), .int (nI oc), .int (nI ic), .int cut, .int ti, .int sl, .int sv], aI cI q0 300 tr, aI cI q1 6 ou, aI cI q2 8 vr, oB sx 5 [.ref x0], aI cI x0 8 b3, oB cd 0 [.ref d0, .ref d1, .ref d2, .ref d3, .int (nI n)], aI cI d0 24 ops, aI cI d1 24 xs, aI cI d2 24 ys, aI cI d3 24 zs] H := hP
                have hD : va_D jA [oB rn 4 [.ref q0, .ref q1, .ref q2, .int (nI sc), .int (nI oc), .int (nI ic), .int cut, .int ti, .int sl, .int sv], aI cI q0 300 tr, aI cI q1 6 ou, aI cI q2 8 vr, oB sx 5 [.ref x0], aI cI x0 8 b3, oB cd 0 [.ref d0, .ref d1, .ref d2, .ref d3, .int (nI n)], aI cI d0 24 ops, aI cI d1 24 xs, aI cI d2 24 ys, aI cI d3 24 zs] := hD
                rcases Nat.lt_or_ge q 5 with hk5 | hk5
                · skip
                  rw [decide_eq_true hk5] at hw_6
                  subst hw_6
                  refine k_if_eq_f (tgt := 115) hx hb dX5_linesBehind_95 (by decide) (by decide) ?_
                  have hx8 := hx8 (by omega)
                  refine lv_aload_n hx hb dX5_linesBehind_98 rfl (lv_at hl 3 rfl) ?_
                  refine va_get (C := RX5) (T := TX5) (N := 1) (ci := 5) hx hb hts iX5_linesBehind_5 hown hK.1 hP 4 rfl rfl 0 (Nat.le_of_ble_eq_true rfl) (hts _ mX5_linesBehind_9) (fun _ h9 => h9) rfl dX5_linesBehind_99 ?_
                  refine lv_aload_n hx hb dX5_linesBehind_102 rfl (lv_at hl 4 rfl) ?_
                  refine va_get (C := RX0) (T := TX0) (N := 5) (ci := 0) hx hb hts iX5_linesBehind_0 hown hK.1 hP 6 rfl rfl 1 (Nat.le_of_ble_eq_true rfl) (hts _ mX5_linesBehind_37) (fun _ h9 => h9) rfl dX5_linesBehind_103 ?_
                  refine lv_iload hx hb dX5_linesBehind_106 (lv_at hl 2 rfl) ?_
                  refine k_iald hx hb hK.1 hP 8 0 rfl rfl (by omega) (by decide) dX5_linesBehind_108 ?_
                  refine k_topN (hx8.eq (by decide)) ?_
                  refine lv_iload hx hb dX5_linesBehind_109 (lv_at hl 0 rfl) ?_
                  refine k_iast hx hb hK.1 hP hD hS 5 0 rfl rfl (hx8.lt (by decide)) (by decide) dX5_linesBehind_111 (fun H locs hP hD hS => ?_)
                  have hP : va_P G vwCl [oB rn 4 [.ref q0, .ref q1, .ref q2, .int (nI sc), .int (nI oc), .int (nI ic), .int cut, .int ti, .int sl, .int sv], aI cI q0 300 tr, aI cI q1 6 ou, aI cI q2 8 vr, oB sx 5 [.ref x0], aI cI x0 8 (upd b3 (tn (xs (tn (tr k)))) (nI (s_lines ops xs ys zs V F (tn (tr k))))), oB cd 0 [.ref d0, .ref d1, .ref d2, .ref d3, .int (nI n)], aI cI d0 24 ops, aI cI d1 24 xs, aI cI d2 24 ys, aI cI d3 24 zs] H := hP
                  have hD : va_D jA [oB rn 4 [.ref q0, .ref q1, .ref q2, .int (nI sc), .int (nI oc), .int (nI ic), .int cut, .int ti, .int sl, .int sv], aI cI q0 300 tr, aI cI q1 6 ou, aI cI q2 8 vr, oB sx 5 [.ref x0], aI cI x0 8 (upd b3 (tn (xs (tn (tr k)))) (nI (s_lines ops xs ys zs V F (tn (tr k))))), oB cd 0 [.ref d0, .ref d1, .ref d2, .ref d3, .int (nI n)], aI cI d0 24 ops, aI cI d1 24 xs, aI cI d2 24 ys, aI cI d3 24 zs] := hD
                  refine lv_goto (tgt := 134) hx hb dX5_linesBehind_112 (by decide) ?_
                  refine lv_iinc (v := nI (k + 1)) (lv' := [(6, .int (nI (k + 1))), (9, .int (nI (s_lines ops xs ys zs V F (tn (tr k))))), (8, .int (nI q)), (7, .int (nI (tn (tr k)))), (0, .ref sx), (1, .ref cd), (2, .ref rn), (3, .int (nI i)), (4, .int (nI F)), (5, .int (nI seen))]) hx hb dX5_linesBehind_134 hl (k := 9) rfl (nI_add k 1) (by decide) rfl (fun ls hl => ?_)
                  refine lv_goto (tgt := 33) hx hb dX5_linesBehind_137 (by decide) ?_
                  obtain ⟨hP, hD⟩ := k_sub (w' := [oB sx 5 [.ref x0], aI cI x0 8 (upd b3 (tn (xs (tn (tr k)))) (nI (s_lines ops xs ys zs V F (tn (tr k))))), oB cd 0 [.ref d0, .ref d1, .ref d2, .ref d3, .int (nI n)], aI cI d0 24 ops, aI cI d1 24 xs, aI cI d2 24 ys, aI cI d3 24 zs, oB rn 4 [.ref q0, .ref q1, .ref q2, .int (nI sc), .int (nI oc), .int (nI ic), .int cut, .int ti, .int sl, .int sv], aI cI q0 300 tr, aI cI q1 6 ou, aI cI q2 8 vr]) hP hD [4, 5, 6, 7, 8, 9, 10, 0, 1, 2, 3] rfl (by decide)
                  exact ih33 F seen (k + 1) (upd b3 (tn (xs (tn (tr k)))) (nI (s_lines ops xs ys zs V F (tn (tr k))))) (updN V (tn (xs (tn (tr k)))) (s_lines ops xs ys zs V F (tn (tr k)))) (by omega) (by omega) (by omega) (nF_upd hV) (s_go_w hg (by omega) hop hk5) _ _ _ hP hD hS (lv_sub hl [4, 5, 6, 7, 8, 9, 0] rfl)
                · skip
                  rw [decide_eq_false (Nat.not_lt.mpr hk5)] at hw_6
                  subst hw_6
                  refine k_if_eq_t (tgt := 115) hx hb dX5_linesBehind_95 (by decide) (by decide) ?_
                  refine lv_iload hx hb dX5_linesBehind_115 (lv_at hl 1 rfl) ?_
                  refine lv_bipush (v := nI 7) hx hb dX5_linesBehind_117 (by decide) ?_
                  refine k_cmp_ne (tgt := 134) hx hb dX5_linesBehind_119 (by decide) (by omega) (by omega) (fun h119 => ?_) (fun h119 => ?_)
                  · skip
                    have hq6 : q = 6 := by omega
                    subst hq6
                    refine lv_iinc (v := nI (k + 1)) (lv' := [(6, .int (nI (k + 1))), (9, .int (nI (s_lines ops xs ys zs V F (tn (tr k))))), (8, .int (nI 6)), (7, .int (nI (tn (tr k)))), (0, .ref sx), (1, .ref cd), (2, .ref rn), (3, .int (nI i)), (4, .int (nI F)), (5, .int (nI seen))]) hx hb dX5_linesBehind_134 hl (k := 9) rfl (nI_add k 1) (by decide) rfl (fun ls hl => ?_)
                    refine lv_goto (tgt := 33) hx hb dX5_linesBehind_137 (by decide) ?_
                    obtain ⟨hP, hD⟩ := k_sub (w' := [oB sx 5 [.ref x0], aI cI x0 8 b3, oB cd 0 [.ref d0, .ref d1, .ref d2, .ref d3, .int (nI n)], aI cI d0 24 ops, aI cI d1 24 xs, aI cI d2 24 ys, aI cI d3 24 zs, oB rn 4 [.ref q0, .ref q1, .ref q2, .int (nI sc), .int (nI oc), .int (nI ic), .int cut, .int ti, .int sl, .int sv], aI cI q0 300 tr, aI cI q1 6 ou, aI cI q2 8 vr]) hP hD [4, 5, 6, 7, 8, 9, 10, 0, 1, 2, 3] rfl (by decide)
                    exact ih33 F seen (k + 1) b3 V (by omega) (by omega) (by omega) (hV) (s_go_6 hg (by omega) hop) _ _ _ hP hD hS (lv_sub hl [4, 5, 6, 7, 8, 9, 0] rfl)
                  · skip
                    subst h119
                    refine lv_iload hx hb dX5_linesBehind_122 (lv_at hl 8 rfl) ?_
                    refine lv_iload_n hx hb dX5_linesBehind_124 rfl (lv_at hl 6 rfl) ?_
                    refine k_cmp_ne (tgt := 131) hx hb dX5_linesBehind_125 (by decide) (by omega) (by omega) (fun hsi => ?_) (fun hsi => ?_)
                    · skip
                      refine lv_iinc (v := nI (seen + 1)) (lv' := [(5, .int (nI (seen + 1))), (9, .int (nI (s_lines ops xs ys zs V F (tn (tr k))))), (8, .int (nI 7)), (7, .int (nI (tn (tr k)))), (0, .ref sx), (1, .ref cd), (2, .ref rn), (3, .int (nI i)), (4, .int (nI F)), (6, .int (nI k))]) hx hb dX5_linesBehind_131 hl (k := 8) rfl (nI_add seen 1) (by decide) rfl (fun ls hl => ?_)
                      refine lv_iinc (v := nI (k + 1)) (lv' := [(6, .int (nI (k + 1))), (5, .int (nI (seen + 1))), (9, .int (nI (s_lines ops xs ys zs V F (tn (tr k))))), (8, .int (nI 7)), (7, .int (nI (tn (tr k)))), (0, .ref sx), (1, .ref cd), (2, .ref rn), (3, .int (nI i)), (4, .int (nI F))]) hx hb dX5_linesBehind_134 hl (k := 9) rfl (nI_add k 1) (by decide) rfl (fun ls hl => ?_)
                      refine lv_goto (tgt := 33) hx hb dX5_linesBehind_137 (by decide) ?_
                      obtain ⟨hP, hD⟩ := k_sub (w' := [oB sx 5 [.ref x0], aI cI x0 8 b3, oB cd 0 [.ref d0, .ref d1, .ref d2, .ref d3, .int (nI n)], aI cI d0 24 ops, aI cI d1 24 xs, aI cI d2 24 ys, aI cI d3 24 zs, oB rn 4 [.ref q0, .ref q1, .ref q2, .int (nI sc), .int (nI oc), .int (nI ic), .int cut, .int ti, .int sl, .int sv], aI cI q0 300 tr, aI cI q1 6 ou, aI cI q2 8 vr]) hP hD [4, 5, 6, 7, 8, 9, 10, 0, 1, 2, 3] rfl (by decide)
                      exact ih33 F (seen + 1) (k + 1) b3 V (by omega) (by omega) (by omega) (hV) (s_go_7f hg (by omega) hop hsi) _ _ _ hP hD hS (lv_sub hl [5, 6, 7, 8, 9, 1, 0] rfl)
                    · skip
                      refine lv_iload hx hb dX5_linesBehind_128 (lv_at hl 0 rfl) ?_
                      obtain ⟨hP, hD⟩ := k_sub (w' := [oB sx 5 [.ref x0], aI cI x0 8 b3, oB cd 0 [.ref d0, .ref d1, .ref d2, .ref d3, .int (nI n)], aI cI d0 24 ops, aI cI d1 24 xs, aI cI d2 24 ys, aI cI d3 24 zs, oB rn 4 [.ref q0, .ref q1, .ref q2, .int (nI sc), .int (nI oc), .int (nI ic), .int cut, .int ti, .int sl, .int sv], aI cI q0 300 tr, aI cI q1 6 ou, aI cI q2 8 vr]) hP hD [4, 5, 6, 7, 8, 9, 10, 0, 1, 2, 3] rfl (by decide)
                      exact hret _ _ _ _ _ b3 dX5_linesBehind_130 (by rw [← s_go_7t hg (by omega) hop hsi]) hP hD hS
              · skip
                subst h80
                refine lv_iload hx hb dX5_linesBehind_83 (lv_at hl 0 rfl) ?_
                refine lv_istore (lv' := [(4, .int (nI (s_lines ops xs ys zs V F (tn (tr k))))), (9, .int (nI (s_lines ops xs ys zs V F (tn (tr k))))), (8, .int (nI 5)), (7, .int (nI (tn (tr k)))), (0, .ref sx), (1, .ref cd), (2, .ref rn), (3, .int (nI i)), (5, .int (nI seen)), (6, .int (nI k))]) hx hb dX5_linesBehind_85 hl (by decide) rfl (fun ls hl => ?_)
                refine lv_goto (tgt := 134) hx hb dX5_linesBehind_87 (by decide) ?_
                refine lv_iinc (v := nI (k + 1)) (lv' := [(6, .int (nI (k + 1))), (4, .int (nI (s_lines ops xs ys zs V F (tn (tr k))))), (9, .int (nI (s_lines ops xs ys zs V F (tn (tr k))))), (8, .int (nI 5)), (7, .int (nI (tn (tr k)))), (0, .ref sx), (1, .ref cd), (2, .ref rn), (3, .int (nI i)), (5, .int (nI seen))]) hx hb dX5_linesBehind_134 hl (k := 9) rfl (nI_add k 1) (by decide) rfl (fun ls hl => ?_)
                refine lv_goto (tgt := 33) hx hb dX5_linesBehind_137 (by decide) ?_
                obtain ⟨hP, hD⟩ := k_sub (w' := [oB sx 5 [.ref x0], aI cI x0 8 b3, oB cd 0 [.ref d0, .ref d1, .ref d2, .ref d3, .int (nI n)], aI cI d0 24 ops, aI cI d1 24 xs, aI cI d2 24 ys, aI cI d3 24 zs, oB rn 4 [.ref q0, .ref q1, .ref q2, .int (nI sc), .int (nI oc), .int (nI ic), .int cut, .int ti, .int sl, .int sv], aI cI q0 300 tr, aI cI q1 6 ou, aI cI q2 8 vr]) hP hD [4, 5, 6, 7, 8, 9, 10, 0, 1, 2, 3] rfl (by decide)
                exact ih33 (s_lines ops xs ys zs V F (tn (tr k))) seen (k + 1) b3 V (by omega) (by omega) (by omega) (hV) (s_go_5 hg (by omega) hop) _ _ _ hP hD hS (lv_sub hl [5, 6, 7, 8, 1, 9, 0] rfl)
        exact L33 (sc + 1) 0 0 0 b2 (fun _ => 0) (by omega) (by omega) (by omega) (fun v hv => by rw [eb, show v9 = 8 by omega, fl_in hv]; rfl) (rfl) _ _ _ hP hD hS (lv_sub hl [3, 4, 5, 6, 2, 1, 0] rfl)
      · skip
        refine lv_aload_n hx hb dX5_linesBehind_10 rfl (lv_at hl 0 rfl) ?_
        refine va_get (C := RX5) (T := TX5) (N := 1) (ci := 5) hx hb hts iX5_linesBehind_5 hown hK.1 hP 0 rfl rfl 0 (Nat.le_of_ble_eq_true rfl) (hts _ mX5_linesBehind_9) (fun _ h9 => h9) rfl dX5_linesBehind_11 ?_
        refine lv_iload hx hb dX5_linesBehind_14 (lv_at hl 4 rfl) ?_
        refine lv_iconst (v := nI 0) hx hb dX5_linesBehind_16 (by decide) ?_
        refine k_iast hx hb hK.1 hP hD hS 1 0 rfl rfl (by omega) (by decide) dX5_linesBehind_17 (fun H locs hP hD hS => ?_)
        have hP : va_P G vwCl [oB sx 5 [.ref x0], aI cI x0 8 (upd b2 v (nI 0)), oB cd 0 [.ref d0, .ref d1, .ref d2, .ref d3, .int (nI n)], aI cI d0 24 ops, aI cI d1 24 xs, aI cI d2 24 ys, aI cI d3 24 zs, oB rn 4 [.ref q0, .ref q1, .ref q2, .int (nI sc), .int (nI oc), .int (nI ic), .int cut, .int ti, .int sl, .int sv], aI cI q0 300 tr, aI cI q1 6 ou, aI cI q2 8 vr] H := hP
        have hD : va_D jA [oB sx 5 [.ref x0], aI cI x0 8 (upd b2 v (nI 0)), oB cd 0 [.ref d0, .ref d1, .ref d2, .ref d3, .int (nI n)], aI cI d0 24 ops, aI cI d1 24 xs, aI cI d2 24 ys, aI cI d3 24 zs, oB rn 4 [.ref q0, .ref q1, .ref q2, .int (nI sc), .int (nI oc), .int (nI ic), .int cut, .int ti, .int sl, .int sv], aI cI q0 300 tr, aI cI q1 6 ou, aI cI q2 8 vr] := hD
        refine lv_iinc (v := nI (v + 1)) (lv' := [(4, .int (nI (v + 1))), (0, .ref sx), (1, .ref cd), (2, .ref rn), (3, .int (nI i))]) hx hb dX5_linesBehind_18 hl (k := 4) rfl (nI_add v 1) (by decide) rfl (fun ls hl => ?_)
        refine lv_goto (tgt := 3) hx hb dX5_linesBehind_21 (by decide) ?_
        exact ih3 (v + 1) (upd b2 v (nI 0)) (by omega) (by omega) (by rw [eb]; exact fl_succ Z0 _ _) _ _ _ hP hD hS (lv_sub hl [1, 2, 3, 4, 0] rfl)
  exact L3 9 0 bv (by omega) (by omega) ((fl_0 _ _).symm) _ _ _ hP hD hS (lv_sub hl [1, 2, 3, 4, 0] rfl)
