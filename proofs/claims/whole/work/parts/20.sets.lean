theorem iX7_has_7 : ∀ w ∈ wsX70, w ∈ wsX7_has := by decide +kernel
theorem mX7_has_21 : Cond.fieldLink RX7 21 "LineFinder$Suspicion" "size" "I" ∈ wsX7_has := List.mem_of_getElem? (i := 1) rfl
abbrev rCX7_has : Room := { frames := 0, cells := 0, slots := 0, locals := 0 }
set_option maxHeartbeats 4000000 in
set_option maxRecDepth 100000 in
theorem CX7_has (jl : Launch) (G : va_G) (cI cZ cJ : ClassId) (ve : Nat) (sp s1 s2 s3 sz ln : Nat) (se sm pr : Fn) (hsz : sz ≤ 2324) (p : Int32) : Ki jl yX7_has wsX7_has rCX7_has G cI cZ cJ [.ref sp, .int p] [oB sp 7 [.ref ve, .ref s1, .ref s2, .ref s3, .int (nI sz), .int (nI ln)], aI cI s1 2324 se, aI cI s2 2324 sm, aI cI s3 24 pr] (S := Unit) (fun (r : Int32) (_ : Unit) => isIx p sz r) (fun (_ : Unit) => [oB sp 7 [.ref ve, .ref s1, .ref s2, .ref s3, .int (nI sz), .int (nI ln)], aI cI s1 2324 se, aI cI s2 2324 sm, aI cI s3 24 pr]) := by
  refine Ki.ofZ (cc := cX7_has) (maxL := 2) (by decide +kernel) rfl (Nat.le_of_ble_eq_true rfl) ?_
  intro jp je js jm ja jb jt jc jA jQ ls cx hnm hP hD hS hl hret
  obtain ⟨hx, hb, hml, hown, hts, hK, hA⟩ := id cx
  have hl : lv_has ls 2 [(0, .ref sp), (1, .int p)] := hl
  obtain ⟨H, hH⟩ : ∃ H, H = js.heap := ⟨_, rfl⟩
  obtain ⟨locs, hlocs⟩ : ∃ z : List Loc, z = [] := ⟨_, rfl⟩
  have hP : va_P G vwCl [oB sp 7 [.ref ve, .ref s1, .ref s2, .ref s3, .int (nI sz), .int (nI ln)], aI cI s1 2324 se, aI cI s2 2324 sm, aI cI s3 24 pr] H := by rw [hH]; exact hP
  have hS : va_S jA js.heap H locs := by rw [hH, hlocs]; exact hS
  rw [← hlocs]; rw [show W jp jl je rCX7_has js jm ja jb jt jc js.heap locs 0 0 jQ (F0 jm 0 ls []) = W jp jl je rCX7_has js jm ja jb jt jc H locs 0 0 jQ (F0 jm 0 ls []) by rw [hH]]
  clear hH hlocs
  refine lv_iload_n hx hb dX7_has_0 rfl (lv_at hl 1 rfl) ?_
  refine lv_if_lt (tgt := 16) hx hb dX7_has_1 (by decide) (fun c_1 => ?_) (fun c_1 => ?_)
  · skip
    refine lv_iconst (v := nI 0) hx hb dX7_has_16 (by decide) ?_
    exact hret _ _ _ _ _ () dX7_has_17 (by decide) (isIx_neg (by omega) c_1) hP hD hS
  · skip
    obtain ⟨j, hj, rfl⟩ := nI_of c_1
    refine lv_iload_n hx hb dX7_has_4 rfl (lv_at hl 1 rfl) ?_
    refine lv_aload_n hx hb dX7_has_5 rfl (lv_at hl 0 rfl) ?_
    refine va_get (C := RX7) (T := TX7) (N := 6) (ci := 7) hx hb hts iX7_has_7 hown hK.1 hP 0 rfl rfl 4 (Nat.le_of_ble_eq_true rfl) (hts _ mX7_has_21) (fun _ h9 => h9) rfl dX7_has_6 ?_
    refine k_cmp_ge (tgt := 16) hx hb dX7_has_9 (by decide) (by omega) (by omega) (fun c_2 => ?_) (fun c_2 => ?_)
    · skip
      refine lv_iconst (v := nI 0) hx hb dX7_has_16 (by decide) ?_
      exact hret _ _ _ _ _ () dX7_has_17 (by decide) (isIx_ge hj (by omega) c_2) hP hD hS
    · skip
      refine lv_iconst (v := nI 1) hx hb dX7_has_12 (by decide) ?_
      refine lv_goto (tgt := 17) hx hb dX7_has_13 (by decide) ?_
      exact hret _ _ _ _ _ () dX7_has_17 (by decide) (isIx_lt c_2) hP hD hS

theorem iX7_explains_7 : ∀ w ∈ wsX70, w ∈ wsX7_explains := by decide +kernel
theorem iX7_explains_8 : ∀ w ∈ wsX80, w ∈ wsX7_explains := by decide +kernel
theorem mX7_explains_28 : Cond.fieldLink RX7 28 "LineFinder$Suspicion" "verdicts" "LLineFinder$Verdicts;" ∈ wsX7_explains := List.mem_of_getElem? (i := 1) rfl
theorem mX7_explains_32 : Cond.fieldLink RX7 32 "LineFinder$Verdicts" "failing" "I" ∈ wsX7_explains := List.mem_of_getElem? (i := 2) rfl
abbrev rCX7_explains : Room := { frames := 0, cells := 0, slots := 0, locals := 0 }
set_option maxHeartbeats 4000000 in
set_option maxRecDepth 100000 in
theorem CX7_explains (jl : Launch) (G : va_G) (cI cZ cJ : ClassId) (ve m0 fa pa cu : Nat) (sp s1 s2 s3 sz ln : Nat) (x : Nat) (hx12 : x < 4096) (hfa : fa < 4096) : Ki jl yX7_explains wsX7_explains rCX7_explains G cI cZ cJ [.ref sp, .int (nI x)] [oB sp 7 [.ref ve, .ref s1, .ref s2, .ref s3, .int (nI sz), .int (nI ln)], oB ve 8 [.ref m0, .int (nI fa), .int (nI pa), .int (nI cu)]] (S := Unit) (fun (r : Int32) (_ : Unit) => r = bI (exN x fa)) (fun (_ : Unit) => [oB sp 7 [.ref ve, .ref s1, .ref s2, .ref s3, .int (nI sz), .int (nI ln)], oB ve 8 [.ref m0, .int (nI fa), .int (nI pa), .int (nI cu)]]) := by
  refine Ki.ofZ (cc := cX7_explains) (maxL := 2) (by decide +kernel) rfl (Nat.le_of_ble_eq_true rfl) ?_
  intro jp je js jm ja jb jt jc jA jQ ls cx hnm hP hD hS hl hret
  obtain ⟨hx, hb, hml, hown, hts, hK, hA⟩ := id cx
  have hl : lv_has ls 2 [(0, .ref sp), (1, .int (nI x))] := hl
  obtain ⟨H, hH⟩ : ∃ H, H = js.heap := ⟨_, rfl⟩
  obtain ⟨locs, hlocs⟩ : ∃ z : List Loc, z = [] := ⟨_, rfl⟩
  have hP : va_P G vwCl [oB sp 7 [.ref ve, .ref s1, .ref s2, .ref s3, .int (nI sz), .int (nI ln)], oB ve 8 [.ref m0, .int (nI fa), .int (nI pa), .int (nI cu)]] H := by rw [hH]; exact hP
  have hS : va_S jA js.heap H locs := by rw [hH, hlocs]; exact hS
  rw [← hlocs]; rw [show W jp jl je rCX7_explains js jm ja jb jt jc js.heap locs 0 0 jQ (F0 jm 0 ls []) = W jp jl je rCX7_explains js jm ja jb jt jc H locs 0 0 jQ (F0 jm 0 ls []) by rw [hH]]
  clear hH hlocs
  refine lv_iload_n hx hb dX7_explains_0 rfl (lv_at hl 1 rfl) ?_
  refine lv_aload_n hx hb dX7_explains_1 rfl (lv_at hl 0 rfl) ?_
  refine va_get (C := RX7) (T := TX7) (N := 6) (ci := 7) hx hb hts iX7_explains_7 hown hK.1 hP 0 rfl rfl 0 (Nat.le_of_ble_eq_true rfl) (hts _ mX7_explains_28) (fun _ h9 => h9) rfl dX7_explains_2 ?_
  refine va_get (C := RX8) (T := TX8) (N := 4) (ci := 8) hx hb hts iX7_explains_8 hown hK.1 hP 1 rfl rfl 1 (Nat.le_of_ble_eq_true rfl) (hts _ mX7_explains_32) (fun _ h9 => h9) rfl dX7_explains_5 ?_
  refine k_iand hx hb dX7_explains_8 ?_
  refine lv_aload_n hx hb dX7_explains_9 rfl (lv_at hl 0 rfl) ?_
  refine va_get (C := RX7) (T := TX7) (N := 6) (ci := 7) hx hb hts iX7_explains_7 hown hK.1 hP 0 rfl rfl 0 (Nat.le_of_ble_eq_true rfl) (hts _ mX7_explains_28) (fun _ h9 => h9) rfl dX7_explains_10 ?_
  refine va_get (C := RX8) (T := TX8) (N := 4) (ci := 8) hx hb hts iX7_explains_8 hown hK.1 hP 1 rfl rfl 1 (Nat.le_of_ble_eq_true rfl) (hts _ mX7_explains_32) (fun _ h9 => h9) rfl dX7_explains_13 ?_
  refine k_cmp_ne (tgt := 23) hx hb dX7_explains_16 (by decide) (by exact Nat.lt_of_le_of_lt Nat.and_le_left (by omega)) (by omega) (fun h1 => ?_) (fun h1 => ?_)
  · skip
    refine lv_iconst (v := nI 0) hx hb dX7_explains_23 (by decide) ?_
    exact hret _ _ _ _ _ () dX7_explains_24 (by decide) (by unfold exN; rw [decide_eq_false h1]; rfl) hP hD hS
  · skip
    refine lv_iconst (v := nI 1) hx hb dX7_explains_19 (by decide) ?_
    refine lv_goto (tgt := 24) hx hb dX7_explains_20 (by decide) ?_
    exact hret _ _ _ _ _ () dX7_explains_24 (by decide) (by unfold exN; rw [decide_eq_true h1]; rfl) hP hD hS

theorem iX7_pairMetBy_7 : ∀ w ∈ wsX70, w ∈ wsX7_pairMetBy := by decide +kernel
theorem iX7_pairMetBy_8 : ∀ w ∈ wsX80, w ∈ wsX7_pairMetBy := by decide +kernel
theorem mX7_pairMetBy_28 : Cond.fieldLink RX7 28 "LineFinder$Suspicion" "verdicts" "LLineFinder$Verdicts;" ∈ wsX7_pairMetBy := List.mem_of_getElem? (i := 1) rfl
theorem mX7_pairMetBy_47 : Cond.fieldLink RX7 47 "LineFinder$Verdicts" "metBy" "[I" ∈ wsX7_pairMetBy := List.mem_of_getElem? (i := 2) rfl
abbrev rCX7_pairMetBy : Room := { frames := 0, cells := 0, slots := 0, locals := 0 }
set_option maxHeartbeats 4000000 in
set_option maxRecDepth 100000 in
theorem CX7_pairMetBy (jl : Launch) (G : va_G) (cI cZ cJ : ClassId) (ve m0 fa pa cu : Nat) (mb : Fn) (sp s1 s2 s3 sz ln : Nat) (X : Nat → Nat) (hmb : ∀ i, i < 24 → mb i = nI (X i)) (b c : Nat) (hb24 : b < 24) (hc24 : c < 24) : Ki jl yX7_pairMetBy wsX7_pairMetBy rCX7_pairMetBy G cI cZ cJ [.ref sp, .int (nI b), .int (nI c)] [oB sp 7 [.ref ve, .ref s1, .ref s2, .ref s3, .int (nI sz), .int (nI ln)], oB ve 8 [.ref m0, .int (nI fa), .int (nI pa), .int (nI cu)], aI cI m0 24 mb] (S := Unit) (fun (r : Int32) (_ : Unit) => r = nI (X b ||| X c)) (fun (_ : Unit) => [oB sp 7 [.ref ve, .ref s1, .ref s2, .ref s3, .int (nI sz), .int (nI ln)], oB ve 8 [.ref m0, .int (nI fa), .int (nI pa), .int (nI cu)], aI cI m0 24 mb]) := by
  refine Ki.of (cc := cX7_pairMetBy) (maxL := 3) (by decide +kernel) rfl (Nat.le_of_ble_eq_true rfl) ?_
  intro jp je js jm ja jb jt jc jA jQ ls cx hnm hP hD hS hl hret
  obtain ⟨hx, hb, hml, hown, hts, hK, hA⟩ := id cx
  have hl : lv_has ls 3 [(0, .ref sp), (1, .int (nI b)), (2, .int (nI c))] := hl
  obtain ⟨H, hH⟩ : ∃ H, H = js.heap := ⟨_, rfl⟩
  obtain ⟨locs, hlocs⟩ : ∃ z : List Loc, z = [] := ⟨_, rfl⟩
  have hP : va_P G vwCl [oB sp 7 [.ref ve, .ref s1, .ref s2, .ref s3, .int (nI sz), .int (nI ln)], oB ve 8 [.ref m0, .int (nI fa), .int (nI pa), .int (nI cu)], aI cI m0 24 mb] H := by rw [hH]; exact hP
  have hS : va_S jA js.heap H locs := by rw [hH, hlocs]; exact hS
  rw [← hlocs]; rw [show W jp jl je rCX7_pairMetBy js jm ja jb jt jc js.heap locs 0 0 jQ (F0 jm 0 ls []) = W jp jl je rCX7_pairMetBy js jm ja jb jt jc H locs 0 0 jQ (F0 jm 0 ls []) by rw [hH]]
  clear hH hlocs
  refine lv_aload_n hx hb dX7_pairMetBy_0 rfl (lv_at hl 0 rfl) ?_
  refine va_get (C := RX7) (T := TX7) (N := 6) (ci := 7) hx hb hts iX7_pairMetBy_7 hown hK.1 hP 0 rfl rfl 0 (Nat.le_of_ble_eq_true rfl) (hts _ mX7_pairMetBy_28) (fun _ h9 => h9) rfl dX7_pairMetBy_1 ?_
  refine va_get (C := RX8) (T := TX8) (N := 4) (ci := 8) hx hb hts iX7_pairMetBy_8 hown hK.1 hP 1 rfl rfl 0 (Nat.le_of_ble_eq_true rfl) (hts _ mX7_pairMetBy_47) (fun _ h9 => h9) rfl dX7_pairMetBy_4 ?_
  refine lv_iload_n hx hb dX7_pairMetBy_7 rfl (lv_at hl 1 rfl) ?_
  refine k_iald hx hb hK.1 hP 2 0 rfl rfl (by omega) (by decide) dX7_pairMetBy_8 ?_
  refine k_topN (hmb b hb24) ?_
  refine lv_aload_n hx hb dX7_pairMetBy_9 rfl (lv_at hl 0 rfl) ?_
  refine va_get (C := RX7) (T := TX7) (N := 6) (ci := 7) hx hb hts iX7_pairMetBy_7 hown hK.1 hP 0 rfl rfl 0 (Nat.le_of_ble_eq_true rfl) (hts _ mX7_pairMetBy_28) (fun _ h9 => h9) rfl dX7_pairMetBy_10 ?_
  refine va_get (C := RX8) (T := TX8) (N := 4) (ci := 8) hx hb hts iX7_pairMetBy_8 hown hK.1 hP 1 rfl rfl 0 (Nat.le_of_ble_eq_true rfl) (hts _ mX7_pairMetBy_47) (fun _ h9 => h9) rfl dX7_pairMetBy_13 ?_
  refine lv_iload_n hx hb dX7_pairMetBy_16 rfl (lv_at hl 2 rfl) ?_
  refine k_iald hx hb hK.1 hP 2 0 rfl rfl (by omega) (by decide) dX7_pairMetBy_17 ?_
  refine k_topN (hmb c hc24) ?_
  refine k_ior hx hb dX7_pairMetBy_18 ?_
  exact hret _ _ _ _ _ () dX7_pairMetBy_19 (rfl) hP hD hS

theorem hdX7_pairMetBy : yX7_pairMetBy.cls = RX7 ∧ yX7_pairMetBy.cls ≠ "java/lang/invoke/MethodHandle" ∧ yX7_pairMetBy.cls ≠ "java/lang/invoke/VarHandle" ∧ (parseMethodDescriptor yX7_pairMetBy.desc).map (fun d => d.parameters.length) = some 2 := by decide +kernel
theorem hdX7_explains : yX7_explains.cls = RX7 ∧ yX7_explains.cls ≠ "java/lang/invoke/MethodHandle" ∧ yX7_explains.cls ≠ "java/lang/invoke/VarHandle" ∧ (parseMethodDescriptor yX7_explains.desc).map (fun d => d.parameters.length) = some 1 := by decide +kernel
abbrev rCX7_noPairExplains : Room := { frames := 1, cells := 0, slots := 0, locals := 22 }
set_option maxHeartbeats 4000000 in
set_option maxRecDepth 100000 in
theorem CX7_noPairExplains (jl : Launch) (G : va_G) (cI cZ cJ : ClassId) (ve m0 fa pa cu : Nat) (mb : Fn) (sp s1 s2 s3 sz ln : Nat) (X : Nat → Nat) (hmb : ∀ i, i < 24 → mb i = nI (X i)) (hX : ∀ i, X i < 4096) (hfa : fa < 4096) (a b c : Nat) (ha24 : a < 24) (hb24 : b < 24) (hc24 : c < 24) : Ki jl yX7_noPairExplains wsX7_noPairExplains rCX7_noPairExplains G cI cZ cJ [.ref sp, .int (nI a), .int (nI b), .int (nI c)] [oB sp 7 [.ref ve, .ref s1, .ref s2, .ref s3, .int (nI sz), .int (nI ln)], oB ve 8 [.ref m0, .int (nI fa), .int (nI pa), .int (nI cu)], aI cI m0 24 mb] (S := Unit) (fun (r : Int32) (_ : Unit) => r = bI (nPE X fa a b c)) (fun (_ : Unit) => [oB sp 7 [.ref ve, .ref s1, .ref s2, .ref s3, .int (nI sz), .int (nI ln)], oB ve 8 [.ref m0, .int (nI fa), .int (nI pa), .int (nI cu)], aI cI m0 24 mb]) := by
  refine Ki.ofZ (cc := cX7_noPairExplains) (maxL := 4) (by decide +kernel) rfl (Nat.le_of_ble_eq_true rfl) ?_
  intro jp je js jm ja jb jt jc jA jQ ls cx hnm hP hD hS hl hret
  obtain ⟨hx, hb, hml, hown, hts, hK, hA⟩ := id cx
  have hl : lv_has ls 4 [(0, .ref sp), (1, .int (nI a)), (2, .int (nI b)), (3, .int (nI c))] := hl
  obtain ⟨H, hH⟩ : ∃ H, H = js.heap := ⟨_, rfl⟩
  obtain ⟨locs, hlocs⟩ : ∃ z : List Loc, z = [] := ⟨_, rfl⟩
  have hP : va_P G vwCl [oB sp 7 [.ref ve, .ref s1, .ref s2, .ref s3, .int (nI sz), .int (nI ln)], oB ve 8 [.ref m0, .int (nI fa), .int (nI pa), .int (nI cu)], aI cI m0 24 mb] H := by rw [hH]; exact hP
  have hS : va_S jA js.heap H locs := by rw [hH, hlocs]; exact hS
  rw [← hlocs]; rw [show W jp jl je rCX7_noPairExplains js jm ja jb jt jc js.heap locs 0 0 jQ (F0 jm 0 ls []) = W jp jl je rCX7_noPairExplains js jm ja jb jt jc H locs 0 0 jQ (F0 jm 0 ls []) by rw [hH]]
  clear hH hlocs
  refine lv_aload_n hx hb dX7_noPairExplains_0 rfl (lv_at hl 0 rfl) ?_
  refine lv_aload_n hx hb dX7_noPairExplains_1 rfl (lv_at hl 0 rfl) ?_
  refine lv_iload_n hx hb dX7_noPairExplains_2 rfl (lv_at hl 1 rfl) ?_
  refine lv_iload_n hx hb dX7_noPairExplains_3 rfl (lv_at hl 2 rfl) ?_
  refine Ki.callV (wr := []) (rest := [.ref sp]) (CX7_pairMetBy jl G cI cZ cJ ve m0 fa pa cu mb sp s1 s2 s3 sz ln X hmb a b ha24 hb24) cx hP hD hS hl [0, 1, 2] [] (ci := 7) (q0 := 0) gX7_noPairExplains_X7_pairMetBy hdX7_pairMetBy rfl rfl rfl ⟨Nat.le_of_ble_eq_true rfl, Nat.le_of_ble_eq_true rfl⟩ rfl rfl (by decide) (by decide) (by decide) dX7_noPairExplains_4 rfl rfl (Nat.le_of_ble_eq_true rfl) ⟨Nat.le_of_ble_eq_true rfl, Nat.le_of_ble_eq_true rfl⟩ (fun r_1 u H locs hw_2 hP hD hS => ?_)
  have hP : va_P G vwCl [oB sp 7 [.ref ve, .ref s1, .ref s2, .ref s3, .int (nI sz), .int (nI ln)], oB ve 8 [.ref m0, .int (nI fa), .int (nI pa), .int (nI cu)], aI cI m0 24 mb] H := hP
  have hD : va_D jA [oB sp 7 [.ref ve, .ref s1, .ref s2, .ref s3, .int (nI sz), .int (nI ln)], oB ve 8 [.ref m0, .int (nI fa), .int (nI pa), .int (nI cu)], aI cI m0 24 mb] := hD
  subst hw_2
  refine Ki.callV (wr := [aI cI m0 24 mb]) (rest := []) (CX7_explains jl G cI cZ cJ ve m0 fa pa cu sp s1 s2 s3 sz ln (X a ||| X b) (or_lt12 (hX _) (hX _)) hfa) cx hP hD hS hl [0, 1] [2] (ci := 7) (q0 := 0) gX7_noPairExplains_X7_explains hdX7_explains rfl rfl rfl ⟨Nat.le_of_ble_eq_true rfl, Nat.le_of_ble_eq_true rfl⟩ rfl rfl (by decide) (by decide) (by decide) dX7_noPairExplains_7 rfl rfl (Nat.le_of_ble_eq_true rfl) ⟨Nat.le_of_ble_eq_true rfl, Nat.le_of_ble_eq_true rfl⟩ (fun r_3 u H locs hw_4 hP hD hS => ?_)
  have hP : va_P G vwCl [aI cI m0 24 mb, oB sp 7 [.ref ve, .ref s1, .ref s2, .ref s3, .int (nI sz), .int (nI ln)], oB ve 8 [.ref m0, .int (nI fa), .int (nI pa), .int (nI cu)]] H := hP
  have hD : va_D jA [aI cI m0 24 mb, oB sp 7 [.ref ve, .ref s1, .ref s2, .ref s3, .int (nI sz), .int (nI ln)], oB ve 8 [.ref m0, .int (nI fa), .int (nI pa), .int (nI cu)]] := hD
  rcases Bool.eq_false_or_eq_true (exN (X a ||| X b) fa) with q1 | q1
  · skip
    rw [q1] at hw_4
    subst hw_4
    refine k_if_ne_t (tgt := 43) hx hb dX7_noPairExplains_10 (by decide) (by decide) ?_
    refine lv_iconst (v := nI 0) hx hb dX7_noPairExplains_43 (by decide) ?_
    obtain ⟨hP, hD⟩ := k_sub (w' := [oB sp 7 [.ref ve, .ref s1, .ref s2, .ref s3, .int (nI sz), .int (nI ln)], oB ve 8 [.ref m0, .int (nI fa), .int (nI pa), .int (nI cu)], aI cI m0 24 mb]) hP hD [1, 2, 0] rfl (by decide)
    exact hret _ _ _ _ _ () dX7_noPairExplains_44 (by decide) (by unfold nPE; rw [q1]; rfl) hP hD hS
  · skip
    rw [q1] at hw_4
    subst hw_4
    refine k_if_ne_f (tgt := 43) hx hb dX7_noPairExplains_10 (by decide) (by decide) ?_
    refine lv_aload_n hx hb dX7_noPairExplains_13 rfl (lv_at hl 0 rfl) ?_
    refine lv_aload_n hx hb dX7_noPairExplains_14 rfl (lv_at hl 0 rfl) ?_
    refine lv_iload_n hx hb dX7_noPairExplains_15 rfl (lv_at hl 1 rfl) ?_
    refine lv_iload_n hx hb dX7_noPairExplains_16 rfl (lv_at hl 3 rfl) ?_
    refine Ki.callV (wr := []) (rest := [.ref sp]) (CX7_pairMetBy jl G cI cZ cJ ve m0 fa pa cu mb sp s1 s2 s3 sz ln X hmb a c ha24 hc24) cx hP hD hS hl [1, 2, 0] [] (ci := 7) (q0 := 0) gX7_noPairExplains_X7_pairMetBy hdX7_pairMetBy rfl rfl rfl ⟨Nat.le_of_ble_eq_true rfl, Nat.le_of_ble_eq_true rfl⟩ rfl rfl (by decide) (by decide) (by decide) dX7_noPairExplains_17 rfl rfl (Nat.le_of_ble_eq_true rfl) ⟨Nat.le_of_ble_eq_true rfl, Nat.le_of_ble_eq_true rfl⟩ (fun r_7 u H locs hw_8 hP hD hS => ?_)
    have hP : va_P G vwCl [oB sp 7 [.ref ve, .ref s1, .ref s2, .ref s3, .int (nI sz), .int (nI ln)], oB ve 8 [.ref m0, .int (nI fa), .int (nI pa), .int (nI cu)], aI cI m0 24 mb] H := hP
    have hD : va_D jA [oB sp 7 [.ref ve, .ref s1, .ref s2, .ref s3, .int (nI sz), .int (nI ln)], oB ve 8 [.ref m0, .int (nI fa), .int (nI pa), .int (nI cu)], aI cI m0 24 mb] := hD
    subst hw_8
    refine Ki.callV (wr := [aI cI m0 24 mb]) (rest := []) (CX7_explains jl G cI cZ cJ ve m0 fa pa cu sp s1 s2 s3 sz ln (X a ||| X c) (or_lt12 (hX _) (hX _)) hfa) cx hP hD hS hl [0, 1] [2] (ci := 7) (q0 := 0) gX7_noPairExplains_X7_explains hdX7_explains rfl rfl rfl ⟨Nat.le_of_ble_eq_true rfl, Nat.le_of_ble_eq_true rfl⟩ rfl rfl (by decide) (by decide) (by decide) dX7_noPairExplains_20 rfl rfl (Nat.le_of_ble_eq_true rfl) ⟨Nat.le_of_ble_eq_true rfl, Nat.le_of_ble_eq_true rfl⟩ (fun r_9 u H locs hw_10 hP hD hS => ?_)
    have hP : va_P G vwCl [aI cI m0 24 mb, oB sp 7 [.ref ve, .ref s1, .ref s2, .ref s3, .int (nI sz), .int (nI ln)], oB ve 8 [.ref m0, .int (nI fa), .int (nI pa), .int (nI cu)]] H := hP
    have hD : va_D jA [aI cI m0 24 mb, oB sp 7 [.ref ve, .ref s1, .ref s2, .ref s3, .int (nI sz), .int (nI ln)], oB ve 8 [.ref m0, .int (nI fa), .int (nI pa), .int (nI cu)]] := hD
    rcases Bool.eq_false_or_eq_true (exN (X a ||| X c) fa) with q2 | q2
    · skip
      rw [q2] at hw_10
      subst hw_10
      refine k_if_ne_t (tgt := 43) hx hb dX7_noPairExplains_23 (by decide) (by decide) ?_
      refine lv_iconst (v := nI 0) hx hb dX7_noPairExplains_43 (by decide) ?_
      obtain ⟨hP, hD⟩ := k_sub (w' := [oB sp 7 [.ref ve, .ref s1, .ref s2, .ref s3, .int (nI sz), .int (nI ln)], oB ve 8 [.ref m0, .int (nI fa), .int (nI pa), .int (nI cu)], aI cI m0 24 mb]) hP hD [1, 2, 0] rfl (by decide)
      exact hret _ _ _ _ _ () dX7_noPairExplains_44 (by decide) (by unfold nPE; rw [q1, q2]; rfl) hP hD hS
    · skip
      rw [q2] at hw_10
      subst hw_10
      refine k_if_ne_f (tgt := 43) hx hb dX7_noPairExplains_23 (by decide) (by decide) ?_
      refine lv_aload_n hx hb dX7_noPairExplains_26 rfl (lv_at hl 0 rfl) ?_
      refine lv_aload_n hx hb dX7_noPairExplains_27 rfl (lv_at hl 0 rfl) ?_
      refine lv_iload_n hx hb dX7_noPairExplains_28 rfl (lv_at hl 2 rfl) ?_
      refine lv_iload_n hx hb dX7_noPairExplains_29 rfl (lv_at hl 3 rfl) ?_
      refine Ki.callV (wr := []) (rest := [.ref sp]) (CX7_pairMetBy jl G cI cZ cJ ve m0 fa pa cu mb sp s1 s2 s3 sz ln X hmb b c hb24 hc24) cx hP hD hS hl [1, 2, 0] [] (ci := 7) (q0 := 0) gX7_noPairExplains_X7_pairMetBy hdX7_pairMetBy rfl rfl rfl ⟨Nat.le_of_ble_eq_true rfl, Nat.le_of_ble_eq_true rfl⟩ rfl rfl (by decide) (by decide) (by decide) dX7_noPairExplains_30 rfl rfl (Nat.le_of_ble_eq_true rfl) ⟨Nat.le_of_ble_eq_true rfl, Nat.le_of_ble_eq_true rfl⟩ (fun r_13 u H locs hw_14 hP hD hS => ?_)
      have hP : va_P G vwCl [oB sp 7 [.ref ve, .ref s1, .ref s2, .ref s3, .int (nI sz), .int (nI ln)], oB ve 8 [.ref m0, .int (nI fa), .int (nI pa), .int (nI cu)], aI cI m0 24 mb] H := hP
      have hD : va_D jA [oB sp 7 [.ref ve, .ref s1, .ref s2, .ref s3, .int (nI sz), .int (nI ln)], oB ve 8 [.ref m0, .int (nI fa), .int (nI pa), .int (nI cu)], aI cI m0 24 mb] := hD
      subst hw_14
      refine Ki.callV (wr := [aI cI m0 24 mb]) (rest := []) (CX7_explains jl G cI cZ cJ ve m0 fa pa cu sp s1 s2 s3 sz ln (X b ||| X c) (or_lt12 (hX _) (hX _)) hfa) cx hP hD hS hl [0, 1] [2] (ci := 7) (q0 := 0) gX7_noPairExplains_X7_explains hdX7_explains rfl rfl rfl ⟨Nat.le_of_ble_eq_true rfl, Nat.le_of_ble_eq_true rfl⟩ rfl rfl (by decide) (by decide) (by decide) dX7_noPairExplains_33 rfl rfl (Nat.le_of_ble_eq_true rfl) ⟨Nat.le_of_ble_eq_true rfl, Nat.le_of_ble_eq_true rfl⟩ (fun r_15 u H locs hw_16 hP hD hS => ?_)
      have hP : va_P G vwCl [aI cI m0 24 mb, oB sp 7 [.ref ve, .ref s1, .ref s2, .ref s3, .int (nI sz), .int (nI ln)], oB ve 8 [.ref m0, .int (nI fa), .int (nI pa), .int (nI cu)]] H := hP
      have hD : va_D jA [aI cI m0 24 mb, oB sp 7 [.ref ve, .ref s1, .ref s2, .ref s3, .int (nI sz), .int (nI ln)], oB ve 8 [.ref m0, .int (nI fa), .int (nI pa), .int (nI cu)]] := hD
      rcases Bool.eq_false_or_eq_true (exN (X b ||| X c) fa) with q3 | q3
      · skip
        rw [q3] at hw_16
        subst hw_16
        refine k_if_ne_t (tgt := 43) hx hb dX7_noPairExplains_36 (by decide) (by decide) ?_
        refine lv_iconst (v := nI 0) hx hb dX7_noPairExplains_43 (by decide) ?_
        obtain ⟨hP, hD⟩ := k_sub (w' := [oB sp 7 [.ref ve, .ref s1, .ref s2, .ref s3, .int (nI sz), .int (nI ln)], oB ve 8 [.ref m0, .int (nI fa), .int (nI pa), .int (nI cu)], aI cI m0 24 mb]) hP hD [1, 2, 0] rfl (by decide)
        exact hret _ _ _ _ _ () dX7_noPairExplains_44 (by decide) (by unfold nPE; rw [q1, q2, q3]; rfl) hP hD hS
      · skip
        rw [q3] at hw_16
        subst hw_16
        refine k_if_ne_f (tgt := 43) hx hb dX7_noPairExplains_36 (by decide) (by decide) ?_
        refine lv_iconst (v := nI 1) hx hb dX7_noPairExplains_39 (by decide) ?_
        refine lv_goto (tgt := 44) hx hb dX7_noPairExplains_40 (by decide) ?_
        obtain ⟨hP, hD⟩ := k_sub (w' := [oB sp 7 [.ref ve, .ref s1, .ref s2, .ref s3, .int (nI sz), .int (nI ln)], oB ve 8 [.ref m0, .int (nI fa), .int (nI pa), .int (nI cu)], aI cI m0 24 mb]) hP hD [1, 2, 0] rfl (by decide)
        exact hret _ _ _ _ _ () dX7_noPairExplains_44 (by decide) (by unfold nPE; rw [q1, q2, q3]; rfl) hP hD hS

theorem iX7_keep_7 : ∀ w ∈ wsX70, w ∈ wsX7_keep := by decide +kernel
theorem mX7_keep_9 : Cond.fieldLink RX7 9 "LineFinder$Suspicion" "sets" "[I" ∈ wsX7_keep := List.mem_of_getElem? (i := 2) rfl
theorem mX7_keep_15 : Cond.fieldLink RX7 15 "LineFinder$Suspicion" "setMetBy" "[I" ∈ wsX7_keep := List.mem_of_getElem? (i := 3) rfl
theorem mX7_keep_21 : Cond.fieldLink RX7 21 "LineFinder$Suspicion" "size" "I" ∈ wsX7_keep := List.mem_of_getElem? (i := 1) rfl
abbrev rCX7_keep : Room := { frames := 0, cells := 0, slots := 0, locals := 0 }
set_option maxHeartbeats 4000000 in
set_option maxRecDepth 100000 in
theorem CX7_keep (jl : Launch) (G : va_G) (cI cZ cJ : ClassId) (ve : Nat) (sp s1 s2 s3 sz ln : Nat) (se sm pr : Fn) (hsz : sz < 2324) (x y : Nat) : Kv jl yX7_keep wsX7_keep rCX7_keep G cI cZ cJ [.ref sp, .int (nI x), .int (nI y)] [oB sp 7 [.ref ve, .ref s1, .ref s2, .ref s3, .int (nI sz), .int (nI ln)], aI cI s1 2324 se, aI cI s2 2324 sm, aI cI s3 24 pr] (S := Unit) (fun (_ : Unit) => True) (fun (_ : Unit) => [oB sp 7 [.ref ve, .ref s1, .ref s2, .ref s3, .int (nI (sz + 1)), .int (nI ln)], aI cI s1 2324 (upd se sz (nI x)), aI cI s2 2324 (upd sm sz (nI y)), aI cI s3 24 pr]) := by
  refine Kv.of (cc := cX7_keep) (maxL := 3) (by decide +kernel) rfl (Nat.le_of_ble_eq_true rfl) ?_
  intro jp je js jm ja jb jt jc jA jQ ls cx hnm hP hD hS hl hret
  obtain ⟨hx, hb, hml, hown, hts, hK, hA⟩ := id cx
  have hl : lv_has ls 3 [(0, .ref sp), (1, .int (nI x)), (2, .int (nI y))] := hl
  obtain ⟨H, hH⟩ : ∃ H, H = js.heap := ⟨_, rfl⟩
  obtain ⟨locs, hlocs⟩ : ∃ z : List Loc, z = [] := ⟨_, rfl⟩
  have hP : va_P G vwCl [oB sp 7 [.ref ve, .ref s1, .ref s2, .ref s3, .int (nI sz), .int (nI ln)], aI cI s1 2324 se, aI cI s2 2324 sm, aI cI s3 24 pr] H := by rw [hH]; exact hP
  have hS : va_S jA js.heap H locs := by rw [hH, hlocs]; exact hS
  rw [← hlocs]; rw [show W jp jl je rCX7_keep js jm ja jb jt jc js.heap locs 0 0 jQ (F0 jm 0 ls []) = W jp jl je rCX7_keep js jm ja jb jt jc H locs 0 0 jQ (F0 jm 0 ls []) by rw [hH]]
  clear hH hlocs
  refine lv_aload_n hx hb dX7_keep_0 rfl (lv_at hl 0 rfl) ?_
  refine va_get (C := RX7) (T := TX7) (N := 6) (ci := 7) hx hb hts iX7_keep_7 hown hK.1 hP 0 rfl rfl 4 (Nat.le_of_ble_eq_true rfl) (hts _ mX7_keep_21) (fun _ h9 => h9) rfl dX7_keep_1 ?_
  refine lv_sipush (v := nI 2324) hx hb dX7_keep_4 (by decide) ?_
  refine k_cmp_ge (tgt := 40) hx hb dX7_keep_7 (by decide) (by omega) (by omega) (fun c_1 => ?_) (fun c_1 => ?_)
  · skip
    exact absurd c_1 (by omega)
  · skip
    refine lv_aload_n hx hb dX7_keep_10 rfl (lv_at hl 0 rfl) ?_
    refine va_get (C := RX7) (T := TX7) (N := 6) (ci := 7) hx hb hts iX7_keep_7 hown hK.1 hP 0 rfl rfl 1 (Nat.le_of_ble_eq_true rfl) (hts _ mX7_keep_9) (fun _ h9 => h9) rfl dX7_keep_11 ?_
    refine lv_aload_n hx hb dX7_keep_14 rfl (lv_at hl 0 rfl) ?_
    refine va_get (C := RX7) (T := TX7) (N := 6) (ci := 7) hx hb hts iX7_keep_7 hown hK.1 hP 0 rfl rfl 4 (Nat.le_of_ble_eq_true rfl) (hts _ mX7_keep_21) (fun _ h9 => h9) rfl dX7_keep_15 ?_
    refine lv_iload_n hx hb dX7_keep_18 rfl (lv_at hl 1 rfl) ?_
    refine k_iast hx hb hK.1 hP hD hS 1 0 rfl rfl (by omega) (by decide) dX7_keep_19 (fun H locs hP hD hS => ?_)
    have hP : va_P G vwCl [oB sp 7 [.ref ve, .ref s1, .ref s2, .ref s3, .int (nI sz), .int (nI ln)], aI cI s1 2324 (upd se sz (nI x)), aI cI s2 2324 sm, aI cI s3 24 pr] H := hP
    have hD : va_D jA [oB sp 7 [.ref ve, .ref s1, .ref s2, .ref s3, .int (nI sz), .int (nI ln)], aI cI s1 2324 (upd se sz (nI x)), aI cI s2 2324 sm, aI cI s3 24 pr] := hD
    refine lv_aload_n hx hb dX7_keep_20 rfl (lv_at hl 0 rfl) ?_
    refine va_get (C := RX7) (T := TX7) (N := 6) (ci := 7) hx hb hts iX7_keep_7 hown hK.1 hP 0 rfl rfl 2 (Nat.le_of_ble_eq_true rfl) (hts _ mX7_keep_15) (fun _ h9 => h9) rfl dX7_keep_21 ?_
    refine lv_aload_n hx hb dX7_keep_24 rfl (lv_at hl 0 rfl) ?_
    refine va_get (C := RX7) (T := TX7) (N := 6) (ci := 7) hx hb hts iX7_keep_7 hown hK.1 hP 0 rfl rfl 4 (Nat.le_of_ble_eq_true rfl) (hts _ mX7_keep_21) (fun _ h9 => h9) rfl dX7_keep_25 ?_
    refine lv_iload_n hx hb dX7_keep_28 rfl (lv_at hl 2 rfl) ?_
    refine k_iast hx hb hK.1 hP hD hS 2 0 rfl rfl (by omega) (by decide) dX7_keep_29 (fun H locs hP hD hS => ?_)
    have hP : va_P G vwCl [oB sp 7 [.ref ve, .ref s1, .ref s2, .ref s3, .int (nI sz), .int (nI ln)], aI cI s1 2324 (upd se sz (nI x)), aI cI s2 2324 (upd sm sz (nI y)), aI cI s3 24 pr] H := hP
    have hD : va_D jA [oB sp 7 [.ref ve, .ref s1, .ref s2, .ref s3, .int (nI sz), .int (nI ln)], aI cI s1 2324 (upd se sz (nI x)), aI cI s2 2324 (upd sm sz (nI y)), aI cI s3 24 pr] := hD
    refine lv_aload_n hx hb dX7_keep_30 rfl (lv_at hl 0 rfl) ?_
    refine lv_dup hx hb dX7_keep_31 rfl ?_
    refine va_get (C := RX7) (T := TX7) (N := 6) (ci := 7) hx hb hts iX7_keep_7 hown hK.1 hP 0 rfl rfl 4 (Nat.le_of_ble_eq_true rfl) (hts _ mX7_keep_21) (fun _ h9 => h9) rfl dX7_keep_32 ?_
    refine lv_iconst (v := nI 1) hx hb dX7_keep_35 (by decide) ?_
    refine k_iadd hx hb dX7_keep_36 ?_
    refine va_put (C := RX7) (T := TX7) (N := 6) (ci := 7) (v := .int (nI (sz + 1))) (ty := tyX7 4) hx hb hts iX7_keep_7 tyX7 tyX7_ok nmX7 hown hK.1 hP hD hS 0 rfl rfl 4 (Nat.le_of_ble_eq_true rfl) (hts _ mX7_keep_21) (fun _ h9 => h9) rfl (tyX7_ok 4 (Nat.le_of_ble_eq_true rfl)) (rfl) (rfl) (Nat.le_of_ble_eq_true rfl) dX7_keep_37 (fun H locs hP hD hS => ?_)
    have hP : va_P G vwCl [oB sp 7 [.ref ve, .ref s1, .ref s2, .ref s3, .int (nI (sz + 1)), .int (nI ln)], aI cI s1 2324 (upd se sz (nI x)), aI cI s2 2324 (upd sm sz (nI y)), aI cI s3 24 pr] H := hP
    have hD : va_D jA [oB sp 7 [.ref ve, .ref s1, .ref s2, .ref s3, .int (nI (sz + 1)), .int (nI ln)], aI cI s1 2324 (upd se sz (nI x)), aI cI s2 2324 (upd sm sz (nI y)), aI cI s3 24 pr] := hD
    exact hret _ _ _ _ () dX7_keep_40 (trivial) hP hD hS

theorem iX7_gatherSingle_7 : ∀ w ∈ wsX70, w ∈ wsX7_gatherSingle := by decide +kernel
theorem iX7_gatherSingle_8 : ∀ w ∈ wsX80, w ∈ wsX7_gatherSingle := by decide +kernel
theorem mX7_gatherSingle_28 : Cond.fieldLink RX7 28 "LineFinder$Suspicion" "verdicts" "LLineFinder$Verdicts;" ∈ wsX7_gatherSingle := List.mem_of_getElem? (i := 1) rfl
theorem mX7_gatherSingle_47 : Cond.fieldLink RX7 47 "LineFinder$Verdicts" "metBy" "[I" ∈ wsX7_gatherSingle := List.mem_of_getElem? (i := 2) rfl
theorem hdX7_keep : yX7_keep.cls = RX7 ∧ yX7_keep.cls ≠ "java/lang/invoke/MethodHandle" ∧ yX7_keep.cls ≠ "java/lang/invoke/VarHandle" ∧ (parseMethodDescriptor yX7_keep.desc).map (fun d => d.parameters.length) = some 2 := by decide +kernel
abbrev rCX7_gatherSingle : Room := { frames := 1, cells := 0, slots := 0, locals := 22 }
set_option maxHeartbeats 4000000 in
set_option maxRecDepth 100000 in
theorem CX7_gatherSingle (jl : Launch) (G : va_G) (cI cZ cJ : ClassId) (ve m0 fa pa cu : Nat) (mb : Fn) (sp s1 s2 s3 sz ln : Nat) (se sm pr : Fn) (X : Nat → Nat) (hmb : ∀ i, i < 24 → mb i = nI (X i)) (hX : ∀ i, X i < 4096) (hfa : fa < 4096) (L : List (Nat × Nat)) (hsz : sz = L.length) (hSL : SL se sm L) (c : Nat) (hc24 : c < 24) (hrm : sz < 2324) : Kv jl yX7_gatherSingle wsX7_gatherSingle rCX7_gatherSingle G cI cZ cJ [.ref sp, .int (nI c)] [oB sp 7 [.ref ve, .ref s1, .ref s2, .ref s3, .int (nI sz), .int (nI ln)], aI cI s1 2324 se, aI cI s2 2324 sm, aI cI s3 24 pr, oB ve 8 [.ref m0, .int (nI fa), .int (nI pa), .int (nI cu)], aI cI m0 24 mb] (S := Nat × Fn × Fn) (fun (u : Nat × Fn × Fn) => match u with | (sz1, se1, sm1) => sz1 = (L ++ gS X fa c).length ∧ SL se1 sm1 (L ++ gS X fa c)) (fun (u : Nat × Fn × Fn) => match u with | (sz1, se1, sm1) => [oB sp 7 [.ref ve, .ref s1, .ref s2, .ref s3, .int (nI sz1), .int (nI ln)], aI cI s1 2324 se1, aI cI s2 2324 sm1, aI cI s3 24 pr, oB ve 8 [.ref m0, .int (nI fa), .int (nI pa), .int (nI cu)], aI cI m0 24 mb]) := by
  refine Kv.of (cc := cX7_gatherSingle) (maxL := 2) (by decide +kernel) rfl (Nat.le_of_ble_eq_true rfl) ?_
  intro jp je js jm ja jb jt jc jA jQ ls cx hnm hP hD hS hl hret
  obtain ⟨hx, hb, hml, hown, hts, hK, hA⟩ := id cx
  have hl : lv_has ls 2 [(0, .ref sp), (1, .int (nI c))] := hl
  obtain ⟨H, hH⟩ : ∃ H, H = js.heap := ⟨_, rfl⟩
  obtain ⟨locs, hlocs⟩ : ∃ z : List Loc, z = [] := ⟨_, rfl⟩
  have hP : va_P G vwCl [oB sp 7 [.ref ve, .ref s1, .ref s2, .ref s3, .int (nI sz), .int (nI ln)], aI cI s1 2324 se, aI cI s2 2324 sm, aI cI s3 24 pr, oB ve 8 [.ref m0, .int (nI fa), .int (nI pa), .int (nI cu)], aI cI m0 24 mb] H := by rw [hH]; exact hP
  have hS : va_S jA js.heap H locs := by rw [hH, hlocs]; exact hS
  rw [← hlocs]; rw [show W jp jl je rCX7_gatherSingle js jm ja jb jt jc js.heap locs 0 0 jQ (F0 jm 0 ls []) = W jp jl je rCX7_gatherSingle js jm ja jb jt jc H locs 0 0 jQ (F0 jm 0 ls []) by rw [hH]]
  clear hH hlocs
  refine lv_aload_n hx hb dX7_gatherSingle_0 rfl (lv_at hl 0 rfl) ?_
  refine lv_aload_n hx hb dX7_gatherSingle_1 rfl (lv_at hl 0 rfl) ?_
  refine va_get (C := RX7) (T := TX7) (N := 6) (ci := 7) hx hb hts iX7_gatherSingle_7 hown hK.1 hP 0 rfl rfl 0 (Nat.le_of_ble_eq_true rfl) (hts _ mX7_gatherSingle_28) (fun _ h9 => h9) rfl dX7_gatherSingle_2 ?_
  refine va_get (C := RX8) (T := TX8) (N := 4) (ci := 8) hx hb hts iX7_gatherSingle_8 hown hK.1 hP 4 rfl rfl 0 (Nat.le_of_ble_eq_true rfl) (hts _ mX7_gatherSingle_47) (fun _ h9 => h9) rfl dX7_gatherSingle_5 ?_
  refine lv_iload_n hx hb dX7_gatherSingle_8 rfl (lv_at hl 1 rfl) ?_
  refine k_iald hx hb hK.1 hP 5 0 rfl rfl (by omega) (by decide) dX7_gatherSingle_9 ?_
  refine k_topN (hmb c (hc24)) ?_
  refine Ki.callV (wr := [aI cI s1 2324 se, aI cI s2 2324 sm, aI cI s3 24 pr, aI cI m0 24 mb]) (rest := []) (CX7_explains jl G cI cZ cJ ve m0 fa pa cu sp s1 s2 s3 sz ln (X c) (hX _) hfa) cx hP hD hS hl [0, 4] [1, 2, 3, 5] (ci := 7) (q0 := 0) gX7_gatherSingle_X7_explains hdX7_explains rfl rfl rfl ⟨Nat.le_of_ble_eq_true rfl, Nat.le_of_ble_eq_true rfl⟩ rfl rfl (by decide) (by decide) (by decide) dX7_gatherSingle_10 rfl rfl (Nat.le_of_ble_eq_true rfl) ⟨Nat.le_of_ble_eq_true rfl, Nat.le_of_ble_eq_true rfl⟩ (fun r_1 u H locs hw_2 hP hD hS => ?_)
  have hP : va_P G vwCl [aI cI s1 2324 se, aI cI s2 2324 sm, aI cI s3 24 pr, aI cI m0 24 mb, oB sp 7 [.ref ve, .ref s1, .ref s2, .ref s3, .int (nI sz), .int (nI ln)], oB ve 8 [.ref m0, .int (nI fa), .int (nI pa), .int (nI cu)]] H := hP
  have hD : va_D jA [aI cI s1 2324 se, aI cI s2 2324 sm, aI cI s3 24 pr, aI cI m0 24 mb, oB sp 7 [.ref ve, .ref s1, .ref s2, .ref s3, .int (nI sz), .int (nI ln)], oB ve 8 [.ref m0, .int (nI fa), .int (nI pa), .int (nI cu)]] := hD
  rcases Bool.eq_false_or_eq_true (exN (X c) fa) with q1 | q1
  · skip
    rw [q1] at hw_2
    subst hw_2
    refine k_if_eq_f (tgt := 32) hx hb dX7_gatherSingle_13 (by decide) (by decide) ?_
    refine lv_aload_n hx hb dX7_gatherSingle_16 rfl (lv_at hl 0 rfl) ?_
    refine lv_iconst (v := nI 1) hx hb dX7_gatherSingle_17 (by decide) ?_
    refine lv_iload_n hx hb dX7_gatherSingle_18 rfl (lv_at hl 1 rfl) ?_
    refine k_ishl hx hb dX7_gatherSingle_19 (by omega) (by have := p2_31 (show c < 31 by omega); omega) ?_
    rw [Nat.one_mul]
    refine lv_aload_n hx hb dX7_gatherSingle_20 rfl (lv_at hl 0 rfl) ?_
    refine va_get (C := RX7) (T := TX7) (N := 6) (ci := 7) hx hb hts iX7_gatherSingle_7 hown hK.1 hP 4 rfl rfl 0 (Nat.le_of_ble_eq_true rfl) (hts _ mX7_gatherSingle_28) (fun _ h9 => h9) rfl dX7_gatherSingle_21 ?_
    refine va_get (C := RX8) (T := TX8) (N := 4) (ci := 8) hx hb hts iX7_gatherSingle_8 hown hK.1 hP 5 rfl rfl 0 (Nat.le_of_ble_eq_true rfl) (hts _ mX7_gatherSingle_47) (fun _ h9 => h9) rfl dX7_gatherSingle_24 ?_
    refine lv_iload_n hx hb dX7_gatherSingle_27 rfl (lv_at hl 1 rfl) ?_
    refine k_iald hx hb hK.1 hP 3 0 rfl rfl (by omega) (by decide) dX7_gatherSingle_28 ?_
    refine k_topN (hmb c (hc24)) ?_
    refine Kv.callV (wr := [aI cI m0 24 mb, oB ve 8 [.ref m0, .int (nI fa), .int (nI pa), .int (nI cu)]]) (rest := []) (CX7_keep jl G cI cZ cJ ve sp s1 s2 s3 sz ln se sm pr hrm (2 ^ c) (X c)) cx hP hD hS hl [4, 0, 1, 2] [3, 5] (ci := 7) (q0 := 0) gX7_gatherSingle_X7_keep hdX7_keep rfl rfl rfl ⟨Nat.le_of_ble_eq_true rfl, Nat.le_of_ble_eq_true rfl⟩ rfl rfl (by decide) (by decide) (by decide) dX7_gatherSingle_29 rfl rfl (Nat.le_of_ble_eq_true rfl) ⟨Nat.le_of_ble_eq_true rfl, Nat.le_of_ble_eq_true rfl⟩ (fun u H locs hw_5 hP hD hS => ?_)
    have hP : va_P G vwCl [aI cI m0 24 mb, oB ve 8 [.ref m0, .int (nI fa), .int (nI pa), .int (nI cu)], oB sp 7 [.ref ve, .ref s1, .ref s2, .ref s3, .int (nI (sz + 1)), .int (nI ln)], aI cI s1 2324 (upd se sz (nI (2 ^ c))), aI cI s2 2324 (upd sm sz (nI (X c))), aI cI s3 24 pr] H := hP
    have hD : va_D jA [aI cI m0 24 mb, oB ve 8 [.ref m0, .int (nI fa), .int (nI pa), .int (nI cu)], oB sp 7 [.ref ve, .ref s1, .ref s2, .ref s3, .int (nI (sz + 1)), .int (nI ln)], aI cI s1 2324 (upd se sz (nI (2 ^ c))), aI cI s2 2324 (upd sm sz (nI (X c))), aI cI s3 24 pr] := hD
    obtain ⟨hP, hD⟩ := k_sub (w' := [oB sp 7 [.ref ve, .ref s1, .ref s2, .ref s3, .int (nI (sz + 1)), .int (nI ln)], aI cI s1 2324 (upd se sz (nI (2 ^ c))), aI cI s2 2324 (upd sm sz (nI (X c))), aI cI s3 24 pr, oB ve 8 [.ref m0, .int (nI fa), .int (nI pa), .int (nI cu)], aI cI m0 24 mb]) hP hD [2, 3, 4, 5, 1, 0] rfl (by decide)
    exact hret _ _ _ _ (sz + 1, upd se sz (nI (2 ^ c)), upd sm sz (nI (X c))) dX7_gatherSingle_32 (by unfold gS; rw [if_pos q1]; exact ⟨by rw [List.length_append, ← hsz]; rfl, SL_push hsz hSL⟩) hP hD hS
  · skip
    rw [q1] at hw_2
    subst hw_2
    refine k_if_eq_t (tgt := 32) hx hb dX7_gatherSingle_13 (by decide) (by decide) ?_
    obtain ⟨hP, hD⟩ := k_sub (w' := [oB sp 7 [.ref ve, .ref s1, .ref s2, .ref s3, .int (nI sz), .int (nI ln)], aI cI s1 2324 se, aI cI s2 2324 sm, aI cI s3 24 pr, oB ve 8 [.ref m0, .int (nI fa), .int (nI pa), .int (nI cu)], aI cI m0 24 mb]) hP hD [4, 0, 1, 2, 5, 3] rfl (by decide)
    exact hret _ _ _ _ (sz, se, sm) dX7_gatherSingle_32 (by unfold gS; rw [if_neg (by rw [q1]; decide), List.append_nil]; exact ⟨hsz, hSL⟩) hP hD hS

theorem iX7_gatherPairs_7 : ∀ w ∈ wsX70, w ∈ wsX7_gatherPairs := by decide +kernel
theorem iX7_gatherPairs_8 : ∀ w ∈ wsX80, w ∈ wsX7_gatherPairs := by decide +kernel
theorem mX7_gatherPairs_28 : Cond.fieldLink RX7 28 "LineFinder$Suspicion" "verdicts" "LLineFinder$Verdicts;" ∈ wsX7_gatherPairs := List.mem_of_getElem? (i := 1) rfl
theorem mX7_gatherPairs_47 : Cond.fieldLink RX7 47 "LineFinder$Verdicts" "metBy" "[I" ∈ wsX7_gatherPairs := List.mem_of_getElem? (i := 2) rfl
abbrev rCX7_gatherPairs : Room := { frames := 1, cells := 0, slots := 0, locals := 22 }
set_option maxHeartbeats 4000000 in
set_option maxRecDepth 100000 in
theorem CX7_gatherPairs (jl : Launch) (G : va_G) (cI cZ cJ : ClassId) (ve m0 fa pa cu : Nat) (mb : Fn) (sp s1 s2 s3 sz ln : Nat) (se sm pr : Fn) (X : Nat → Nat) (hmb : ∀ i, i < 24 → mb i = nI (X i)) (hX : ∀ i, X i < 4096) (hfa : fa < 4096) (L : List (Nat × Nat)) (hsz : sz = L.length) (hSL : SL se sm L) (c : Nat) (hc24 : c < 24) (hrm : sz + c ≤ 2324) : Kv jl yX7_gatherPairs wsX7_gatherPairs rCX7_gatherPairs G cI cZ cJ [.ref sp, .int (nI c)] [oB sp 7 [.ref ve, .ref s1, .ref s2, .ref s3, .int (nI sz), .int (nI ln)], aI cI s1 2324 se, aI cI s2 2324 sm, aI cI s3 24 pr, oB ve 8 [.ref m0, .int (nI fa), .int (nI pa), .int (nI cu)], aI cI m0 24 mb] (S := Nat × Fn × Fn) (fun (u : Nat × Fn × Fn) => match u with | (sz1, se1, sm1) => sz1 = (L ++ sPs X fa c).length ∧ SL se1 sm1 (L ++ sPs X fa c)) (fun (u : Nat × Fn × Fn) => match u with | (sz1, se1, sm1) => [oB sp 7 [.ref ve, .ref s1, .ref s2, .ref s3, .int (nI sz1), .int (nI ln)], aI cI s1 2324 se1, aI cI s2 2324 sm1, aI cI s3 24 pr, oB ve 8 [.ref m0, .int (nI fa), .int (nI pa), .int (nI cu)], aI cI m0 24 mb]) := by
  refine Kv.of (cc := cX7_gatherPairs) (maxL := 4) (by decide +kernel) rfl (Nat.le_of_ble_eq_true rfl) ?_
  intro jp je js jm ja jb jt jc jA jQ ls cx hnm hP hD hS hl hret
  obtain ⟨hx, hb, hml, hown, hts, hK, hA⟩ := id cx
  have hl : lv_has ls 4 [(0, .ref sp), (1, .int (nI c))] := hl
  obtain ⟨H, hH⟩ : ∃ H, H = js.heap := ⟨_, rfl⟩
  obtain ⟨locs, hlocs⟩ : ∃ z : List Loc, z = [] := ⟨_, rfl⟩
  have hP : va_P G vwCl [oB sp 7 [.ref ve, .ref s1, .ref s2, .ref s3, .int (nI sz), .int (nI ln)], aI cI s1 2324 se, aI cI s2 2324 sm, aI cI s3 24 pr, oB ve 8 [.ref m0, .int (nI fa), .int (nI pa), .int (nI cu)], aI cI m0 24 mb] H := by rw [hH]; exact hP
  have hS : va_S jA js.heap H locs := by rw [hH, hlocs]; exact hS
  rw [← hlocs]; rw [show W jp jl je rCX7_gatherPairs js jm ja jb jt jc js.heap locs 0 0 jQ (F0 jm 0 ls []) = W jp jl je rCX7_gatherPairs js jm ja jb jt jc H locs 0 0 jQ (F0 jm 0 ls []) by rw [hH]]
  clear hH hlocs
  refine lv_iconst (v := nI 0) hx hb dX7_gatherPairs_0 (by decide) ?_
  refine lv_istore_n (lv' := [(2, .int (nI 0)), (0, .ref sp), (1, .int (nI c))]) hx hb dX7_gatherPairs_1 rfl hl (by decide) rfl (fun ls hl => ?_)
  have L2 : ∀ (fu : Nat), ∀ (b : Nat), ∀ (sz2 : Nat), ∀ (se2 : Fn), ∀ (sm2 : Fn), (c < b + fu) → (b ≤ c) → (sz2 = (L ++ fm (gP X fa c) b).length) → (SL se2 sm2 (L ++ fm (gP X fa c) b)) → ∀ (H : Heap) (locs : List Loc) (ls : Array Slot), va_P G vwCl [oB sp 7 [.ref ve, .ref s1, .ref s2, .ref s3, .int (nI sz2), .int (nI ln)], aI cI s1 2324 se2, aI cI s2 2324 sm2, aI cI s3 24 pr, oB ve 8 [.ref m0, .int (nI fa), .int (nI pa), .int (nI cu)], aI cI m0 24 mb] H → va_D jA [oB sp 7 [.ref ve, .ref s1, .ref s2, .ref s3, .int (nI sz2), .int (nI ln)], aI cI s1 2324 se2, aI cI s2 2324 sm2, aI cI s3 24 pr, oB ve 8 [.ref m0, .int (nI fa), .int (nI pa), .int (nI cu)], aI cI m0 24 mb] → va_S jA js.heap H locs → lv_has ls 4 [(0, .ref sp), (1, .int (nI c)), (2, .int (nI b))] → W jp jl je rCX7_gatherPairs js jm ja jb jt jc H locs 0 0 jQ (F0 jm 2 ls []) := by
    intro fu
    induction fu with
    | zero =>
      intro b sz2 se2 sm2 hfu hb_ hz2 hs2 H locs ls hP hD hS hl
      exact absurd hfu (by omega)
    | succ fu ih2 =>
      intro b sz2 se2 sm2 hfu hb_ hz2 hs2 H locs ls hP hD hS hl
      have hlen : (L ++ fm (gP X fa c) b).length ≤ L.length + b := by rw [List.length_append]; have := fm1_len (gP_len X fa c) b; omega
      refine lv_iload_n hx hb dX7_gatherPairs_2 rfl (lv_at hl 2 rfl) ?_
      refine lv_iload_n hx hb dX7_gatherPairs_3 rfl (lv_at hl 1 rfl) ?_
      refine k_cmp_ge (tgt := 72) hx hb dX7_gatherPairs_4 (by decide) (by omega) (by omega) (fun c_1 => ?_) (fun c_1 => ?_)
      · skip
        have hbe : b = c := by omega
        subst hbe
        exact hret _ _ _ _ (sz2, se2, sm2) dX7_gatherPairs_72 (⟨hz2, hs2⟩) hP hD hS
      · skip
        refine lv_aload_n hx hb dX7_gatherPairs_7 rfl (lv_at hl 0 rfl) ?_
        refine lv_iload_n hx hb dX7_gatherPairs_8 rfl (lv_at hl 2 rfl) ?_
        refine lv_iload_n hx hb dX7_gatherPairs_9 rfl (lv_at hl 1 rfl) ?_
        refine Ki.callV (wr := [aI cI s1 2324 se2, aI cI s2 2324 sm2, aI cI s3 24 pr]) (rest := []) (CX7_pairMetBy jl G cI cZ cJ ve m0 fa pa cu mb sp s1 s2 s3 sz2 ln X hmb b c (by omega) hc24) cx hP hD hS hl [0, 4, 5] [1, 2, 3] (ci := 7) (q0 := 0) gX7_gatherPairs_X7_pairMetBy hdX7_pairMetBy rfl rfl rfl ⟨Nat.le_of_ble_eq_true rfl, Nat.le_of_ble_eq_true rfl⟩ rfl rfl (by decide) (by decide) (by decide) dX7_gatherPairs_10 rfl rfl (Nat.le_of_ble_eq_true rfl) ⟨Nat.le_of_ble_eq_true rfl, Nat.le_of_ble_eq_true rfl⟩ (fun r_2 u H locs hw_3 hP hD hS => ?_)
        have hP : va_P G vwCl [aI cI s1 2324 se2, aI cI s2 2324 sm2, aI cI s3 24 pr, oB sp 7 [.ref ve, .ref s1, .ref s2, .ref s3, .int (nI sz2), .int (nI ln)], oB ve 8 [.ref m0, .int (nI fa), .int (nI pa), .int (nI cu)], aI cI m0 24 mb] H := hP
        have hD : va_D jA [aI cI s1 2324 se2, aI cI s2 2324 sm2, aI cI s3 24 pr, oB sp 7 [.ref ve, .ref s1, .ref s2, .ref s3, .int (nI sz2), .int (nI ln)], oB ve 8 [.ref m0, .int (nI fa), .int (nI pa), .int (nI cu)], aI cI m0 24 mb] := hD
        subst hw_3
        refine lv_istore_n (lv' := [(3, .int (nI (X b ||| X c))), (0, .ref sp), (1, .int (nI c)), (2, .int (nI b))]) hx hb dX7_gatherPairs_13 rfl hl (by decide) rfl (fun ls hl => ?_)
        refine lv_aload_n hx hb dX7_gatherPairs_14 rfl (lv_at hl 1 rfl) ?_
        refine lv_iload_n hx hb dX7_gatherPairs_15 rfl (lv_at hl 0 rfl) ?_
        refine Ki.callV (wr := [aI cI s1 2324 se2, aI cI s2 2324 sm2, aI cI s3 24 pr, aI cI m0 24 mb]) (rest := []) (CX7_explains jl G cI cZ cJ ve m0 fa pa cu sp s1 s2 s3 sz2 ln (X b ||| X c) (or_lt12 (hX _) (hX _)) hfa) cx hP hD hS hl [3, 4] [0, 1, 2, 5] (ci := 7) (q0 := 0) gX7_gatherPairs_X7_explains hdX7_explains rfl rfl rfl ⟨Nat.le_of_ble_eq_true rfl, Nat.le_of_ble_eq_true rfl⟩ rfl rfl (by decide) (by decide) (by decide) dX7_gatherPairs_16 rfl rfl (Nat.le_of_ble_eq_true rfl) ⟨Nat.le_of_ble_eq_true rfl, Nat.le_of_ble_eq_true rfl⟩ (fun r_4 u H locs hw_5 hP hD hS => ?_)
        have hP : va_P G vwCl [aI cI s1 2324 se2, aI cI s2 2324 sm2, aI cI s3 24 pr, aI cI m0 24 mb, oB sp 7 [.ref ve, .ref s1, .ref s2, .ref s3, .int (nI sz2), .int (nI ln)], oB ve 8 [.ref m0, .int (nI fa), .int (nI pa), .int (nI cu)]] H := hP
        have hD : va_D jA [aI cI s1 2324 se2, aI cI s2 2324 sm2, aI cI s3 24 pr, aI cI m0 24 mb, oB sp 7 [.ref ve, .ref s1, .ref s2, .ref s3, .int (nI sz2), .int (nI ln)], oB ve 8 [.ref m0, .int (nI fa), .int (nI pa), .int (nI cu)]] := hD
        rcases Bool.eq_false_or_eq_true (exN (X b ||| X c) fa) with q1 | q1
        · skip
          rw [q1] at hw_5
          subst hw_5
          refine k_if_eq_f (tgt := 66) hx hb dX7_gatherPairs_19 (by decide) (by decide) ?_
          refine lv_aload_n hx hb dX7_gatherPairs_22 rfl (lv_at hl 1 rfl) ?_
          refine lv_aload_n hx hb dX7_gatherPairs_23 rfl (lv_at hl 1 rfl) ?_
          refine va_get (C := RX7) (T := TX7) (N := 6) (ci := 7) hx hb hts iX7_gatherPairs_7 hown hK.1 hP 4 rfl rfl 0 (Nat.le_of_ble_eq_true rfl) (hts _ mX7_gatherPairs_28) (fun _ h9 => h9) rfl dX7_gatherPairs_24 ?_
          refine va_get (C := RX8) (T := TX8) (N := 4) (ci := 8) hx hb hts iX7_gatherPairs_8 hown hK.1 hP 5 rfl rfl 0 (Nat.le_of_ble_eq_true rfl) (hts _ mX7_gatherPairs_47) (fun _ h9 => h9) rfl dX7_gatherPairs_27 ?_
          refine lv_iload_n hx hb dX7_gatherPairs_30 rfl (lv_at hl 3 rfl) ?_
          refine k_iald hx hb hK.1 hP 3 0 rfl rfl (by omega) (by decide) dX7_gatherPairs_31 ?_
          refine k_topN (hmb b (by omega)) ?_
          refine Ki.callV (wr := [aI cI s1 2324 se2, aI cI s2 2324 sm2, aI cI s3 24 pr, aI cI m0 24 mb]) (rest := []) (CX7_explains jl G cI cZ cJ ve m0 fa pa cu sp s1 s2 s3 sz2 ln (X b) (hX _) hfa) cx hP hD hS hl [4, 5] [0, 1, 2, 3] (ci := 7) (q0 := 0) gX7_gatherPairs_X7_explains hdX7_explains rfl rfl rfl ⟨Nat.le_of_ble_eq_true rfl, Nat.le_of_ble_eq_true rfl⟩ rfl rfl (by decide) (by decide) (by decide) dX7_gatherPairs_32 rfl rfl (Nat.le_of_ble_eq_true rfl) ⟨Nat.le_of_ble_eq_true rfl, Nat.le_of_ble_eq_true rfl⟩ (fun r_7 u H locs hw_8 hP hD hS => ?_)
          have hP : va_P G vwCl [aI cI s1 2324 se2, aI cI s2 2324 sm2, aI cI s3 24 pr, aI cI m0 24 mb, oB sp 7 [.ref ve, .ref s1, .ref s2, .ref s3, .int (nI sz2), .int (nI ln)], oB ve 8 [.ref m0, .int (nI fa), .int (nI pa), .int (nI cu)]] H := hP
          have hD : va_D jA [aI cI s1 2324 se2, aI cI s2 2324 sm2, aI cI s3 24 pr, aI cI m0 24 mb, oB sp 7 [.ref ve, .ref s1, .ref s2, .ref s3, .int (nI sz2), .int (nI ln)], oB ve 8 [.ref m0, .int (nI fa), .int (nI pa), .int (nI cu)]] := hD
          rcases Bool.eq_false_or_eq_true (exN (X b) fa) with q2 | q2
          · skip
            rw [q2] at hw_8
            subst hw_8
            refine k_if_ne_t (tgt := 66) hx hb dX7_gatherPairs_35 (by decide) (by decide) ?_
            refine lv_iinc (v := nI (b + 1)) (lv' := [(2, .int (nI (b + 1))), (3, .int (nI (X b ||| X c))), (0, .ref sp), (1, .int (nI c))]) hx hb dX7_gatherPairs_66 hl (k := 3) rfl (nI_add b 1) (by decide) rfl (fun ls hl => ?_)
            refine lv_goto (tgt := 2) hx hb dX7_gatherPairs_69 (by decide) ?_
            obtain ⟨hP, hD⟩ := k_sub (w' := [oB sp 7 [.ref ve, .ref s1, .ref s2, .ref s3, .int (nI sz2), .int (nI ln)], aI cI s1 2324 se2, aI cI s2 2324 sm2, aI cI s3 24 pr, oB ve 8 [.ref m0, .int (nI fa), .int (nI pa), .int (nI cu)], aI cI m0 24 mb]) hP hD [4, 0, 1, 2, 5, 3] rfl (by decide)
            exact ih2 (b + 1) sz2 se2 sm2 (by omega) (by omega) (by rw [fm, gP, if_neg (by rw [q1, q2]; simp), List.append_nil]; exact hz2) (by rw [fm, gP, if_neg (by rw [q1, q2]; simp), List.append_nil]; exact hs2) _ _ _ hP hD hS (lv_sub hl [2, 3, 0] rfl)
          · skip
            rw [q2] at hw_8
            subst hw_8
            refine k_if_ne_f (tgt := 66) hx hb dX7_gatherPairs_35 (by decide) (by decide) ?_
            refine lv_aload_n hx hb dX7_gatherPairs_38 rfl (lv_at hl 1 rfl) ?_
            refine lv_aload_n hx hb dX7_gatherPairs_39 rfl (lv_at hl 1 rfl) ?_
            refine va_get (C := RX7) (T := TX7) (N := 6) (ci := 7) hx hb hts iX7_gatherPairs_7 hown hK.1 hP 4 rfl rfl 0 (Nat.le_of_ble_eq_true rfl) (hts _ mX7_gatherPairs_28) (fun _ h9 => h9) rfl dX7_gatherPairs_40 ?_
            refine va_get (C := RX8) (T := TX8) (N := 4) (ci := 8) hx hb hts iX7_gatherPairs_8 hown hK.1 hP 5 rfl rfl 0 (Nat.le_of_ble_eq_true rfl) (hts _ mX7_gatherPairs_47) (fun _ h9 => h9) rfl dX7_gatherPairs_43 ?_
            refine lv_iload_n hx hb dX7_gatherPairs_46 rfl (lv_at hl 2 rfl) ?_
            refine k_iald hx hb hK.1 hP 3 0 rfl rfl (by omega) (by decide) dX7_gatherPairs_47 ?_
            refine k_topN (hmb c (hc24)) ?_
            refine Ki.callV (wr := [aI cI s1 2324 se2, aI cI s2 2324 sm2, aI cI s3 24 pr, aI cI m0 24 mb]) (rest := []) (CX7_explains jl G cI cZ cJ ve m0 fa pa cu sp s1 s2 s3 sz2 ln (X c) (hX _) hfa) cx hP hD hS hl [4, 5] [0, 1, 2, 3] (ci := 7) (q0 := 0) gX7_gatherPairs_X7_explains hdX7_explains rfl rfl rfl ⟨Nat.le_of_ble_eq_true rfl, Nat.le_of_ble_eq_true rfl⟩ rfl rfl (by decide) (by decide) (by decide) dX7_gatherPairs_48 rfl rfl (Nat.le_of_ble_eq_true rfl) ⟨Nat.le_of_ble_eq_true rfl, Nat.le_of_ble_eq_true rfl⟩ (fun r_11 u H locs hw_12 hP hD hS => ?_)
            have hP : va_P G vwCl [aI cI s1 2324 se2, aI cI s2 2324 sm2, aI cI s3 24 pr, aI cI m0 24 mb, oB sp 7 [.ref ve, .ref s1, .ref s2, .ref s3, .int (nI sz2), .int (nI ln)], oB ve 8 [.ref m0, .int (nI fa), .int (nI pa), .int (nI cu)]] H := hP
            have hD : va_D jA [aI cI s1 2324 se2, aI cI s2 2324 sm2, aI cI s3 24 pr, aI cI m0 24 mb, oB sp 7 [.ref ve, .ref s1, .ref s2, .ref s3, .int (nI sz2), .int (nI ln)], oB ve 8 [.ref m0, .int (nI fa), .int (nI pa), .int (nI cu)]] := hD
            rcases Bool.eq_false_or_eq_true (exN (X c) fa) with q3 | q3
            · skip
              rw [q3] at hw_12
              subst hw_12
              refine k_if_ne_t (tgt := 66) hx hb dX7_gatherPairs_51 (by decide) (by decide) ?_
              refine lv_iinc (v := nI (b + 1)) (lv' := [(2, .int (nI (b + 1))), (3, .int (nI (X b ||| X c))), (0, .ref sp), (1, .int (nI c))]) hx hb dX7_gatherPairs_66 hl (k := 3) rfl (nI_add b 1) (by decide) rfl (fun ls hl => ?_)
              refine lv_goto (tgt := 2) hx hb dX7_gatherPairs_69 (by decide) ?_
              obtain ⟨hP, hD⟩ := k_sub (w' := [oB sp 7 [.ref ve, .ref s1, .ref s2, .ref s3, .int (nI sz2), .int (nI ln)], aI cI s1 2324 se2, aI cI s2 2324 sm2, aI cI s3 24 pr, oB ve 8 [.ref m0, .int (nI fa), .int (nI pa), .int (nI cu)], aI cI m0 24 mb]) hP hD [4, 0, 1, 2, 5, 3] rfl (by decide)
              exact ih2 (b + 1) sz2 se2 sm2 (by omega) (by omega) (by rw [fm, gP, if_neg (by rw [q1, q2, q3]; simp), List.append_nil]; exact hz2) (by rw [fm, gP, if_neg (by rw [q1, q2, q3]; simp), List.append_nil]; exact hs2) _ _ _ hP hD hS (lv_sub hl [2, 3, 0] rfl)
            · skip
              rw [q3] at hw_12
              subst hw_12
              refine k_if_ne_f (tgt := 66) hx hb dX7_gatherPairs_51 (by decide) (by decide) ?_
              refine lv_aload_n hx hb dX7_gatherPairs_54 rfl (lv_at hl 1 rfl) ?_
              refine lv_iconst (v := nI 1) hx hb dX7_gatherPairs_55 (by decide) ?_
              refine lv_iload_n hx hb dX7_gatherPairs_56 rfl (lv_at hl 3 rfl) ?_
              refine k_ishl hx hb dX7_gatherPairs_57 (by omega) (by have := p2_31 (show b < 31 by omega); omega) ?_
              rw [Nat.one_mul]
              refine lv_iconst (v := nI 1) hx hb dX7_gatherPairs_58 (by decide) ?_
              refine lv_iload_n hx hb dX7_gatherPairs_59 rfl (lv_at hl 2 rfl) ?_
              refine k_ishl hx hb dX7_gatherPairs_60 (by omega) (by have := p2_31 (show c < 31 by omega); omega) ?_
              rw [Nat.one_mul]
              refine k_ior hx hb dX7_gatherPairs_61 ?_
              refine lv_iload_n hx hb dX7_gatherPairs_62 rfl (lv_at hl 0 rfl) ?_
              refine Kv.callV (wr := [aI cI m0 24 mb, oB ve 8 [.ref m0, .int (nI fa), .int (nI pa), .int (nI cu)]]) (rest := []) (CX7_keep jl G cI cZ cJ ve sp s1 s2 s3 sz2 ln se2 sm2 pr (by omega) (2 ^ b ||| 2 ^ c) (X b ||| X c)) cx hP hD hS hl [4, 0, 1, 2] [3, 5] (ci := 7) (q0 := 0) gX7_gatherPairs_X7_keep hdX7_keep rfl rfl rfl ⟨Nat.le_of_ble_eq_true rfl, Nat.le_of_ble_eq_true rfl⟩ rfl rfl (by decide) (by decide) (by decide) dX7_gatherPairs_63 rfl rfl (Nat.le_of_ble_eq_true rfl) ⟨Nat.le_of_ble_eq_true rfl, Nat.le_of_ble_eq_true rfl⟩ (fun u H locs hw_16 hP hD hS => ?_)
              have hP : va_P G vwCl [aI cI m0 24 mb, oB ve 8 [.ref m0, .int (nI fa), .int (nI pa), .int (nI cu)], oB sp 7 [.ref ve, .ref s1, .ref s2, .ref s3, .int (nI (sz2 + 1)), .int (nI ln)], aI cI s1 2324 (upd se2 sz2 (nI (2 ^ b ||| 2 ^ c))), aI cI s2 2324 (upd sm2 sz2 (nI (X b ||| X c))), aI cI s3 24 pr] H := hP
              have hD : va_D jA [aI cI m0 24 mb, oB ve 8 [.ref m0, .int (nI fa), .int (nI pa), .int (nI cu)], oB sp 7 [.ref ve, .ref s1, .ref s2, .ref s3, .int (nI (sz2 + 1)), .int (nI ln)], aI cI s1 2324 (upd se2 sz2 (nI (2 ^ b ||| 2 ^ c))), aI cI s2 2324 (upd sm2 sz2 (nI (X b ||| X c))), aI cI s3 24 pr] := hD
              refine lv_iinc (v := nI (b + 1)) (lv' := [(2, .int (nI (b + 1))), (3, .int (nI (X b ||| X c))), (0, .ref sp), (1, .int (nI c))]) hx hb dX7_gatherPairs_66 hl (k := 3) rfl (nI_add b 1) (by decide) rfl (fun ls hl => ?_)
              refine lv_goto (tgt := 2) hx hb dX7_gatherPairs_69 (by decide) ?_
              obtain ⟨hP, hD⟩ := k_sub (w' := [oB sp 7 [.ref ve, .ref s1, .ref s2, .ref s3, .int (nI (sz2 + 1)), .int (nI ln)], aI cI s1 2324 (upd se2 sz2 (nI (2 ^ b ||| 2 ^ c))), aI cI s2 2324 (upd sm2 sz2 (nI (X b ||| X c))), aI cI s3 24 pr, oB ve 8 [.ref m0, .int (nI fa), .int (nI pa), .int (nI cu)], aI cI m0 24 mb]) hP hD [2, 3, 4, 5, 1, 0] rfl (by decide)
              exact ih2 (b + 1) (sz2 + 1) (upd se2 sz2 (nI (2 ^ b ||| 2 ^ c))) (upd sm2 sz2 (nI (X b ||| X c))) (by omega) (by omega) (by rw [fm, gP, if_pos (by rw [q1, q2, q3]; rfl), ← List.append_assoc, List.length_append, ← hz2]; rfl) (by rw [fm, gP, if_pos (by rw [q1, q2, q3]; rfl), ← List.append_assoc]; exact SL_push hz2 hs2) _ _ _ hP hD hS (lv_sub hl [2, 3, 0] rfl)
        · skip
          rw [q1] at hw_5
          subst hw_5
          refine k_if_eq_t (tgt := 66) hx hb dX7_gatherPairs_19 (by decide) (by decide) ?_
          refine lv_iinc (v := nI (b + 1)) (lv' := [(2, .int (nI (b + 1))), (3, .int (nI (X b ||| X c))), (0, .ref sp), (1, .int (nI c))]) hx hb dX7_gatherPairs_66 hl (k := 3) rfl (nI_add b 1) (by decide) rfl (fun ls hl => ?_)
          refine lv_goto (tgt := 2) hx hb dX7_gatherPairs_69 (by decide) ?_
          obtain ⟨hP, hD⟩ := k_sub (w' := [oB sp 7 [.ref ve, .ref s1, .ref s2, .ref s3, .int (nI sz2), .int (nI ln)], aI cI s1 2324 se2, aI cI s2 2324 sm2, aI cI s3 24 pr, oB ve 8 [.ref m0, .int (nI fa), .int (nI pa), .int (nI cu)], aI cI m0 24 mb]) hP hD [4, 0, 1, 2, 5, 3] rfl (by decide)
          exact ih2 (b + 1) sz2 se2 sm2 (by omega) (by omega) (by rw [fm, gP, if_neg (by rw [q1]; simp), List.append_nil]; exact hz2) (by rw [fm, gP, if_neg (by rw [q1]; simp), List.append_nil]; exact hs2) _ _ _ hP hD hS (lv_sub hl [2, 3, 0] rfl)
  exact L2 (c + 1) 0 sz se sm (by omega) (by omega) (by rw [fm, List.append_nil]; exact hsz) (by rw [fm, List.append_nil]; exact hSL) _ _ _ hP hD hS (lv_sub hl [1, 2, 0] rfl)

theorem iX7_gatherTriples_7 : ∀ w ∈ wsX70, w ∈ wsX7_gatherTriples := by decide +kernel
theorem iX7_gatherTriples_8 : ∀ w ∈ wsX80, w ∈ wsX7_gatherTriples := by decide +kernel
theorem mX7_gatherTriples_28 : Cond.fieldLink RX7 28 "LineFinder$Suspicion" "verdicts" "LLineFinder$Verdicts;" ∈ wsX7_gatherTriples := List.mem_of_getElem? (i := 1) rfl
theorem mX7_gatherTriples_47 : Cond.fieldLink RX7 47 "LineFinder$Verdicts" "metBy" "[I" ∈ wsX7_gatherTriples := List.mem_of_getElem? (i := 2) rfl
theorem hdX7_noPairExplains : yX7_noPairExplains.cls = RX7 ∧ yX7_noPairExplains.cls ≠ "java/lang/invoke/MethodHandle" ∧ yX7_noPairExplains.cls ≠ "java/lang/invoke/VarHandle" ∧ (parseMethodDescriptor yX7_noPairExplains.desc).map (fun d => d.parameters.length) = some 3 := by decide +kernel
abbrev rCX7_gatherTriples : Room := { frames := 2, cells := 0, slots := 0, locals := 45 }
set_option maxHeartbeats 4000000 in
set_option maxRecDepth 100000 in
theorem CX7_gatherTriples (jl : Launch) (G : va_G) (cI cZ cJ : ClassId) (ve m0 fa pa cu : Nat) (mb : Fn) (sp s1 s2 s3 sz ln : Nat) (se sm pr : Fn) (X : Nat → Nat) (hmb : ∀ i, i < 24 → mb i = nI (X i)) (hX : ∀ i, X i < 4096) (hfa : fa < 4096) (L : List (Nat × Nat)) (hsz : sz = L.length) (hSL : SL se sm L) (c : Nat) (hc24 : c < 24) (hrm : sz + tri c ≤ 2324) : Kv jl yX7_gatherTriples wsX7_gatherTriples rCX7_gatherTriples G cI cZ cJ [.ref sp, .int (nI c)] [oB sp 7 [.ref ve, .ref s1, .ref s2, .ref s3, .int (nI sz), .int (nI ln)], aI cI s1 2324 se, aI cI s2 2324 sm, aI cI s3 24 pr, oB ve 8 [.ref m0, .int (nI fa), .int (nI pa), .int (nI cu)], aI cI m0 24 mb] (S := Nat × Fn × Fn) (fun (u : Nat × Fn × Fn) => match u with | (sz1, se1, sm1) => sz1 = (L ++ sTs X fa c).length ∧ SL se1 sm1 (L ++ sTs X fa c)) (fun (u : Nat × Fn × Fn) => match u with | (sz1, se1, sm1) => [oB sp 7 [.ref ve, .ref s1, .ref s2, .ref s3, .int (nI sz1), .int (nI ln)], aI cI s1 2324 se1, aI cI s2 2324 sm1, aI cI s3 24 pr, oB ve 8 [.ref m0, .int (nI fa), .int (nI pa), .int (nI cu)], aI cI m0 24 mb]) := by
  refine Kv.of (cc := cX7_gatherTriples) (maxL := 5) (by decide +kernel) rfl (Nat.le_of_ble_eq_true rfl) ?_
  intro jp je js jm ja jb jt jc jA jQ ls cx hnm hP hD hS hl hret
  obtain ⟨hx, hb, hml, hown, hts, hK, hA⟩ := id cx
  have hl : lv_has ls 5 [(0, .ref sp), (1, .int (nI c))] := hl
  obtain ⟨H, hH⟩ : ∃ H, H = js.heap := ⟨_, rfl⟩
  obtain ⟨locs, hlocs⟩ : ∃ z : List Loc, z = [] := ⟨_, rfl⟩
  have hP : va_P G vwCl [oB sp 7 [.ref ve, .ref s1, .ref s2, .ref s3, .int (nI sz), .int (nI ln)], aI cI s1 2324 se, aI cI s2 2324 sm, aI cI s3 24 pr, oB ve 8 [.ref m0, .int (nI fa), .int (nI pa), .int (nI cu)], aI cI m0 24 mb] H := by rw [hH]; exact hP
  have hS : va_S jA js.heap H locs := by rw [hH, hlocs]; exact hS
  rw [← hlocs]; rw [show W jp jl je rCX7_gatherTriples js jm ja jb jt jc js.heap locs 0 0 jQ (F0 jm 0 ls []) = W jp jl je rCX7_gatherTriples js jm ja jb jt jc H locs 0 0 jQ (F0 jm 0 ls []) by rw [hH]]
  clear hH hlocs
  refine lv_iconst (v := nI 1) hx hb dX7_gatherTriples_0 (by decide) ?_
  refine lv_istore_n (lv' := [(2, .int (nI 1)), (0, .ref sp), (1, .int (nI c))]) hx hb dX7_gatherTriples_1 rfl hl (by decide) rfl (fun ls hl => ?_)
  have L2 : ∀ (fu : Nat), ∀ (b : Nat), ∀ (sz2 : Nat), ∀ (se2 : Fn), ∀ (sm2 : Fn), (c + 1 < b + fu) → (b ≤ c ∨ b = 1) → (1 ≤ b) → (sz2 = (L ++ fm (fun b => fm (gT X fa c b) b) b).length) → (SL se2 sm2 (L ++ fm (fun b => fm (gT X fa c b) b) b)) → ∀ (H : Heap) (locs : List Loc) (ls : Array Slot), va_P G vwCl [oB sp 7 [.ref ve, .ref s1, .ref s2, .ref s3, .int (nI sz2), .int (nI ln)], aI cI s1 2324 se2, aI cI s2 2324 sm2, aI cI s3 24 pr, oB ve 8 [.ref m0, .int (nI fa), .int (nI pa), .int (nI cu)], aI cI m0 24 mb] H → va_D jA [oB sp 7 [.ref ve, .ref s1, .ref s2, .ref s3, .int (nI sz2), .int (nI ln)], aI cI s1 2324 se2, aI cI s2 2324 sm2, aI cI s3 24 pr, oB ve 8 [.ref m0, .int (nI fa), .int (nI pa), .int (nI cu)], aI cI m0 24 mb] → va_S jA js.heap H locs → lv_has ls 5 [(0, .ref sp), (1, .int (nI c)), (2, .int (nI b))] → W jp jl je rCX7_gatherTriples js jm ja jb jt jc H locs 0 0 jQ (F0 jm 2 ls []) := by
    intro fu
    induction fu with
    | zero =>
      intro b sz2 se2 sm2 hfu hb_ hb1 hz2 hs2 H locs ls hP hD hS hl
      exact absurd hfu (by omega)
    | succ fu ih2 =>
      intro b sz2 se2 sm2 hfu hb_ hb1 hz2 hs2 H locs ls hP hD hS hl
      have hlen : (L ++ fm (fun b => fm (gT X fa c b) b) b).length ≤ L.length + tri b := by rw [List.length_append]; have := sT1_len X fa c b; omega
      refine lv_iload_n hx hb dX7_gatherTriples_2 rfl (lv_at hl 2 rfl) ?_
      refine lv_iload_n hx hb dX7_gatherTriples_3 rfl (lv_at hl 1 rfl) ?_
      refine k_cmp_ge (tgt := 80) hx hb dX7_gatherTriples_4 (by decide) (by omega) (by omega) (fun c_1 => ?_) (fun c_1 => ?_)
      · skip
        obtain ⟨hz9, hs9⟩ : sz2 = (L ++ sTs X fa c).length ∧ SL se2 sm2 (L ++ sTs X fa c) := by
          rcases (show b = c ∨ (b = 1 ∧ c = 0) by omega) with rfl | ⟨rfl, rfl⟩
          · exact ⟨hz2, hs2⟩
          · exact ⟨by rw [hz2]; rfl, hs2⟩
        exact hret _ _ _ _ (sz2, se2, sm2) dX7_gatherTriples_80 (⟨hz9, hs9⟩) hP hD hS
      · skip
        have htb : tri (b + 1) ≤ tri c := tri_mono (by omega)
        have htb2 : tri (b + 1) = tri b + b := rfl
        refine lv_iconst (v := nI 0) hx hb dX7_gatherTriples_7 (by decide) ?_
        refine lv_istore_n (lv' := [(3, .int (nI 0)), (0, .ref sp), (1, .int (nI c)), (2, .int (nI b))]) hx hb dX7_gatherTriples_8 rfl hl (by decide) rfl (fun ls hl => ?_)
        have LA : ∀ (fu : Nat), ∀ (a : Nat), ∀ (sz3 : Nat), ∀ (se3 : Fn), ∀ (sm3 : Fn), (b < a + fu) → (a ≤ b) → (sz3 = (L ++ fm (fun b => fm (gT X fa c b) b) b ++ fm (gT X fa c b) a).length) → (SL se3 sm3 (L ++ fm (fun b => fm (gT X fa c b) b) b ++ fm (gT X fa c b) a)) → ∀ (H : Heap) (locs : List Loc) (ls : Array Slot), va_P G vwCl [oB sp 7 [.ref ve, .ref s1, .ref s2, .ref s3, .int (nI sz3), .int (nI ln)], aI cI s1 2324 se3, aI cI s2 2324 sm3, aI cI s3 24 pr, oB ve 8 [.ref m0, .int (nI fa), .int (nI pa), .int (nI cu)], aI cI m0 24 mb] H → va_D jA [oB sp 7 [.ref ve, .ref s1, .ref s2, .ref s3, .int (nI sz3), .int (nI ln)], aI cI s1 2324 se3, aI cI s2 2324 sm3, aI cI s3 24 pr, oB ve 8 [.ref m0, .int (nI fa), .int (nI pa), .int (nI cu)], aI cI m0 24 mb] → va_S jA js.heap H locs → lv_has ls 5 [(0, .ref sp), (1, .int (nI c)), (2, .int (nI b)), (3, .int (nI a))] → W jp jl je rCX7_gatherTriples js jm ja jb jt jc H locs 0 0 jQ (F0 jm 9 ls []) := by
          intro fu
          induction fu with
          | zero =>
            intro a sz3 se3 sm3 hfu ha_ hz3 hs3 H locs ls hP hD hS hl
            exact absurd hfu (by omega)
          | succ fu ih9 =>
            intro a sz3 se3 sm3 hfu ha_ hz3 hs3 H locs ls hP hD hS hl
            have hlen3 : (L ++ fm (fun b => fm (gT X fa c b) b) b ++ fm (gT X fa c b) a).length ≤ L.length + tri b + a := by rw [List.length_append]; have := fm1_len (gT_len X fa c b) a; omega
            refine lv_iload_n hx hb dX7_gatherTriples_9 rfl (lv_at hl 3 rfl) ?_
            refine lv_iload_n hx hb dX7_gatherTriples_10 rfl (lv_at hl 2 rfl) ?_
            refine k_cmp_ge (tgt := 74) hx hb dX7_gatherTriples_11 (by decide) (by omega) (by omega) (fun c_2 => ?_) (fun c_2 => ?_)
            · skip
              have hae : a = b := by omega
              refine lv_iinc (v := nI (b + 1)) (lv' := [(2, .int (nI (b + 1))), (0, .ref sp), (1, .int (nI c)), (3, .int (nI a))]) hx hb dX7_gatherTriples_74 hl (k := 2) rfl (nI_add b 1) (by decide) rfl (fun ls hl => ?_)
              refine lv_goto (tgt := 2) hx hb dX7_gatherTriples_77 (by decide) ?_
              exact ih2 (b + 1) sz3 se3 sm3 (by omega) (by omega) (by omega) (by rw [hz3, hae]; simp [fm]) (by have h9 := hs3; rw [hae, List.append_assoc] at h9; exact h9) _ _ _ hP hD hS (lv_sub hl [1, 2, 0] rfl)
            · skip
              refine lv_aload_n hx hb dX7_gatherTriples_14 rfl (lv_at hl 0 rfl) ?_
              refine va_get (C := RX7) (T := TX7) (N := 6) (ci := 7) hx hb hts iX7_gatherTriples_7 hown hK.1 hP 0 rfl rfl 0 (Nat.le_of_ble_eq_true rfl) (hts _ mX7_gatherTriples_28) (fun _ h9 => h9) rfl dX7_gatherTriples_15 ?_
              refine va_get (C := RX8) (T := TX8) (N := 4) (ci := 8) hx hb hts iX7_gatherTriples_8 hown hK.1 hP 4 rfl rfl 0 (Nat.le_of_ble_eq_true rfl) (hts _ mX7_gatherTriples_47) (fun _ h9 => h9) rfl dX7_gatherTriples_18 ?_
              refine lv_iload_n hx hb dX7_gatherTriples_21 rfl (lv_at hl 3 rfl) ?_
              refine k_iald hx hb hK.1 hP 5 0 rfl rfl (by omega) (by decide) dX7_gatherTriples_22 ?_
              refine k_topN (hmb a (by omega)) ?_
              refine lv_aload_n hx hb dX7_gatherTriples_23 rfl (lv_at hl 0 rfl) ?_
              refine lv_iload_n hx hb dX7_gatherTriples_24 rfl (lv_at hl 2 rfl) ?_
              refine lv_iload_n hx hb dX7_gatherTriples_25 rfl (lv_at hl 1 rfl) ?_
              refine Ki.callV (wr := [aI cI s1 2324 se3, aI cI s2 2324 sm3, aI cI s3 24 pr]) (rest := [.int (nI (X a))]) (CX7_pairMetBy jl G cI cZ cJ ve m0 fa pa cu mb sp s1 s2 s3 sz3 ln X hmb b c (by omega) hc24) cx hP hD hS hl [0, 4, 5] [1, 2, 3] (ci := 7) (q0 := 0) gX7_gatherTriples_X7_pairMetBy hdX7_pairMetBy rfl rfl rfl ⟨Nat.le_of_ble_eq_true rfl, Nat.le_of_ble_eq_true rfl⟩ rfl rfl (by decide) (by decide) (by decide) dX7_gatherTriples_26 rfl rfl (Nat.le_of_ble_eq_true rfl) ⟨Nat.le_of_ble_eq_true rfl, Nat.le_of_ble_eq_true rfl⟩ (fun r_3 u H locs hw_4 hP hD hS => ?_)
              have hP : va_P G vwCl [aI cI s1 2324 se3, aI cI s2 2324 sm3, aI cI s3 24 pr, oB sp 7 [.ref ve, .ref s1, .ref s2, .ref s3, .int (nI sz3), .int (nI ln)], oB ve 8 [.ref m0, .int (nI fa), .int (nI pa), .int (nI cu)], aI cI m0 24 mb] H := hP
              have hD : va_D jA [aI cI s1 2324 se3, aI cI s2 2324 sm3, aI cI s3 24 pr, oB sp 7 [.ref ve, .ref s1, .ref s2, .ref s3, .int (nI sz3), .int (nI ln)], oB ve 8 [.ref m0, .int (nI fa), .int (nI pa), .int (nI cu)], aI cI m0 24 mb] := hD
              subst hw_4
              refine k_ior hx hb dX7_gatherTriples_29 ?_
              refine lv_istore (lv' := [(4, .int (nI ((X a) ||| (X b ||| X c)))), (0, .ref sp), (1, .int (nI c)), (2, .int (nI b)), (3, .int (nI a))]) hx hb dX7_gatherTriples_30 hl (by decide) rfl (fun ls hl => ?_)
              refine lv_aload_n hx hb dX7_gatherTriples_32 rfl (lv_at hl 1 rfl) ?_
              refine lv_iload hx hb dX7_gatherTriples_33 (lv_at hl 0 rfl) ?_
              refine Ki.callV (wr := [aI cI s1 2324 se3, aI cI s2 2324 sm3, aI cI s3 24 pr, aI cI m0 24 mb]) (rest := []) (CX7_explains jl G cI cZ cJ ve m0 fa pa cu sp s1 s2 s3 sz3 ln (X a ||| (X b ||| X c)) (or_lt12 (hX _) (or_lt12 (hX _) (hX _))) hfa) cx hP hD hS hl [3, 4] [0, 1, 2, 5] (ci := 7) (q0 := 0) gX7_gatherTriples_X7_explains hdX7_explains rfl rfl rfl ⟨Nat.le_of_ble_eq_true rfl, Nat.le_of_ble_eq_true rfl⟩ rfl rfl (by decide) (by decide) (by decide) dX7_gatherTriples_35 rfl rfl (Nat.le_of_ble_eq_true rfl) ⟨Nat.le_of_ble_eq_true rfl, Nat.le_of_ble_eq_true rfl⟩ (fun r_5 u H locs hw_6 hP hD hS => ?_)
              have hP : va_P G vwCl [aI cI s1 2324 se3, aI cI s2 2324 sm3, aI cI s3 24 pr, aI cI m0 24 mb, oB sp 7 [.ref ve, .ref s1, .ref s2, .ref s3, .int (nI sz3), .int (nI ln)], oB ve 8 [.ref m0, .int (nI fa), .int (nI pa), .int (nI cu)]] H := hP
              have hD : va_D jA [aI cI s1 2324 se3, aI cI s2 2324 sm3, aI cI s3 24 pr, aI cI m0 24 mb, oB sp 7 [.ref ve, .ref s1, .ref s2, .ref s3, .int (nI sz3), .int (nI ln)], oB ve 8 [.ref m0, .int (nI fa), .int (nI pa), .int (nI cu)]] := hD
              rcases Bool.eq_false_or_eq_true (exN (X a ||| (X b ||| X c)) fa) with q1 | q1
              · skip
                rw [q1] at hw_6
                subst hw_6
                refine k_if_eq_f (tgt := 68) hx hb dX7_gatherTriples_38 (by decide) (by decide) ?_
                refine lv_aload_n hx hb dX7_gatherTriples_41 rfl (lv_at hl 1 rfl) ?_
                refine lv_iload_n hx hb dX7_gatherTriples_42 rfl (lv_at hl 4 rfl) ?_
                refine lv_iload_n hx hb dX7_gatherTriples_43 rfl (lv_at hl 3 rfl) ?_
                refine lv_iload_n hx hb dX7_gatherTriples_44 rfl (lv_at hl 2 rfl) ?_
                refine Ki.callV (wr := [aI cI s1 2324 se3, aI cI s2 2324 sm3, aI cI s3 24 pr]) (rest := []) (CX7_noPairExplains jl G cI cZ cJ ve m0 fa pa cu mb sp s1 s2 s3 sz3 ln X hmb hX hfa a b c (by omega) (by omega) hc24) cx hP hD hS hl [4, 5, 3] [0, 1, 2] (ci := 7) (q0 := 0) gX7_gatherTriples_X7_noPairExplains hdX7_noPairExplains rfl rfl rfl ⟨Nat.le_of_ble_eq_true rfl, Nat.le_of_ble_eq_true rfl⟩ rfl rfl (by decide) (by decide) (by decide) dX7_gatherTriples_45 rfl rfl (Nat.le_of_ble_eq_true rfl) ⟨Nat.le_of_ble_eq_true rfl, Nat.le_of_ble_eq_true rfl⟩ (fun r_8 u H locs hw_9 hP hD hS => ?_)
                have hP : va_P G vwCl [aI cI s1 2324 se3, aI cI s2 2324 sm3, aI cI s3 24 pr, oB sp 7 [.ref ve, .ref s1, .ref s2, .ref s3, .int (nI sz3), .int (nI ln)], oB ve 8 [.ref m0, .int (nI fa), .int (nI pa), .int (nI cu)], aI cI m0 24 mb] H := hP
                have hD : va_D jA [aI cI s1 2324 se3, aI cI s2 2324 sm3, aI cI s3 24 pr, oB sp 7 [.ref ve, .ref s1, .ref s2, .ref s3, .int (nI sz3), .int (nI ln)], oB ve 8 [.ref m0, .int (nI fa), .int (nI pa), .int (nI cu)], aI cI m0 24 mb] := hD
                rcases Bool.eq_false_or_eq_true (nPE X fa a b c) with q2 | q2
                · skip
                  rw [q2] at hw_9
                  subst hw_9
                  refine k_if_eq_f (tgt := 68) hx hb dX7_gatherTriples_48 (by decide) (by decide) ?_
                  refine lv_aload_n hx hb dX7_gatherTriples_51 rfl (lv_at hl 1 rfl) ?_
                  refine lv_iconst (v := nI 1) hx hb dX7_gatherTriples_52 (by decide) ?_
                  refine lv_iload_n hx hb dX7_gatherTriples_53 rfl (lv_at hl 4 rfl) ?_
                  refine k_ishl hx hb dX7_gatherTriples_54 (by omega) (by have := p2_31 (show a < 31 by omega); omega) ?_
                  rw [Nat.one_mul]
                  refine lv_iconst (v := nI 1) hx hb dX7_gatherTriples_55 (by decide) ?_
                  refine lv_iload_n hx hb dX7_gatherTriples_56 rfl (lv_at hl 3 rfl) ?_
                  refine k_ishl hx hb dX7_gatherTriples_57 (by omega) (by have := p2_31 (show b < 31 by omega); omega) ?_
                  rw [Nat.one_mul]
                  refine k_ior hx hb dX7_gatherTriples_58 ?_
                  refine lv_iconst (v := nI 1) hx hb dX7_gatherTriples_59 (by decide) ?_
                  refine lv_iload_n hx hb dX7_gatherTriples_60 rfl (lv_at hl 2 rfl) ?_
                  refine k_ishl hx hb dX7_gatherTriples_61 (by omega) (by have := p2_31 (show c < 31 by omega); omega) ?_
                  rw [Nat.one_mul]
                  refine k_ior hx hb dX7_gatherTriples_62 ?_
                  refine lv_iload hx hb dX7_gatherTriples_63 (lv_at hl 0 rfl) ?_
                  refine Kv.callV (wr := [oB ve 8 [.ref m0, .int (nI fa), .int (nI pa), .int (nI cu)], aI cI m0 24 mb]) (rest := []) (CX7_keep jl G cI cZ cJ ve sp s1 s2 s3 sz3 ln se3 sm3 pr (by omega) (2 ^ a ||| 2 ^ b ||| 2 ^ c) (X a ||| (X b ||| X c))) cx hP hD hS hl [3, 0, 1, 2] [4, 5] (ci := 7) (q0 := 0) gX7_gatherTriples_X7_keep hdX7_keep rfl rfl rfl ⟨Nat.le_of_ble_eq_true rfl, Nat.le_of_ble_eq_true rfl⟩ rfl rfl (by decide) (by decide) (by decide) dX7_gatherTriples_65 rfl rfl (Nat.le_of_ble_eq_true rfl) ⟨Nat.le_of_ble_eq_true rfl, Nat.le_of_ble_eq_true rfl⟩ (fun u H locs hw_12 hP hD hS => ?_)
                  have hP : va_P G vwCl [oB ve 8 [.ref m0, .int (nI fa), .int (nI pa), .int (nI cu)], aI cI m0 24 mb, oB sp 7 [.ref ve, .ref s1, .ref s2, .ref s3, .int (nI (sz3 + 1)), .int (nI ln)], aI cI s1 2324 (upd se3 sz3 (nI (2 ^ a ||| 2 ^ b ||| 2 ^ c))), aI cI s2 2324 (upd sm3 sz3 (nI (X a ||| (X b ||| X c)))), aI cI s3 24 pr] H := hP
                  have hD : va_D jA [oB ve 8 [.ref m0, .int (nI fa), .int (nI pa), .int (nI cu)], aI cI m0 24 mb, oB sp 7 [.ref ve, .ref s1, .ref s2, .ref s3, .int (nI (sz3 + 1)), .int (nI ln)], aI cI s1 2324 (upd se3 sz3 (nI (2 ^ a ||| 2 ^ b ||| 2 ^ c))), aI cI s2 2324 (upd sm3 sz3 (nI (X a ||| (X b ||| X c)))), aI cI s3 24 pr] := hD
                  refine lv_iinc (v := nI (a + 1)) (lv' := [(3, .int (nI (a + 1))), (4, .int (nI ((X a) ||| (X b ||| X c)))), (0, .ref sp), (1, .int (nI c)), (2, .int (nI b))]) hx hb dX7_gatherTriples_68 hl (k := 4) rfl (nI_add a 1) (by decide) rfl (fun ls hl => ?_)
                  refine lv_goto (tgt := 9) hx hb dX7_gatherTriples_71 (by decide) ?_
                  obtain ⟨hP, hD⟩ := k_sub (w' := [oB sp 7 [.ref ve, .ref s1, .ref s2, .ref s3, .int (nI (sz3 + 1)), .int (nI ln)], aI cI s1 2324 (upd se3 sz3 (nI (2 ^ a ||| 2 ^ b ||| 2 ^ c))), aI cI s2 2324 (upd sm3 sz3 (nI (X a ||| (X b ||| X c)))), aI cI s3 24 pr, oB ve 8 [.ref m0, .int (nI fa), .int (nI pa), .int (nI cu)], aI cI m0 24 mb]) hP hD [2, 3, 4, 5, 0, 1] rfl (by decide)
                  exact ih9 (a + 1) (sz3 + 1) (upd se3 sz3 (nI (2 ^ a ||| 2 ^ b ||| 2 ^ c))) (upd sm3 sz3 (nI (X a ||| (X b ||| X c)))) (by omega) (by omega) (by rw [fm, gT, if_pos (by rw [q1, q2]; rfl), ← List.append_assoc, List.length_append, ← hz3]; rfl) (by rw [fm, gT, if_pos (by rw [q1, q2]; rfl), ← List.append_assoc]; exact SL_push hz3 hs3) _ _ _ hP hD hS (lv_sub hl [2, 3, 4, 0] rfl)
                · skip
                  rw [q2] at hw_9
                  subst hw_9
                  refine k_if_eq_t (tgt := 68) hx hb dX7_gatherTriples_48 (by decide) (by decide) ?_
                  refine lv_iinc (v := nI (a + 1)) (lv' := [(3, .int (nI (a + 1))), (4, .int (nI ((X a) ||| (X b ||| X c)))), (0, .ref sp), (1, .int (nI c)), (2, .int (nI b))]) hx hb dX7_gatherTriples_68 hl (k := 4) rfl (nI_add a 1) (by decide) rfl (fun ls hl => ?_)
                  refine lv_goto (tgt := 9) hx hb dX7_gatherTriples_71 (by decide) ?_
                  obtain ⟨hP, hD⟩ := k_sub (w' := [oB sp 7 [.ref ve, .ref s1, .ref s2, .ref s3, .int (nI sz3), .int (nI ln)], aI cI s1 2324 se3, aI cI s2 2324 sm3, aI cI s3 24 pr, oB ve 8 [.ref m0, .int (nI fa), .int (nI pa), .int (nI cu)], aI cI m0 24 mb]) hP hD [3, 0, 1, 2, 4, 5] rfl (by decide)
                  exact ih9 (a + 1) sz3 se3 sm3 (by omega) (by omega) (by rw [fm, gT, if_neg (by rw [q1, q2]; simp), List.append_nil]; exact hz3) (by rw [fm, gT, if_neg (by rw [q1, q2]; simp), List.append_nil]; exact hs3) _ _ _ hP hD hS (lv_sub hl [2, 3, 4, 0] rfl)
              · skip
                rw [q1] at hw_6
                subst hw_6
                refine k_if_eq_t (tgt := 68) hx hb dX7_gatherTriples_38 (by decide) (by decide) ?_
                refine lv_iinc (v := nI (a + 1)) (lv' := [(3, .int (nI (a + 1))), (4, .int (nI ((X a) ||| (X b ||| X c)))), (0, .ref sp), (1, .int (nI c)), (2, .int (nI b))]) hx hb dX7_gatherTriples_68 hl (k := 4) rfl (nI_add a 1) (by decide) rfl (fun ls hl => ?_)
                refine lv_goto (tgt := 9) hx hb dX7_gatherTriples_71 (by decide) ?_
                obtain ⟨hP, hD⟩ := k_sub (w' := [oB sp 7 [.ref ve, .ref s1, .ref s2, .ref s3, .int (nI sz3), .int (nI ln)], aI cI s1 2324 se3, aI cI s2 2324 sm3, aI cI s3 24 pr, oB ve 8 [.ref m0, .int (nI fa), .int (nI pa), .int (nI cu)], aI cI m0 24 mb]) hP hD [4, 0, 1, 2, 5, 3] rfl (by decide)
                exact ih9 (a + 1) sz3 se3 sm3 (by omega) (by omega) (by rw [fm, gT, if_neg (by rw [q1]; simp), List.append_nil]; exact hz3) (by rw [fm, gT, if_neg (by rw [q1]; simp), List.append_nil]; exact hs3) _ _ _ hP hD hS (lv_sub hl [2, 3, 4, 0] rfl)
        exact LA (b + 1) 0 sz2 se2 sm2 (by omega) (by omega) (by rw [fm, List.append_nil]; exact hz2) (by rw [fm, List.append_nil]; exact hs2) _ _ _ hP hD hS (lv_sub hl [1, 2, 3, 0] rfl)
  exact L2 (c + 2) 1 sz se sm (by omega) (by omega) (by omega) (by simp [fm]; exact hsz) (by simp [fm]; exact hSL) _ _ _ hP hD hS (lv_sub hl [1, 2, 0] rfl)
