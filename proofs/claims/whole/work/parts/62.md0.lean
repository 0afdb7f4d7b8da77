abbrev rCX10_isIn : Room := { frames := 0, cells := 0, slots := 0, locals := 0 }
set_option maxHeartbeats 4000000 in
set_option maxRecDepth 100000 in
theorem CX10_isIn (jl : Launch) (G : va_G) (cI cZ cJ : ClassId) (p : Int32) (n : Nat) (hn : n < 2 ^ 31) : Ki jl yX10_isIn wsX10_isIn rCX10_isIn G cI cZ cJ [.int p, .int (nI n)] [] (S := Unit) (fun (r : Int32) (_ : Unit) => isIx p n r) (fun (_ : Unit) => []) := by
  refine Ki.ofZ (cc := cX10_isIn) (maxL := 2) (by decide +kernel) rfl (Nat.le_of_ble_eq_true rfl) ?_
  intro jp je js jm ja jb jt jc jA jQ ls cx hnm hP hD hS hl hret
  obtain ⟨hx, hb, hml, hown, hts, hK, hA⟩ := id cx
  have hl : lv_has ls 2 [(0, .int p), (1, .int (nI n))] := hl
  obtain ⟨H, hH⟩ : ∃ H, H = js.heap := ⟨_, rfl⟩
  obtain ⟨locs, hlocs⟩ : ∃ z : List Loc, z = [] := ⟨_, rfl⟩
  have hP : va_P G vwCl [] H := by rw [hH]; exact hP
  have hS : va_S jA js.heap H locs := by rw [hH, hlocs]; exact hS
  rw [← hlocs]; rw [show W jp jl je rCX10_isIn js jm ja jb jt jc js.heap locs 0 0 jQ (F0 jm 0 ls []) = W jp jl je rCX10_isIn js jm ja jb jt jc H locs 0 0 jQ (F0 jm 0 ls []) by rw [hH]]
  clear hH hlocs
  refine lv_iload_n hx hb dX10_isIn_0 rfl (lv_at hl 0 rfl) ?_
  refine lv_if_lt (tgt := 13) hx hb dX10_isIn_1 (by decide) (fun c_1 => ?_) (fun c_1 => ?_)
  · skip
    refine lv_iconst (v := nI 0) hx hb dX10_isIn_13 (by decide) ?_
    exact hret _ _ _ _ _ () dX10_isIn_14 (by decide) (isIx_neg (by omega) c_1) hP hD hS
  · skip
    obtain ⟨j, hj, rfl⟩ := nI_of c_1
    refine lv_iload_n hx hb dX10_isIn_4 rfl (lv_at hl 0 rfl) ?_
    refine lv_iload_n hx hb dX10_isIn_5 rfl (lv_at hl 1 rfl) ?_
    refine k_cmp_ge (tgt := 13) hx hb dX10_isIn_6 (by decide) (by omega) (by omega) (fun c_2 => ?_) (fun c_2 => ?_)
    · skip
      refine lv_iconst (v := nI 0) hx hb dX10_isIn_13 (by decide) ?_
      exact hret _ _ _ _ _ () dX10_isIn_14 (by decide) (isIx_ge hj (by omega) c_2) hP hD hS
    · skip
      refine lv_iconst (v := nI 1) hx hb dX10_isIn_9 (by decide) ?_
      refine lv_goto (tgt := 14) hx hb dX10_isIn_10 (by decide) ?_
      exact hret _ _ _ _ _ () dX10_isIn_14 (by decide) (isIx_lt c_2) hP hD hS

abbrev rCX10_wrong : Room := { frames := 0, cells := 0, slots := 0, locals := 0 }
set_option maxHeartbeats 4000000 in
set_option maxRecDepth 100000 in
theorem CX10_wrong (jl : Launch) (G : va_G) (cI cZ cJ : ClassId) (v lo hi : Int32) : Ki jl yX10_wrong wsX10_wrong rCX10_wrong G cI cZ cJ [.int v, .int lo, .int hi] [] (S := Unit) (fun (r : Int32) (_ : Unit) => r = (if v < lo then (-4) else if hi < v then (-6) else nI 0)) (fun (_ : Unit) => []) := by
  refine Ki.of (cc := cX10_wrong) (maxL := 3) (by decide +kernel) rfl (Nat.le_of_ble_eq_true rfl) ?_
  intro jp je js jm ja jb jt jc jA jQ ls cx hnm hP hD hS hl hret
  obtain ⟨hx, hb, hml, hown, hts, hK, hA⟩ := id cx
  have hl : lv_has ls 3 [(0, .int v), (1, .int lo), (2, .int hi)] := hl
  obtain ⟨H, hH⟩ : ∃ H, H = js.heap := ⟨_, rfl⟩
  obtain ⟨locs, hlocs⟩ : ∃ z : List Loc, z = [] := ⟨_, rfl⟩
  have hP : va_P G vwCl [] H := by rw [hH]; exact hP
  have hS : va_S jA js.heap H locs := by rw [hH, hlocs]; exact hS
  rw [← hlocs]; rw [show W jp jl je rCX10_wrong js jm ja jb jt jc js.heap locs 0 0 jQ (F0 jm 0 ls []) = W jp jl je rCX10_wrong js jm ja jb jt jc H locs 0 0 jQ (F0 jm 0 ls []) by rw [hH]]
  clear hH hlocs
  refine lv_iload_n hx hb dX10_wrong_0 rfl (lv_at hl 0 rfl) ?_
  refine lv_iload_n hx hb dX10_wrong_1 rfl (lv_at hl 1 rfl) ?_
  refine lv_icmp_ge (tgt := 10) hx hb dX10_wrong_2 (by decide) (fun h1 => ?_) (fun h1 => ?_)
  · skip
    refine lv_iload_n hx hb dX10_wrong_10 rfl (lv_at hl 0 rfl) ?_
    refine lv_iload_n hx hb dX10_wrong_11 rfl (lv_at hl 2 rfl) ?_
    refine lv_icmp_le (tgt := 20) hx hb dX10_wrong_12 (by decide) (fun h2 => ?_) (fun h2 => ?_)
    · skip
      refine lv_iconst (v := nI 0) hx hb dX10_wrong_20 (by decide) ?_
      exact hret _ _ _ _ _ () dX10_wrong_21 (by rw [if_neg (Int32.not_lt.mpr h1), if_neg (Int32.not_lt.mpr h2)]) hP hD hS
    · skip
      refine lv_bipush (v := (-6)) hx hb dX10_wrong_15 (by decide) ?_
      refine lv_goto (tgt := 21) hx hb dX10_wrong_17 (by decide) ?_
      exact hret _ _ _ _ _ () dX10_wrong_21 (by rw [if_neg (Int32.not_lt.mpr h1), if_pos (Int32.not_le.mp h2)]) hP hD hS
  · skip
    refine lv_bipush (v := (-4)) hx hb dX10_wrong_5 (by decide) ?_
    refine lv_goto (tgt := 21) hx hb dX10_wrong_7 (by decide) ?_
    exact hret _ _ _ _ _ () dX10_wrong_21 (by rw [if_pos (Int32.not_le.mp h1)]) hP hD hS

theorem hdX10_isIn : yX10_isIn.cls ≠ "java/lang/invoke/MethodHandle" ∧ yX10_isIn.cls ≠ "java/lang/invoke/VarHandle" ∧ (parseMethodDescriptor yX10_isIn.desc).map (fun d => d.parameters.length) = some 2 := by decide +kernel
theorem hdX10_wrong : yX10_wrong.cls ≠ "java/lang/invoke/MethodHandle" ∧ yX10_wrong.cls ≠ "java/lang/invoke/VarHandle" ∧ (parseMethodDescriptor yX10_wrong.desc).map (fun d => d.parameters.length) = some 3 := by decide +kernel
abbrev rCX10_wrongLine : Room := { frames := 1, cells := 0, slots := 0, locals := 22 }
set_option maxHeartbeats 4000000 in
set_option maxRecDepth 100000 in
theorem CX10_wrongLine (jl : Launch) (G : va_G) (cI cZ cJ : ClassId) (op x y z : Int32) : Ki jl yX10_wrongLine wsX10_wrongLine rCX10_wrongLine G cI cZ cJ [.int op, .int x, .int y, .int z] [] (S := Unit) (fun (r : Int32) (_ : Unit) => r = rowF op x y z) (fun (_ : Unit) => []) := by
  refine Ki.of (cc := cX10_wrongLine) (maxL := 5) (by decide +kernel) rfl (Nat.le_of_ble_eq_true rfl) ?_
  intro jp je js jm ja jb jt jc jA jQ ls cx hnm hP hD hS hl hret
  obtain ⟨hx, hb, hml, hown, hts, hK, hA⟩ := id cx
  have hl : lv_has ls 5 [(0, .int op), (1, .int x), (2, .int y), (3, .int z)] := hl
  obtain ⟨H, hH⟩ : ∃ H, H = js.heap := ⟨_, rfl⟩
  obtain ⟨locs, hlocs⟩ : ∃ z : List Loc, z = [] := ⟨_, rfl⟩
  have hP : va_P G vwCl [] H := by rw [hH]; exact hP
  have hS : va_S jA js.heap H locs := by rw [hH, hlocs]; exact hS
  rw [← hlocs]; rw [show W jp jl je rCX10_wrongLine js jm ja jb jt jc js.heap locs 0 0 jQ (F0 jm 0 ls []) = W jp jl je rCX10_wrongLine js jm ja jb jt jc H locs 0 0 jQ (F0 jm 0 ls []) by rw [hH]]
  clear hH hlocs
  refine lv_iload_n hx hb dX10_wrongLine_0 rfl (lv_at hl 0 rfl) ?_
  rcases Bool.eq_false_or_eq_true (inR op 8) with hin | hin
  · skip
    obtain ⟨k, hk8, rfl⟩ := inR_ix hin
    rcases (show k = 0 ∨ k = 1 ∨ k = 2 ∨ k = 3 ∨ k = 4 ∨ k = 5 ∨ k = 6 ∨ k = 7 by omega) with rfl | rfl | rfl | rfl | rfl | rfl | rfl | rfl
    · skip
      refine lv_tableIn (tgt := 48) (off := 47) hx hb dX10_wrongLine_1 (by decide) (by decide) (by decide) (by decide) ?_
      refine lv_iload_n hx hb dX10_wrongLine_48 rfl (lv_at hl 1 rfl) ?_
      refine lv_bipush (v := nI 8) hx hb dX10_wrongLine_49 (by decide) ?_
      refine Ki.callS (wr := []) (rest := []) (CX10_isIn jl G cI cZ cJ x 8 (by decide)) cx hP hD hS hl [] [] gX10_wrongLine_X10_isIn hdX10_isIn rfl ⟨Nat.le_of_ble_eq_true rfl, Nat.le_of_ble_eq_true rfl⟩ rfl rfl (by decide) (by decide) (by decide) dX10_wrongLine_51 rfl rfl (Nat.le_of_ble_eq_true rfl) ⟨Nat.le_of_ble_eq_true rfl, Nat.le_of_ble_eq_true rfl⟩ (fun r_1 u H locs hw_2 hP hD hS => ?_)
      have hP : va_P G vwCl [] H := hP
      have hD : va_D jA [] := hD
      have hw_2 := isIx.b hw_2 (by decide)
      rcases Bool.eq_false_or_eq_true (inR x 8) with qx | qx
      · skip
        rw [qx] at hw_2
        subst hw_2
        refine lv_istore (lv' := [(4, .int (nI 1)), (0, .int (nI 0)), (1, .int x), (2, .int y), (3, .int z)]) hx hb dX10_wrongLine_54 hl (by decide) rfl (fun ls hl => ?_)
        refine lv_goto (tgt := 185) hx hb dX10_wrongLine_56 (by decide) ?_
        refine lv_iload hx hb dX10_wrongLine_185 (lv_at hl 0 rfl) ?_
        refine k_if_ne_t (tgt := 192) hx hb dX10_wrongLine_187 (by decide) (by decide) ?_
        refine lv_iload_n hx hb dX10_wrongLine_192 rfl (lv_at hl 1 rfl) ?_
        refine k_if_ne_f (tgt := 209) hx hb dX10_wrongLine_193 (by decide) (by decide) ?_
        refine lv_iload_n hx hb dX10_wrongLine_196 rfl (lv_at hl 3 rfl) ?_
        refine lv_sipush (v := (-1000)) hx hb dX10_wrongLine_197 (by decide) ?_
        refine lv_sipush (v := nI 1000) hx hb dX10_wrongLine_200 (by decide) ?_
        refine Ki.callS (wr := []) (rest := []) (CX10_wrong jl G cI cZ cJ y (-1000) (nI 1000)) cx hP hD hS hl [] [] gX10_wrongLine_X10_wrong hdX10_wrong rfl ⟨Nat.le_of_ble_eq_true rfl, Nat.le_of_ble_eq_true rfl⟩ rfl rfl (by decide) (by decide) (by decide) dX10_wrongLine_203 rfl rfl (Nat.le_of_ble_eq_true rfl) ⟨Nat.le_of_ble_eq_true rfl, Nat.le_of_ble_eq_true rfl⟩ (fun r9 u H locs hw9 hP hD hS => ?_)
        have hP : va_P G vwCl [] H := hP
        have hD : va_D jA [] := hD
        refine lv_goto (tgt := 210) hx hb dX10_wrongLine_206 (by decide) ?_
        have hq : (inR (nI 0) 8 && rowK (tn (nI 0)) x y z) = true := by rw [inR_lt (by decide) (by decide), tn_nI (by decide)]; simp [rowK, qx]
        exact hret _ _ _ _ _ () dX10_wrongLine_210 (by unfold rowF; rw [if_pos hq, if_pos rfl]; exact hw9) hP hD hS
      · skip
        rw [qx] at hw_2
        subst hw_2
        refine lv_istore (lv' := [(4, .int (nI 0)), (0, .int (nI 0)), (1, .int x), (2, .int y), (3, .int z)]) hx hb dX10_wrongLine_54 hl (by decide) rfl (fun ls hl => ?_)
        refine lv_goto (tgt := 185) hx hb dX10_wrongLine_56 (by decide) ?_
        refine lv_iload hx hb dX10_wrongLine_185 (lv_at hl 0 rfl) ?_
        refine k_if_ne_f (tgt := 192) hx hb dX10_wrongLine_187 (by decide) (by decide) ?_
        refine lv_iconst (v := (-1)) hx hb dX10_wrongLine_190 (by decide) ?_
        have hq : (inR (nI 0) 8 && rowK (tn (nI 0)) x y z) = false := by rw [inR_lt (by decide) (by decide), tn_nI (by decide)]; simp [rowK, qx]
        exact hret _ _ _ _ _ () dX10_wrongLine_191 (by unfold rowF; rw [if_neg (by rw [hq]; decide)]) hP hD hS
    · skip
      refine lv_tableIn (tgt := 59) (off := 58) hx hb dX10_wrongLine_1 (by decide) (by decide) (by decide) (by decide) ?_
      refine lv_iload_n hx hb dX10_wrongLine_59 rfl (lv_at hl 1 rfl) ?_
      refine lv_bipush (v := nI 8) hx hb dX10_wrongLine_60 (by decide) ?_
      refine Ki.callS (wr := []) (rest := []) (CX10_isIn jl G cI cZ cJ x 8 (by decide)) cx hP hD hS hl [] [] gX10_wrongLine_X10_isIn hdX10_isIn rfl ⟨Nat.le_of_ble_eq_true rfl, Nat.le_of_ble_eq_true rfl⟩ rfl rfl (by decide) (by decide) (by decide) dX10_wrongLine_62 rfl rfl (Nat.le_of_ble_eq_true rfl) ⟨Nat.le_of_ble_eq_true rfl, Nat.le_of_ble_eq_true rfl⟩ (fun r_6 u H locs hw_7 hP hD hS => ?_)
      have hP : va_P G vwCl [] H := hP
      have hD : va_D jA [] := hD
      have hw_7 := isIx.b hw_7 (by decide)
      rcases Bool.eq_false_or_eq_true (inR x 8) with qx | qx
      · skip
        rw [qx] at hw_7
        subst hw_7
        refine k_if_eq_f (tgt := 90) hx hb dX10_wrongLine_65 (by decide) (by decide) ?_
        refine lv_iload_n hx hb dX10_wrongLine_68 rfl (lv_at hl 2 rfl) ?_
        refine lv_bipush (v := nI 8) hx hb dX10_wrongLine_69 (by decide) ?_
        refine Ki.callS (wr := []) (rest := []) (CX10_isIn jl G cI cZ cJ y 8 (by decide)) cx hP hD hS hl [] [] gX10_wrongLine_X10_isIn hdX10_isIn rfl ⟨Nat.le_of_ble_eq_true rfl, Nat.le_of_ble_eq_true rfl⟩ rfl rfl (by decide) (by decide) (by decide) dX10_wrongLine_71 rfl rfl (Nat.le_of_ble_eq_true rfl) ⟨Nat.le_of_ble_eq_true rfl, Nat.le_of_ble_eq_true rfl⟩ (fun r_9 u H locs hw_10 hP hD hS => ?_)
        have hP : va_P G vwCl [] H := hP
        have hD : va_D jA [] := hD
        have hw_10 := isIx.b hw_10 (by decide)
        rcases Bool.eq_false_or_eq_true (inR y 8) with qy | qy
        · skip
          rw [qy] at hw_10
          subst hw_10
          refine k_if_eq_f (tgt := 90) hx hb dX10_wrongLine_74 (by decide) (by decide) ?_
          refine lv_iload_n hx hb dX10_wrongLine_77 rfl (lv_at hl 3 rfl) ?_
          refine lv_bipush (v := nI 8) hx hb dX10_wrongLine_78 (by decide) ?_
          refine Ki.callS (wr := []) (rest := []) (CX10_isIn jl G cI cZ cJ z 8 (by decide)) cx hP hD hS hl [] [] gX10_wrongLine_X10_isIn hdX10_isIn rfl ⟨Nat.le_of_ble_eq_true rfl, Nat.le_of_ble_eq_true rfl⟩ rfl rfl (by decide) (by decide) (by decide) dX10_wrongLine_80 rfl rfl (Nat.le_of_ble_eq_true rfl) ⟨Nat.le_of_ble_eq_true rfl, Nat.le_of_ble_eq_true rfl⟩ (fun r_12 u H locs hw_13 hP hD hS => ?_)
          have hP : va_P G vwCl [] H := hP
          have hD : va_D jA [] := hD
          have hw_13 := isIx.b hw_13 (by decide)
          rcases Bool.eq_false_or_eq_true (inR z 8) with qz | qz
          · skip
            rw [qz] at hw_13
            subst hw_13
            refine k_if_eq_f (tgt := 90) hx hb dX10_wrongLine_83 (by decide) (by decide) ?_
            refine lv_iconst (v := nI 1) hx hb dX10_wrongLine_86 (by decide) ?_
            refine lv_goto (tgt := 91) hx hb dX10_wrongLine_87 (by decide) ?_
            refine lv_istore (lv' := [(4, .int (nI 1)), (0, .int (nI 1)), (1, .int x), (2, .int y), (3, .int z)]) hx hb dX10_wrongLine_91 hl (by decide) rfl (fun ls hl => ?_)
            refine lv_goto (tgt := 185) hx hb dX10_wrongLine_93 (by decide) ?_
            refine lv_iload hx hb dX10_wrongLine_185 (lv_at hl 0 rfl) ?_
            refine k_if_ne_t (tgt := 192) hx hb dX10_wrongLine_187 (by decide) (by decide) ?_
            refine lv_iload_n hx hb dX10_wrongLine_192 rfl (lv_at hl 1 rfl) ?_
            refine k_if_ne_t (tgt := 209) hx hb dX10_wrongLine_193 (by decide) (by decide) ?_
            refine lv_iconst (v := nI 0) hx hb dX10_wrongLine_209 (by decide) ?_
            have hq : (inR (nI 1) 8 && rowK (tn (nI 1)) x y z) = true := by rw [inR_lt (by decide) (by decide), tn_nI (by decide)]; simp [rowK, qx, qy, qz]
            exact hret _ _ _ _ _ () dX10_wrongLine_210 (by unfold rowF; rw [if_pos hq, if_neg (by decide)]) hP hD hS
          · skip
            rw [qz] at hw_13
            subst hw_13
            refine k_if_eq_t (tgt := 90) hx hb dX10_wrongLine_83 (by decide) (by decide) ?_
            refine lv_iconst (v := nI 0) hx hb dX10_wrongLine_90 (by decide) ?_
            refine lv_istore (lv' := [(4, .int (nI 0)), (0, .int (nI 1)), (1, .int x), (2, .int y), (3, .int z)]) hx hb dX10_wrongLine_91 hl (by decide) rfl (fun ls hl => ?_)
            refine lv_goto (tgt := 185) hx hb dX10_wrongLine_93 (by decide) ?_
            refine lv_iload hx hb dX10_wrongLine_185 (lv_at hl 0 rfl) ?_
            refine k_if_ne_f (tgt := 192) hx hb dX10_wrongLine_187 (by decide) (by decide) ?_
            refine lv_iconst (v := (-1)) hx hb dX10_wrongLine_190 (by decide) ?_
            have hq : (inR (nI 1) 8 && rowK (tn (nI 1)) x y z) = false := by rw [inR_lt (by decide) (by decide), tn_nI (by decide)]; simp [rowK, qx, qy, qz]
            exact hret _ _ _ _ _ () dX10_wrongLine_191 (by unfold rowF; rw [if_neg (by rw [hq]; decide)]) hP hD hS
        · skip
          rw [qy] at hw_10
          subst hw_10
          refine k_if_eq_t (tgt := 90) hx hb dX10_wrongLine_74 (by decide) (by decide) ?_
          refine lv_iconst (v := nI 0) hx hb dX10_wrongLine_90 (by decide) ?_
          refine lv_istore (lv' := [(4, .int (nI 0)), (0, .int (nI 1)), (1, .int x), (2, .int y), (3, .int z)]) hx hb dX10_wrongLine_91 hl (by decide) rfl (fun ls hl => ?_)
          refine lv_goto (tgt := 185) hx hb dX10_wrongLine_93 (by decide) ?_
          refine lv_iload hx hb dX10_wrongLine_185 (lv_at hl 0 rfl) ?_
          refine k_if_ne_f (tgt := 192) hx hb dX10_wrongLine_187 (by decide) (by decide) ?_
          refine lv_iconst (v := (-1)) hx hb dX10_wrongLine_190 (by decide) ?_
          have hq : (inR (nI 1) 8 && rowK (tn (nI 1)) x y z) = false := by rw [inR_lt (by decide) (by decide), tn_nI (by decide)]; simp [rowK, qx, qy]
          exact hret _ _ _ _ _ () dX10_wrongLine_191 (by unfold rowF; rw [if_neg (by rw [hq]; decide)]) hP hD hS
      · skip
        rw [qx] at hw_7
        subst hw_7
        refine k_if_eq_t (tgt := 90) hx hb dX10_wrongLine_65 (by decide) (by decide) ?_
        refine lv_iconst (v := nI 0) hx hb dX10_wrongLine_90 (by decide) ?_
        refine lv_istore (lv' := [(4, .int (nI 0)), (0, .int (nI 1)), (1, .int x), (2, .int y), (3, .int z)]) hx hb dX10_wrongLine_91 hl (by decide) rfl (fun ls hl => ?_)
        refine lv_goto (tgt := 185) hx hb dX10_wrongLine_93 (by decide) ?_
        refine lv_iload hx hb dX10_wrongLine_185 (lv_at hl 0 rfl) ?_
        refine k_if_ne_f (tgt := 192) hx hb dX10_wrongLine_187 (by decide) (by decide) ?_
        refine lv_iconst (v := (-1)) hx hb dX10_wrongLine_190 (by decide) ?_
        have hq : (inR (nI 1) 8 && rowK (tn (nI 1)) x y z) = false := by rw [inR_lt (by decide) (by decide), tn_nI (by decide)]; simp [rowK, qx]
        exact hret _ _ _ _ _ () dX10_wrongLine_191 (by unfold rowF; rw [if_neg (by rw [hq]; decide)]) hP hD hS
    · skip
      refine lv_tableIn (tgt := 59) (off := 58) hx hb dX10_wrongLine_1 (by decide) (by decide) (by decide) (by decide) ?_
      refine lv_iload_n hx hb dX10_wrongLine_59 rfl (lv_at hl 1 rfl) ?_
      refine lv_bipush (v := nI 8) hx hb dX10_wrongLine_60 (by decide) ?_
      refine Ki.callS (wr := []) (rest := []) (CX10_isIn jl G cI cZ cJ x 8 (by decide)) cx hP hD hS hl [] [] gX10_wrongLine_X10_isIn hdX10_isIn rfl ⟨Nat.le_of_ble_eq_true rfl, Nat.le_of_ble_eq_true rfl⟩ rfl rfl (by decide) (by decide) (by decide) dX10_wrongLine_62 rfl rfl (Nat.le_of_ble_eq_true rfl) ⟨Nat.le_of_ble_eq_true rfl, Nat.le_of_ble_eq_true rfl⟩ (fun r_23 u H locs hw_24 hP hD hS => ?_)
      have hP : va_P G vwCl [] H := hP
      have hD : va_D jA [] := hD
      have hw_24 := isIx.b hw_24 (by decide)
      rcases Bool.eq_false_or_eq_true (inR x 8) with qx | qx
      · skip
        rw [qx] at hw_24
        subst hw_24
        refine k_if_eq_f (tgt := 90) hx hb dX10_wrongLine_65 (by decide) (by decide) ?_
        refine lv_iload_n hx hb dX10_wrongLine_68 rfl (lv_at hl 2 rfl) ?_
        refine lv_bipush (v := nI 8) hx hb dX10_wrongLine_69 (by decide) ?_
        refine Ki.callS (wr := []) (rest := []) (CX10_isIn jl G cI cZ cJ y 8 (by decide)) cx hP hD hS hl [] [] gX10_wrongLine_X10_isIn hdX10_isIn rfl ⟨Nat.le_of_ble_eq_true rfl, Nat.le_of_ble_eq_true rfl⟩ rfl rfl (by decide) (by decide) (by decide) dX10_wrongLine_71 rfl rfl (Nat.le_of_ble_eq_true rfl) ⟨Nat.le_of_ble_eq_true rfl, Nat.le_of_ble_eq_true rfl⟩ (fun r_26 u H locs hw_27 hP hD hS => ?_)
        have hP : va_P G vwCl [] H := hP
        have hD : va_D jA [] := hD
        have hw_27 := isIx.b hw_27 (by decide)
        rcases Bool.eq_false_or_eq_true (inR y 8) with qy | qy
        · skip
          rw [qy] at hw_27
          subst hw_27
          refine k_if_eq_f (tgt := 90) hx hb dX10_wrongLine_74 (by decide) (by decide) ?_
          refine lv_iload_n hx hb dX10_wrongLine_77 rfl (lv_at hl 3 rfl) ?_
          refine lv_bipush (v := nI 8) hx hb dX10_wrongLine_78 (by decide) ?_
          refine Ki.callS (wr := []) (rest := []) (CX10_isIn jl G cI cZ cJ z 8 (by decide)) cx hP hD hS hl [] [] gX10_wrongLine_X10_isIn hdX10_isIn rfl ⟨Nat.le_of_ble_eq_true rfl, Nat.le_of_ble_eq_true rfl⟩ rfl rfl (by decide) (by decide) (by decide) dX10_wrongLine_80 rfl rfl (Nat.le_of_ble_eq_true rfl) ⟨Nat.le_of_ble_eq_true rfl, Nat.le_of_ble_eq_true rfl⟩ (fun r_29 u H locs hw_30 hP hD hS => ?_)
          have hP : va_P G vwCl [] H := hP
          have hD : va_D jA [] := hD
          have hw_30 := isIx.b hw_30 (by decide)
          rcases Bool.eq_false_or_eq_true (inR z 8) with qz | qz
          · skip
            rw [qz] at hw_30
            subst hw_30
            refine k_if_eq_f (tgt := 90) hx hb dX10_wrongLine_83 (by decide) (by decide) ?_
            refine lv_iconst (v := nI 1) hx hb dX10_wrongLine_86 (by decide) ?_
            refine lv_goto (tgt := 91) hx hb dX10_wrongLine_87 (by decide) ?_
            refine lv_istore (lv' := [(4, .int (nI 1)), (0, .int (nI 2)), (1, .int x), (2, .int y), (3, .int z)]) hx hb dX10_wrongLine_91 hl (by decide) rfl (fun ls hl => ?_)
            refine lv_goto (tgt := 185) hx hb dX10_wrongLine_93 (by decide) ?_
            refine lv_iload hx hb dX10_wrongLine_185 (lv_at hl 0 rfl) ?_
            refine k_if_ne_t (tgt := 192) hx hb dX10_wrongLine_187 (by decide) (by decide) ?_
            refine lv_iload_n hx hb dX10_wrongLine_192 rfl (lv_at hl 1 rfl) ?_
            refine k_if_ne_t (tgt := 209) hx hb dX10_wrongLine_193 (by decide) (by decide) ?_
            refine lv_iconst (v := nI 0) hx hb dX10_wrongLine_209 (by decide) ?_
            have hq : (inR (nI 2) 8 && rowK (tn (nI 2)) x y z) = true := by rw [inR_lt (by decide) (by decide), tn_nI (by decide)]; simp [rowK, qx, qy, qz]
            exact hret _ _ _ _ _ () dX10_wrongLine_210 (by unfold rowF; rw [if_pos hq, if_neg (by decide)]) hP hD hS
          · skip
            rw [qz] at hw_30
            subst hw_30
            refine k_if_eq_t (tgt := 90) hx hb dX10_wrongLine_83 (by decide) (by decide) ?_
            refine lv_iconst (v := nI 0) hx hb dX10_wrongLine_90 (by decide) ?_
            refine lv_istore (lv' := [(4, .int (nI 0)), (0, .int (nI 2)), (1, .int x), (2, .int y), (3, .int z)]) hx hb dX10_wrongLine_91 hl (by decide) rfl (fun ls hl => ?_)
            refine lv_goto (tgt := 185) hx hb dX10_wrongLine_93 (by decide) ?_
            refine lv_iload hx hb dX10_wrongLine_185 (lv_at hl 0 rfl) ?_
            refine k_if_ne_f (tgt := 192) hx hb dX10_wrongLine_187 (by decide) (by decide) ?_
            refine lv_iconst (v := (-1)) hx hb dX10_wrongLine_190 (by decide) ?_
            have hq : (inR (nI 2) 8 && rowK (tn (nI 2)) x y z) = false := by rw [inR_lt (by decide) (by decide), tn_nI (by decide)]; simp [rowK, qx, qy, qz]
            exact hret _ _ _ _ _ () dX10_wrongLine_191 (by unfold rowF; rw [if_neg (by rw [hq]; decide)]) hP hD hS
        · skip
          rw [qy] at hw_27
          subst hw_27
          refine k_if_eq_t (tgt := 90) hx hb dX10_wrongLine_74 (by decide) (by decide) ?_
          refine lv_iconst (v := nI 0) hx hb dX10_wrongLine_90 (by decide) ?_
          refine lv_istore (lv' := [(4, .int (nI 0)), (0, .int (nI 2)), (1, .int x), (2, .int y), (3, .int z)]) hx hb dX10_wrongLine_91 hl (by decide) rfl (fun ls hl => ?_)
          refine lv_goto (tgt := 185) hx hb dX10_wrongLine_93 (by decide) ?_
          refine lv_iload hx hb dX10_wrongLine_185 (lv_at hl 0 rfl) ?_
          refine k_if_ne_f (tgt := 192) hx hb dX10_wrongLine_187 (by decide) (by decide) ?_
          refine lv_iconst (v := (-1)) hx hb dX10_wrongLine_190 (by decide) ?_
          have hq : (inR (nI 2) 8 && rowK (tn (nI 2)) x y z) = false := by rw [inR_lt (by decide) (by decide), tn_nI (by decide)]; simp [rowK, qx, qy]
          exact hret _ _ _ _ _ () dX10_wrongLine_191 (by unfold rowF; rw [if_neg (by rw [hq]; decide)]) hP hD hS
      · skip
        rw [qx] at hw_24
        subst hw_24
        refine k_if_eq_t (tgt := 90) hx hb dX10_wrongLine_65 (by decide) (by decide) ?_
        refine lv_iconst (v := nI 0) hx hb dX10_wrongLine_90 (by decide) ?_
        refine lv_istore (lv' := [(4, .int (nI 0)), (0, .int (nI 2)), (1, .int x), (2, .int y), (3, .int z)]) hx hb dX10_wrongLine_91 hl (by decide) rfl (fun ls hl => ?_)
        refine lv_goto (tgt := 185) hx hb dX10_wrongLine_93 (by decide) ?_
        refine lv_iload hx hb dX10_wrongLine_185 (lv_at hl 0 rfl) ?_
        refine k_if_ne_f (tgt := 192) hx hb dX10_wrongLine_187 (by decide) (by decide) ?_
        refine lv_iconst (v := (-1)) hx hb dX10_wrongLine_190 (by decide) ?_
        have hq : (inR (nI 2) 8 && rowK (tn (nI 2)) x y z) = false := by rw [inR_lt (by decide) (by decide), tn_nI (by decide)]; simp [rowK, qx]
        exact hret _ _ _ _ _ () dX10_wrongLine_191 (by unfold rowF; rw [if_neg (by rw [hq]; decide)]) hP hD hS
    · skip
      refine lv_tableIn (tgt := 59) (off := 58) hx hb dX10_wrongLine_1 (by decide) (by decide) (by decide) (by decide) ?_
      refine lv_iload_n hx hb dX10_wrongLine_59 rfl (lv_at hl 1 rfl) ?_
      refine lv_bipush (v := nI 8) hx hb dX10_wrongLine_60 (by decide) ?_
      refine Ki.callS (wr := []) (rest := []) (CX10_isIn jl G cI cZ cJ x 8 (by decide)) cx hP hD hS hl [] [] gX10_wrongLine_X10_isIn hdX10_isIn rfl ⟨Nat.le_of_ble_eq_true rfl, Nat.le_of_ble_eq_true rfl⟩ rfl rfl (by decide) (by decide) (by decide) dX10_wrongLine_62 rfl rfl (Nat.le_of_ble_eq_true rfl) ⟨Nat.le_of_ble_eq_true rfl, Nat.le_of_ble_eq_true rfl⟩ (fun r_40 u H locs hw_41 hP hD hS => ?_)
      have hP : va_P G vwCl [] H := hP
      have hD : va_D jA [] := hD
      have hw_41 := isIx.b hw_41 (by decide)
      rcases Bool.eq_false_or_eq_true (inR x 8) with qx | qx
      · skip
        rw [qx] at hw_41
        subst hw_41
        refine k_if_eq_f (tgt := 90) hx hb dX10_wrongLine_65 (by decide) (by decide) ?_
        refine lv_iload_n hx hb dX10_wrongLine_68 rfl (lv_at hl 2 rfl) ?_
        refine lv_bipush (v := nI 8) hx hb dX10_wrongLine_69 (by decide) ?_
        refine Ki.callS (wr := []) (rest := []) (CX10_isIn jl G cI cZ cJ y 8 (by decide)) cx hP hD hS hl [] [] gX10_wrongLine_X10_isIn hdX10_isIn rfl ⟨Nat.le_of_ble_eq_true rfl, Nat.le_of_ble_eq_true rfl⟩ rfl rfl (by decide) (by decide) (by decide) dX10_wrongLine_71 rfl rfl (Nat.le_of_ble_eq_true rfl) ⟨Nat.le_of_ble_eq_true rfl, Nat.le_of_ble_eq_true rfl⟩ (fun r_43 u H locs hw_44 hP hD hS => ?_)
        have hP : va_P G vwCl [] H := hP
        have hD : va_D jA [] := hD
        have hw_44 := isIx.b hw_44 (by decide)
        rcases Bool.eq_false_or_eq_true (inR y 8) with qy | qy
        · skip
          rw [qy] at hw_44
          subst hw_44
          refine k_if_eq_f (tgt := 90) hx hb dX10_wrongLine_74 (by decide) (by decide) ?_
          refine lv_iload_n hx hb dX10_wrongLine_77 rfl (lv_at hl 3 rfl) ?_
          refine lv_bipush (v := nI 8) hx hb dX10_wrongLine_78 (by decide) ?_
          refine Ki.callS (wr := []) (rest := []) (CX10_isIn jl G cI cZ cJ z 8 (by decide)) cx hP hD hS hl [] [] gX10_wrongLine_X10_isIn hdX10_isIn rfl ⟨Nat.le_of_ble_eq_true rfl, Nat.le_of_ble_eq_true rfl⟩ rfl rfl (by decide) (by decide) (by decide) dX10_wrongLine_80 rfl rfl (Nat.le_of_ble_eq_true rfl) ⟨Nat.le_of_ble_eq_true rfl, Nat.le_of_ble_eq_true rfl⟩ (fun r_46 u H locs hw_47 hP hD hS => ?_)
          have hP : va_P G vwCl [] H := hP
          have hD : va_D jA [] := hD
          have hw_47 := isIx.b hw_47 (by decide)
          rcases Bool.eq_false_or_eq_true (inR z 8) with qz | qz
          · skip
            rw [qz] at hw_47
            subst hw_47
            refine k_if_eq_f (tgt := 90) hx hb dX10_wrongLine_83 (by decide) (by decide) ?_
            refine lv_iconst (v := nI 1) hx hb dX10_wrongLine_86 (by decide) ?_
            refine lv_goto (tgt := 91) hx hb dX10_wrongLine_87 (by decide) ?_
            refine lv_istore (lv' := [(4, .int (nI 1)), (0, .int (nI 3)), (1, .int x), (2, .int y), (3, .int z)]) hx hb dX10_wrongLine_91 hl (by decide) rfl (fun ls hl => ?_)
            refine lv_goto (tgt := 185) hx hb dX10_wrongLine_93 (by decide) ?_
            refine lv_iload hx hb dX10_wrongLine_185 (lv_at hl 0 rfl) ?_
            refine k_if_ne_t (tgt := 192) hx hb dX10_wrongLine_187 (by decide) (by decide) ?_
            refine lv_iload_n hx hb dX10_wrongLine_192 rfl (lv_at hl 1 rfl) ?_
            refine k_if_ne_t (tgt := 209) hx hb dX10_wrongLine_193 (by decide) (by decide) ?_
            refine lv_iconst (v := nI 0) hx hb dX10_wrongLine_209 (by decide) ?_
            have hq : (inR (nI 3) 8 && rowK (tn (nI 3)) x y z) = true := by rw [inR_lt (by decide) (by decide), tn_nI (by decide)]; simp [rowK, qx, qy, qz]
            exact hret _ _ _ _ _ () dX10_wrongLine_210 (by unfold rowF; rw [if_pos hq, if_neg (by decide)]) hP hD hS
          · skip
            rw [qz] at hw_47
            subst hw_47
            refine k_if_eq_t (tgt := 90) hx hb dX10_wrongLine_83 (by decide) (by decide) ?_
            refine lv_iconst (v := nI 0) hx hb dX10_wrongLine_90 (by decide) ?_
            refine lv_istore (lv' := [(4, .int (nI 0)), (0, .int (nI 3)), (1, .int x), (2, .int y), (3, .int z)]) hx hb dX10_wrongLine_91 hl (by decide) rfl (fun ls hl => ?_)
            refine lv_goto (tgt := 185) hx hb dX10_wrongLine_93 (by decide) ?_
            refine lv_iload hx hb dX10_wrongLine_185 (lv_at hl 0 rfl) ?_
            refine k_if_ne_f (tgt := 192) hx hb dX10_wrongLine_187 (by decide) (by decide) ?_
            refine lv_iconst (v := (-1)) hx hb dX10_wrongLine_190 (by decide) ?_
            have hq : (inR (nI 3) 8 && rowK (tn (nI 3)) x y z) = false := by rw [inR_lt (by decide) (by decide), tn_nI (by decide)]; simp [rowK, qx, qy, qz]
            exact hret _ _ _ _ _ () dX10_wrongLine_191 (by unfold rowF; rw [if_neg (by rw [hq]; decide)]) hP hD hS
        · skip
          rw [qy] at hw_44
          subst hw_44
          refine k_if_eq_t (tgt := 90) hx hb dX10_wrongLine_74 (by decide) (by decide) ?_
          refine lv_iconst (v := nI 0) hx hb dX10_wrongLine_90 (by decide) ?_
          refine lv_istore (lv' := [(4, .int (nI 0)), (0, .int (nI 3)), (1, .int x), (2, .int y), (3, .int z)]) hx hb dX10_wrongLine_91 hl (by decide) rfl (fun ls hl => ?_)
          refine lv_goto (tgt := 185) hx hb dX10_wrongLine_93 (by decide) ?_
          refine lv_iload hx hb dX10_wrongLine_185 (lv_at hl 0 rfl) ?_
          refine k_if_ne_f (tgt := 192) hx hb dX10_wrongLine_187 (by decide) (by decide) ?_
          refine lv_iconst (v := (-1)) hx hb dX10_wrongLine_190 (by decide) ?_
          have hq : (inR (nI 3) 8 && rowK (tn (nI 3)) x y z) = false := by rw [inR_lt (by decide) (by decide), tn_nI (by decide)]; simp [rowK, qx, qy]
          exact hret _ _ _ _ _ () dX10_wrongLine_191 (by unfold rowF; rw [if_neg (by rw [hq]; decide)]) hP hD hS
      · skip
        rw [qx] at hw_41
        subst hw_41
        refine k_if_eq_t (tgt := 90) hx hb dX10_wrongLine_65 (by decide) (by decide) ?_
        refine lv_iconst (v := nI 0) hx hb dX10_wrongLine_90 (by decide) ?_
        refine lv_istore (lv' := [(4, .int (nI 0)), (0, .int (nI 3)), (1, .int x), (2, .int y), (3, .int z)]) hx hb dX10_wrongLine_91 hl (by decide) rfl (fun ls hl => ?_)
        refine lv_goto (tgt := 185) hx hb dX10_wrongLine_93 (by decide) ?_
        refine lv_iload hx hb dX10_wrongLine_185 (lv_at hl 0 rfl) ?_
        refine k_if_ne_f (tgt := 192) hx hb dX10_wrongLine_187 (by decide) (by decide) ?_
        refine lv_iconst (v := (-1)) hx hb dX10_wrongLine_190 (by decide) ?_
        have hq : (inR (nI 3) 8 && rowK (tn (nI 3)) x y z) = false := by rw [inR_lt (by decide) (by decide), tn_nI (by decide)]; simp [rowK, qx]
        exact hret _ _ _ _ _ () dX10_wrongLine_191 (by unfold rowF; rw [if_neg (by rw [hq]; decide)]) hP hD hS
    · skip
      refine lv_tableIn (tgt := 96) (off := 95) hx hb dX10_wrongLine_1 (by decide) (by decide) (by decide) (by decide) ?_
      refine lv_iload_n hx hb dX10_wrongLine_96 rfl (lv_at hl 1 rfl) ?_
      refine lv_bipush (v := nI 8) hx hb dX10_wrongLine_97 (by decide) ?_
      refine Ki.callS (wr := []) (rest := []) (CX10_isIn jl G cI cZ cJ x 8 (by decide)) cx hP hD hS hl [] [] gX10_wrongLine_X10_isIn hdX10_isIn rfl ⟨Nat.le_of_ble_eq_true rfl, Nat.le_of_ble_eq_true rfl⟩ rfl rfl (by decide) (by decide) (by decide) dX10_wrongLine_99 rfl rfl (Nat.le_of_ble_eq_true rfl) ⟨Nat.le_of_ble_eq_true rfl, Nat.le_of_ble_eq_true rfl⟩ (fun r_57 u H locs hw_58 hP hD hS => ?_)
      have hP : va_P G vwCl [] H := hP
      have hD : va_D jA [] := hD
      have hw_58 := isIx.b hw_58 (by decide)
      rcases Bool.eq_false_or_eq_true (inR x 8) with qx | qx
      · skip
        rw [qx] at hw_58
        subst hw_58
        refine k_if_eq_f (tgt := 117) hx hb dX10_wrongLine_102 (by decide) (by decide) ?_
        refine lv_iload_n hx hb dX10_wrongLine_105 rfl (lv_at hl 2 rfl) ?_
        refine lv_iconst (v := nI 4) hx hb dX10_wrongLine_106 (by decide) ?_
        refine Ki.callS (wr := []) (rest := []) (CX10_isIn jl G cI cZ cJ y 4 (by decide)) cx hP hD hS hl [] [] gX10_wrongLine_X10_isIn hdX10_isIn rfl ⟨Nat.le_of_ble_eq_true rfl, Nat.le_of_ble_eq_true rfl⟩ rfl rfl (by decide) (by decide) (by decide) dX10_wrongLine_107 rfl rfl (Nat.le_of_ble_eq_true rfl) ⟨Nat.le_of_ble_eq_true rfl, Nat.le_of_ble_eq_true rfl⟩ (fun r_60 u H locs hw_61 hP hD hS => ?_)
        have hP : va_P G vwCl [] H := hP
        have hD : va_D jA [] := hD
        have hw_61 := isIx.b hw_61 (by decide)
        rcases Bool.eq_false_or_eq_true (inR y 4) with qy | qy
        · skip
          rw [qy] at hw_61
          subst hw_61
          refine k_if_eq_f (tgt := 117) hx hb dX10_wrongLine_110 (by decide) (by decide) ?_
          refine lv_iconst (v := nI 1) hx hb dX10_wrongLine_113 (by decide) ?_
          refine lv_goto (tgt := 118) hx hb dX10_wrongLine_114 (by decide) ?_
          refine lv_istore (lv' := [(4, .int (nI 1)), (0, .int (nI 4)), (1, .int x), (2, .int y), (3, .int z)]) hx hb dX10_wrongLine_118 hl (by decide) rfl (fun ls hl => ?_)
          refine lv_goto (tgt := 185) hx hb dX10_wrongLine_120 (by decide) ?_
          refine lv_iload hx hb dX10_wrongLine_185 (lv_at hl 0 rfl) ?_
          refine k_if_ne_t (tgt := 192) hx hb dX10_wrongLine_187 (by decide) (by decide) ?_
          refine lv_iload_n hx hb dX10_wrongLine_192 rfl (lv_at hl 1 rfl) ?_
          refine k_if_ne_t (tgt := 209) hx hb dX10_wrongLine_193 (by decide) (by decide) ?_
          refine lv_iconst (v := nI 0) hx hb dX10_wrongLine_209 (by decide) ?_
          have hq : (inR (nI 4) 8 && rowK (tn (nI 4)) x y z) = true := by rw [inR_lt (by decide) (by decide), tn_nI (by decide)]; simp [rowK, qx, qy]
          exact hret _ _ _ _ _ () dX10_wrongLine_210 (by unfold rowF; rw [if_pos hq, if_neg (by decide)]) hP hD hS
        · skip
          rw [qy] at hw_61
          subst hw_61
          refine k_if_eq_t (tgt := 117) hx hb dX10_wrongLine_110 (by decide) (by decide) ?_
          refine lv_iconst (v := nI 0) hx hb dX10_wrongLine_117 (by decide) ?_
          refine lv_istore (lv' := [(4, .int (nI 0)), (0, .int (nI 4)), (1, .int x), (2, .int y), (3, .int z)]) hx hb dX10_wrongLine_118 hl (by decide) rfl (fun ls hl => ?_)
          refine lv_goto (tgt := 185) hx hb dX10_wrongLine_120 (by decide) ?_
          refine lv_iload hx hb dX10_wrongLine_185 (lv_at hl 0 rfl) ?_
          refine k_if_ne_f (tgt := 192) hx hb dX10_wrongLine_187 (by decide) (by decide) ?_
          refine lv_iconst (v := (-1)) hx hb dX10_wrongLine_190 (by decide) ?_
          have hq : (inR (nI 4) 8 && rowK (tn (nI 4)) x y z) = false := by rw [inR_lt (by decide) (by decide), tn_nI (by decide)]; simp [rowK, qx, qy]
          exact hret _ _ _ _ _ () dX10_wrongLine_191 (by unfold rowF; rw [if_neg (by rw [hq]; decide)]) hP hD hS
      · skip
        rw [qx] at hw_58
        subst hw_58
        refine k_if_eq_t (tgt := 117) hx hb dX10_wrongLine_102 (by decide) (by decide) ?_
        refine lv_iconst (v := nI 0) hx hb dX10_wrongLine_117 (by decide) ?_
        refine lv_istore (lv' := [(4, .int (nI 0)), (0, .int (nI 4)), (1, .int x), (2, .int y), (3, .int z)]) hx hb dX10_wrongLine_118 hl (by decide) rfl (fun ls hl => ?_)
        refine lv_goto (tgt := 185) hx hb dX10_wrongLine_120 (by decide) ?_
        refine lv_iload hx hb dX10_wrongLine_185 (lv_at hl 0 rfl) ?_
        refine k_if_ne_f (tgt := 192) hx hb dX10_wrongLine_187 (by decide) (by decide) ?_
        refine lv_iconst (v := (-1)) hx hb dX10_wrongLine_190 (by decide) ?_
        have hq : (inR (nI 4) 8 && rowK (tn (nI 4)) x y z) = false := by rw [inR_lt (by decide) (by decide), tn_nI (by decide)]; simp [rowK, qx]
        exact hret _ _ _ _ _ () dX10_wrongLine_191 (by unfold rowF; rw [if_neg (by rw [hq]; decide)]) hP hD hS
    · skip
      refine lv_tableIn (tgt := 123) (off := 122) hx hb dX10_wrongLine_1 (by decide) (by decide) (by decide) (by decide) ?_
      refine lv_iload_n hx hb dX10_wrongLine_123 rfl (lv_at hl 1 rfl) ?_
      refine lv_bipush (v := nI 8) hx hb dX10_wrongLine_124 (by decide) ?_
      refine Ki.callS (wr := []) (rest := []) (CX10_isIn jl G cI cZ cJ x 8 (by decide)) cx hP hD hS hl [] [] gX10_wrongLine_X10_isIn hdX10_isIn rfl ⟨Nat.le_of_ble_eq_true rfl, Nat.le_of_ble_eq_true rfl⟩ rfl rfl (by decide) (by decide) (by decide) dX10_wrongLine_126 rfl rfl (Nat.le_of_ble_eq_true rfl) ⟨Nat.le_of_ble_eq_true rfl, Nat.le_of_ble_eq_true rfl⟩ (fun r_69 u H locs hw_70 hP hD hS => ?_)
      have hP : va_P G vwCl [] H := hP
      have hD : va_D jA [] := hD
      have hw_70 := isIx.b hw_70 (by decide)
      rcases Bool.eq_false_or_eq_true (inR x 8) with qx | qx
      · skip
        rw [qx] at hw_70
        subst hw_70
        refine k_if_eq_f (tgt := 154) hx hb dX10_wrongLine_129 (by decide) (by decide) ?_
        refine lv_iload_n hx hb dX10_wrongLine_132 rfl (lv_at hl 2 rfl) ?_
        refine lv_bipush (v := nI 8) hx hb dX10_wrongLine_133 (by decide) ?_
        refine Ki.callS (wr := []) (rest := []) (CX10_isIn jl G cI cZ cJ y 8 (by decide)) cx hP hD hS hl [] [] gX10_wrongLine_X10_isIn hdX10_isIn rfl ⟨Nat.le_of_ble_eq_true rfl, Nat.le_of_ble_eq_true rfl⟩ rfl rfl (by decide) (by decide) (by decide) dX10_wrongLine_135 rfl rfl (Nat.le_of_ble_eq_true rfl) ⟨Nat.le_of_ble_eq_true rfl, Nat.le_of_ble_eq_true rfl⟩ (fun r_72 u H locs hw_73 hP hD hS => ?_)
        have hP : va_P G vwCl [] H := hP
        have hD : va_D jA [] := hD
        have hw_73 := isIx.b hw_73 (by decide)
        rcases Bool.eq_false_or_eq_true (inR y 8) with qy | qy
        · skip
          rw [qy] at hw_73
          subst hw_73
          refine k_if_eq_f (tgt := 154) hx hb dX10_wrongLine_138 (by decide) (by decide) ?_
          refine lv_iload_n hx hb dX10_wrongLine_141 rfl (lv_at hl 3 rfl) ?_
          refine lv_bipush (v := nI 25) hx hb dX10_wrongLine_142 (by decide) ?_
          refine Ki.callS (wr := []) (rest := []) (CX10_isIn jl G cI cZ cJ z 25 (by decide)) cx hP hD hS hl [] [] gX10_wrongLine_X10_isIn hdX10_isIn rfl ⟨Nat.le_of_ble_eq_true rfl, Nat.le_of_ble_eq_true rfl⟩ rfl rfl (by decide) (by decide) (by decide) dX10_wrongLine_144 rfl rfl (Nat.le_of_ble_eq_true rfl) ⟨Nat.le_of_ble_eq_true rfl, Nat.le_of_ble_eq_true rfl⟩ (fun r_75 u H locs hw_76 hP hD hS => ?_)
          have hP : va_P G vwCl [] H := hP
          have hD : va_D jA [] := hD
          have hw_76 := isIx.b hw_76 (by decide)
          rcases Bool.eq_false_or_eq_true (inR z 25) with qz | qz
          · skip
            rw [qz] at hw_76
            subst hw_76
            refine k_if_eq_f (tgt := 154) hx hb dX10_wrongLine_147 (by decide) (by decide) ?_
            refine lv_iconst (v := nI 1) hx hb dX10_wrongLine_150 (by decide) ?_
            refine lv_goto (tgt := 155) hx hb dX10_wrongLine_151 (by decide) ?_
            refine lv_istore (lv' := [(4, .int (nI 1)), (0, .int (nI 5)), (1, .int x), (2, .int y), (3, .int z)]) hx hb dX10_wrongLine_155 hl (by decide) rfl (fun ls hl => ?_)
            refine lv_goto (tgt := 185) hx hb dX10_wrongLine_157 (by decide) ?_
            refine lv_iload hx hb dX10_wrongLine_185 (lv_at hl 0 rfl) ?_
            refine k_if_ne_t (tgt := 192) hx hb dX10_wrongLine_187 (by decide) (by decide) ?_
            refine lv_iload_n hx hb dX10_wrongLine_192 rfl (lv_at hl 1 rfl) ?_
            refine k_if_ne_t (tgt := 209) hx hb dX10_wrongLine_193 (by decide) (by decide) ?_
            refine lv_iconst (v := nI 0) hx hb dX10_wrongLine_209 (by decide) ?_
            have hq : (inR (nI 5) 8 && rowK (tn (nI 5)) x y z) = true := by rw [inR_lt (by decide) (by decide), tn_nI (by decide)]; simp [rowK, qx, qy, qz]
            exact hret _ _ _ _ _ () dX10_wrongLine_210 (by unfold rowF; rw [if_pos hq, if_neg (by decide)]) hP hD hS
          · skip
            rw [qz] at hw_76
            subst hw_76
            refine k_if_eq_t (tgt := 154) hx hb dX10_wrongLine_147 (by decide) (by decide) ?_
            refine lv_iconst (v := nI 0) hx hb dX10_wrongLine_154 (by decide) ?_
            refine lv_istore (lv' := [(4, .int (nI 0)), (0, .int (nI 5)), (1, .int x), (2, .int y), (3, .int z)]) hx hb dX10_wrongLine_155 hl (by decide) rfl (fun ls hl => ?_)
            refine lv_goto (tgt := 185) hx hb dX10_wrongLine_157 (by decide) ?_
            refine lv_iload hx hb dX10_wrongLine_185 (lv_at hl 0 rfl) ?_
            refine k_if_ne_f (tgt := 192) hx hb dX10_wrongLine_187 (by decide) (by decide) ?_
            refine lv_iconst (v := (-1)) hx hb dX10_wrongLine_190 (by decide) ?_
            have hq : (inR (nI 5) 8 && rowK (tn (nI 5)) x y z) = false := by rw [inR_lt (by decide) (by decide), tn_nI (by decide)]; simp [rowK, qx, qy, qz]
            exact hret _ _ _ _ _ () dX10_wrongLine_191 (by unfold rowF; rw [if_neg (by rw [hq]; decide)]) hP hD hS
        · skip
          rw [qy] at hw_73
          subst hw_73
          refine k_if_eq_t (tgt := 154) hx hb dX10_wrongLine_138 (by decide) (by decide) ?_
          refine lv_iconst (v := nI 0) hx hb dX10_wrongLine_154 (by decide) ?_
          refine lv_istore (lv' := [(4, .int (nI 0)), (0, .int (nI 5)), (1, .int x), (2, .int y), (3, .int z)]) hx hb dX10_wrongLine_155 hl (by decide) rfl (fun ls hl => ?_)
          refine lv_goto (tgt := 185) hx hb dX10_wrongLine_157 (by decide) ?_
          refine lv_iload hx hb dX10_wrongLine_185 (lv_at hl 0 rfl) ?_
          refine k_if_ne_f (tgt := 192) hx hb dX10_wrongLine_187 (by decide) (by decide) ?_
          refine lv_iconst (v := (-1)) hx hb dX10_wrongLine_190 (by decide) ?_
          have hq : (inR (nI 5) 8 && rowK (tn (nI 5)) x y z) = false := by rw [inR_lt (by decide) (by decide), tn_nI (by decide)]; simp [rowK, qx, qy]
          exact hret _ _ _ _ _ () dX10_wrongLine_191 (by unfold rowF; rw [if_neg (by rw [hq]; decide)]) hP hD hS
      · skip
        rw [qx] at hw_70
        subst hw_70
        refine k_if_eq_t (tgt := 154) hx hb dX10_wrongLine_129 (by decide) (by decide) ?_
        refine lv_iconst (v := nI 0) hx hb dX10_wrongLine_154 (by decide) ?_
        refine lv_istore (lv' := [(4, .int (nI 0)), (0, .int (nI 5)), (1, .int x), (2, .int y), (3, .int z)]) hx hb dX10_wrongLine_155 hl (by decide) rfl (fun ls hl => ?_)
        refine lv_goto (tgt := 185) hx hb dX10_wrongLine_157 (by decide) ?_
        refine lv_iload hx hb dX10_wrongLine_185 (lv_at hl 0 rfl) ?_
        refine k_if_ne_f (tgt := 192) hx hb dX10_wrongLine_187 (by decide) (by decide) ?_
        refine lv_iconst (v := (-1)) hx hb dX10_wrongLine_190 (by decide) ?_
        have hq : (inR (nI 5) 8 && rowK (tn (nI 5)) x y z) = false := by rw [inR_lt (by decide) (by decide), tn_nI (by decide)]; simp [rowK, qx]
        exact hret _ _ _ _ _ () dX10_wrongLine_191 (by unfold rowF; rw [if_neg (by rw [hq]; decide)]) hP hD hS
    · skip
      refine lv_tableIn (tgt := 160) (off := 159) hx hb dX10_wrongLine_1 (by decide) (by decide) (by decide) (by decide) ?_
      refine lv_iload_n hx hb dX10_wrongLine_160 rfl (lv_at hl 3 rfl) ?_
      refine lv_bipush (v := nI 25) hx hb dX10_wrongLine_161 (by decide) ?_
      refine Ki.callS (wr := []) (rest := []) (CX10_isIn jl G cI cZ cJ z 25 (by decide)) cx hP hD hS hl [] [] gX10_wrongLine_X10_isIn hdX10_isIn rfl ⟨Nat.le_of_ble_eq_true rfl, Nat.le_of_ble_eq_true rfl⟩ rfl rfl (by decide) (by decide) (by decide) dX10_wrongLine_163 rfl rfl (Nat.le_of_ble_eq_true rfl) ⟨Nat.le_of_ble_eq_true rfl, Nat.le_of_ble_eq_true rfl⟩ (fun r_86 u H locs hw_87 hP hD hS => ?_)
      have hP : va_P G vwCl [] H := hP
      have hD : va_D jA [] := hD
      have hw_87 := isIx.b hw_87 (by decide)
      rcases Bool.eq_false_or_eq_true (inR z 25) with qz | qz
      · skip
        rw [qz] at hw_87
        subst hw_87
        refine lv_istore (lv' := [(4, .int (nI 1)), (0, .int (nI 6)), (1, .int x), (2, .int y), (3, .int z)]) hx hb dX10_wrongLine_166 hl (by decide) rfl (fun ls hl => ?_)
        refine lv_goto (tgt := 185) hx hb dX10_wrongLine_168 (by decide) ?_
        refine lv_iload hx hb dX10_wrongLine_185 (lv_at hl 0 rfl) ?_
        refine k_if_ne_t (tgt := 192) hx hb dX10_wrongLine_187 (by decide) (by decide) ?_
        refine lv_iload_n hx hb dX10_wrongLine_192 rfl (lv_at hl 1 rfl) ?_
        refine k_if_ne_t (tgt := 209) hx hb dX10_wrongLine_193 (by decide) (by decide) ?_
        refine lv_iconst (v := nI 0) hx hb dX10_wrongLine_209 (by decide) ?_
        have hq : (inR (nI 6) 8 && rowK (tn (nI 6)) x y z) = true := by rw [inR_lt (by decide) (by decide), tn_nI (by decide)]; simp [rowK, qz]
        exact hret _ _ _ _ _ () dX10_wrongLine_210 (by unfold rowF; rw [if_pos hq, if_neg (by decide)]) hP hD hS
      · skip
        rw [qz] at hw_87
        subst hw_87
        refine lv_istore (lv' := [(4, .int (nI 0)), (0, .int (nI 6)), (1, .int x), (2, .int y), (3, .int z)]) hx hb dX10_wrongLine_166 hl (by decide) rfl (fun ls hl => ?_)
        refine lv_goto (tgt := 185) hx hb dX10_wrongLine_168 (by decide) ?_
        refine lv_iload hx hb dX10_wrongLine_185 (lv_at hl 0 rfl) ?_
        refine k_if_ne_f (tgt := 192) hx hb dX10_wrongLine_187 (by decide) (by decide) ?_
        refine lv_iconst (v := (-1)) hx hb dX10_wrongLine_190 (by decide) ?_
        have hq : (inR (nI 6) 8 && rowK (tn (nI 6)) x y z) = false := by rw [inR_lt (by decide) (by decide), tn_nI (by decide)]; simp [rowK, qz]
        exact hret _ _ _ _ _ () dX10_wrongLine_191 (by unfold rowF; rw [if_neg (by rw [hq]; decide)]) hP hD hS
    · skip
      refine lv_tableIn (tgt := 171) (off := 170) hx hb dX10_wrongLine_1 (by decide) (by decide) (by decide) (by decide) ?_
      refine lv_iload_n hx hb dX10_wrongLine_171 rfl (lv_at hl 1 rfl) ?_
      refine lv_bipush (v := nI 8) hx hb dX10_wrongLine_172 (by decide) ?_
      refine Ki.callS (wr := []) (rest := []) (CX10_isIn jl G cI cZ cJ x 8 (by decide)) cx hP hD hS hl [] [] gX10_wrongLine_X10_isIn hdX10_isIn rfl ⟨Nat.le_of_ble_eq_true rfl, Nat.le_of_ble_eq_true rfl⟩ rfl rfl (by decide) (by decide) (by decide) dX10_wrongLine_174 rfl rfl (Nat.le_of_ble_eq_true rfl) ⟨Nat.le_of_ble_eq_true rfl, Nat.le_of_ble_eq_true rfl⟩ (fun r_91 u H locs hw_92 hP hD hS => ?_)
      have hP : va_P G vwCl [] H := hP
      have hD : va_D jA [] := hD
      have hw_92 := isIx.b hw_92 (by decide)
      rcases Bool.eq_false_or_eq_true (inR x 8) with qx | qx
      · skip
        rw [qx] at hw_92
        subst hw_92
        refine lv_istore (lv' := [(4, .int (nI 1)), (0, .int (nI 7)), (1, .int x), (2, .int y), (3, .int z)]) hx hb dX10_wrongLine_177 hl (by decide) rfl (fun ls hl => ?_)
        refine lv_goto (tgt := 185) hx hb dX10_wrongLine_179 (by decide) ?_
        refine lv_iload hx hb dX10_wrongLine_185 (lv_at hl 0 rfl) ?_
        refine k_if_ne_t (tgt := 192) hx hb dX10_wrongLine_187 (by decide) (by decide) ?_
        refine lv_iload_n hx hb dX10_wrongLine_192 rfl (lv_at hl 1 rfl) ?_
        refine k_if_ne_t (tgt := 209) hx hb dX10_wrongLine_193 (by decide) (by decide) ?_
        refine lv_iconst (v := nI 0) hx hb dX10_wrongLine_209 (by decide) ?_
        have hq : (inR (nI 7) 8 && rowK (tn (nI 7)) x y z) = true := by rw [inR_lt (by decide) (by decide), tn_nI (by decide)]; simp [rowK, qx]
        exact hret _ _ _ _ _ () dX10_wrongLine_210 (by unfold rowF; rw [if_pos hq, if_neg (by decide)]) hP hD hS
      · skip
        rw [qx] at hw_92
        subst hw_92
        refine lv_istore (lv' := [(4, .int (nI 0)), (0, .int (nI 7)), (1, .int x), (2, .int y), (3, .int z)]) hx hb dX10_wrongLine_177 hl (by decide) rfl (fun ls hl => ?_)
        refine lv_goto (tgt := 185) hx hb dX10_wrongLine_179 (by decide) ?_
        refine lv_iload hx hb dX10_wrongLine_185 (lv_at hl 0 rfl) ?_
        refine k_if_ne_f (tgt := 192) hx hb dX10_wrongLine_187 (by decide) (by decide) ?_
        refine lv_iconst (v := (-1)) hx hb dX10_wrongLine_190 (by decide) ?_
        have hq : (inR (nI 7) 8 && rowK (tn (nI 7)) x y z) = false := by rw [inR_lt (by decide) (by decide), tn_nI (by decide)]; simp [rowK, qx]
        exact hret _ _ _ _ _ () dX10_wrongLine_191 (by unfold rowF; rw [if_neg (by rw [hq]; decide)]) hP hD hS
  · skip
    refine lv_tableOut (tgt := 182) hx hb dX10_wrongLine_1 (tbl_7 hin) (by decide) ?_
    refine lv_iconst (v := nI 0) hx hb dX10_wrongLine_182 (by decide) ?_
    refine lv_istore (lv' := [(4, .int (nI 0)), (0, .int op), (1, .int x), (2, .int y), (3, .int z)]) hx hb dX10_wrongLine_183 hl (by decide) rfl (fun ls hl => ?_)
    refine lv_iload hx hb dX10_wrongLine_185 (lv_at hl 0 rfl) ?_
    refine k_if_ne_f (tgt := 192) hx hb dX10_wrongLine_187 (by decide) (by decide) ?_
    refine lv_iconst (v := (-1)) hx hb dX10_wrongLine_190 (by decide) ?_
    have hq : (inR op 8 && rowK (tn op) x y z) = false := by rw [hin]; rfl
    exact hret _ _ _ _ _ () dX10_wrongLine_191 (by unfold rowF; rw [if_neg (by rw [hq]; decide)]) hP hD hS

abbrev rCX10_put96 : Room := { frames := 0, cells := 0, slots := 0, locals := 0 }
set_option maxHeartbeats 4000000 in
set_option maxRecDepth 100000 in
theorem CX10_put96 (jl : Launch) (G : va_G) (cI cZ cJ : ClassId) (a at_ : Nat) (f : Fn) (hat : at_ + 3 < 96) (op x y z : Int32) : Kv jl yX10_put wsX10_put rCX10_put96 G cI cZ cJ [.ref a, .int (nI at_), .int op, .int x, .int y, .int z] [aI cI a 96 f] (S := Unit) (fun (_ : Unit) => True) (fun (_ : Unit) => [aI cI a 96 (upd (upd (upd (upd f at_ op) (at_ + 1) x) (at_ + 2) y) (at_ + 3) z)]) := by
  refine Kv.of (cc := cX10_put) (maxL := 6) (by decide +kernel) rfl (Nat.le_of_ble_eq_true rfl) ?_
  intro jp je js jm ja jb jt jc jA jQ ls cx hnm hP hD hS hl hret
  obtain ⟨hx, hb, hml, hown, hts, hK, hA⟩ := id cx
  have hl : lv_has ls 6 [(0, .ref a), (1, .int (nI at_)), (2, .int op), (3, .int x), (4, .int y), (5, .int z)] := hl
  obtain ⟨H, hH⟩ : ∃ H, H = js.heap := ⟨_, rfl⟩
  obtain ⟨locs, hlocs⟩ : ∃ z : List Loc, z = [] := ⟨_, rfl⟩
  have hP : va_P G vwCl [aI cI a 96 f] H := by rw [hH]; exact hP
  have hS : va_S jA js.heap H locs := by rw [hH, hlocs]; exact hS
  rw [← hlocs]; rw [show W jp jl je rCX10_put96 js jm ja jb jt jc js.heap locs 0 0 jQ (F0 jm 0 ls []) = W jp jl je rCX10_put96 js jm ja jb jt jc H locs 0 0 jQ (F0 jm 0 ls []) by rw [hH]]
  clear hH hlocs
  refine lv_aload_n hx hb dX10_put_0 rfl (lv_at hl 0 rfl) ?_
  refine lv_iload_n hx hb dX10_put_1 rfl (lv_at hl 1 rfl) ?_
  refine lv_iload_n hx hb dX10_put_2 rfl (lv_at hl 2 rfl) ?_
  refine k_iast hx hb hK.1 hP hD hS 0 0 rfl rfl (by omega) (by decide) dX10_put_3 (fun H locs hP hD hS => ?_)
  have hP : va_P G vwCl [aI cI a 96 (upd f at_ op)] H := hP
  have hD : va_D jA [aI cI a 96 (upd f at_ op)] := hD
  refine lv_aload_n hx hb dX10_put_4 rfl (lv_at hl 0 rfl) ?_
  refine lv_iload_n hx hb dX10_put_5 rfl (lv_at hl 1 rfl) ?_
  refine lv_iconst (v := nI 1) hx hb dX10_put_6 (by decide) ?_
  refine k_iadd hx hb dX10_put_7 ?_
  refine lv_iload_n hx hb dX10_put_8 rfl (lv_at hl 3 rfl) ?_
  refine k_iast hx hb hK.1 hP hD hS 0 0 rfl rfl (by omega) (by decide) dX10_put_9 (fun H locs hP hD hS => ?_)
  have hP : va_P G vwCl [aI cI a 96 (upd (upd f at_ op) (at_ + 1) x)] H := hP
  have hD : va_D jA [aI cI a 96 (upd (upd f at_ op) (at_ + 1) x)] := hD
  refine lv_aload_n hx hb dX10_put_10 rfl (lv_at hl 0 rfl) ?_
  refine lv_iload_n hx hb dX10_put_11 rfl (lv_at hl 1 rfl) ?_
  refine lv_iconst (v := nI 2) hx hb dX10_put_12 (by decide) ?_
  refine k_iadd hx hb dX10_put_13 ?_
  refine lv_iload hx hb dX10_put_14 (lv_at hl 4 rfl) ?_
  refine k_iast hx hb hK.1 hP hD hS 0 0 rfl rfl (by omega) (by decide) dX10_put_16 (fun H locs hP hD hS => ?_)
  have hP : va_P G vwCl [aI cI a 96 (upd (upd (upd f at_ op) (at_ + 1) x) (at_ + 2) y)] H := hP
  have hD : va_D jA [aI cI a 96 (upd (upd (upd f at_ op) (at_ + 1) x) (at_ + 2) y)] := hD
  refine lv_aload_n hx hb dX10_put_17 rfl (lv_at hl 0 rfl) ?_
  refine lv_iload_n hx hb dX10_put_18 rfl (lv_at hl 1 rfl) ?_
  refine lv_iconst (v := nI 3) hx hb dX10_put_19 (by decide) ?_
  refine k_iadd hx hb dX10_put_20 ?_
  refine lv_iload hx hb dX10_put_21 (lv_at hl 5 rfl) ?_
  refine k_iast hx hb hK.1 hP hD hS 0 0 rfl rfl (by omega) (by decide) dX10_put_23 (fun H locs hP hD hS => ?_)
  have hP : va_P G vwCl [aI cI a 96 (upd (upd (upd (upd f at_ op) (at_ + 1) x) (at_ + 2) y) (at_ + 3) z)] H := hP
  have hD : va_D jA [aI cI a 96 (upd (upd (upd (upd f at_ op) (at_ + 1) x) (at_ + 2) y) (at_ + 3) z)] := hD
  exact hret _ _ _ _ () dX10_put_24 (trivial) hP hD hS

abbrev rCX10_put100 : Room := { frames := 0, cells := 0, slots := 0, locals := 0 }
set_option maxHeartbeats 4000000 in
set_option maxRecDepth 100000 in
theorem CX10_put100 (jl : Launch) (G : va_G) (cI cZ cJ : ClassId) (a at_ : Nat) (f : Fn) (hat : at_ + 3 < 100) (op x y z : Int32) : Kv jl yX10_put wsX10_put rCX10_put100 G cI cZ cJ [.ref a, .int (nI at_), .int op, .int x, .int y, .int z] [aI cI a 100 f] (S := Unit) (fun (_ : Unit) => True) (fun (_ : Unit) => [aI cI a 100 (upd (upd (upd (upd f at_ op) (at_ + 1) x) (at_ + 2) y) (at_ + 3) z)]) := by
  refine Kv.of (cc := cX10_put) (maxL := 6) (by decide +kernel) rfl (Nat.le_of_ble_eq_true rfl) ?_
  intro jp je js jm ja jb jt jc jA jQ ls cx hnm hP hD hS hl hret
  obtain ⟨hx, hb, hml, hown, hts, hK, hA⟩ := id cx
  have hl : lv_has ls 6 [(0, .ref a), (1, .int (nI at_)), (2, .int op), (3, .int x), (4, .int y), (5, .int z)] := hl
  obtain ⟨H, hH⟩ : ∃ H, H = js.heap := ⟨_, rfl⟩
  obtain ⟨locs, hlocs⟩ : ∃ z : List Loc, z = [] := ⟨_, rfl⟩
  have hP : va_P G vwCl [aI cI a 100 f] H := by rw [hH]; exact hP
  have hS : va_S jA js.heap H locs := by rw [hH, hlocs]; exact hS
  rw [← hlocs]; rw [show W jp jl je rCX10_put100 js jm ja jb jt jc js.heap locs 0 0 jQ (F0 jm 0 ls []) = W jp jl je rCX10_put100 js jm ja jb jt jc H locs 0 0 jQ (F0 jm 0 ls []) by rw [hH]]
  clear hH hlocs
  refine lv_aload_n hx hb dX10_put_0 rfl (lv_at hl 0 rfl) ?_
  refine lv_iload_n hx hb dX10_put_1 rfl (lv_at hl 1 rfl) ?_
  refine lv_iload_n hx hb dX10_put_2 rfl (lv_at hl 2 rfl) ?_
  refine k_iast hx hb hK.1 hP hD hS 0 0 rfl rfl (by omega) (by decide) dX10_put_3 (fun H locs hP hD hS => ?_)
  have hP : va_P G vwCl [aI cI a 100 (upd f at_ op)] H := hP
  have hD : va_D jA [aI cI a 100 (upd f at_ op)] := hD
  refine lv_aload_n hx hb dX10_put_4 rfl (lv_at hl 0 rfl) ?_
  refine lv_iload_n hx hb dX10_put_5 rfl (lv_at hl 1 rfl) ?_
  refine lv_iconst (v := nI 1) hx hb dX10_put_6 (by decide) ?_
  refine k_iadd hx hb dX10_put_7 ?_
  refine lv_iload_n hx hb dX10_put_8 rfl (lv_at hl 3 rfl) ?_
  refine k_iast hx hb hK.1 hP hD hS 0 0 rfl rfl (by omega) (by decide) dX10_put_9 (fun H locs hP hD hS => ?_)
  have hP : va_P G vwCl [aI cI a 100 (upd (upd f at_ op) (at_ + 1) x)] H := hP
  have hD : va_D jA [aI cI a 100 (upd (upd f at_ op) (at_ + 1) x)] := hD
  refine lv_aload_n hx hb dX10_put_10 rfl (lv_at hl 0 rfl) ?_
  refine lv_iload_n hx hb dX10_put_11 rfl (lv_at hl 1 rfl) ?_
  refine lv_iconst (v := nI 2) hx hb dX10_put_12 (by decide) ?_
  refine k_iadd hx hb dX10_put_13 ?_
  refine lv_iload hx hb dX10_put_14 (lv_at hl 4 rfl) ?_
  refine k_iast hx hb hK.1 hP hD hS 0 0 rfl rfl (by omega) (by decide) dX10_put_16 (fun H locs hP hD hS => ?_)
  have hP : va_P G vwCl [aI cI a 100 (upd (upd (upd f at_ op) (at_ + 1) x) (at_ + 2) y)] H := hP
  have hD : va_D jA [aI cI a 100 (upd (upd (upd f at_ op) (at_ + 1) x) (at_ + 2) y)] := hD
  refine lv_aload_n hx hb dX10_put_17 rfl (lv_at hl 0 rfl) ?_
  refine lv_iload_n hx hb dX10_put_18 rfl (lv_at hl 1 rfl) ?_
  refine lv_iconst (v := nI 3) hx hb dX10_put_19 (by decide) ?_
  refine k_iadd hx hb dX10_put_20 ?_
  refine lv_iload hx hb dX10_put_21 (lv_at hl 5 rfl) ?_
  refine k_iast hx hb hK.1 hP hD hS 0 0 rfl rfl (by omega) (by decide) dX10_put_23 (fun H locs hP hD hS => ?_)
  have hP : va_P G vwCl [aI cI a 100 (upd (upd (upd (upd f at_ op) (at_ + 1) x) (at_ + 2) y) (at_ + 3) z)] H := hP
  have hD : va_D jA [aI cI a 100 (upd (upd (upd (upd f at_ op) (at_ + 1) x) (at_ + 2) y) (at_ + 3) z)] := hD
  exact hret _ _ _ _ () dX10_put_24 (trivial) hP hD hS

abbrev rCX10_put48 : Room := { frames := 0, cells := 0, slots := 0, locals := 0 }
set_option maxHeartbeats 4000000 in
set_option maxRecDepth 100000 in
theorem CX10_put48 (jl : Launch) (G : va_G) (cI cZ cJ : ClassId) (a at_ : Nat) (f : Fn) (hat : at_ + 3 < 48) (op x y z : Int32) : Kv jl yX10_put wsX10_put rCX10_put48 G cI cZ cJ [.ref a, .int (nI at_), .int op, .int x, .int y, .int z] [aI cI a 48 f] (S := Unit) (fun (_ : Unit) => True) (fun (_ : Unit) => [aI cI a 48 (upd (upd (upd (upd f at_ op) (at_ + 1) x) (at_ + 2) y) (at_ + 3) z)]) := by
  refine Kv.of (cc := cX10_put) (maxL := 6) (by decide +kernel) rfl (Nat.le_of_ble_eq_true rfl) ?_
  intro jp je js jm ja jb jt jc jA jQ ls cx hnm hP hD hS hl hret
  obtain ⟨hx, hb, hml, hown, hts, hK, hA⟩ := id cx
  have hl : lv_has ls 6 [(0, .ref a), (1, .int (nI at_)), (2, .int op), (3, .int x), (4, .int y), (5, .int z)] := hl
  obtain ⟨H, hH⟩ : ∃ H, H = js.heap := ⟨_, rfl⟩
  obtain ⟨locs, hlocs⟩ : ∃ z : List Loc, z = [] := ⟨_, rfl⟩
  have hP : va_P G vwCl [aI cI a 48 f] H := by rw [hH]; exact hP
  have hS : va_S jA js.heap H locs := by rw [hH, hlocs]; exact hS
  rw [← hlocs]; rw [show W jp jl je rCX10_put48 js jm ja jb jt jc js.heap locs 0 0 jQ (F0 jm 0 ls []) = W jp jl je rCX10_put48 js jm ja jb jt jc H locs 0 0 jQ (F0 jm 0 ls []) by rw [hH]]
  clear hH hlocs
  refine lv_aload_n hx hb dX10_put_0 rfl (lv_at hl 0 rfl) ?_
  refine lv_iload_n hx hb dX10_put_1 rfl (lv_at hl 1 rfl) ?_
  refine lv_iload_n hx hb dX10_put_2 rfl (lv_at hl 2 rfl) ?_
  refine k_iast hx hb hK.1 hP hD hS 0 0 rfl rfl (by omega) (by decide) dX10_put_3 (fun H locs hP hD hS => ?_)
  have hP : va_P G vwCl [aI cI a 48 (upd f at_ op)] H := hP
  have hD : va_D jA [aI cI a 48 (upd f at_ op)] := hD
  refine lv_aload_n hx hb dX10_put_4 rfl (lv_at hl 0 rfl) ?_
  refine lv_iload_n hx hb dX10_put_5 rfl (lv_at hl 1 rfl) ?_
  refine lv_iconst (v := nI 1) hx hb dX10_put_6 (by decide) ?_
  refine k_iadd hx hb dX10_put_7 ?_
  refine lv_iload_n hx hb dX10_put_8 rfl (lv_at hl 3 rfl) ?_
  refine k_iast hx hb hK.1 hP hD hS 0 0 rfl rfl (by omega) (by decide) dX10_put_9 (fun H locs hP hD hS => ?_)
  have hP : va_P G vwCl [aI cI a 48 (upd (upd f at_ op) (at_ + 1) x)] H := hP
  have hD : va_D jA [aI cI a 48 (upd (upd f at_ op) (at_ + 1) x)] := hD
  refine lv_aload_n hx hb dX10_put_10 rfl (lv_at hl 0 rfl) ?_
  refine lv_iload_n hx hb dX10_put_11 rfl (lv_at hl 1 rfl) ?_
  refine lv_iconst (v := nI 2) hx hb dX10_put_12 (by decide) ?_
  refine k_iadd hx hb dX10_put_13 ?_
  refine lv_iload hx hb dX10_put_14 (lv_at hl 4 rfl) ?_
  refine k_iast hx hb hK.1 hP hD hS 0 0 rfl rfl (by omega) (by decide) dX10_put_16 (fun H locs hP hD hS => ?_)
  have hP : va_P G vwCl [aI cI a 48 (upd (upd (upd f at_ op) (at_ + 1) x) (at_ + 2) y)] H := hP
  have hD : va_D jA [aI cI a 48 (upd (upd (upd f at_ op) (at_ + 1) x) (at_ + 2) y)] := hD
  refine lv_aload_n hx hb dX10_put_17 rfl (lv_at hl 0 rfl) ?_
  refine lv_iload_n hx hb dX10_put_18 rfl (lv_at hl 1 rfl) ?_
  refine lv_iconst (v := nI 3) hx hb dX10_put_19 (by decide) ?_
  refine k_iadd hx hb dX10_put_20 ?_
  refine lv_iload hx hb dX10_put_21 (lv_at hl 5 rfl) ?_
  refine k_iast hx hb hK.1 hP hD hS 0 0 rfl rfl (by omega) (by decide) dX10_put_23 (fun H locs hP hD hS => ?_)
  have hP : va_P G vwCl [aI cI a 48 (upd (upd (upd (upd f at_ op) (at_ + 1) x) (at_ + 2) y) (at_ + 3) z)] H := hP
  have hD : va_D jA [aI cI a 48 (upd (upd (upd (upd f at_ op) (at_ + 1) x) (at_ + 2) y) (at_ + 3) z)] := hD
  exact hret _ _ _ _ () dX10_put_24 (trivial) hP hD hS

theorem iX10_thrown_10 : ∀ w ∈ wsX100, w ∈ wsX10_thrown := by decide +kernel
theorem mX10_thrown_66 : Cond.fieldLink RX10 66 "LineFinderModel" "thrown" "I" ∈ wsX10_thrown := List.mem_of_getElem? (i := 1) rfl
abbrev rCX10_thrown : Room := { frames := 0, cells := 0, slots := 0, locals := 0 }
set_option maxHeartbeats 4000000 in
set_option maxRecDepth 100000 in
theorem CX10_thrown (jl : Launch) (G : va_G) (cI cZ cJ : ClassId) (ma : Nat → Nat) (N : Nat → Nat) (F : Nat → Fn) (rf T X B : Fn) (M : Nat → Nat) (C : Int32) (E : Nat → Fn) (L : Nat → Int64) (hLA : LA N F) (hMR : MR N F T X B)  : Ki jl yX10_thrown wsX10_thrown rCX10_thrown G cI cZ cJ [.ref (ma 0)] [oB (ma 0) 10 [.ref (ma 1), .int (nI (N 0)), .int (nI (N 3)), .int (nI (N 1)), .int (nI (M 0)), .ref (ma 2), .ref (ma 3), .ref (ma 4), .ref (ma 5), .ref (ma 6), .ref (ma 7), .ref (ma 8), .ref (ma 9), .ref (ma 10), .ref (ma 11), .ref (ma 12), .ref (ma 13), .int (nI (M 1)), .int (nI (M 2)), .int (nI (M 3)), .int C, .ref (ma 14), .ref (ma 15), .int (nI (M 4)), .int (nI (M 5)), .int (nI (M 6)), .int (nI (M 7)), .int (nI (M 8)), .ref (ma 16), .ref (ma 17), .int (nI (M 9)), .ref (ma 18), .int (nI (M 10))]] (S := Unit) (fun (r : Int32) (_ : Unit) => r = nI (M 0)) (fun (_ : Unit) => [oB (ma 0) 10 [.ref (ma 1), .int (nI (N 0)), .int (nI (N 3)), .int (nI (N 1)), .int (nI (M 0)), .ref (ma 2), .ref (ma 3), .ref (ma 4), .ref (ma 5), .ref (ma 6), .ref (ma 7), .ref (ma 8), .ref (ma 9), .ref (ma 10), .ref (ma 11), .ref (ma 12), .ref (ma 13), .int (nI (M 1)), .int (nI (M 2)), .int (nI (M 3)), .int C, .ref (ma 14), .ref (ma 15), .int (nI (M 4)), .int (nI (M 5)), .int (nI (M 6)), .int (nI (M 7)), .int (nI (M 8)), .ref (ma 16), .ref (ma 17), .int (nI (M 9)), .ref (ma 18), .int (nI (M 10))]]) := by
  refine Ki.of (cc := cX10_thrown) (maxL := 1) (by decide +kernel) rfl (Nat.le_of_ble_eq_true rfl) ?_
  intro jp je js jm ja jb jt jc jA jQ ls cx hnm hP hD hS hl hret
  obtain ⟨hx, hb, hml, hown, hts, hK, hA⟩ := id cx
  have hl : lv_has ls 1 [(0, .ref (ma 0))] := hl
  obtain ⟨H, hH⟩ : ∃ H, H = js.heap := ⟨_, rfl⟩
  obtain ⟨locs, hlocs⟩ : ∃ z : List Loc, z = [] := ⟨_, rfl⟩
  have hP : va_P G vwCl [oB (ma 0) 10 [.ref (ma 1), .int (nI (N 0)), .int (nI (N 3)), .int (nI (N 1)), .int (nI (M 0)), .ref (ma 2), .ref (ma 3), .ref (ma 4), .ref (ma 5), .ref (ma 6), .ref (ma 7), .ref (ma 8), .ref (ma 9), .ref (ma 10), .ref (ma 11), .ref (ma 12), .ref (ma 13), .int (nI (M 1)), .int (nI (M 2)), .int (nI (M 3)), .int C, .ref (ma 14), .ref (ma 15), .int (nI (M 4)), .int (nI (M 5)), .int (nI (M 6)), .int (nI (M 7)), .int (nI (M 8)), .ref (ma 16), .ref (ma 17), .int (nI (M 9)), .ref (ma 18), .int (nI (M 10))]] H := by rw [hH]; exact hP
  have hS : va_S jA js.heap H locs := by rw [hH, hlocs]; exact hS
  rw [← hlocs]; rw [show W jp jl je rCX10_thrown js jm ja jb jt jc js.heap locs 0 0 jQ (F0 jm 0 ls []) = W jp jl je rCX10_thrown js jm ja jb jt jc H locs 0 0 jQ (F0 jm 0 ls []) by rw [hH]]
  clear hH hlocs
  refine lv_aload_n hx hb dX10_thrown_0 rfl (lv_at hl 0 rfl) ?_
  refine va_get (C := RX10) (T := TX10) (N := 33) (ci := 10) hx hb hts iX10_thrown_10 hown hK.1 hP 0 rfl rfl 4 (Nat.le_of_ble_eq_true rfl) (hts _ mX10_thrown_66) (fun _ h9 => h9) rfl dX10_thrown_1 ?_
  exact hret _ _ _ _ _ () dX10_thrown_4 (rfl) hP hD hS

theorem iX10_raises_10 : ∀ w ∈ wsX100, w ∈ wsX10_raises := by decide +kernel
theorem mX10_raises_66 : Cond.fieldLink RX10 66 "LineFinderModel" "thrown" "I" ∈ wsX10_raises := List.mem_of_getElem? (i := 1) rfl
abbrev rCX10_raises : Room := { frames := 0, cells := 0, slots := 0, locals := 0 }
set_option maxHeartbeats 4000000 in
set_option maxRecDepth 100000 in
theorem CX10_raises (jl : Launch) (G : va_G) (cI cZ cJ : ClassId) (ma : Nat → Nat) (N : Nat → Nat) (F : Nat → Fn) (rf T X B : Fn) (M : Nat → Nat) (C : Int32) (E : Nat → Fn) (L : Nat → Int64) (hLA : LA N F) (hMR : MR N F T X B)  : Ki jl yX10_raises wsX10_raises rCX10_raises G cI cZ cJ [.ref (ma 0)] [oB (ma 0) 10 [.ref (ma 1), .int (nI (N 0)), .int (nI (N 3)), .int (nI (N 1)), .int (nI (M 0)), .ref (ma 2), .ref (ma 3), .ref (ma 4), .ref (ma 5), .ref (ma 6), .ref (ma 7), .ref (ma 8), .ref (ma 9), .ref (ma 10), .ref (ma 11), .ref (ma 12), .ref (ma 13), .int (nI (M 1)), .int (nI (M 2)), .int (nI (M 3)), .int C, .ref (ma 14), .ref (ma 15), .int (nI (M 4)), .int (nI (M 5)), .int (nI (M 6)), .int (nI (M 7)), .int (nI (M 8)), .ref (ma 16), .ref (ma 17), .int (nI (M 9)), .ref (ma 18), .int (nI (M 10))]] (S := Unit) (fun (r : Int32) (_ : Unit) => r = nI 0) (fun (_ : Unit) => [oB (ma 0) 10 [.ref (ma 1), .int (nI (N 0)), .int (nI (N 3)), .int (nI (N 1)), .int (nI 1), .ref (ma 2), .ref (ma 3), .ref (ma 4), .ref (ma 5), .ref (ma 6), .ref (ma 7), .ref (ma 8), .ref (ma 9), .ref (ma 10), .ref (ma 11), .ref (ma 12), .ref (ma 13), .int (nI (M 1)), .int (nI (M 2)), .int (nI (M 3)), .int C, .ref (ma 14), .ref (ma 15), .int (nI (M 4)), .int (nI (M 5)), .int (nI (M 6)), .int (nI (M 7)), .int (nI (M 8)), .ref (ma 16), .ref (ma 17), .int (nI (M 9)), .ref (ma 18), .int (nI (M 10))]]) := by
  refine Ki.of (cc := cX10_raises) (maxL := 1) (by decide +kernel) rfl (Nat.le_of_ble_eq_true rfl) ?_
  intro jp je js jm ja jb jt jc jA jQ ls cx hnm hP hD hS hl hret
  obtain ⟨hx, hb, hml, hown, hts, hK, hA⟩ := id cx
  have hl : lv_has ls 1 [(0, .ref (ma 0))] := hl
  obtain ⟨H, hH⟩ : ∃ H, H = js.heap := ⟨_, rfl⟩
  obtain ⟨locs, hlocs⟩ : ∃ z : List Loc, z = [] := ⟨_, rfl⟩
  have hP : va_P G vwCl [oB (ma 0) 10 [.ref (ma 1), .int (nI (N 0)), .int (nI (N 3)), .int (nI (N 1)), .int (nI (M 0)), .ref (ma 2), .ref (ma 3), .ref (ma 4), .ref (ma 5), .ref (ma 6), .ref (ma 7), .ref (ma 8), .ref (ma 9), .ref (ma 10), .ref (ma 11), .ref (ma 12), .ref (ma 13), .int (nI (M 1)), .int (nI (M 2)), .int (nI (M 3)), .int C, .ref (ma 14), .ref (ma 15), .int (nI (M 4)), .int (nI (M 5)), .int (nI (M 6)), .int (nI (M 7)), .int (nI (M 8)), .ref (ma 16), .ref (ma 17), .int (nI (M 9)), .ref (ma 18), .int (nI (M 10))]] H := by rw [hH]; exact hP
  have hS : va_S jA js.heap H locs := by rw [hH, hlocs]; exact hS
  rw [← hlocs]; rw [show W jp jl je rCX10_raises js jm ja jb jt jc js.heap locs 0 0 jQ (F0 jm 0 ls []) = W jp jl je rCX10_raises js jm ja jb jt jc H locs 0 0 jQ (F0 jm 0 ls []) by rw [hH]]
  clear hH hlocs
  refine lv_aload_n hx hb dX10_raises_0 rfl (lv_at hl 0 rfl) ?_
  refine lv_iconst (v := nI 1) hx hb dX10_raises_1 (by decide) ?_
  refine va_put (C := RX10) (T := TX10) (N := 33) (ci := 10) (v := .int (nI 1)) (ty := tyX10 4) hx hb hts iX10_raises_10 tyX10 tyX10_ok nmX10 hown hK.1 hP hD hS 0 rfl rfl 4 (Nat.le_of_ble_eq_true rfl) (hts _ mX10_raises_66) (fun _ h9 => h9) rfl (tyX10_ok 4 (Nat.le_of_ble_eq_true rfl)) (rfl) (rfl) (Nat.le_of_ble_eq_true rfl) dX10_raises_2 (fun H locs hP hD hS => ?_)
  have hP : va_P G vwCl [oB (ma 0) 10 [.ref (ma 1), .int (nI (N 0)), .int (nI (N 3)), .int (nI (N 1)), .int (nI 1), .ref (ma 2), .ref (ma 3), .ref (ma 4), .ref (ma 5), .ref (ma 6), .ref (ma 7), .ref (ma 8), .ref (ma 9), .ref (ma 10), .ref (ma 11), .ref (ma 12), .ref (ma 13), .int (nI (M 1)), .int (nI (M 2)), .int (nI (M 3)), .int C, .ref (ma 14), .ref (ma 15), .int (nI (M 4)), .int (nI (M 5)), .int (nI (M 6)), .int (nI (M 7)), .int (nI (M 8)), .ref (ma 16), .ref (ma 17), .int (nI (M 9)), .ref (ma 18), .int (nI (M 10))]] H := hP
  have hD : va_D jA [oB (ma 0) 10 [.ref (ma 1), .int (nI (N 0)), .int (nI (N 3)), .int (nI (N 1)), .int (nI 1), .ref (ma 2), .ref (ma 3), .ref (ma 4), .ref (ma 5), .ref (ma 6), .ref (ma 7), .ref (ma 8), .ref (ma 9), .ref (ma 10), .ref (ma 11), .ref (ma 12), .ref (ma 13), .int (nI (M 1)), .int (nI (M 2)), .int (nI (M 3)), .int C, .ref (ma 14), .ref (ma 15), .int (nI (M 4)), .int (nI (M 5)), .int (nI (M 6)), .int (nI (M 7)), .int (nI (M 8)), .ref (ma 16), .ref (ma 17), .int (nI (M 9)), .ref (ma 18), .int (nI (M 10))]] := hD
  refine lv_iconst (v := nI 0) hx hb dX10_raises_5 (by decide) ?_
  exact hret _ _ _ _ _ () dX10_raises_6 (rfl) hP hD hS

theorem iX10_refuse_10 : ∀ w ∈ wsX100, w ∈ wsX10_refuse := by decide +kernel
theorem mX10_refuse_7 : Cond.fieldLink RX10 7 "LineFinderModel" "refusals" "[I" ∈ wsX10_refuse := List.mem_of_getElem? (i := 1) rfl
abbrev rCX10_refuse : Room := { frames := 0, cells := 0, slots := 0, locals := 0 }
set_option maxHeartbeats 4000000 in
set_option maxRecDepth 100000 in
theorem CX10_refuse (jl : Launch) (G : va_G) (cI cZ cJ : ClassId) (ma : Nat → Nat) (N : Nat → Nat) (F : Nat → Fn) (rf T X B : Fn) (M : Nat → Nat) (C : Int32) (E : Nat → Fn) (L : Nat → Int64) (hLA : LA N F) (hMR : MR N F T X B) (x : Int32) (k : Nat) (hxk : -x = nI k) (hk7 : k < 7) : Ki jl yX10_refuse wsX10_refuse rCX10_refuse G cI cZ cJ [.ref (ma 0), .int x] [oB (ma 0) 10 [.ref (ma 1), .int (nI (N 0)), .int (nI (N 3)), .int (nI (N 1)), .int (nI (M 0)), .ref (ma 2), .ref (ma 3), .ref (ma 4), .ref (ma 5), .ref (ma 6), .ref (ma 7), .ref (ma 8), .ref (ma 9), .ref (ma 10), .ref (ma 11), .ref (ma 12), .ref (ma 13), .int (nI (M 1)), .int (nI (M 2)), .int (nI (M 3)), .int C, .ref (ma 14), .ref (ma 15), .int (nI (M 4)), .int (nI (M 5)), .int (nI (M 6)), .int (nI (M 7)), .int (nI (M 8)), .ref (ma 16), .ref (ma 17), .int (nI (M 9)), .ref (ma 18), .int (nI (M 10))], aI cI (ma 1) 7 rf] (S := Unit) (fun (r : Int32) (_ : Unit) => r = x) (fun (_ : Unit) => [oB (ma 0) 10 [.ref (ma 1), .int (nI (N 0)), .int (nI (N 3)), .int (nI (N 1)), .int (nI (M 0)), .ref (ma 2), .ref (ma 3), .ref (ma 4), .ref (ma 5), .ref (ma 6), .ref (ma 7), .ref (ma 8), .ref (ma 9), .ref (ma 10), .ref (ma 11), .ref (ma 12), .ref (ma 13), .int (nI (M 1)), .int (nI (M 2)), .int (nI (M 3)), .int C, .ref (ma 14), .ref (ma 15), .int (nI (M 4)), .int (nI (M 5)), .int (nI (M 6)), .int (nI (M 7)), .int (nI (M 8)), .ref (ma 16), .ref (ma 17), .int (nI (M 9)), .ref (ma 18), .int (nI (M 10))], aI cI (ma 1) 7 (upd rf k (rf k + nI 1))]) := by
  refine Ki.of (cc := cX10_refuse) (maxL := 2) (by decide +kernel) rfl (Nat.le_of_ble_eq_true rfl) ?_
  intro jp je js jm ja jb jt jc jA jQ ls cx hnm hP hD hS hl hret
  obtain ⟨hx, hb, hml, hown, hts, hK, hA⟩ := id cx
  have hl : lv_has ls 2 [(0, .ref (ma 0)), (1, .int x)] := hl
  obtain ⟨H, hH⟩ : ∃ H, H = js.heap := ⟨_, rfl⟩
  obtain ⟨locs, hlocs⟩ : ∃ z : List Loc, z = [] := ⟨_, rfl⟩
  have hP : va_P G vwCl [oB (ma 0) 10 [.ref (ma 1), .int (nI (N 0)), .int (nI (N 3)), .int (nI (N 1)), .int (nI (M 0)), .ref (ma 2), .ref (ma 3), .ref (ma 4), .ref (ma 5), .ref (ma 6), .ref (ma 7), .ref (ma 8), .ref (ma 9), .ref (ma 10), .ref (ma 11), .ref (ma 12), .ref (ma 13), .int (nI (M 1)), .int (nI (M 2)), .int (nI (M 3)), .int C, .ref (ma 14), .ref (ma 15), .int (nI (M 4)), .int (nI (M 5)), .int (nI (M 6)), .int (nI (M 7)), .int (nI (M 8)), .ref (ma 16), .ref (ma 17), .int (nI (M 9)), .ref (ma 18), .int (nI (M 10))], aI cI (ma 1) 7 rf] H := by rw [hH]; exact hP
  have hS : va_S jA js.heap H locs := by rw [hH, hlocs]; exact hS
  rw [← hlocs]; rw [show W jp jl je rCX10_refuse js jm ja jb jt jc js.heap locs 0 0 jQ (F0 jm 0 ls []) = W jp jl je rCX10_refuse js jm ja jb jt jc H locs 0 0 jQ (F0 jm 0 ls []) by rw [hH]]
  clear hH hlocs
  refine lv_aload_n hx hb dX10_refuse_0 rfl (lv_at hl 0 rfl) ?_
  refine va_get (C := RX10) (T := TX10) (N := 33) (ci := 10) hx hb hts iX10_refuse_10 hown hK.1 hP 0 rfl rfl 0 (Nat.le_of_ble_eq_true rfl) (hts _ mX10_refuse_7) (fun _ h9 => h9) rfl dX10_refuse_1 ?_
  refine lv_iload_n hx hb dX10_refuse_4 rfl (lv_at hl 1 rfl) ?_
  refine lv_ineg hx hb dX10_refuse_5 ?_
  refine k_topN hxk ?_
  refine lv_dup2_11 hx hb dX10_refuse_6 rfl rfl ?_
  refine k_iald hx hb hK.1 hP 1 0 rfl rfl (by omega) (by decide) dX10_refuse_7 ?_
  refine lv_iconst (v := nI 1) hx hb dX10_refuse_8 (by decide) ?_
  refine lv_iadd hx hb dX10_refuse_9 ?_
  refine k_iast hx hb hK.1 hP hD hS 1 0 rfl rfl (by omega) (by decide) dX10_refuse_10 (fun H locs hP hD hS => ?_)
  have hP : va_P G vwCl [oB (ma 0) 10 [.ref (ma 1), .int (nI (N 0)), .int (nI (N 3)), .int (nI (N 1)), .int (nI (M 0)), .ref (ma 2), .ref (ma 3), .ref (ma 4), .ref (ma 5), .ref (ma 6), .ref (ma 7), .ref (ma 8), .ref (ma 9), .ref (ma 10), .ref (ma 11), .ref (ma 12), .ref (ma 13), .int (nI (M 1)), .int (nI (M 2)), .int (nI (M 3)), .int C, .ref (ma 14), .ref (ma 15), .int (nI (M 4)), .int (nI (M 5)), .int (nI (M 6)), .int (nI (M 7)), .int (nI (M 8)), .ref (ma 16), .ref (ma 17), .int (nI (M 9)), .ref (ma 18), .int (nI (M 10))], aI cI (ma 1) 7 (upd rf k ((rf k) + (nI 1)))] H := hP
  have hD : va_D jA [oB (ma 0) 10 [.ref (ma 1), .int (nI (N 0)), .int (nI (N 3)), .int (nI (N 1)), .int (nI (M 0)), .ref (ma 2), .ref (ma 3), .ref (ma 4), .ref (ma 5), .ref (ma 6), .ref (ma 7), .ref (ma 8), .ref (ma 9), .ref (ma 10), .ref (ma 11), .ref (ma 12), .ref (ma 13), .int (nI (M 1)), .int (nI (M 2)), .int (nI (M 3)), .int C, .ref (ma 14), .ref (ma 15), .int (nI (M 4)), .int (nI (M 5)), .int (nI (M 6)), .int (nI (M 7)), .int (nI (M 8)), .ref (ma 16), .ref (ma 17), .int (nI (M 9)), .ref (ma 18), .int (nI (M 10))], aI cI (ma 1) 7 (upd rf k ((rf k) + (nI 1)))] := hD
  refine lv_iload_n hx hb dX10_refuse_11 rfl (lv_at hl 1 rfl) ?_
  exact hret _ _ _ _ _ () dX10_refuse_12 (rfl) hP hD hS

theorem iX10_isLine_10 : ∀ w ∈ wsX100, w ∈ wsX10_isLine := by decide +kernel
theorem mX10_isLine_85 : Cond.fieldLink RX10 85 "LineFinderModel" "lines" "I" ∈ wsX10_isLine := List.mem_of_getElem? (i := 1) rfl
abbrev rCX10_isLine : Room := { frames := 1, cells := 0, slots := 0, locals := 21 }
set_option maxHeartbeats 4000000 in
set_option maxRecDepth 100000 in
theorem CX10_isLine (jl : Launch) (G : va_G) (cI cZ cJ : ClassId) (ma : Nat → Nat) (N : Nat → Nat) (F : Nat → Fn) (rf T X B : Fn) (M : Nat → Nat) (C : Int32) (E : Nat → Fn) (L : Nat → Int64) (hLA : LA N F) (hMR : MR N F T X B) (p : Int32) : Ki jl yX10_isLine wsX10_isLine rCX10_isLine G cI cZ cJ [.ref (ma 0), .int p] [oB (ma 0) 10 [.ref (ma 1), .int (nI (N 0)), .int (nI (N 3)), .int (nI (N 1)), .int (nI (M 0)), .ref (ma 2), .ref (ma 3), .ref (ma 4), .ref (ma 5), .ref (ma 6), .ref (ma 7), .ref (ma 8), .ref (ma 9), .ref (ma 10), .ref (ma 11), .ref (ma 12), .ref (ma 13), .int (nI (M 1)), .int (nI (M 2)), .int (nI (M 3)), .int C, .ref (ma 14), .ref (ma 15), .int (nI (M 4)), .int (nI (M 5)), .int (nI (M 6)), .int (nI (M 7)), .int (nI (M 8)), .ref (ma 16), .ref (ma 17), .int (nI (M 9)), .ref (ma 18), .int (nI (M 10))]] (S := Unit) (fun (r : Int32) (_ : Unit) => isIx p (N 0) r) (fun (_ : Unit) => [oB (ma 0) 10 [.ref (ma 1), .int (nI (N 0)), .int (nI (N 3)), .int (nI (N 1)), .int (nI (M 0)), .ref (ma 2), .ref (ma 3), .ref (ma 4), .ref (ma 5), .ref (ma 6), .ref (ma 7), .ref (ma 8), .ref (ma 9), .ref (ma 10), .ref (ma 11), .ref (ma 12), .ref (ma 13), .int (nI (M 1)), .int (nI (M 2)), .int (nI (M 3)), .int C, .ref (ma 14), .ref (ma 15), .int (nI (M 4)), .int (nI (M 5)), .int (nI (M 6)), .int (nI (M 7)), .int (nI (M 8)), .ref (ma 16), .ref (ma 17), .int (nI (M 9)), .ref (ma 18), .int (nI (M 10))]]) := by
  refine Ki.ofZ (cc := cX10_isLine) (maxL := 2) (by decide +kernel) rfl (Nat.le_of_ble_eq_true rfl) ?_
  intro jp je js jm ja jb jt jc jA jQ ls cx hnm hP hD hS hl hret
  obtain ⟨hx, hb, hml, hown, hts, hK, hA⟩ := id cx
  have hl : lv_has ls 2 [(0, .ref (ma 0)), (1, .int p)] := hl
  obtain ⟨H, hH⟩ : ∃ H, H = js.heap := ⟨_, rfl⟩
  obtain ⟨locs, hlocs⟩ : ∃ z : List Loc, z = [] := ⟨_, rfl⟩
  have hP : va_P G vwCl [oB (ma 0) 10 [.ref (ma 1), .int (nI (N 0)), .int (nI (N 3)), .int (nI (N 1)), .int (nI (M 0)), .ref (ma 2), .ref (ma 3), .ref (ma 4), .ref (ma 5), .ref (ma 6), .ref (ma 7), .ref (ma 8), .ref (ma 9), .ref (ma 10), .ref (ma 11), .ref (ma 12), .ref (ma 13), .int (nI (M 1)), .int (nI (M 2)), .int (nI (M 3)), .int C, .ref (ma 14), .ref (ma 15), .int (nI (M 4)), .int (nI (M 5)), .int (nI (M 6)), .int (nI (M 7)), .int (nI (M 8)), .ref (ma 16), .ref (ma 17), .int (nI (M 9)), .ref (ma 18), .int (nI (M 10))]] H := by rw [hH]; exact hP
  have hS : va_S jA js.heap H locs := by rw [hH, hlocs]; exact hS
  rw [← hlocs]; rw [show W jp jl je rCX10_isLine js jm ja jb jt jc js.heap locs 0 0 jQ (F0 jm 0 ls []) = W jp jl je rCX10_isLine js jm ja jb jt jc H locs 0 0 jQ (F0 jm 0 ls []) by rw [hH]]
  clear hH hlocs
  refine lv_iload_n hx hb dX10_isLine_0 rfl (lv_at hl 1 rfl) ?_
  refine lv_aload_n hx hb dX10_isLine_1 rfl (lv_at hl 0 rfl) ?_
  refine va_get (C := RX10) (T := TX10) (N := 33) (ci := 10) hx hb hts iX10_isLine_10 hown hK.1 hP 0 rfl rfl 1 (Nat.le_of_ble_eq_true rfl) (hts _ mX10_isLine_85) (fun _ h9 => h9) rfl dX10_isLine_2 ?_
  refine Ki.callS (wr := [oB (ma 0) 10 [.ref (ma 1), .int (nI (N 0)), .int (nI (N 3)), .int (nI (N 1)), .int (nI (M 0)), .ref (ma 2), .ref (ma 3), .ref (ma 4), .ref (ma 5), .ref (ma 6), .ref (ma 7), .ref (ma 8), .ref (ma 9), .ref (ma 10), .ref (ma 11), .ref (ma 12), .ref (ma 13), .int (nI (M 1)), .int (nI (M 2)), .int (nI (M 3)), .int C, .ref (ma 14), .ref (ma 15), .int (nI (M 4)), .int (nI (M 5)), .int (nI (M 6)), .int (nI (M 7)), .int (nI (M 8)), .ref (ma 16), .ref (ma 17), .int (nI (M 9)), .ref (ma 18), .int (nI (M 10))]]) (rest := []) (CX10_isIn jl G cI cZ cJ p (N 0) (by have := hLA.1; omega)) cx hP hD hS hl [] [0] gX10_isLine_X10_isIn hdX10_isIn rfl ⟨Nat.le_of_ble_eq_true rfl, Nat.le_of_ble_eq_true rfl⟩ rfl rfl (by decide) (by decide) (by decide) dX10_isLine_5 rfl rfl (Nat.le_of_ble_eq_true rfl) ⟨Nat.le_of_ble_eq_true rfl, Nat.le_of_ble_eq_true rfl⟩ (fun r9 u H locs hw9 hP hD hS => ?_)
  have hP : va_P G vwCl [oB (ma 0) 10 [.ref (ma 1), .int (nI (N 0)), .int (nI (N 3)), .int (nI (N 1)), .int (nI (M 0)), .ref (ma 2), .ref (ma 3), .ref (ma 4), .ref (ma 5), .ref (ma 6), .ref (ma 7), .ref (ma 8), .ref (ma 9), .ref (ma 10), .ref (ma 11), .ref (ma 12), .ref (ma 13), .int (nI (M 1)), .int (nI (M 2)), .int (nI (M 3)), .int C, .ref (ma 14), .ref (ma 15), .int (nI (M 4)), .int (nI (M 5)), .int (nI (M 6)), .int (nI (M 7)), .int (nI (M 8)), .ref (ma 16), .ref (ma 17), .int (nI (M 9)), .ref (ma 18), .int (nI (M 10))]] H := hP
  have hD : va_D jA [oB (ma 0) 10 [.ref (ma 1), .int (nI (N 0)), .int (nI (N 3)), .int (nI (N 1)), .int (nI (M 0)), .ref (ma 2), .ref (ma 3), .ref (ma 4), .ref (ma 5), .ref (ma 6), .ref (ma 7), .ref (ma 8), .ref (ma 9), .ref (ma 10), .ref (ma 11), .ref (ma 12), .ref (ma 13), .int (nI (M 1)), .int (nI (M 2)), .int (nI (M 3)), .int C, .ref (ma 14), .ref (ma 15), .int (nI (M 4)), .int (nI (M 5)), .int (nI (M 6)), .int (nI (M 7)), .int (nI (M 8)), .ref (ma 16), .ref (ma 17), .int (nI (M 9)), .ref (ma 18), .int (nI (M 10))]] := hD
  exact hret _ _ _ _ _ () dX10_isLine_8 (by rcases hw9 with ⟨j, h1, h2, h3⟩ | ⟨h1, h3⟩ <;> (rw [h3]; decide)) (hw9) hP hD hS

theorem iX10_isTest_10 : ∀ w ∈ wsX100, w ∈ wsX10_isTest := by decide +kernel
theorem mX10_isTest_100 : Cond.fieldLink RX10 100 "LineFinderModel" "tests" "I" ∈ wsX10_isTest := List.mem_of_getElem? (i := 1) rfl
abbrev rCX10_isTest : Room := { frames := 1, cells := 0, slots := 0, locals := 21 }
set_option maxHeartbeats 4000000 in
set_option maxRecDepth 100000 in
theorem CX10_isTest (jl : Launch) (G : va_G) (cI cZ cJ : ClassId) (ma : Nat → Nat) (N : Nat → Nat) (F : Nat → Fn) (rf T X B : Fn) (M : Nat → Nat) (C : Int32) (E : Nat → Fn) (L : Nat → Int64) (hLA : LA N F) (hMR : MR N F T X B) (p : Int32) : Ki jl yX10_isTest wsX10_isTest rCX10_isTest G cI cZ cJ [.ref (ma 0), .int p] [oB (ma 0) 10 [.ref (ma 1), .int (nI (N 0)), .int (nI (N 3)), .int (nI (N 1)), .int (nI (M 0)), .ref (ma 2), .ref (ma 3), .ref (ma 4), .ref (ma 5), .ref (ma 6), .ref (ma 7), .ref (ma 8), .ref (ma 9), .ref (ma 10), .ref (ma 11), .ref (ma 12), .ref (ma 13), .int (nI (M 1)), .int (nI (M 2)), .int (nI (M 3)), .int C, .ref (ma 14), .ref (ma 15), .int (nI (M 4)), .int (nI (M 5)), .int (nI (M 6)), .int (nI (M 7)), .int (nI (M 8)), .ref (ma 16), .ref (ma 17), .int (nI (M 9)), .ref (ma 18), .int (nI (M 10))]] (S := Unit) (fun (r : Int32) (_ : Unit) => isIx p (N 3) r) (fun (_ : Unit) => [oB (ma 0) 10 [.ref (ma 1), .int (nI (N 0)), .int (nI (N 3)), .int (nI (N 1)), .int (nI (M 0)), .ref (ma 2), .ref (ma 3), .ref (ma 4), .ref (ma 5), .ref (ma 6), .ref (ma 7), .ref (ma 8), .ref (ma 9), .ref (ma 10), .ref (ma 11), .ref (ma 12), .ref (ma 13), .int (nI (M 1)), .int (nI (M 2)), .int (nI (M 3)), .int C, .ref (ma 14), .ref (ma 15), .int (nI (M 4)), .int (nI (M 5)), .int (nI (M 6)), .int (nI (M 7)), .int (nI (M 8)), .ref (ma 16), .ref (ma 17), .int (nI (M 9)), .ref (ma 18), .int (nI (M 10))]]) := by
  refine Ki.ofZ (cc := cX10_isTest) (maxL := 2) (by decide +kernel) rfl (Nat.le_of_ble_eq_true rfl) ?_
  intro jp je js jm ja jb jt jc jA jQ ls cx hnm hP hD hS hl hret
  obtain ⟨hx, hb, hml, hown, hts, hK, hA⟩ := id cx
  have hl : lv_has ls 2 [(0, .ref (ma 0)), (1, .int p)] := hl
  obtain ⟨H, hH⟩ : ∃ H, H = js.heap := ⟨_, rfl⟩
  obtain ⟨locs, hlocs⟩ : ∃ z : List Loc, z = [] := ⟨_, rfl⟩
  have hP : va_P G vwCl [oB (ma 0) 10 [.ref (ma 1), .int (nI (N 0)), .int (nI (N 3)), .int (nI (N 1)), .int (nI (M 0)), .ref (ma 2), .ref (ma 3), .ref (ma 4), .ref (ma 5), .ref (ma 6), .ref (ma 7), .ref (ma 8), .ref (ma 9), .ref (ma 10), .ref (ma 11), .ref (ma 12), .ref (ma 13), .int (nI (M 1)), .int (nI (M 2)), .int (nI (M 3)), .int C, .ref (ma 14), .ref (ma 15), .int (nI (M 4)), .int (nI (M 5)), .int (nI (M 6)), .int (nI (M 7)), .int (nI (M 8)), .ref (ma 16), .ref (ma 17), .int (nI (M 9)), .ref (ma 18), .int (nI (M 10))]] H := by rw [hH]; exact hP
  have hS : va_S jA js.heap H locs := by rw [hH, hlocs]; exact hS
  rw [← hlocs]; rw [show W jp jl je rCX10_isTest js jm ja jb jt jc js.heap locs 0 0 jQ (F0 jm 0 ls []) = W jp jl je rCX10_isTest js jm ja jb jt jc H locs 0 0 jQ (F0 jm 0 ls []) by rw [hH]]
  clear hH hlocs
  refine lv_iload_n hx hb dX10_isTest_0 rfl (lv_at hl 1 rfl) ?_
  refine lv_aload_n hx hb dX10_isTest_1 rfl (lv_at hl 0 rfl) ?_
  refine va_get (C := RX10) (T := TX10) (N := 33) (ci := 10) hx hb hts iX10_isTest_10 hown hK.1 hP 0 rfl rfl 2 (Nat.le_of_ble_eq_true rfl) (hts _ mX10_isTest_100) (fun _ h9 => h9) rfl dX10_isTest_2 ?_
  refine Ki.callS (wr := [oB (ma 0) 10 [.ref (ma 1), .int (nI (N 0)), .int (nI (N 3)), .int (nI (N 1)), .int (nI (M 0)), .ref (ma 2), .ref (ma 3), .ref (ma 4), .ref (ma 5), .ref (ma 6), .ref (ma 7), .ref (ma 8), .ref (ma 9), .ref (ma 10), .ref (ma 11), .ref (ma 12), .ref (ma 13), .int (nI (M 1)), .int (nI (M 2)), .int (nI (M 3)), .int C, .ref (ma 14), .ref (ma 15), .int (nI (M 4)), .int (nI (M 5)), .int (nI (M 6)), .int (nI (M 7)), .int (nI (M 8)), .ref (ma 16), .ref (ma 17), .int (nI (M 9)), .ref (ma 18), .int (nI (M 10))]]) (rest := []) (CX10_isIn jl G cI cZ cJ p (N 3) (by have := hLA.2.2.1; omega)) cx hP hD hS hl [] [0] gX10_isTest_X10_isIn hdX10_isIn rfl ⟨Nat.le_of_ble_eq_true rfl, Nat.le_of_ble_eq_true rfl⟩ rfl rfl (by decide) (by decide) (by decide) dX10_isTest_5 rfl rfl (Nat.le_of_ble_eq_true rfl) ⟨Nat.le_of_ble_eq_true rfl, Nat.le_of_ble_eq_true rfl⟩ (fun r9 u H locs hw9 hP hD hS => ?_)
  have hP : va_P G vwCl [oB (ma 0) 10 [.ref (ma 1), .int (nI (N 0)), .int (nI (N 3)), .int (nI (N 1)), .int (nI (M 0)), .ref (ma 2), .ref (ma 3), .ref (ma 4), .ref (ma 5), .ref (ma 6), .ref (ma 7), .ref (ma 8), .ref (ma 9), .ref (ma 10), .ref (ma 11), .ref (ma 12), .ref (ma 13), .int (nI (M 1)), .int (nI (M 2)), .int (nI (M 3)), .int C, .ref (ma 14), .ref (ma 15), .int (nI (M 4)), .int (nI (M 5)), .int (nI (M 6)), .int (nI (M 7)), .int (nI (M 8)), .ref (ma 16), .ref (ma 17), .int (nI (M 9)), .ref (ma 18), .int (nI (M 10))]] H := hP
  have hD : va_D jA [oB (ma 0) 10 [.ref (ma 1), .int (nI (N 0)), .int (nI (N 3)), .int (nI (N 1)), .int (nI (M 0)), .ref (ma 2), .ref (ma 3), .ref (ma 4), .ref (ma 5), .ref (ma 6), .ref (ma 7), .ref (ma 8), .ref (ma 9), .ref (ma 10), .ref (ma 11), .ref (ma 12), .ref (ma 13), .int (nI (M 1)), .int (nI (M 2)), .int (nI (M 3)), .int C, .ref (ma 14), .ref (ma 15), .int (nI (M 4)), .int (nI (M 5)), .int (nI (M 6)), .int (nI (M 7)), .int (nI (M 8)), .ref (ma 16), .ref (ma 17), .int (nI (M 9)), .ref (ma 18), .int (nI (M 10))]] := hD
  exact hret _ _ _ _ _ () dX10_isTest_8 (by rcases hw9 with ⟨j, h1, h2, h3⟩ | ⟨h1, h3⟩ <;> (rw [h3]; decide)) (hw9) hP hD hS
