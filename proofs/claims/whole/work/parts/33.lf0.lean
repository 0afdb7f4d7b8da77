abbrev rCX9_asInt : Room := { frames := 0, cells := 0, slots := 0, locals := 0 }
set_option maxHeartbeats 4000000 in
set_option maxRecDepth 100000 in
theorem CX9_asInt (jl : Launch) (G : va_G) (cI cZ cJ : ClassId) (b : Bool) : Ki jl yX9_asInt wsX9_asInt rCX9_asInt G cI cZ cJ [.int (bI b)] [] (S := Unit) (fun (r : Int32) (_ : Unit) => r = bI b) (fun (_ : Unit) => []) := by
  refine Ki.of (cc := cX9_asInt) (maxL := 1) (by decide +kernel) rfl (Nat.le_of_ble_eq_true rfl) ?_
  intro jp je js jm ja jb jt jc jA jQ ls cx hnm hP hD hS hl hret
  obtain ⟨hx, hb, hml, hown, hts, hK, hA⟩ := id cx
  have hl : lv_has ls 1 [(0, .int (bI b))] := hl
  obtain ⟨H, hH⟩ : ∃ H, H = js.heap := ⟨_, rfl⟩
  obtain ⟨locs, hlocs⟩ : ∃ z : List Loc, z = [] := ⟨_, rfl⟩
  have hP : va_P G vwCl [] H := by rw [hH]; exact hP
  have hS : va_S jA js.heap H locs := by rw [hH, hlocs]; exact hS
  rw [← hlocs]; rw [show W jp jl je rCX9_asInt js jm ja jb jt jc js.heap locs 0 0 jQ (F0 jm 0 ls []) = W jp jl je rCX9_asInt js jm ja jb jt jc H locs 0 0 jQ (F0 jm 0 ls []) by rw [hH]]
  clear hH hlocs
  cases b with
  | true =>
    have hl : lv_has ls 1 [(0, .int (nI 1))] := hl
    refine lv_iload_n hx hb dX9_asInt_0 rfl (lv_at hl 0 rfl) ?_
    refine k_if_eq_f (tgt := 8) hx hb dX9_asInt_1 (by decide) (by decide) ?_
    refine lv_iconst (v := nI 1) hx hb dX9_asInt_4 (by decide) ?_
    refine lv_goto (tgt := 9) hx hb dX9_asInt_5 (by decide) ?_
    exact hret _ _ _ _ _ () dX9_asInt_9 (rfl) hP hD hS
  | false =>
    have hl : lv_has ls 1 [(0, .int (nI 0))] := hl
    refine lv_iload_n hx hb dX9_asInt_0 rfl (lv_at hl 0 rfl) ?_
    refine k_if_eq_t (tgt := 8) hx hb dX9_asInt_1 (by decide) (by decide) ?_
    refine lv_iconst (v := nI 0) hx hb dX9_asInt_8 (by decide) ?_
    exact hret _ _ _ _ _ () dX9_asInt_9 (rfl) hP hD hS

abbrev rCX9_isVariable : Room := { frames := 0, cells := 0, slots := 0, locals := 0 }
set_option maxHeartbeats 4000000 in
set_option maxRecDepth 100000 in
theorem CX9_isVariable (jl : Launch) (G : va_G) (cI cZ cJ : ClassId) (p : Int32) : Ki jl yX9_isVariable wsX9_isVariable rCX9_isVariable G cI cZ cJ [.int p] [] (S := Unit) (fun (r : Int32) (_ : Unit) => r = bI (inR p 8)) (fun (_ : Unit) => []) := by
  refine Ki.ofZ (cc := cX9_isVariable) (maxL := 1) (by decide +kernel) rfl (Nat.le_of_ble_eq_true rfl) ?_
  intro jp je js jm ja jb jt jc jA jQ ls cx hnm hP hD hS hl hret
  obtain ⟨hx, hb, hml, hown, hts, hK, hA⟩ := id cx
  have hl : lv_has ls 1 [(0, .int p)] := hl
  obtain ⟨H, hH⟩ : ∃ H, H = js.heap := ⟨_, rfl⟩
  obtain ⟨locs, hlocs⟩ : ∃ z : List Loc, z = [] := ⟨_, rfl⟩
  have hP : va_P G vwCl [] H := by rw [hH]; exact hP
  have hS : va_S jA js.heap H locs := by rw [hH, hlocs]; exact hS
  rw [← hlocs]; rw [show W jp jl je rCX9_isVariable js jm ja jb jt jc js.heap locs 0 0 jQ (F0 jm 0 ls []) = W jp jl je rCX9_isVariable js jm ja jb jt jc H locs 0 0 jQ (F0 jm 0 ls []) by rw [hH]]
  clear hH hlocs
  refine lv_iload_n hx hb dX9_isVariable_0 rfl (lv_at hl 0 rfl) ?_
  refine lv_if_lt (tgt := 14) hx hb dX9_isVariable_1 (by decide) (fun c_1 => ?_) (fun c_1 => ?_)
  · skip
    refine lv_iconst (v := nI 0) hx hb dX9_isVariable_14 (by decide) ?_
    exact hret _ _ _ _ _ () dX9_isVariable_15 (by decide) ((isIx_neg (by omega) c_1).b (by decide)) hP hD hS
  · skip
    obtain ⟨j, hj, rfl⟩ := nI_of c_1
    refine lv_iload_n hx hb dX9_isVariable_4 rfl (lv_at hl 0 rfl) ?_
    refine lv_bipush (v := nI 8) hx hb dX9_isVariable_5 (by decide) ?_
    refine k_cmp_ge (tgt := 14) hx hb dX9_isVariable_7 (by decide) (by omega) (by omega) (fun c_2 => ?_) (fun c_2 => ?_)
    · skip
      refine lv_iconst (v := nI 0) hx hb dX9_isVariable_14 (by decide) ?_
      exact hret _ _ _ _ _ () dX9_isVariable_15 (by decide) ((isIx_ge hj (by omega) c_2).b (by decide)) hP hD hS
    · skip
      refine lv_iconst (v := nI 1) hx hb dX9_isVariable_10 (by decide) ?_
      refine lv_goto (tgt := 15) hx hb dX9_isVariable_11 (by decide) ?_
      exact hret _ _ _ _ _ () dX9_isVariable_15 (by decide) ((isIx_lt c_2).b (by decide)) hP hD hS

theorem hdX9_isVariable : yX9_isVariable.cls ≠ "java/lang/invoke/MethodHandle" ∧ yX9_isVariable.cls ≠ "java/lang/invoke/VarHandle" ∧ (parseMethodDescriptor yX9_isVariable.desc).map (fun d => d.parameters.length) = some 1 := by decide +kernel
abbrev rCX9_namesWhatThereIs : Room := { frames := 1, cells := 0, slots := 0, locals := 20 }
set_option maxHeartbeats 4000000 in
set_option maxRecDepth 100000 in
theorem CX9_namesWhatThereIs (jl : Launch) (G : va_G) (cI cZ cJ : ClassId) (k : Nat) (hk : k < 8) (x y z : Int32) : Ki jl yX9_namesWhatThereIs wsX9_namesWhatThereIs rCX9_namesWhatThereIs G cI cZ cJ [.int (nI k), .int x, .int y, .int z] [] (S := Unit) (fun (r : Int32) (_ : Unit) => r = bI (rowK k x y z)) (fun (_ : Unit) => []) := by
  refine Ki.ofZ (cc := cX9_namesWhatThereIs) (maxL := 4) (by decide +kernel) rfl (Nat.le_of_ble_eq_true rfl) ?_
  intro jp je js jm ja jb jt jc jA jQ ls cx hnm hP hD hS hl hret
  obtain ⟨hx, hb, hml, hown, hts, hK, hA⟩ := id cx
  have hl : lv_has ls 4 [(0, .int (nI k)), (1, .int x), (2, .int y), (3, .int z)] := hl
  obtain ⟨H, hH⟩ : ∃ H, H = js.heap := ⟨_, rfl⟩
  obtain ⟨locs, hlocs⟩ : ∃ z : List Loc, z = [] := ⟨_, rfl⟩
  have hP : va_P G vwCl [] H := by rw [hH]; exact hP
  have hS : va_S jA js.heap H locs := by rw [hH, hlocs]; exact hS
  rw [← hlocs]; rw [show W jp jl je rCX9_namesWhatThereIs js jm ja jb jt jc js.heap locs 0 0 jQ (F0 jm 0 ls []) = W jp jl je rCX9_namesWhatThereIs js jm ja jb jt jc H locs 0 0 jQ (F0 jm 0 ls []) by rw [hH]]
  clear hH hlocs
  refine lv_iload_n hx hb dX9_namesWhatThereIs_0 rfl (lv_at hl 0 rfl) ?_
  rcases (show k = 0 ∨ k = 1 ∨ k = 2 ∨ k = 3 ∨ k = 4 ∨ k = 5 ∨ k = 6 ∨ k = 7 by omega) with rfl | rfl | rfl | rfl | rfl | rfl | rfl | rfl
  · skip
    refine lv_tableOut (tgt := 135) hx hb dX9_namesWhatThereIs_1 (Or.inl (by decide)) (by decide) ?_
    refine lv_iload_n hx hb dX9_namesWhatThereIs_135 rfl (lv_at hl 1 rfl) ?_
    refine Ki.callS (wr := []) (rest := []) (CX9_isVariable jl G cI cZ cJ x) cx hP hD hS hl [] [] gX9_namesWhatThereIs_X9_isVariable hdX9_isVariable rfl ⟨Nat.le_of_ble_eq_true rfl, Nat.le_of_ble_eq_true rfl⟩ rfl rfl (by decide) (by decide) (by decide) dX9_namesWhatThereIs_136 rfl rfl (Nat.le_of_ble_eq_true rfl) ⟨Nat.le_of_ble_eq_true rfl, Nat.le_of_ble_eq_true rfl⟩ (fun r9 u H locs hw9 hP hD hS => ?_)
    have hP : va_P G vwCl [] H := hP
    have hD : va_D jA [] := hD
    exact hret _ _ _ _ _ () dX9_namesWhatThereIs_139 (by rw [hw9]; exact bI_nar _) (hw9) hP hD hS
  · skip
    refine lv_tableIn (tgt := 40) (off := 39) hx hb dX9_namesWhatThereIs_1 (by decide) (by decide) (by decide) (by decide) ?_
    refine lv_iload_n hx hb dX9_namesWhatThereIs_40 rfl (lv_at hl 1 rfl) ?_
    refine Ki.callS (wr := []) (rest := []) (CX9_isVariable jl G cI cZ cJ x) cx hP hD hS hl [] [] gX9_namesWhatThereIs_X9_isVariable hdX9_isVariable rfl ⟨Nat.le_of_ble_eq_true rfl, Nat.le_of_ble_eq_true rfl⟩ rfl rfl (by decide) (by decide) (by decide) dX9_namesWhatThereIs_41 rfl rfl (Nat.le_of_ble_eq_true rfl) ⟨Nat.le_of_ble_eq_true rfl, Nat.le_of_ble_eq_true rfl⟩ (fun r_1 u H locs hw_2 hP hD hS => ?_)
    have hP : va_P G vwCl [] H := hP
    have hD : va_D jA [] := hD
    rcases Bool.eq_false_or_eq_true (inR x 8) with qx | qx
    · skip
      rw [qx] at hw_2
      subst hw_2
      refine k_if_eq_f (tgt := 65) hx hb dX9_namesWhatThereIs_44 (by decide) (by decide) ?_
      refine lv_iload_n hx hb dX9_namesWhatThereIs_47 rfl (lv_at hl 2 rfl) ?_
      refine Ki.callS (wr := []) (rest := []) (CX9_isVariable jl G cI cZ cJ y) cx hP hD hS hl [] [] gX9_namesWhatThereIs_X9_isVariable hdX9_isVariable rfl ⟨Nat.le_of_ble_eq_true rfl, Nat.le_of_ble_eq_true rfl⟩ rfl rfl (by decide) (by decide) (by decide) dX9_namesWhatThereIs_48 rfl rfl (Nat.le_of_ble_eq_true rfl) ⟨Nat.le_of_ble_eq_true rfl, Nat.le_of_ble_eq_true rfl⟩ (fun r_4 u H locs hw_5 hP hD hS => ?_)
      have hP : va_P G vwCl [] H := hP
      have hD : va_D jA [] := hD
      rcases Bool.eq_false_or_eq_true (inR y 8) with qy | qy
      · skip
        rw [qy] at hw_5
        subst hw_5
        refine k_if_eq_f (tgt := 65) hx hb dX9_namesWhatThereIs_51 (by decide) (by decide) ?_
        refine lv_iload_n hx hb dX9_namesWhatThereIs_54 rfl (lv_at hl 3 rfl) ?_
        refine Ki.callS (wr := []) (rest := []) (CX9_isVariable jl G cI cZ cJ z) cx hP hD hS hl [] [] gX9_namesWhatThereIs_X9_isVariable hdX9_isVariable rfl ⟨Nat.le_of_ble_eq_true rfl, Nat.le_of_ble_eq_true rfl⟩ rfl rfl (by decide) (by decide) (by decide) dX9_namesWhatThereIs_55 rfl rfl (Nat.le_of_ble_eq_true rfl) ⟨Nat.le_of_ble_eq_true rfl, Nat.le_of_ble_eq_true rfl⟩ (fun r_7 u H locs hw_8 hP hD hS => ?_)
        have hP : va_P G vwCl [] H := hP
        have hD : va_D jA [] := hD
        rcases Bool.eq_false_or_eq_true (inR z 8) with qz | qz
        · skip
          rw [qz] at hw_8
          subst hw_8
          refine k_if_eq_f (tgt := 65) hx hb dX9_namesWhatThereIs_58 (by decide) (by decide) ?_
          refine lv_iconst (v := nI 1) hx hb dX9_namesWhatThereIs_61 (by decide) ?_
          refine lv_goto (tgt := 66) hx hb dX9_namesWhatThereIs_62 (by decide) ?_
          exact hret _ _ _ _ _ () dX9_namesWhatThereIs_66 (by decide) (by unfold rowK; simp [qx, qy, qz]; try rfl) hP hD hS
        · skip
          rw [qz] at hw_8
          subst hw_8
          refine k_if_eq_t (tgt := 65) hx hb dX9_namesWhatThereIs_58 (by decide) (by decide) ?_
          refine lv_iconst (v := nI 0) hx hb dX9_namesWhatThereIs_65 (by decide) ?_
          exact hret _ _ _ _ _ () dX9_namesWhatThereIs_66 (by decide) (by unfold rowK; simp [qx, qy, qz]; try rfl) hP hD hS
      · skip
        rw [qy] at hw_5
        subst hw_5
        refine k_if_eq_t (tgt := 65) hx hb dX9_namesWhatThereIs_51 (by decide) (by decide) ?_
        refine lv_iconst (v := nI 0) hx hb dX9_namesWhatThereIs_65 (by decide) ?_
        exact hret _ _ _ _ _ () dX9_namesWhatThereIs_66 (by decide) (by unfold rowK; simp [qx, qy]; try rfl) hP hD hS
    · skip
      rw [qx] at hw_2
      subst hw_2
      refine k_if_eq_t (tgt := 65) hx hb dX9_namesWhatThereIs_44 (by decide) (by decide) ?_
      refine lv_iconst (v := nI 0) hx hb dX9_namesWhatThereIs_65 (by decide) ?_
      exact hret _ _ _ _ _ () dX9_namesWhatThereIs_66 (by decide) (by unfold rowK; simp [qx]; try rfl) hP hD hS
  · skip
    refine lv_tableIn (tgt := 40) (off := 39) hx hb dX9_namesWhatThereIs_1 (by decide) (by decide) (by decide) (by decide) ?_
    refine lv_iload_n hx hb dX9_namesWhatThereIs_40 rfl (lv_at hl 1 rfl) ?_
    refine Ki.callS (wr := []) (rest := []) (CX9_isVariable jl G cI cZ cJ x) cx hP hD hS hl [] [] gX9_namesWhatThereIs_X9_isVariable hdX9_isVariable rfl ⟨Nat.le_of_ble_eq_true rfl, Nat.le_of_ble_eq_true rfl⟩ rfl rfl (by decide) (by decide) (by decide) dX9_namesWhatThereIs_41 rfl rfl (Nat.le_of_ble_eq_true rfl) ⟨Nat.le_of_ble_eq_true rfl, Nat.le_of_ble_eq_true rfl⟩ (fun r_13 u H locs hw_14 hP hD hS => ?_)
    have hP : va_P G vwCl [] H := hP
    have hD : va_D jA [] := hD
    rcases Bool.eq_false_or_eq_true (inR x 8) with qx | qx
    · skip
      rw [qx] at hw_14
      subst hw_14
      refine k_if_eq_f (tgt := 65) hx hb dX9_namesWhatThereIs_44 (by decide) (by decide) ?_
      refine lv_iload_n hx hb dX9_namesWhatThereIs_47 rfl (lv_at hl 2 rfl) ?_
      refine Ki.callS (wr := []) (rest := []) (CX9_isVariable jl G cI cZ cJ y) cx hP hD hS hl [] [] gX9_namesWhatThereIs_X9_isVariable hdX9_isVariable rfl ⟨Nat.le_of_ble_eq_true rfl, Nat.le_of_ble_eq_true rfl⟩ rfl rfl (by decide) (by decide) (by decide) dX9_namesWhatThereIs_48 rfl rfl (Nat.le_of_ble_eq_true rfl) ⟨Nat.le_of_ble_eq_true rfl, Nat.le_of_ble_eq_true rfl⟩ (fun r_16 u H locs hw_17 hP hD hS => ?_)
      have hP : va_P G vwCl [] H := hP
      have hD : va_D jA [] := hD
      rcases Bool.eq_false_or_eq_true (inR y 8) with qy | qy
      · skip
        rw [qy] at hw_17
        subst hw_17
        refine k_if_eq_f (tgt := 65) hx hb dX9_namesWhatThereIs_51 (by decide) (by decide) ?_
        refine lv_iload_n hx hb dX9_namesWhatThereIs_54 rfl (lv_at hl 3 rfl) ?_
        refine Ki.callS (wr := []) (rest := []) (CX9_isVariable jl G cI cZ cJ z) cx hP hD hS hl [] [] gX9_namesWhatThereIs_X9_isVariable hdX9_isVariable rfl ⟨Nat.le_of_ble_eq_true rfl, Nat.le_of_ble_eq_true rfl⟩ rfl rfl (by decide) (by decide) (by decide) dX9_namesWhatThereIs_55 rfl rfl (Nat.le_of_ble_eq_true rfl) ⟨Nat.le_of_ble_eq_true rfl, Nat.le_of_ble_eq_true rfl⟩ (fun r_19 u H locs hw_20 hP hD hS => ?_)
        have hP : va_P G vwCl [] H := hP
        have hD : va_D jA [] := hD
        rcases Bool.eq_false_or_eq_true (inR z 8) with qz | qz
        · skip
          rw [qz] at hw_20
          subst hw_20
          refine k_if_eq_f (tgt := 65) hx hb dX9_namesWhatThereIs_58 (by decide) (by decide) ?_
          refine lv_iconst (v := nI 1) hx hb dX9_namesWhatThereIs_61 (by decide) ?_
          refine lv_goto (tgt := 66) hx hb dX9_namesWhatThereIs_62 (by decide) ?_
          exact hret _ _ _ _ _ () dX9_namesWhatThereIs_66 (by decide) (by unfold rowK; simp [qx, qy, qz]; try rfl) hP hD hS
        · skip
          rw [qz] at hw_20
          subst hw_20
          refine k_if_eq_t (tgt := 65) hx hb dX9_namesWhatThereIs_58 (by decide) (by decide) ?_
          refine lv_iconst (v := nI 0) hx hb dX9_namesWhatThereIs_65 (by decide) ?_
          exact hret _ _ _ _ _ () dX9_namesWhatThereIs_66 (by decide) (by unfold rowK; simp [qx, qy, qz]; try rfl) hP hD hS
      · skip
        rw [qy] at hw_17
        subst hw_17
        refine k_if_eq_t (tgt := 65) hx hb dX9_namesWhatThereIs_51 (by decide) (by decide) ?_
        refine lv_iconst (v := nI 0) hx hb dX9_namesWhatThereIs_65 (by decide) ?_
        exact hret _ _ _ _ _ () dX9_namesWhatThereIs_66 (by decide) (by unfold rowK; simp [qx, qy]; try rfl) hP hD hS
    · skip
      rw [qx] at hw_14
      subst hw_14
      refine k_if_eq_t (tgt := 65) hx hb dX9_namesWhatThereIs_44 (by decide) (by decide) ?_
      refine lv_iconst (v := nI 0) hx hb dX9_namesWhatThereIs_65 (by decide) ?_
      exact hret _ _ _ _ _ () dX9_namesWhatThereIs_66 (by decide) (by unfold rowK; simp [qx]; try rfl) hP hD hS
  · skip
    refine lv_tableIn (tgt := 40) (off := 39) hx hb dX9_namesWhatThereIs_1 (by decide) (by decide) (by decide) (by decide) ?_
    refine lv_iload_n hx hb dX9_namesWhatThereIs_40 rfl (lv_at hl 1 rfl) ?_
    refine Ki.callS (wr := []) (rest := []) (CX9_isVariable jl G cI cZ cJ x) cx hP hD hS hl [] [] gX9_namesWhatThereIs_X9_isVariable hdX9_isVariable rfl ⟨Nat.le_of_ble_eq_true rfl, Nat.le_of_ble_eq_true rfl⟩ rfl rfl (by decide) (by decide) (by decide) dX9_namesWhatThereIs_41 rfl rfl (Nat.le_of_ble_eq_true rfl) ⟨Nat.le_of_ble_eq_true rfl, Nat.le_of_ble_eq_true rfl⟩ (fun r_25 u H locs hw_26 hP hD hS => ?_)
    have hP : va_P G vwCl [] H := hP
    have hD : va_D jA [] := hD
    rcases Bool.eq_false_or_eq_true (inR x 8) with qx | qx
    · skip
      rw [qx] at hw_26
      subst hw_26
      refine k_if_eq_f (tgt := 65) hx hb dX9_namesWhatThereIs_44 (by decide) (by decide) ?_
      refine lv_iload_n hx hb dX9_namesWhatThereIs_47 rfl (lv_at hl 2 rfl) ?_
      refine Ki.callS (wr := []) (rest := []) (CX9_isVariable jl G cI cZ cJ y) cx hP hD hS hl [] [] gX9_namesWhatThereIs_X9_isVariable hdX9_isVariable rfl ⟨Nat.le_of_ble_eq_true rfl, Nat.le_of_ble_eq_true rfl⟩ rfl rfl (by decide) (by decide) (by decide) dX9_namesWhatThereIs_48 rfl rfl (Nat.le_of_ble_eq_true rfl) ⟨Nat.le_of_ble_eq_true rfl, Nat.le_of_ble_eq_true rfl⟩ (fun r_28 u H locs hw_29 hP hD hS => ?_)
      have hP : va_P G vwCl [] H := hP
      have hD : va_D jA [] := hD
      rcases Bool.eq_false_or_eq_true (inR y 8) with qy | qy
      · skip
        rw [qy] at hw_29
        subst hw_29
        refine k_if_eq_f (tgt := 65) hx hb dX9_namesWhatThereIs_51 (by decide) (by decide) ?_
        refine lv_iload_n hx hb dX9_namesWhatThereIs_54 rfl (lv_at hl 3 rfl) ?_
        refine Ki.callS (wr := []) (rest := []) (CX9_isVariable jl G cI cZ cJ z) cx hP hD hS hl [] [] gX9_namesWhatThereIs_X9_isVariable hdX9_isVariable rfl ⟨Nat.le_of_ble_eq_true rfl, Nat.le_of_ble_eq_true rfl⟩ rfl rfl (by decide) (by decide) (by decide) dX9_namesWhatThereIs_55 rfl rfl (Nat.le_of_ble_eq_true rfl) ⟨Nat.le_of_ble_eq_true rfl, Nat.le_of_ble_eq_true rfl⟩ (fun r_31 u H locs hw_32 hP hD hS => ?_)
        have hP : va_P G vwCl [] H := hP
        have hD : va_D jA [] := hD
        rcases Bool.eq_false_or_eq_true (inR z 8) with qz | qz
        · skip
          rw [qz] at hw_32
          subst hw_32
          refine k_if_eq_f (tgt := 65) hx hb dX9_namesWhatThereIs_58 (by decide) (by decide) ?_
          refine lv_iconst (v := nI 1) hx hb dX9_namesWhatThereIs_61 (by decide) ?_
          refine lv_goto (tgt := 66) hx hb dX9_namesWhatThereIs_62 (by decide) ?_
          exact hret _ _ _ _ _ () dX9_namesWhatThereIs_66 (by decide) (by unfold rowK; simp [qx, qy, qz]; try rfl) hP hD hS
        · skip
          rw [qz] at hw_32
          subst hw_32
          refine k_if_eq_t (tgt := 65) hx hb dX9_namesWhatThereIs_58 (by decide) (by decide) ?_
          refine lv_iconst (v := nI 0) hx hb dX9_namesWhatThereIs_65 (by decide) ?_
          exact hret _ _ _ _ _ () dX9_namesWhatThereIs_66 (by decide) (by unfold rowK; simp [qx, qy, qz]; try rfl) hP hD hS
      · skip
        rw [qy] at hw_29
        subst hw_29
        refine k_if_eq_t (tgt := 65) hx hb dX9_namesWhatThereIs_51 (by decide) (by decide) ?_
        refine lv_iconst (v := nI 0) hx hb dX9_namesWhatThereIs_65 (by decide) ?_
        exact hret _ _ _ _ _ () dX9_namesWhatThereIs_66 (by decide) (by unfold rowK; simp [qx, qy]; try rfl) hP hD hS
    · skip
      rw [qx] at hw_26
      subst hw_26
      refine k_if_eq_t (tgt := 65) hx hb dX9_namesWhatThereIs_44 (by decide) (by decide) ?_
      refine lv_iconst (v := nI 0) hx hb dX9_namesWhatThereIs_65 (by decide) ?_
      exact hret _ _ _ _ _ () dX9_namesWhatThereIs_66 (by decide) (by unfold rowK; simp [qx]; try rfl) hP hD hS
  · skip
    refine lv_tableIn (tgt := 67) (off := 66) hx hb dX9_namesWhatThereIs_1 (by decide) (by decide) (by decide) (by decide) ?_
    refine lv_iload_n hx hb dX9_namesWhatThereIs_67 rfl (lv_at hl 1 rfl) ?_
    refine Ki.callS (wr := []) (rest := []) (CX9_isVariable jl G cI cZ cJ x) cx hP hD hS hl [] [] gX9_namesWhatThereIs_X9_isVariable hdX9_isVariable rfl ⟨Nat.le_of_ble_eq_true rfl, Nat.le_of_ble_eq_true rfl⟩ rfl rfl (by decide) (by decide) (by decide) dX9_namesWhatThereIs_68 rfl rfl (Nat.le_of_ble_eq_true rfl) ⟨Nat.le_of_ble_eq_true rfl, Nat.le_of_ble_eq_true rfl⟩ (fun r_37 u H locs hw_38 hP hD hS => ?_)
    have hP : va_P G vwCl [] H := hP
    have hD : va_D jA [] := hD
    rcases Bool.eq_false_or_eq_true (inR x 8) with qx | qx
    · skip
      rw [qx] at hw_38
      subst hw_38
      refine k_if_eq_f (tgt := 87) hx hb dX9_namesWhatThereIs_71 (by decide) (by decide) ?_
      refine lv_iload_n hx hb dX9_namesWhatThereIs_74 rfl (lv_at hl 2 rfl) ?_
      refine lv_if_lt (tgt := 87) hx hb dX9_namesWhatThereIs_75 (by decide) (fun c_40 => ?_) (fun c_40 => ?_)
      · skip
        have qy : inR y 4 = false := inR_f (by decide) (fun j hj e => nI_pos (show j < 2 ^ 31 by omega) (by rw [← e]; exact c_40))
        refine lv_iconst (v := nI 0) hx hb dX9_namesWhatThereIs_87 (by decide) ?_
        exact hret _ _ _ _ _ () dX9_namesWhatThereIs_88 (by decide) (by unfold rowK; simp [qx, qy]; try rfl) hP hD hS
      · skip
        obtain ⟨jy, hjy, rfl⟩ := nI_of c_40
        refine lv_iload_n hx hb dX9_namesWhatThereIs_78 rfl (lv_at hl 2 rfl) ?_
        refine lv_iconst (v := nI 4) hx hb dX9_namesWhatThereIs_79 (by decide) ?_
        refine k_cmp_ge (tgt := 87) hx hb dX9_namesWhatThereIs_80 (by decide) (by omega) (by omega) (fun c_41 => ?_) (fun c_41 => ?_)
        · skip
          have qy : inR (nI jy) 4 = false := inR_f (by decide) (fun j hj e => absurd ((nI_eq hjy (by omega)).mp e) (by omega))
          refine lv_iconst (v := nI 0) hx hb dX9_namesWhatThereIs_87 (by decide) ?_
          exact hret _ _ _ _ _ () dX9_namesWhatThereIs_88 (by decide) (by unfold rowK; simp [qx, qy]; try rfl) hP hD hS
        · skip
          have qy : inR (nI jy) 4 = true := inR_t (by decide) (show jy < 4 by omega) rfl
          refine lv_iconst (v := nI 1) hx hb dX9_namesWhatThereIs_83 (by decide) ?_
          refine lv_goto (tgt := 88) hx hb dX9_namesWhatThereIs_84 (by decide) ?_
          exact hret _ _ _ _ _ () dX9_namesWhatThereIs_88 (by decide) (by unfold rowK; simp [qx, qy]; try rfl) hP hD hS
    · skip
      rw [qx] at hw_38
      subst hw_38
      refine k_if_eq_t (tgt := 87) hx hb dX9_namesWhatThereIs_71 (by decide) (by decide) ?_
      refine lv_iconst (v := nI 0) hx hb dX9_namesWhatThereIs_87 (by decide) ?_
      exact hret _ _ _ _ _ () dX9_namesWhatThereIs_88 (by decide) (by unfold rowK; simp [qx]; try rfl) hP hD hS
  · skip
    refine lv_tableIn (tgt := 89) (off := 88) hx hb dX9_namesWhatThereIs_1 (by decide) (by decide) (by decide) (by decide) ?_
    refine lv_iload_n hx hb dX9_namesWhatThereIs_89 rfl (lv_at hl 1 rfl) ?_
    refine Ki.callS (wr := []) (rest := []) (CX9_isVariable jl G cI cZ cJ x) cx hP hD hS hl [] [] gX9_namesWhatThereIs_X9_isVariable hdX9_isVariable rfl ⟨Nat.le_of_ble_eq_true rfl, Nat.le_of_ble_eq_true rfl⟩ rfl rfl (by decide) (by decide) (by decide) dX9_namesWhatThereIs_90 rfl rfl (Nat.le_of_ble_eq_true rfl) ⟨Nat.le_of_ble_eq_true rfl, Nat.le_of_ble_eq_true rfl⟩ (fun r_43 u H locs hw_44 hP hD hS => ?_)
    have hP : va_P G vwCl [] H := hP
    have hD : va_D jA [] := hD
    rcases Bool.eq_false_or_eq_true (inR x 8) with qx | qx
    · skip
      rw [qx] at hw_44
      subst hw_44
      refine k_if_eq_f (tgt := 117) hx hb dX9_namesWhatThereIs_93 (by decide) (by decide) ?_
      refine lv_iload_n hx hb dX9_namesWhatThereIs_96 rfl (lv_at hl 2 rfl) ?_
      refine Ki.callS (wr := []) (rest := []) (CX9_isVariable jl G cI cZ cJ y) cx hP hD hS hl [] [] gX9_namesWhatThereIs_X9_isVariable hdX9_isVariable rfl ⟨Nat.le_of_ble_eq_true rfl, Nat.le_of_ble_eq_true rfl⟩ rfl rfl (by decide) (by decide) (by decide) dX9_namesWhatThereIs_97 rfl rfl (Nat.le_of_ble_eq_true rfl) ⟨Nat.le_of_ble_eq_true rfl, Nat.le_of_ble_eq_true rfl⟩ (fun r_46 u H locs hw_47 hP hD hS => ?_)
      have hP : va_P G vwCl [] H := hP
      have hD : va_D jA [] := hD
      rcases Bool.eq_false_or_eq_true (inR y 8) with qy | qy
      · skip
        rw [qy] at hw_47
        subst hw_47
        refine k_if_eq_f (tgt := 117) hx hb dX9_namesWhatThereIs_100 (by decide) (by decide) ?_
        refine lv_iload_n hx hb dX9_namesWhatThereIs_103 rfl (lv_at hl 3 rfl) ?_
        refine lv_if_lt (tgt := 117) hx hb dX9_namesWhatThereIs_104 (by decide) (fun c_49 => ?_) (fun c_49 => ?_)
        · skip
          have qz : inR z 25 = false := inR_f (by decide) (fun j hj e => nI_pos (show j < 2 ^ 31 by omega) (by rw [← e]; exact c_49))
          refine lv_iconst (v := nI 0) hx hb dX9_namesWhatThereIs_117 (by decide) ?_
          exact hret _ _ _ _ _ () dX9_namesWhatThereIs_118 (by decide) (by unfold rowK; simp [qx, qy, qz]; try rfl) hP hD hS
        · skip
          obtain ⟨jz, hjz, rfl⟩ := nI_of c_49
          refine lv_iload_n hx hb dX9_namesWhatThereIs_107 rfl (lv_at hl 3 rfl) ?_
          refine lv_bipush (v := nI 24) hx hb dX9_namesWhatThereIs_108 (by decide) ?_
          refine k_cmp_gt (tgt := 117) hx hb dX9_namesWhatThereIs_110 (by decide) (by omega) (by omega) (fun c_50 => ?_) (fun c_50 => ?_)
          · skip
            have qz : inR (nI jz) 25 = false := inR_f (by decide) (fun j hj e => absurd ((nI_eq hjz (by omega)).mp e) (by omega))
            refine lv_iconst (v := nI 0) hx hb dX9_namesWhatThereIs_117 (by decide) ?_
            exact hret _ _ _ _ _ () dX9_namesWhatThereIs_118 (by decide) (by unfold rowK; simp [qx, qy, qz]; try rfl) hP hD hS
          · skip
            have qz : inR (nI jz) 25 = true := inR_t (by decide) (show jz < 25 by omega) rfl
            refine lv_iconst (v := nI 1) hx hb dX9_namesWhatThereIs_113 (by decide) ?_
            refine lv_goto (tgt := 118) hx hb dX9_namesWhatThereIs_114 (by decide) ?_
            exact hret _ _ _ _ _ () dX9_namesWhatThereIs_118 (by decide) (by unfold rowK; simp [qx, qy, qz]; try rfl) hP hD hS
      · skip
        rw [qy] at hw_47
        subst hw_47
        refine k_if_eq_t (tgt := 117) hx hb dX9_namesWhatThereIs_100 (by decide) (by decide) ?_
        refine lv_iconst (v := nI 0) hx hb dX9_namesWhatThereIs_117 (by decide) ?_
        exact hret _ _ _ _ _ () dX9_namesWhatThereIs_118 (by decide) (by unfold rowK; simp [qx, qy]; try rfl) hP hD hS
    · skip
      rw [qx] at hw_44
      subst hw_44
      refine k_if_eq_t (tgt := 117) hx hb dX9_namesWhatThereIs_93 (by decide) (by decide) ?_
      refine lv_iconst (v := nI 0) hx hb dX9_namesWhatThereIs_117 (by decide) ?_
      exact hret _ _ _ _ _ () dX9_namesWhatThereIs_118 (by decide) (by unfold rowK; simp [qx]; try rfl) hP hD hS
  · skip
    refine lv_tableIn (tgt := 119) (off := 118) hx hb dX9_namesWhatThereIs_1 (by decide) (by decide) (by decide) (by decide) ?_
    refine lv_iload_n hx hb dX9_namesWhatThereIs_119 rfl (lv_at hl 3 rfl) ?_
    refine lv_if_lt (tgt := 133) hx hb dX9_namesWhatThereIs_120 (by decide) (fun c_53 => ?_) (fun c_53 => ?_)
    · skip
      have qz : inR z 25 = false := inR_f (by decide) (fun j hj e => nI_pos (show j < 2 ^ 31 by omega) (by rw [← e]; exact c_53))
      refine lv_iconst (v := nI 0) hx hb dX9_namesWhatThereIs_133 (by decide) ?_
      exact hret _ _ _ _ _ () dX9_namesWhatThereIs_134 (by decide) (by unfold rowK; simp [qz]; try rfl) hP hD hS
    · skip
      obtain ⟨jz, hjz, rfl⟩ := nI_of c_53
      refine lv_iload_n hx hb dX9_namesWhatThereIs_123 rfl (lv_at hl 3 rfl) ?_
      refine lv_bipush (v := nI 24) hx hb dX9_namesWhatThereIs_124 (by decide) ?_
      refine k_cmp_gt (tgt := 133) hx hb dX9_namesWhatThereIs_126 (by decide) (by omega) (by omega) (fun c_54 => ?_) (fun c_54 => ?_)
      · skip
        have qz : inR (nI jz) 25 = false := inR_f (by decide) (fun j hj e => absurd ((nI_eq hjz (by omega)).mp e) (by omega))
        refine lv_iconst (v := nI 0) hx hb dX9_namesWhatThereIs_133 (by decide) ?_
        exact hret _ _ _ _ _ () dX9_namesWhatThereIs_134 (by decide) (by unfold rowK; simp [qz]; try rfl) hP hD hS
      · skip
        have qz : inR (nI jz) 25 = true := inR_t (by decide) (show jz < 25 by omega) rfl
        refine lv_iconst (v := nI 1) hx hb dX9_namesWhatThereIs_129 (by decide) ?_
        refine lv_goto (tgt := 134) hx hb dX9_namesWhatThereIs_130 (by decide) ?_
        exact hret _ _ _ _ _ () dX9_namesWhatThereIs_134 (by decide) (by unfold rowK; simp [qz]; try rfl) hP hD hS
  · skip
    refine lv_tableOut (tgt := 135) hx hb dX9_namesWhatThereIs_1 (Or.inr (by decide)) (by decide) ?_
    refine lv_iload_n hx hb dX9_namesWhatThereIs_135 rfl (lv_at hl 1 rfl) ?_
    refine Ki.callS (wr := []) (rest := []) (CX9_isVariable jl G cI cZ cJ x) cx hP hD hS hl [] [] gX9_namesWhatThereIs_X9_isVariable hdX9_isVariable rfl ⟨Nat.le_of_ble_eq_true rfl, Nat.le_of_ble_eq_true rfl⟩ rfl rfl (by decide) (by decide) (by decide) dX9_namesWhatThereIs_136 rfl rfl (Nat.le_of_ble_eq_true rfl) ⟨Nat.le_of_ble_eq_true rfl, Nat.le_of_ble_eq_true rfl⟩ (fun r9 u H locs hw9 hP hD hS => ?_)
    have hP : va_P G vwCl [] H := hP
    have hD : va_D jA [] := hD
    exact hret _ _ _ _ _ () dX9_namesWhatThereIs_139 (by rw [hw9]; exact bI_nar _) (hw9) hP hD hS

theorem hdX9_namesWhatThereIs : yX9_namesWhatThereIs.cls ≠ "java/lang/invoke/MethodHandle" ∧ yX9_namesWhatThereIs.cls ≠ "java/lang/invoke/VarHandle" ∧ (parseMethodDescriptor yX9_namesWhatThereIs.desc).map (fun d => d.parameters.length) = some 4 := by decide +kernel
abbrev rCX9_faultOfRow : Room := { frames := 2, cells := 0, slots := 0, locals := 43 }
set_option maxHeartbeats 4000000 in
set_option maxRecDepth 100000 in
theorem CX9_faultOfRow (jl : Launch) (G : va_G) (cI cZ cJ : ClassId) (op x y z : Int32) : Ki jl yX9_faultOfRow wsX9_faultOfRow rCX9_faultOfRow G cI cZ cJ [.int op, .int x, .int y, .int z] [] (S := Unit) (fun (r : Int32) (_ : Unit) => r = rowF op x y z) (fun (_ : Unit) => []) := by
  refine Ki.of (cc := cX9_faultOfRow) (maxL := 4) (by decide +kernel) rfl (Nat.le_of_ble_eq_true rfl) ?_
  intro jp je js jm ja jb jt jc jA jQ ls cx hnm hP hD hS hl hret
  obtain ⟨hx, hb, hml, hown, hts, hK, hA⟩ := id cx
  have hl : lv_has ls 4 [(0, .int op), (1, .int x), (2, .int y), (3, .int z)] := hl
  obtain ⟨H, hH⟩ : ∃ H, H = js.heap := ⟨_, rfl⟩
  obtain ⟨locs, hlocs⟩ : ∃ z : List Loc, z = [] := ⟨_, rfl⟩
  have hP : va_P G vwCl [] H := by rw [hH]; exact hP
  have hS : va_S jA js.heap H locs := by rw [hH, hlocs]; exact hS
  rw [← hlocs]; rw [show W jp jl je rCX9_faultOfRow js jm ja jb jt jc js.heap locs 0 0 jQ (F0 jm 0 ls []) = W jp jl je rCX9_faultOfRow js jm ja jb jt jc H locs 0 0 jQ (F0 jm 0 ls []) by rw [hH]]
  clear hH hlocs
  refine lv_iload_n hx hb dX9_faultOfRow_0 rfl (lv_at hl 0 rfl) ?_
  refine lv_if_lt (tgt := 20) hx hb dX9_faultOfRow_1 (by decide) (fun c_1 => ?_) (fun c_1 => ?_)
  · skip
    have hq : (inR op 8 && rowK (tn op) x y z) = false := by rw [inR_f (by decide) (fun j hj e => nI_pos (show j < 2 ^ 31 by omega) (by rw [← e]; exact c_1))]; rfl
    refine lv_iconst (v := (-1)) hx hb dX9_faultOfRow_20 (by decide) ?_
    exact hret _ _ _ _ _ () dX9_faultOfRow_21 (by unfold rowF; rw [if_neg (by rw [hq]; decide)]) hP hD hS
  · skip
    obtain ⟨k, hk, rfl⟩ := nI_of c_1
    refine lv_iload_n hx hb dX9_faultOfRow_4 rfl (lv_at hl 0 rfl) ?_
    refine lv_bipush (v := nI 7) hx hb dX9_faultOfRow_5 (by decide) ?_
    refine k_cmp_gt (tgt := 20) hx hb dX9_faultOfRow_7 (by decide) (by omega) (by omega) (fun c_2 => ?_) (fun c_2 => ?_)
    · skip
      have hq : (inR (nI k) 8 && rowK (tn (nI k)) x y z) = false := by rw [inR_f (by decide) (fun j hj e => absurd ((nI_eq hk (by omega)).mp e) (by omega))]; rfl
      refine lv_iconst (v := (-1)) hx hb dX9_faultOfRow_20 (by decide) ?_
      exact hret _ _ _ _ _ () dX9_faultOfRow_21 (by unfold rowF; rw [if_neg (by rw [hq]; decide)]) hP hD hS
    · skip
      have hk8 : k < 8 := by omega
      have hin : inR (nI k) 8 = true := inR_t (by decide) hk8 rfl
      have htn : tn (nI k) = k := tn_nI hk
      refine lv_iload_n hx hb dX9_faultOfRow_10 rfl (lv_at hl 0 rfl) ?_
      refine lv_iload_n hx hb dX9_faultOfRow_11 rfl (lv_at hl 1 rfl) ?_
      refine lv_iload_n hx hb dX9_faultOfRow_12 rfl (lv_at hl 2 rfl) ?_
      refine lv_iload_n hx hb dX9_faultOfRow_13 rfl (lv_at hl 3 rfl) ?_
      refine Ki.callS (wr := []) (rest := []) (CX9_namesWhatThereIs jl G cI cZ cJ k hk8 x y z) cx hP hD hS hl [] [] gX9_faultOfRow_X9_namesWhatThereIs hdX9_namesWhatThereIs rfl ⟨Nat.le_of_ble_eq_true rfl, Nat.le_of_ble_eq_true rfl⟩ rfl rfl (by decide) (by decide) (by decide) dX9_faultOfRow_14 rfl rfl (Nat.le_of_ble_eq_true rfl) ⟨Nat.le_of_ble_eq_true rfl, Nat.le_of_ble_eq_true rfl⟩ (fun r_3 u H locs hw_4 hP hD hS => ?_)
      have hP : va_P G vwCl [] H := hP
      have hD : va_D jA [] := hD
      rcases Bool.eq_false_or_eq_true (rowK k x y z) with hrk | hrk
      · skip
        rw [hrk] at hw_4
        subst hw_4
        have hq : (inR (nI k) 8 && rowK (tn (nI k)) x y z) = true := by rw [hin, htn, hrk]; rfl
        refine k_if_ne_t (tgt := 22) hx hb dX9_faultOfRow_17 (by decide) (by decide) ?_
        refine lv_iload_n hx hb dX9_faultOfRow_22 rfl (lv_at hl 0 rfl) ?_
        refine k_if_ne (tgt := 36) hx hb dX9_faultOfRow_23 (by decide) (by omega) (fun h0 => ?_) (fun h0 => ?_)
        · skip
          refine lv_iload_n hx hb dX9_faultOfRow_36 rfl (lv_at hl 0 rfl) ?_
          refine k_if_ne (tgt := 50) hx hb dX9_faultOfRow_37 (by decide) (by omega) (fun h00 => ?_) (fun h00 => ?_)
          · skip
            refine lv_iconst (v := nI 0) hx hb dX9_faultOfRow_50 (by decide) ?_
            exact hret _ _ _ _ _ () dX9_faultOfRow_51 (by unfold rowF; rw [if_pos hq, if_neg (fun q => absurd ((nI_eq hk (by decide)).mp q) (by omega))]) hP hD hS
          · skip
            exact absurd h00 (by omega)
        · skip
          refine lv_iload_n hx hb dX9_faultOfRow_26 rfl (lv_at hl 2 rfl) ?_
          refine lv_sipush (v := (-1000)) hx hb dX9_faultOfRow_27 (by decide) ?_
          refine lv_icmp_ge (tgt := 36) hx hb dX9_faultOfRow_30 (by decide) (fun h1 => ?_) (fun h1 => ?_)
          · skip
            refine lv_iload_n hx hb dX9_faultOfRow_36 rfl (lv_at hl 0 rfl) ?_
            refine k_if_ne (tgt := 50) hx hb dX9_faultOfRow_37 (by decide) (by omega) (fun h00 => ?_) (fun h00 => ?_)
            · skip
              exact absurd h00 (by omega)
            · skip
              refine lv_iload_n hx hb dX9_faultOfRow_40 rfl (lv_at hl 2 rfl) ?_
              refine lv_sipush (v := nI 1000) hx hb dX9_faultOfRow_41 (by decide) ?_
              refine lv_icmp_le (tgt := 50) hx hb dX9_faultOfRow_44 (by decide) (fun h2 => ?_) (fun h2 => ?_)
              · skip
                refine lv_iconst (v := nI 0) hx hb dX9_faultOfRow_50 (by decide) ?_
                exact hret _ _ _ _ _ () dX9_faultOfRow_51 (by unfold rowF; rw [if_pos hq, if_pos (by rw [h0]), if_neg (Int32.not_lt.mpr h1), if_neg (Int32.not_lt.mpr h2)]) hP hD hS
              · skip
                refine lv_bipush (v := (-6)) hx hb dX9_faultOfRow_47 (by decide) ?_
                exact hret _ _ _ _ _ () dX9_faultOfRow_49 (by unfold rowF; rw [if_pos hq, if_pos (by rw [h0]), if_neg (Int32.not_lt.mpr h1), if_pos (Int32.not_le.mp h2)]) hP hD hS
          · skip
            refine lv_bipush (v := (-4)) hx hb dX9_faultOfRow_33 (by decide) ?_
            exact hret _ _ _ _ _ () dX9_faultOfRow_35 (by unfold rowF; rw [if_pos hq, if_pos (by rw [h0]), if_pos (Int32.not_le.mp h1)]) hP hD hS
      · skip
        rw [hrk] at hw_4
        subst hw_4
        have hq : (inR (nI k) 8 && rowK (tn (nI k)) x y z) = false := by rw [hin, htn, hrk]; rfl
        refine k_if_ne_f (tgt := 22) hx hb dX9_faultOfRow_17 (by decide) (by decide) ?_
        refine lv_iconst (v := (-1)) hx hb dX9_faultOfRow_20 (by decide) ?_
        exact hret _ _ _ _ _ () dX9_faultOfRow_21 (by unfold rowF; rw [if_neg (by rw [hq]; decide)]) hP hD hS

theorem iX9_refuse_9 : ∀ w ∈ wsX90, w ∈ wsX9_refuse := by decide +kernel
theorem mX9_refuse_70 : Cond.fieldLink RX9 70 "LineFinder" "refusals" "[I" ∈ wsX9_refuse := List.mem_of_getElem? (i := 1) rfl
abbrev rCX9_refuse : Room := { frames := 0, cells := 0, slots := 0, locals := 0 }
set_option maxHeartbeats 4000000 in
set_option maxRecDepth 100000 in
theorem CX9_refuse (jl : Launch) (G : va_G) (cI cZ cJ : ClassId) (ad : Nat → Nat) (N : Nat → Nat) (Y : Nat → Int32) (F : Nat → Fn) (x : Int32) (k : Nat) (hxk : -x = nI k) (hk7 : k < 7) : Ki jl yX9_refuse wsX9_refuse rCX9_refuse G cI cZ cJ [.ref (ad 0), .int x] [oB (ad 0) 9 [.ref (ad 1), .ref (ad 23), .ref (ad 27), .ref (ad 31), .ref (ad 33), .ref (ad 35), .ref (ad 36), .ref (ad 37), .ref (ad 41), .ref (ad 42), .int (Y 4)], aI cI (ad 42) 7 (F 28)] (S := Unit) (fun (r : Int32) (_ : Unit) => r = x) (fun (_ : Unit) => [oB (ad 0) 9 [.ref (ad 1), .ref (ad 23), .ref (ad 27), .ref (ad 31), .ref (ad 33), .ref (ad 35), .ref (ad 36), .ref (ad 37), .ref (ad 41), .ref (ad 42), .int (Y 4)], aI cI (ad 42) 7 (upd (F 28) k ((F 28) k + nI 1))]) := by
  refine Ki.of (cc := cX9_refuse) (maxL := 2) (by decide +kernel) rfl (Nat.le_of_ble_eq_true rfl) ?_
  intro jp je js jm ja jb jt jc jA jQ ls cx hnm hP hD hS hl hret
  obtain ⟨hx, hb, hml, hown, hts, hK, hA⟩ := id cx
  have hl : lv_has ls 2 [(0, .ref (ad 0)), (1, .int x)] := hl
  obtain ⟨H, hH⟩ : ∃ H, H = js.heap := ⟨_, rfl⟩
  obtain ⟨locs, hlocs⟩ : ∃ z : List Loc, z = [] := ⟨_, rfl⟩
  have hP : va_P G vwCl [oB (ad 0) 9 [.ref (ad 1), .ref (ad 23), .ref (ad 27), .ref (ad 31), .ref (ad 33), .ref (ad 35), .ref (ad 36), .ref (ad 37), .ref (ad 41), .ref (ad 42), .int (Y 4)], aI cI (ad 42) 7 (F 28)] H := by rw [hH]; exact hP
  have hS : va_S jA js.heap H locs := by rw [hH, hlocs]; exact hS
  rw [← hlocs]; rw [show W jp jl je rCX9_refuse js jm ja jb jt jc js.heap locs 0 0 jQ (F0 jm 0 ls []) = W jp jl je rCX9_refuse js jm ja jb jt jc H locs 0 0 jQ (F0 jm 0 ls []) by rw [hH]]
  clear hH hlocs
  refine lv_aload_n hx hb dX9_refuse_0 rfl (lv_at hl 0 rfl) ?_
  refine va_get (C := RX9) (T := TX9) (N := 11) (ci := 9) hx hb hts iX9_refuse_9 hown hK.1 hP 0 rfl rfl 9 (Nat.le_of_ble_eq_true rfl) (hts _ mX9_refuse_70) (fun _ h9 => h9) rfl dX9_refuse_1 ?_
  refine lv_iload_n hx hb dX9_refuse_4 rfl (lv_at hl 1 rfl) ?_
  refine lv_ineg hx hb dX9_refuse_5 ?_
  refine k_topN hxk ?_
  refine lv_dup2_11 hx hb dX9_refuse_6 rfl rfl ?_
  refine k_iald hx hb hK.1 hP 1 0 rfl rfl (by omega) (by decide) dX9_refuse_7 ?_
  refine lv_iconst (v := nI 1) hx hb dX9_refuse_8 (by decide) ?_
  refine lv_iadd hx hb dX9_refuse_9 ?_
  refine k_iast hx hb hK.1 hP hD hS 1 0 rfl rfl (by omega) (by decide) dX9_refuse_10 (fun H locs hP hD hS => ?_)
  have hP : va_P G vwCl [oB (ad 0) 9 [.ref (ad 1), .ref (ad 23), .ref (ad 27), .ref (ad 31), .ref (ad 33), .ref (ad 35), .ref (ad 36), .ref (ad 37), .ref (ad 41), .ref (ad 42), .int (Y 4)], aI cI (ad 42) 7 (upd (F 28) k (((F 28) k) + (nI 1)))] H := hP
  have hD : va_D jA [oB (ad 0) 9 [.ref (ad 1), .ref (ad 23), .ref (ad 27), .ref (ad 31), .ref (ad 33), .ref (ad 35), .ref (ad 36), .ref (ad 37), .ref (ad 41), .ref (ad 42), .int (Y 4)], aI cI (ad 42) 7 (upd (F 28) k (((F 28) k) + (nI 1)))] := hD
  refine lv_iload_n hx hb dX9_refuse_11 rfl (lv_at hl 1 rfl) ?_
  exact hret _ _ _ _ _ () dX9_refuse_12 (rfl) hP hD hS
