theorem iX10_suspects_10 : ∀ w ∈ wsX100, w ∈ wsX10_suspects := by decide +kernel
theorem mX10_suspects_176 : Cond.fieldLink RX10 176 "LineFinderModel" "setMany" "I" ∈ wsX10_suspects := List.mem_of_getElem? (i := 1) rfl
theorem hdX10_findSets : yX10_findSets.cls = RX10 ∧ yX10_findSets.cls ≠ "java/lang/invoke/MethodHandle" ∧ yX10_findSets.cls ≠ "java/lang/invoke/VarHandle" ∧ (parseMethodDescriptor yX10_findSets.desc).map (fun d => d.parameters.length) = some 0 := by decide +kernel
abbrev rCX10_suspects : Room := { frames := 5, cells := 0, slots := 0, locals := 119 }
set_option maxHeartbeats 4000000 in
set_option maxRecDepth 100000 in
theorem CX10_suspects (jl : Launch) (G : va_G) (cI cZ cJ : ClassId) (ma : Nat → Nat) (N : Nat → Nat) (F : Nat → Fn) (rf T X B : Fn) (M : Nat → Nat) (C : Int32) (E : Nat → Fn) (L : Nat → Int64) (hLA : LA N F) (hMR : MR N F T X B)  : Ki jl yX10_suspects wsX10_suspects rCX10_suspects G cI cZ cJ [.ref (ma 0)] [oB (ma 0) 10 [.ref (ma 1), .int (nI (N 0)), .int (nI (N 3)), .int (nI (N 1)), .int (nI (M 0)), .ref (ma 2), .ref (ma 3), .ref (ma 4), .ref (ma 5), .ref (ma 6), .ref (ma 7), .ref (ma 8), .ref (ma 9), .ref (ma 10), .ref (ma 11), .ref (ma 12), .ref (ma 13), .int (nI (M 1)), .int (nI (M 2)), .int (nI (M 3)), .int C, .ref (ma 14), .ref (ma 15), .int (nI (M 4)), .int (nI (M 5)), .int (nI (M 6)), .int (nI (M 7)), .int (nI (M 8)), .ref (ma 16), .ref (ma 17), .int (nI (M 9)), .ref (ma 18), .int (nI (M 10))], aI cI (ma 1) 7 rf, aI cI (ma 2) 96 T, aI cI (ma 3) 96 (E 0), aI cI (ma 4) 100 X, aI cI (ma 5) 24 (F 27), aI cI (ma 6) 48 (F 17), aI cI (ma 7) 72 (F 18), aI cI (ma 8) 12 (F 19), aI cZ (ma 9) 12 B, aI cI (ma 10) 300 (E 1), aI cI (ma 11) 6 (E 2), aI cI (ma 12) 6 (E 3), aI cI (ma 13) 8 (E 4), aI cI (ma 14) 12 (E 5), aI cZ (ma 15) 12 (E 6), aI cI (ma 16) 2400 (E 7), aJ cJ (ma 17) 2400 L, aI cZ (ma 18) 300 (E 8)] (S := Fn × (Nat → Nat) × Int32 × (Nat → Fn) × (Nat → Int64)) (fun (r : Int32) (u : Fn × (Nat → Nat) × Int32 × (Nat → Fn) × (Nat → Int64)) => match u with | (rf1, M1, C1, E1, L1) => r = nI (SETS N F).length ∧ rf1 = rf) (fun (u : Fn × (Nat → Nat) × Int32 × (Nat → Fn) × (Nat → Int64)) => match u with | (rf1, M1, C1, E1, L1) => [oB (ma 0) 10 [.ref (ma 1), .int (nI (N 0)), .int (nI (N 3)), .int (nI (N 1)), .int (nI (M1 0)), .ref (ma 2), .ref (ma 3), .ref (ma 4), .ref (ma 5), .ref (ma 6), .ref (ma 7), .ref (ma 8), .ref (ma 9), .ref (ma 10), .ref (ma 11), .ref (ma 12), .ref (ma 13), .int (nI (M1 1)), .int (nI (M1 2)), .int (nI (M1 3)), .int C1, .ref (ma 14), .ref (ma 15), .int (nI (M1 4)), .int (nI (M1 5)), .int (nI (M1 6)), .int (nI (M1 7)), .int (nI (M1 8)), .ref (ma 16), .ref (ma 17), .int (nI (M1 9)), .ref (ma 18), .int (nI (M1 10))], aI cI (ma 1) 7 rf1, aI cI (ma 2) 96 T, aI cI (ma 3) 96 (E1 0), aI cI (ma 4) 100 X, aI cI (ma 5) 24 (F 27), aI cI (ma 6) 48 (F 17), aI cI (ma 7) 72 (F 18), aI cI (ma 8) 12 (F 19), aI cZ (ma 9) 12 B, aI cI (ma 10) 300 (E1 1), aI cI (ma 11) 6 (E1 2), aI cI (ma 12) 6 (E1 3), aI cI (ma 13) 8 (E1 4), aI cI (ma 14) 12 (E1 5), aI cZ (ma 15) 12 (E1 6), aI cI (ma 16) 2400 (E1 7), aJ cJ (ma 17) 2400 L1, aI cZ (ma 18) 300 (E1 8)]) := by
  refine Ki.of (cc := cX10_suspects) (maxL := 1) (by decide +kernel) rfl (Nat.le_of_ble_eq_true rfl) ?_
  intro jp je js jm ja jb jt jc jA jQ ls cx hnm hP hD hS hl hret
  obtain ⟨hx, hb, hml, hown, hts, hK, hA⟩ := id cx
  have hl : lv_has ls 1 [(0, .ref (ma 0))] := hl
  obtain ⟨H, hH⟩ : ∃ H, H = js.heap := ⟨_, rfl⟩
  obtain ⟨locs, hlocs⟩ : ∃ z : List Loc, z = [] := ⟨_, rfl⟩
  have hP : va_P G vwCl [oB (ma 0) 10 [.ref (ma 1), .int (nI (N 0)), .int (nI (N 3)), .int (nI (N 1)), .int (nI (M 0)), .ref (ma 2), .ref (ma 3), .ref (ma 4), .ref (ma 5), .ref (ma 6), .ref (ma 7), .ref (ma 8), .ref (ma 9), .ref (ma 10), .ref (ma 11), .ref (ma 12), .ref (ma 13), .int (nI (M 1)), .int (nI (M 2)), .int (nI (M 3)), .int C, .ref (ma 14), .ref (ma 15), .int (nI (M 4)), .int (nI (M 5)), .int (nI (M 6)), .int (nI (M 7)), .int (nI (M 8)), .ref (ma 16), .ref (ma 17), .int (nI (M 9)), .ref (ma 18), .int (nI (M 10))], aI cI (ma 1) 7 rf, aI cI (ma 2) 96 T, aI cI (ma 3) 96 (E 0), aI cI (ma 4) 100 X, aI cI (ma 5) 24 (F 27), aI cI (ma 6) 48 (F 17), aI cI (ma 7) 72 (F 18), aI cI (ma 8) 12 (F 19), aI cZ (ma 9) 12 B, aI cI (ma 10) 300 (E 1), aI cI (ma 11) 6 (E 2), aI cI (ma 12) 6 (E 3), aI cI (ma 13) 8 (E 4), aI cI (ma 14) 12 (E 5), aI cZ (ma 15) 12 (E 6), aI cI (ma 16) 2400 (E 7), aJ cJ (ma 17) 2400 L, aI cZ (ma 18) 300 (E 8)] H := by rw [hH]; exact hP
  have hS : va_S jA js.heap H locs := by rw [hH, hlocs]; exact hS
  rw [← hlocs]; rw [show W jp jl je rCX10_suspects js jm ja jb jt jc js.heap locs 0 0 jQ (F0 jm 0 ls []) = W jp jl je rCX10_suspects js jm ja jb jt jc H locs 0 0 jQ (F0 jm 0 ls []) by rw [hH]]
  clear hH hlocs
  obtain ⟨hn24, hc20, hnt12, hob2, hokT, hokN, hokC, hver, hlen7, hpri⟩ := id hLA
  refine lv_aload_n hx hb dX10_suspects_0 rfl (lv_at hl 0 rfl) ?_
  refine Kv.callV (wr := []) (rest := []) (CX10_findSets jl G cI cZ cJ ma N F rf T X B M C E L hLA hMR) cx hP hD hS hl [0, 1, 2, 3, 4, 5, 6, 7, 8, 9, 10, 11, 12, 13, 14, 15, 16, 17, 18] [] (ci := 10) (q0 := 0) gX10_suspects_X10_findSets hdX10_findSets rfl rfl rfl ⟨Nat.le_of_ble_eq_true rfl, Nat.le_of_ble_eq_true rfl⟩ rfl rfl (by decide) (by decide) (by decide) dX10_suspects_1 rfl rfl (Nat.le_of_ble_eq_true rfl) ⟨Nat.le_of_ble_eq_true rfl, Nat.le_of_ble_eq_true rfl⟩ (fun u H locs hwf hP hD hS => ?_)
  obtain ⟨M2, C2, E2, L2⟩ := u
  try dsimp only at hwf
  have hP : va_P G vwCl [oB (ma 0) 10 [.ref (ma 1), .int (nI (N 0)), .int (nI (N 3)), .int (nI (N 1)), .int (nI (M2 0)), .ref (ma 2), .ref (ma 3), .ref (ma 4), .ref (ma 5), .ref (ma 6), .ref (ma 7), .ref (ma 8), .ref (ma 9), .ref (ma 10), .ref (ma 11), .ref (ma 12), .ref (ma 13), .int (nI (M2 1)), .int (nI (M2 2)), .int (nI (M2 3)), .int C2, .ref (ma 14), .ref (ma 15), .int (nI (M2 4)), .int (nI (M2 5)), .int (nI (M2 6)), .int (nI (M2 7)), .int (nI (M2 8)), .ref (ma 16), .ref (ma 17), .int (nI (M2 9)), .ref (ma 18), .int (nI (M2 10))], aI cI (ma 1) 7 rf, aI cI (ma 2) 96 T, aI cI (ma 3) 96 (E2 0), aI cI (ma 4) 100 X, aI cI (ma 5) 24 (F 27), aI cI (ma 6) 48 (F 17), aI cI (ma 7) 72 (F 18), aI cI (ma 8) 12 (F 19), aI cZ (ma 9) 12 B, aI cI (ma 10) 300 (E2 1), aI cI (ma 11) 6 (E2 2), aI cI (ma 12) 6 (E2 3), aI cI (ma 13) 8 (E2 4), aI cI (ma 14) 12 (E2 5), aI cZ (ma 15) 12 (E2 6), aI cI (ma 16) 2400 (E2 7), aJ cJ (ma 17) 2400 L2, aI cZ (ma 18) 300 (E2 8)] H := hP
  have hD : va_D jA [oB (ma 0) 10 [.ref (ma 1), .int (nI (N 0)), .int (nI (N 3)), .int (nI (N 1)), .int (nI (M2 0)), .ref (ma 2), .ref (ma 3), .ref (ma 4), .ref (ma 5), .ref (ma 6), .ref (ma 7), .ref (ma 8), .ref (ma 9), .ref (ma 10), .ref (ma 11), .ref (ma 12), .ref (ma 13), .int (nI (M2 1)), .int (nI (M2 2)), .int (nI (M2 3)), .int C2, .ref (ma 14), .ref (ma 15), .int (nI (M2 4)), .int (nI (M2 5)), .int (nI (M2 6)), .int (nI (M2 7)), .int (nI (M2 8)), .ref (ma 16), .ref (ma 17), .int (nI (M2 9)), .ref (ma 18), .int (nI (M2 10))], aI cI (ma 1) 7 rf, aI cI (ma 2) 96 T, aI cI (ma 3) 96 (E2 0), aI cI (ma 4) 100 X, aI cI (ma 5) 24 (F 27), aI cI (ma 6) 48 (F 17), aI cI (ma 7) 72 (F 18), aI cI (ma 8) 12 (F 19), aI cZ (ma 9) 12 B, aI cI (ma 10) 300 (E2 1), aI cI (ma 11) 6 (E2 2), aI cI (ma 12) 6 (E2 3), aI cI (ma 13) 8 (E2 4), aI cI (ma 14) 12 (E2 5), aI cZ (ma 15) 12 (E2 6), aI cI (ma 16) 2400 (E2 7), aJ cJ (ma 17) 2400 L2, aI cZ (ma 18) 300 (E2 8)] := hD
  have hFS := FS_of hn24 hnt12 hwf.1 hwf.2.2.1 hwf.2.2.2.1
  have hsm : M2 9 = (SETS N F).length := hFS.2.1
  have hsl := hFS.2.2.2
  refine lv_aload_n hx hb dX10_suspects_4 rfl (lv_at hl 0 rfl) ?_
  refine va_get (C := RX10) (T := TX10) (N := 33) (ci := 10) hx hb hts iX10_suspects_10 hown hK.1 hP 0 rfl rfl 30 (Nat.le_of_ble_eq_true rfl) (hts _ mX10_suspects_176) (fun _ h9 => h9) rfl dX10_suspects_5 ?_
  exact hret _ _ _ _ _ (rf, M2, C2, E2, L2) dX10_suspects_8 (⟨congrArg nI hsm, rfl⟩) hP hD hS

theorem iX10_suspect_10 : ∀ w ∈ wsX100, w ∈ wsX10_suspect := by decide +kernel
theorem mX10_suspect_56 : Cond.fieldLink RX10 56 "LineFinderModel" "sets" "[I" ∈ wsX10_suspect := List.mem_of_getElem? (i := 2) rfl
theorem mX10_suspect_176 : Cond.fieldLink RX10 176 "LineFinderModel" "setMany" "I" ∈ wsX10_suspect := List.mem_of_getElem? (i := 1) rfl
abbrev rCX10_suspect : Room := { frames := 5, cells := 0, slots := 0, locals := 119 }
set_option maxHeartbeats 4000000 in
set_option maxRecDepth 100000 in
theorem CX10_suspect (jl : Launch) (G : va_G) (cI cZ cJ : ClassId) (ma : Nat → Nat) (N : Nat → Nat) (F : Nat → Fn) (rf T X B : Fn) (M : Nat → Nat) (C : Int32) (E : Nat → Fn) (L : Nat → Int64) (hLA : LA N F) (hMR : MR N F T X B) (p : Int32) : Ki jl yX10_suspect wsX10_suspect rCX10_suspect G cI cZ cJ [.ref (ma 0), .int p] [oB (ma 0) 10 [.ref (ma 1), .int (nI (N 0)), .int (nI (N 3)), .int (nI (N 1)), .int (nI (M 0)), .ref (ma 2), .ref (ma 3), .ref (ma 4), .ref (ma 5), .ref (ma 6), .ref (ma 7), .ref (ma 8), .ref (ma 9), .ref (ma 10), .ref (ma 11), .ref (ma 12), .ref (ma 13), .int (nI (M 1)), .int (nI (M 2)), .int (nI (M 3)), .int C, .ref (ma 14), .ref (ma 15), .int (nI (M 4)), .int (nI (M 5)), .int (nI (M 6)), .int (nI (M 7)), .int (nI (M 8)), .ref (ma 16), .ref (ma 17), .int (nI (M 9)), .ref (ma 18), .int (nI (M 10))], aI cI (ma 1) 7 rf, aI cI (ma 2) 96 T, aI cI (ma 3) 96 (E 0), aI cI (ma 4) 100 X, aI cI (ma 5) 24 (F 27), aI cI (ma 6) 48 (F 17), aI cI (ma 7) 72 (F 18), aI cI (ma 8) 12 (F 19), aI cZ (ma 9) 12 B, aI cI (ma 10) 300 (E 1), aI cI (ma 11) 6 (E 2), aI cI (ma 12) 6 (E 3), aI cI (ma 13) 8 (E 4), aI cI (ma 14) 12 (E 5), aI cZ (ma 15) 12 (E 6), aI cI (ma 16) 2400 (E 7), aJ cJ (ma 17) 2400 L, aI cZ (ma 18) 300 (E 8)] (S := Fn × (Nat → Nat) × Int32 × (Nat → Fn) × (Nat → Int64)) (fun (r : Int32) (u : Fn × (Nat → Nat) × Int32 × (Nat → Fn) × (Nat → Int64)) => match u with | (rf1, M1, C1, E1, L1) => r = ansSuspect N F p ∧ rf1 = rf) (fun (u : Fn × (Nat → Nat) × Int32 × (Nat → Fn) × (Nat → Int64)) => match u with | (rf1, M1, C1, E1, L1) => [oB (ma 0) 10 [.ref (ma 1), .int (nI (N 0)), .int (nI (N 3)), .int (nI (N 1)), .int (nI (M1 0)), .ref (ma 2), .ref (ma 3), .ref (ma 4), .ref (ma 5), .ref (ma 6), .ref (ma 7), .ref (ma 8), .ref (ma 9), .ref (ma 10), .ref (ma 11), .ref (ma 12), .ref (ma 13), .int (nI (M1 1)), .int (nI (M1 2)), .int (nI (M1 3)), .int C1, .ref (ma 14), .ref (ma 15), .int (nI (M1 4)), .int (nI (M1 5)), .int (nI (M1 6)), .int (nI (M1 7)), .int (nI (M1 8)), .ref (ma 16), .ref (ma 17), .int (nI (M1 9)), .ref (ma 18), .int (nI (M1 10))], aI cI (ma 1) 7 rf1, aI cI (ma 2) 96 T, aI cI (ma 3) 96 (E1 0), aI cI (ma 4) 100 X, aI cI (ma 5) 24 (F 27), aI cI (ma 6) 48 (F 17), aI cI (ma 7) 72 (F 18), aI cI (ma 8) 12 (F 19), aI cZ (ma 9) 12 B, aI cI (ma 10) 300 (E1 1), aI cI (ma 11) 6 (E1 2), aI cI (ma 12) 6 (E1 3), aI cI (ma 13) 8 (E1 4), aI cI (ma 14) 12 (E1 5), aI cZ (ma 15) 12 (E1 6), aI cI (ma 16) 2400 (E1 7), aJ cJ (ma 17) 2400 L1, aI cZ (ma 18) 300 (E1 8)]) := by
  refine Ki.of (cc := cX10_suspect) (maxL := 2) (by decide +kernel) rfl (Nat.le_of_ble_eq_true rfl) ?_
  intro jp je js jm ja jb jt jc jA jQ ls cx hnm hP hD hS hl hret
  obtain ⟨hx, hb, hml, hown, hts, hK, hA⟩ := id cx
  have hl : lv_has ls 2 [(0, .ref (ma 0)), (1, .int p)] := hl
  obtain ⟨H, hH⟩ : ∃ H, H = js.heap := ⟨_, rfl⟩
  obtain ⟨locs, hlocs⟩ : ∃ z : List Loc, z = [] := ⟨_, rfl⟩
  have hP : va_P G vwCl [oB (ma 0) 10 [.ref (ma 1), .int (nI (N 0)), .int (nI (N 3)), .int (nI (N 1)), .int (nI (M 0)), .ref (ma 2), .ref (ma 3), .ref (ma 4), .ref (ma 5), .ref (ma 6), .ref (ma 7), .ref (ma 8), .ref (ma 9), .ref (ma 10), .ref (ma 11), .ref (ma 12), .ref (ma 13), .int (nI (M 1)), .int (nI (M 2)), .int (nI (M 3)), .int C, .ref (ma 14), .ref (ma 15), .int (nI (M 4)), .int (nI (M 5)), .int (nI (M 6)), .int (nI (M 7)), .int (nI (M 8)), .ref (ma 16), .ref (ma 17), .int (nI (M 9)), .ref (ma 18), .int (nI (M 10))], aI cI (ma 1) 7 rf, aI cI (ma 2) 96 T, aI cI (ma 3) 96 (E 0), aI cI (ma 4) 100 X, aI cI (ma 5) 24 (F 27), aI cI (ma 6) 48 (F 17), aI cI (ma 7) 72 (F 18), aI cI (ma 8) 12 (F 19), aI cZ (ma 9) 12 B, aI cI (ma 10) 300 (E 1), aI cI (ma 11) 6 (E 2), aI cI (ma 12) 6 (E 3), aI cI (ma 13) 8 (E 4), aI cI (ma 14) 12 (E 5), aI cZ (ma 15) 12 (E 6), aI cI (ma 16) 2400 (E 7), aJ cJ (ma 17) 2400 L, aI cZ (ma 18) 300 (E 8)] H := by rw [hH]; exact hP
  have hS : va_S jA js.heap H locs := by rw [hH, hlocs]; exact hS
  rw [← hlocs]; rw [show W jp jl je rCX10_suspect js jm ja jb jt jc js.heap locs 0 0 jQ (F0 jm 0 ls []) = W jp jl je rCX10_suspect js jm ja jb jt jc H locs 0 0 jQ (F0 jm 0 ls []) by rw [hH]]
  clear hH hlocs
  obtain ⟨hn24, hc20, hnt12, hob2, hokT, hokN, hokC, hver, hlen7, hpri⟩ := id hLA
  refine lv_aload_n hx hb dX10_suspect_0 rfl (lv_at hl 0 rfl) ?_
  refine Kv.callV (wr := []) (rest := []) (CX10_findSets jl G cI cZ cJ ma N F rf T X B M C E L hLA hMR) cx hP hD hS hl [0, 1, 2, 3, 4, 5, 6, 7, 8, 9, 10, 11, 12, 13, 14, 15, 16, 17, 18] [] (ci := 10) (q0 := 0) gX10_suspect_X10_findSets hdX10_findSets rfl rfl rfl ⟨Nat.le_of_ble_eq_true rfl, Nat.le_of_ble_eq_true rfl⟩ rfl rfl (by decide) (by decide) (by decide) dX10_suspect_1 rfl rfl (Nat.le_of_ble_eq_true rfl) ⟨Nat.le_of_ble_eq_true rfl, Nat.le_of_ble_eq_true rfl⟩ (fun u H locs hwf hP hD hS => ?_)
  obtain ⟨M2, C2, E2, L2⟩ := u
  try dsimp only at hwf
  have hP : va_P G vwCl [oB (ma 0) 10 [.ref (ma 1), .int (nI (N 0)), .int (nI (N 3)), .int (nI (N 1)), .int (nI (M2 0)), .ref (ma 2), .ref (ma 3), .ref (ma 4), .ref (ma 5), .ref (ma 6), .ref (ma 7), .ref (ma 8), .ref (ma 9), .ref (ma 10), .ref (ma 11), .ref (ma 12), .ref (ma 13), .int (nI (M2 1)), .int (nI (M2 2)), .int (nI (M2 3)), .int C2, .ref (ma 14), .ref (ma 15), .int (nI (M2 4)), .int (nI (M2 5)), .int (nI (M2 6)), .int (nI (M2 7)), .int (nI (M2 8)), .ref (ma 16), .ref (ma 17), .int (nI (M2 9)), .ref (ma 18), .int (nI (M2 10))], aI cI (ma 1) 7 rf, aI cI (ma 2) 96 T, aI cI (ma 3) 96 (E2 0), aI cI (ma 4) 100 X, aI cI (ma 5) 24 (F 27), aI cI (ma 6) 48 (F 17), aI cI (ma 7) 72 (F 18), aI cI (ma 8) 12 (F 19), aI cZ (ma 9) 12 B, aI cI (ma 10) 300 (E2 1), aI cI (ma 11) 6 (E2 2), aI cI (ma 12) 6 (E2 3), aI cI (ma 13) 8 (E2 4), aI cI (ma 14) 12 (E2 5), aI cZ (ma 15) 12 (E2 6), aI cI (ma 16) 2400 (E2 7), aJ cJ (ma 17) 2400 L2, aI cZ (ma 18) 300 (E2 8)] H := hP
  have hD : va_D jA [oB (ma 0) 10 [.ref (ma 1), .int (nI (N 0)), .int (nI (N 3)), .int (nI (N 1)), .int (nI (M2 0)), .ref (ma 2), .ref (ma 3), .ref (ma 4), .ref (ma 5), .ref (ma 6), .ref (ma 7), .ref (ma 8), .ref (ma 9), .ref (ma 10), .ref (ma 11), .ref (ma 12), .ref (ma 13), .int (nI (M2 1)), .int (nI (M2 2)), .int (nI (M2 3)), .int C2, .ref (ma 14), .ref (ma 15), .int (nI (M2 4)), .int (nI (M2 5)), .int (nI (M2 6)), .int (nI (M2 7)), .int (nI (M2 8)), .ref (ma 16), .ref (ma 17), .int (nI (M2 9)), .ref (ma 18), .int (nI (M2 10))], aI cI (ma 1) 7 rf, aI cI (ma 2) 96 T, aI cI (ma 3) 96 (E2 0), aI cI (ma 4) 100 X, aI cI (ma 5) 24 (F 27), aI cI (ma 6) 48 (F 17), aI cI (ma 7) 72 (F 18), aI cI (ma 8) 12 (F 19), aI cZ (ma 9) 12 B, aI cI (ma 10) 300 (E2 1), aI cI (ma 11) 6 (E2 2), aI cI (ma 12) 6 (E2 3), aI cI (ma 13) 8 (E2 4), aI cI (ma 14) 12 (E2 5), aI cZ (ma 15) 12 (E2 6), aI cI (ma 16) 2400 (E2 7), aJ cJ (ma 17) 2400 L2, aI cZ (ma 18) 300 (E2 8)] := hD
  have hFS := FS_of hn24 hnt12 hwf.1 hwf.2.2.1 hwf.2.2.2.1
  have hsm : M2 9 = (SETS N F).length := hFS.2.1
  have hsl := hFS.2.2.2
  refine lv_iload_n hx hb dX10_suspect_4 rfl (lv_at hl 1 rfl) ?_
  refine lv_aload_n hx hb dX10_suspect_5 rfl (lv_at hl 0 rfl) ?_
  refine va_get (C := RX10) (T := TX10) (N := 33) (ci := 10) hx hb hts iX10_suspect_10 hown hK.1 hP 0 rfl rfl 30 (Nat.le_of_ble_eq_true rfl) (hts _ mX10_suspect_176) (fun _ h9 => h9) rfl dX10_suspect_6 ?_
  refine Ki.callS (wr := [oB (ma 0) 10 [.ref (ma 1), .int (nI (N 0)), .int (nI (N 3)), .int (nI (N 1)), .int (nI (M2 0)), .ref (ma 2), .ref (ma 3), .ref (ma 4), .ref (ma 5), .ref (ma 6), .ref (ma 7), .ref (ma 8), .ref (ma 9), .ref (ma 10), .ref (ma 11), .ref (ma 12), .ref (ma 13), .int (nI (M2 1)), .int (nI (M2 2)), .int (nI (M2 3)), .int C2, .ref (ma 14), .ref (ma 15), .int (nI (M2 4)), .int (nI (M2 5)), .int (nI (M2 6)), .int (nI (M2 7)), .int (nI (M2 8)), .ref (ma 16), .ref (ma 17), .int (nI (M2 9)), .ref (ma 18), .int (nI (M2 10))], aI cI (ma 1) 7 rf, aI cI (ma 2) 96 T, aI cI (ma 3) 96 (E2 0), aI cI (ma 4) 100 X, aI cI (ma 5) 24 (F 27), aI cI (ma 6) 48 (F 17), aI cI (ma 7) 72 (F 18), aI cI (ma 8) 12 (F 19), aI cZ (ma 9) 12 B, aI cI (ma 10) 300 (E2 1), aI cI (ma 11) 6 (E2 2), aI cI (ma 12) 6 (E2 3), aI cI (ma 13) 8 (E2 4), aI cI (ma 14) 12 (E2 5), aI cZ (ma 15) 12 (E2 6), aI cI (ma 16) 2400 (E2 7), aJ cJ (ma 17) 2400 L2, aI cZ (ma 18) 300 (E2 8)]) (rest := []) (CX10_isIn jl G cI cZ cJ p (M2 9) (by omega)) cx hP hD hS hl [] [0, 1, 2, 3, 4, 5, 6, 7, 8, 9, 10, 11, 12, 13, 14, 15, 16, 17, 18] gX10_suspect_X10_isIn hdX10_isIn rfl ⟨Nat.le_of_ble_eq_true rfl, Nat.le_of_ble_eq_true rfl⟩ rfl rfl (by decide) (by decide) (by decide) dX10_suspect_9 rfl rfl (Nat.le_of_ble_eq_true rfl) ⟨Nat.le_of_ble_eq_true rfl, Nat.le_of_ble_eq_true rfl⟩ (fun r_2 u H locs hw_3 hP hD hS => ?_)
  have hP : va_P G vwCl [oB (ma 0) 10 [.ref (ma 1), .int (nI (N 0)), .int (nI (N 3)), .int (nI (N 1)), .int (nI (M2 0)), .ref (ma 2), .ref (ma 3), .ref (ma 4), .ref (ma 5), .ref (ma 6), .ref (ma 7), .ref (ma 8), .ref (ma 9), .ref (ma 10), .ref (ma 11), .ref (ma 12), .ref (ma 13), .int (nI (M2 1)), .int (nI (M2 2)), .int (nI (M2 3)), .int C2, .ref (ma 14), .ref (ma 15), .int (nI (M2 4)), .int (nI (M2 5)), .int (nI (M2 6)), .int (nI (M2 7)), .int (nI (M2 8)), .ref (ma 16), .ref (ma 17), .int (nI (M2 9)), .ref (ma 18), .int (nI (M2 10))], aI cI (ma 1) 7 rf, aI cI (ma 2) 96 T, aI cI (ma 3) 96 (E2 0), aI cI (ma 4) 100 X, aI cI (ma 5) 24 (F 27), aI cI (ma 6) 48 (F 17), aI cI (ma 7) 72 (F 18), aI cI (ma 8) 12 (F 19), aI cZ (ma 9) 12 B, aI cI (ma 10) 300 (E2 1), aI cI (ma 11) 6 (E2 2), aI cI (ma 12) 6 (E2 3), aI cI (ma 13) 8 (E2 4), aI cI (ma 14) 12 (E2 5), aI cZ (ma 15) 12 (E2 6), aI cI (ma 16) 2400 (E2 7), aJ cJ (ma 17) 2400 L2, aI cZ (ma 18) 300 (E2 8)] H := hP
  have hD : va_D jA [oB (ma 0) 10 [.ref (ma 1), .int (nI (N 0)), .int (nI (N 3)), .int (nI (N 1)), .int (nI (M2 0)), .ref (ma 2), .ref (ma 3), .ref (ma 4), .ref (ma 5), .ref (ma 6), .ref (ma 7), .ref (ma 8), .ref (ma 9), .ref (ma 10), .ref (ma 11), .ref (ma 12), .ref (ma 13), .int (nI (M2 1)), .int (nI (M2 2)), .int (nI (M2 3)), .int C2, .ref (ma 14), .ref (ma 15), .int (nI (M2 4)), .int (nI (M2 5)), .int (nI (M2 6)), .int (nI (M2 7)), .int (nI (M2 8)), .ref (ma 16), .ref (ma 17), .int (nI (M2 9)), .ref (ma 18), .int (nI (M2 10))], aI cI (ma 1) 7 rf, aI cI (ma 2) 96 T, aI cI (ma 3) 96 (E2 0), aI cI (ma 4) 100 X, aI cI (ma 5) 24 (F 27), aI cI (ma 6) 48 (F 17), aI cI (ma 7) 72 (F 18), aI cI (ma 8) 12 (F 19), aI cZ (ma 9) 12 B, aI cI (ma 10) 300 (E2 1), aI cI (ma 11) 6 (E2 2), aI cI (ma 12) 6 (E2 3), aI cI (ma 13) 8 (E2 4), aI cI (ma 14) 12 (E2 5), aI cZ (ma 15) 12 (E2 6), aI cI (ma 16) 2400 (E2 7), aJ cJ (ma 17) 2400 L2, aI cZ (ma 18) 300 (E2 8)] := hD
  rcases hw_3 with ⟨j, hj, rfl, rfl⟩ | ⟨hno, rfl⟩
  · skip
    refine k_if_eq_f (tgt := 24) hx hb dX10_suspect_12 (by decide) (by decide) ?_
    refine lv_aload_n hx hb dX10_suspect_15 rfl (lv_at hl 0 rfl) ?_
    refine va_get (C := RX10) (T := TX10) (N := 33) (ci := 10) hx hb hts iX10_suspect_10 hown hK.1 hP 0 rfl rfl 28 (Nat.le_of_ble_eq_true rfl) (hts _ mX10_suspect_56) (fun _ h9 => h9) rfl dX10_suspect_16 ?_
    refine lv_iload_n hx hb dX10_suspect_19 rfl (lv_at hl 1 rfl) ?_
    refine k_iald hx hb hK.1 hP 16 0 rfl rfl (by omega) (by decide) dX10_suspect_20 ?_
    refine lv_goto (tgt := 26) hx hb dX10_suspect_21 (by decide) ?_
    exact hret _ _ _ _ _ (rf, M2, C2, E2, L2) dX10_suspect_26 (⟨by unfold ansSuspect; rw [if_pos (inR_lt (by omega) (by omega)), tn_nI (by omega)]; exact (hFS.2.2.1 j (by omega)).1, rfl⟩) hP hD hS
  · skip
    refine k_if_eq_t (tgt := 24) hx hb dX10_suspect_12 (by decide) (by decide) ?_
    refine lv_bipush (v := (-9)) hx hb dX10_suspect_24 (by decide) ?_
    exact hret _ _ _ _ _ (rf, M2, C2, E2, L2) dX10_suspect_26 (⟨by unfold ansSuspect; rw [if_neg (by rw [← hsm, inR_f (by omega) hno]; decide)], rfl⟩) hP hD hS

theorem iX10_odds_10 : ∀ w ∈ wsX100, w ∈ wsX10_odds := by decide +kernel
theorem mX10_odds_59 : Cond.fieldLink RX10 59 "LineFinderModel" "chances" "[J" ∈ wsX10_odds := List.mem_of_getElem? (i := 2) rfl
theorem mX10_odds_176 : Cond.fieldLink RX10 176 "LineFinderModel" "setMany" "I" ∈ wsX10_odds := List.mem_of_getElem? (i := 1) rfl
abbrev rCX10_odds : Room := { frames := 5, cells := 0, slots := 0, locals := 119 }
set_option maxHeartbeats 4000000 in
set_option maxRecDepth 100000 in
theorem CX10_odds (jl : Launch) (G : va_G) (cI cZ cJ : ClassId) (ma : Nat → Nat) (N : Nat → Nat) (F : Nat → Fn) (rf T X B : Fn) (M : Nat → Nat) (C : Int32) (E : Nat → Fn) (L : Nat → Int64) (hLA : LA N F) (hMR : MR N F T X B) (p : Int32) : Kl jl yX10_odds wsX10_odds rCX10_odds G cI cZ cJ [.ref (ma 0), .int p] [oB (ma 0) 10 [.ref (ma 1), .int (nI (N 0)), .int (nI (N 3)), .int (nI (N 1)), .int (nI (M 0)), .ref (ma 2), .ref (ma 3), .ref (ma 4), .ref (ma 5), .ref (ma 6), .ref (ma 7), .ref (ma 8), .ref (ma 9), .ref (ma 10), .ref (ma 11), .ref (ma 12), .ref (ma 13), .int (nI (M 1)), .int (nI (M 2)), .int (nI (M 3)), .int C, .ref (ma 14), .ref (ma 15), .int (nI (M 4)), .int (nI (M 5)), .int (nI (M 6)), .int (nI (M 7)), .int (nI (M 8)), .ref (ma 16), .ref (ma 17), .int (nI (M 9)), .ref (ma 18), .int (nI (M 10))], aI cI (ma 1) 7 rf, aI cI (ma 2) 96 T, aI cI (ma 3) 96 (E 0), aI cI (ma 4) 100 X, aI cI (ma 5) 24 (F 27), aI cI (ma 6) 48 (F 17), aI cI (ma 7) 72 (F 18), aI cI (ma 8) 12 (F 19), aI cZ (ma 9) 12 B, aI cI (ma 10) 300 (E 1), aI cI (ma 11) 6 (E 2), aI cI (ma 12) 6 (E 3), aI cI (ma 13) 8 (E 4), aI cI (ma 14) 12 (E 5), aI cZ (ma 15) 12 (E 6), aI cI (ma 16) 2400 (E 7), aJ cJ (ma 17) 2400 L, aI cZ (ma 18) 300 (E 8)] (S := Fn × (Nat → Nat) × Int32 × (Nat → Fn) × (Nat → Int64)) (fun (r : Int64) (u : Fn × (Nat → Nat) × Int32 × (Nat → Fn) × (Nat → Int64)) => match u with | (rf1, M1, C1, E1, L1) => r = ansOdds N F p ∧ rf1 = rf) (fun (u : Fn × (Nat → Nat) × Int32 × (Nat → Fn) × (Nat → Int64)) => match u with | (rf1, M1, C1, E1, L1) => [oB (ma 0) 10 [.ref (ma 1), .int (nI (N 0)), .int (nI (N 3)), .int (nI (N 1)), .int (nI (M1 0)), .ref (ma 2), .ref (ma 3), .ref (ma 4), .ref (ma 5), .ref (ma 6), .ref (ma 7), .ref (ma 8), .ref (ma 9), .ref (ma 10), .ref (ma 11), .ref (ma 12), .ref (ma 13), .int (nI (M1 1)), .int (nI (M1 2)), .int (nI (M1 3)), .int C1, .ref (ma 14), .ref (ma 15), .int (nI (M1 4)), .int (nI (M1 5)), .int (nI (M1 6)), .int (nI (M1 7)), .int (nI (M1 8)), .ref (ma 16), .ref (ma 17), .int (nI (M1 9)), .ref (ma 18), .int (nI (M1 10))], aI cI (ma 1) 7 rf1, aI cI (ma 2) 96 T, aI cI (ma 3) 96 (E1 0), aI cI (ma 4) 100 X, aI cI (ma 5) 24 (F 27), aI cI (ma 6) 48 (F 17), aI cI (ma 7) 72 (F 18), aI cI (ma 8) 12 (F 19), aI cZ (ma 9) 12 B, aI cI (ma 10) 300 (E1 1), aI cI (ma 11) 6 (E1 2), aI cI (ma 12) 6 (E1 3), aI cI (ma 13) 8 (E1 4), aI cI (ma 14) 12 (E1 5), aI cZ (ma 15) 12 (E1 6), aI cI (ma 16) 2400 (E1 7), aJ cJ (ma 17) 2400 L1, aI cZ (ma 18) 300 (E1 8)]) := by
  refine Kl.of (cc := cX10_odds) (maxL := 2) (by decide +kernel) rfl (Nat.le_of_ble_eq_true rfl) ?_
  intro jp je js jm ja jb jt jc jA jQ ls cx hnm hP hD hS hl hret
  obtain ⟨hx, hb, hml, hown, hts, hK, hA⟩ := id cx
  have hl : lv_has ls 2 [(0, .ref (ma 0)), (1, .int p)] := hl
  obtain ⟨H, hH⟩ : ∃ H, H = js.heap := ⟨_, rfl⟩
  obtain ⟨locs, hlocs⟩ : ∃ z : List Loc, z = [] := ⟨_, rfl⟩
  have hP : va_P G vwCl [oB (ma 0) 10 [.ref (ma 1), .int (nI (N 0)), .int (nI (N 3)), .int (nI (N 1)), .int (nI (M 0)), .ref (ma 2), .ref (ma 3), .ref (ma 4), .ref (ma 5), .ref (ma 6), .ref (ma 7), .ref (ma 8), .ref (ma 9), .ref (ma 10), .ref (ma 11), .ref (ma 12), .ref (ma 13), .int (nI (M 1)), .int (nI (M 2)), .int (nI (M 3)), .int C, .ref (ma 14), .ref (ma 15), .int (nI (M 4)), .int (nI (M 5)), .int (nI (M 6)), .int (nI (M 7)), .int (nI (M 8)), .ref (ma 16), .ref (ma 17), .int (nI (M 9)), .ref (ma 18), .int (nI (M 10))], aI cI (ma 1) 7 rf, aI cI (ma 2) 96 T, aI cI (ma 3) 96 (E 0), aI cI (ma 4) 100 X, aI cI (ma 5) 24 (F 27), aI cI (ma 6) 48 (F 17), aI cI (ma 7) 72 (F 18), aI cI (ma 8) 12 (F 19), aI cZ (ma 9) 12 B, aI cI (ma 10) 300 (E 1), aI cI (ma 11) 6 (E 2), aI cI (ma 12) 6 (E 3), aI cI (ma 13) 8 (E 4), aI cI (ma 14) 12 (E 5), aI cZ (ma 15) 12 (E 6), aI cI (ma 16) 2400 (E 7), aJ cJ (ma 17) 2400 L, aI cZ (ma 18) 300 (E 8)] H := by rw [hH]; exact hP
  have hS : va_S jA js.heap H locs := by rw [hH, hlocs]; exact hS
  rw [← hlocs]; rw [show W jp jl je rCX10_odds js jm ja jb jt jc js.heap locs 0 0 jQ (F0 jm 0 ls []) = W jp jl je rCX10_odds js jm ja jb jt jc H locs 0 0 jQ (F0 jm 0 ls []) by rw [hH]]
  clear hH hlocs
  obtain ⟨hn24, hc20, hnt12, hob2, hokT, hokN, hokC, hver, hlen7, hpri⟩ := id hLA
  refine lv_aload_n hx hb dX10_odds_0 rfl (lv_at hl 0 rfl) ?_
  refine Kv.callV (wr := []) (rest := []) (CX10_findSets jl G cI cZ cJ ma N F rf T X B M C E L hLA hMR) cx hP hD hS hl [0, 1, 2, 3, 4, 5, 6, 7, 8, 9, 10, 11, 12, 13, 14, 15, 16, 17, 18] [] (ci := 10) (q0 := 0) gX10_odds_X10_findSets hdX10_findSets rfl rfl rfl ⟨Nat.le_of_ble_eq_true rfl, Nat.le_of_ble_eq_true rfl⟩ rfl rfl (by decide) (by decide) (by decide) dX10_odds_1 rfl rfl (Nat.le_of_ble_eq_true rfl) ⟨Nat.le_of_ble_eq_true rfl, Nat.le_of_ble_eq_true rfl⟩ (fun u H locs hwf hP hD hS => ?_)
  obtain ⟨M2, C2, E2, L2⟩ := u
  try dsimp only at hwf
  have hP : va_P G vwCl [oB (ma 0) 10 [.ref (ma 1), .int (nI (N 0)), .int (nI (N 3)), .int (nI (N 1)), .int (nI (M2 0)), .ref (ma 2), .ref (ma 3), .ref (ma 4), .ref (ma 5), .ref (ma 6), .ref (ma 7), .ref (ma 8), .ref (ma 9), .ref (ma 10), .ref (ma 11), .ref (ma 12), .ref (ma 13), .int (nI (M2 1)), .int (nI (M2 2)), .int (nI (M2 3)), .int C2, .ref (ma 14), .ref (ma 15), .int (nI (M2 4)), .int (nI (M2 5)), .int (nI (M2 6)), .int (nI (M2 7)), .int (nI (M2 8)), .ref (ma 16), .ref (ma 17), .int (nI (M2 9)), .ref (ma 18), .int (nI (M2 10))], aI cI (ma 1) 7 rf, aI cI (ma 2) 96 T, aI cI (ma 3) 96 (E2 0), aI cI (ma 4) 100 X, aI cI (ma 5) 24 (F 27), aI cI (ma 6) 48 (F 17), aI cI (ma 7) 72 (F 18), aI cI (ma 8) 12 (F 19), aI cZ (ma 9) 12 B, aI cI (ma 10) 300 (E2 1), aI cI (ma 11) 6 (E2 2), aI cI (ma 12) 6 (E2 3), aI cI (ma 13) 8 (E2 4), aI cI (ma 14) 12 (E2 5), aI cZ (ma 15) 12 (E2 6), aI cI (ma 16) 2400 (E2 7), aJ cJ (ma 17) 2400 L2, aI cZ (ma 18) 300 (E2 8)] H := hP
  have hD : va_D jA [oB (ma 0) 10 [.ref (ma 1), .int (nI (N 0)), .int (nI (N 3)), .int (nI (N 1)), .int (nI (M2 0)), .ref (ma 2), .ref (ma 3), .ref (ma 4), .ref (ma 5), .ref (ma 6), .ref (ma 7), .ref (ma 8), .ref (ma 9), .ref (ma 10), .ref (ma 11), .ref (ma 12), .ref (ma 13), .int (nI (M2 1)), .int (nI (M2 2)), .int (nI (M2 3)), .int C2, .ref (ma 14), .ref (ma 15), .int (nI (M2 4)), .int (nI (M2 5)), .int (nI (M2 6)), .int (nI (M2 7)), .int (nI (M2 8)), .ref (ma 16), .ref (ma 17), .int (nI (M2 9)), .ref (ma 18), .int (nI (M2 10))], aI cI (ma 1) 7 rf, aI cI (ma 2) 96 T, aI cI (ma 3) 96 (E2 0), aI cI (ma 4) 100 X, aI cI (ma 5) 24 (F 27), aI cI (ma 6) 48 (F 17), aI cI (ma 7) 72 (F 18), aI cI (ma 8) 12 (F 19), aI cZ (ma 9) 12 B, aI cI (ma 10) 300 (E2 1), aI cI (ma 11) 6 (E2 2), aI cI (ma 12) 6 (E2 3), aI cI (ma 13) 8 (E2 4), aI cI (ma 14) 12 (E2 5), aI cZ (ma 15) 12 (E2 6), aI cI (ma 16) 2400 (E2 7), aJ cJ (ma 17) 2400 L2, aI cZ (ma 18) 300 (E2 8)] := hD
  have hFS := FS_of hn24 hnt12 hwf.1 hwf.2.2.1 hwf.2.2.2.1
  have hsm : M2 9 = (SETS N F).length := hFS.2.1
  have hsl := hFS.2.2.2
  refine lv_iload_n hx hb dX10_odds_4 rfl (lv_at hl 1 rfl) ?_
  refine lv_aload_n hx hb dX10_odds_5 rfl (lv_at hl 0 rfl) ?_
  refine va_get (C := RX10) (T := TX10) (N := 33) (ci := 10) hx hb hts iX10_odds_10 hown hK.1 hP 0 rfl rfl 30 (Nat.le_of_ble_eq_true rfl) (hts _ mX10_odds_176) (fun _ h9 => h9) rfl dX10_odds_6 ?_
  refine Ki.callS (wr := [oB (ma 0) 10 [.ref (ma 1), .int (nI (N 0)), .int (nI (N 3)), .int (nI (N 1)), .int (nI (M2 0)), .ref (ma 2), .ref (ma 3), .ref (ma 4), .ref (ma 5), .ref (ma 6), .ref (ma 7), .ref (ma 8), .ref (ma 9), .ref (ma 10), .ref (ma 11), .ref (ma 12), .ref (ma 13), .int (nI (M2 1)), .int (nI (M2 2)), .int (nI (M2 3)), .int C2, .ref (ma 14), .ref (ma 15), .int (nI (M2 4)), .int (nI (M2 5)), .int (nI (M2 6)), .int (nI (M2 7)), .int (nI (M2 8)), .ref (ma 16), .ref (ma 17), .int (nI (M2 9)), .ref (ma 18), .int (nI (M2 10))], aI cI (ma 1) 7 rf, aI cI (ma 2) 96 T, aI cI (ma 3) 96 (E2 0), aI cI (ma 4) 100 X, aI cI (ma 5) 24 (F 27), aI cI (ma 6) 48 (F 17), aI cI (ma 7) 72 (F 18), aI cI (ma 8) 12 (F 19), aI cZ (ma 9) 12 B, aI cI (ma 10) 300 (E2 1), aI cI (ma 11) 6 (E2 2), aI cI (ma 12) 6 (E2 3), aI cI (ma 13) 8 (E2 4), aI cI (ma 14) 12 (E2 5), aI cZ (ma 15) 12 (E2 6), aI cI (ma 16) 2400 (E2 7), aJ cJ (ma 17) 2400 L2, aI cZ (ma 18) 300 (E2 8)]) (rest := []) (CX10_isIn jl G cI cZ cJ p (M2 9) (by omega)) cx hP hD hS hl [] [0, 1, 2, 3, 4, 5, 6, 7, 8, 9, 10, 11, 12, 13, 14, 15, 16, 17, 18] gX10_odds_X10_isIn hdX10_isIn rfl ⟨Nat.le_of_ble_eq_true rfl, Nat.le_of_ble_eq_true rfl⟩ rfl rfl (by decide) (by decide) (by decide) dX10_odds_9 rfl rfl (Nat.le_of_ble_eq_true rfl) ⟨Nat.le_of_ble_eq_true rfl, Nat.le_of_ble_eq_true rfl⟩ (fun r_2 u H locs hw_3 hP hD hS => ?_)
  have hP : va_P G vwCl [oB (ma 0) 10 [.ref (ma 1), .int (nI (N 0)), .int (nI (N 3)), .int (nI (N 1)), .int (nI (M2 0)), .ref (ma 2), .ref (ma 3), .ref (ma 4), .ref (ma 5), .ref (ma 6), .ref (ma 7), .ref (ma 8), .ref (ma 9), .ref (ma 10), .ref (ma 11), .ref (ma 12), .ref (ma 13), .int (nI (M2 1)), .int (nI (M2 2)), .int (nI (M2 3)), .int C2, .ref (ma 14), .ref (ma 15), .int (nI (M2 4)), .int (nI (M2 5)), .int (nI (M2 6)), .int (nI (M2 7)), .int (nI (M2 8)), .ref (ma 16), .ref (ma 17), .int (nI (M2 9)), .ref (ma 18), .int (nI (M2 10))], aI cI (ma 1) 7 rf, aI cI (ma 2) 96 T, aI cI (ma 3) 96 (E2 0), aI cI (ma 4) 100 X, aI cI (ma 5) 24 (F 27), aI cI (ma 6) 48 (F 17), aI cI (ma 7) 72 (F 18), aI cI (ma 8) 12 (F 19), aI cZ (ma 9) 12 B, aI cI (ma 10) 300 (E2 1), aI cI (ma 11) 6 (E2 2), aI cI (ma 12) 6 (E2 3), aI cI (ma 13) 8 (E2 4), aI cI (ma 14) 12 (E2 5), aI cZ (ma 15) 12 (E2 6), aI cI (ma 16) 2400 (E2 7), aJ cJ (ma 17) 2400 L2, aI cZ (ma 18) 300 (E2 8)] H := hP
  have hD : va_D jA [oB (ma 0) 10 [.ref (ma 1), .int (nI (N 0)), .int (nI (N 3)), .int (nI (N 1)), .int (nI (M2 0)), .ref (ma 2), .ref (ma 3), .ref (ma 4), .ref (ma 5), .ref (ma 6), .ref (ma 7), .ref (ma 8), .ref (ma 9), .ref (ma 10), .ref (ma 11), .ref (ma 12), .ref (ma 13), .int (nI (M2 1)), .int (nI (M2 2)), .int (nI (M2 3)), .int C2, .ref (ma 14), .ref (ma 15), .int (nI (M2 4)), .int (nI (M2 5)), .int (nI (M2 6)), .int (nI (M2 7)), .int (nI (M2 8)), .ref (ma 16), .ref (ma 17), .int (nI (M2 9)), .ref (ma 18), .int (nI (M2 10))], aI cI (ma 1) 7 rf, aI cI (ma 2) 96 T, aI cI (ma 3) 96 (E2 0), aI cI (ma 4) 100 X, aI cI (ma 5) 24 (F 27), aI cI (ma 6) 48 (F 17), aI cI (ma 7) 72 (F 18), aI cI (ma 8) 12 (F 19), aI cZ (ma 9) 12 B, aI cI (ma 10) 300 (E2 1), aI cI (ma 11) 6 (E2 2), aI cI (ma 12) 6 (E2 3), aI cI (ma 13) 8 (E2 4), aI cI (ma 14) 12 (E2 5), aI cZ (ma 15) 12 (E2 6), aI cI (ma 16) 2400 (E2 7), aJ cJ (ma 17) 2400 L2, aI cZ (ma 18) 300 (E2 8)] := hD
  rcases hw_3 with ⟨j, hj, rfl, rfl⟩ | ⟨hno, rfl⟩
  · skip
    refine k_if_eq_f (tgt := 24) hx hb dX10_odds_12 (by decide) (by decide) ?_
    refine lv_aload_n hx hb dX10_odds_15 rfl (lv_at hl 0 rfl) ?_
    refine va_get (C := RX10) (T := TX10) (N := 33) (ci := 10) hx hb hts iX10_odds_10 hown hK.1 hP 0 rfl rfl 29 (Nat.le_of_ble_eq_true rfl) (hts _ mX10_odds_59) (fun _ h9 => h9) rfl dX10_odds_16 ?_
    refine lv_iload_n hx hb dX10_odds_19 rfl (lv_at hl 1 rfl) ?_
    refine k_lald hx hb hK.1 hP 17 2 rfl rfl (by omega) (by decide) dX10_odds_20 ?_
    refine lv_goto (tgt := 25) hx hb dX10_odds_21 (by decide) ?_
    exact hret _ _ _ _ _ (rf, M2, C2, E2, L2) dX10_odds_25 (⟨by unfold ansOdds; rw [if_pos (inR_lt (by omega) (by omega)), tn_nI (by omega)]; exact (hFS.2.2.1 j (by omega)).2, rfl⟩) hP hD hS
  · skip
    refine k_if_eq_t (tgt := 24) hx hb dX10_odds_12 (by decide) (by decide) ?_
    refine lv_lconst (v := 0) hx hb dX10_odds_24 (by decide) ?_
    exact hret _ _ _ _ _ (rf, M2, C2, E2, L2) dX10_odds_25 (⟨by unfold ansOdds; rw [if_neg (by rw [← hsm, inR_f (by omega) hno]; decide)], rfl⟩) hP hD hS

theorem lcmp_gt {a b : Int64} : (0 : Int32) < lg_cmp a b ↔ b < a := by
  unfold lg_cmp
  by_cases h1 : b < a
  · simp [h1]
  · by_cases h2 : a = b
    · simp [h1, h2]
    · simp [h1, h2]
theorem iX10_best_10 : ∀ w ∈ wsX100, w ∈ wsX10_best := by decide +kernel
theorem mX10_best_56 : Cond.fieldLink RX10 56 "LineFinderModel" "sets" "[I" ∈ wsX10_best := List.mem_of_getElem? (i := 3) rfl
theorem mX10_best_59 : Cond.fieldLink RX10 59 "LineFinderModel" "chances" "[J" ∈ wsX10_best := List.mem_of_getElem? (i := 2) rfl
theorem mX10_best_176 : Cond.fieldLink RX10 176 "LineFinderModel" "setMany" "I" ∈ wsX10_best := List.mem_of_getElem? (i := 1) rfl
abbrev rCX10_best : Room := { frames := 5, cells := 0, slots := 0, locals := 119 }
set_option maxHeartbeats 4000000 in
set_option maxRecDepth 100000 in
theorem CX10_best (jl : Launch) (G : va_G) (cI cZ cJ : ClassId) (ma : Nat → Nat) (N : Nat → Nat) (F : Nat → Fn) (rf T X B : Fn) (M : Nat → Nat) (C : Int32) (E : Nat → Fn) (L : Nat → Int64) (hLA : LA N F) (hMR : MR N F T X B)  : Ki jl yX10_best wsX10_best rCX10_best G cI cZ cJ [.ref (ma 0)] [oB (ma 0) 10 [.ref (ma 1), .int (nI (N 0)), .int (nI (N 3)), .int (nI (N 1)), .int (nI (M 0)), .ref (ma 2), .ref (ma 3), .ref (ma 4), .ref (ma 5), .ref (ma 6), .ref (ma 7), .ref (ma 8), .ref (ma 9), .ref (ma 10), .ref (ma 11), .ref (ma 12), .ref (ma 13), .int (nI (M 1)), .int (nI (M 2)), .int (nI (M 3)), .int C, .ref (ma 14), .ref (ma 15), .int (nI (M 4)), .int (nI (M 5)), .int (nI (M 6)), .int (nI (M 7)), .int (nI (M 8)), .ref (ma 16), .ref (ma 17), .int (nI (M 9)), .ref (ma 18), .int (nI (M 10))], aI cI (ma 1) 7 rf, aI cI (ma 2) 96 T, aI cI (ma 3) 96 (E 0), aI cI (ma 4) 100 X, aI cI (ma 5) 24 (F 27), aI cI (ma 6) 48 (F 17), aI cI (ma 7) 72 (F 18), aI cI (ma 8) 12 (F 19), aI cZ (ma 9) 12 B, aI cI (ma 10) 300 (E 1), aI cI (ma 11) 6 (E 2), aI cI (ma 12) 6 (E 3), aI cI (ma 13) 8 (E 4), aI cI (ma 14) 12 (E 5), aI cZ (ma 15) 12 (E 6), aI cI (ma 16) 2400 (E 7), aJ cJ (ma 17) 2400 L, aI cZ (ma 18) 300 (E 8)] (S := Fn × (Nat → Nat) × Int32 × (Nat → Fn) × (Nat → Int64)) (fun (r : Int32) (u : Fn × (Nat → Nat) × Int32 × (Nat → Fn) × (Nat → Int64)) => match u with | (rf1, M1, C1, E1, L1) => r = ansBest N F ∧ rf1 = rf) (fun (u : Fn × (Nat → Nat) × Int32 × (Nat → Fn) × (Nat → Int64)) => match u with | (rf1, M1, C1, E1, L1) => [oB (ma 0) 10 [.ref (ma 1), .int (nI (N 0)), .int (nI (N 3)), .int (nI (N 1)), .int (nI (M1 0)), .ref (ma 2), .ref (ma 3), .ref (ma 4), .ref (ma 5), .ref (ma 6), .ref (ma 7), .ref (ma 8), .ref (ma 9), .ref (ma 10), .ref (ma 11), .ref (ma 12), .ref (ma 13), .int (nI (M1 1)), .int (nI (M1 2)), .int (nI (M1 3)), .int C1, .ref (ma 14), .ref (ma 15), .int (nI (M1 4)), .int (nI (M1 5)), .int (nI (M1 6)), .int (nI (M1 7)), .int (nI (M1 8)), .ref (ma 16), .ref (ma 17), .int (nI (M1 9)), .ref (ma 18), .int (nI (M1 10))], aI cI (ma 1) 7 rf1, aI cI (ma 2) 96 T, aI cI (ma 3) 96 (E1 0), aI cI (ma 4) 100 X, aI cI (ma 5) 24 (F 27), aI cI (ma 6) 48 (F 17), aI cI (ma 7) 72 (F 18), aI cI (ma 8) 12 (F 19), aI cZ (ma 9) 12 B, aI cI (ma 10) 300 (E1 1), aI cI (ma 11) 6 (E1 2), aI cI (ma 12) 6 (E1 3), aI cI (ma 13) 8 (E1 4), aI cI (ma 14) 12 (E1 5), aI cZ (ma 15) 12 (E1 6), aI cI (ma 16) 2400 (E1 7), aJ cJ (ma 17) 2400 L1, aI cZ (ma 18) 300 (E1 8)]) := by
  refine Ki.of (cc := cX10_best) (maxL := 3) (by decide +kernel) rfl (Nat.le_of_ble_eq_true rfl) ?_
  intro jp je js jm ja jb jt jc jA jQ ls cx hnm hP hD hS hl hret
  obtain ⟨hx, hb, hml, hown, hts, hK, hA⟩ := id cx
  have hl : lv_has ls 3 [(0, .ref (ma 0))] := hl
  obtain ⟨H, hH⟩ : ∃ H, H = js.heap := ⟨_, rfl⟩
  obtain ⟨locs, hlocs⟩ : ∃ z : List Loc, z = [] := ⟨_, rfl⟩
  have hP : va_P G vwCl [oB (ma 0) 10 [.ref (ma 1), .int (nI (N 0)), .int (nI (N 3)), .int (nI (N 1)), .int (nI (M 0)), .ref (ma 2), .ref (ma 3), .ref (ma 4), .ref (ma 5), .ref (ma 6), .ref (ma 7), .ref (ma 8), .ref (ma 9), .ref (ma 10), .ref (ma 11), .ref (ma 12), .ref (ma 13), .int (nI (M 1)), .int (nI (M 2)), .int (nI (M 3)), .int C, .ref (ma 14), .ref (ma 15), .int (nI (M 4)), .int (nI (M 5)), .int (nI (M 6)), .int (nI (M 7)), .int (nI (M 8)), .ref (ma 16), .ref (ma 17), .int (nI (M 9)), .ref (ma 18), .int (nI (M 10))], aI cI (ma 1) 7 rf, aI cI (ma 2) 96 T, aI cI (ma 3) 96 (E 0), aI cI (ma 4) 100 X, aI cI (ma 5) 24 (F 27), aI cI (ma 6) 48 (F 17), aI cI (ma 7) 72 (F 18), aI cI (ma 8) 12 (F 19), aI cZ (ma 9) 12 B, aI cI (ma 10) 300 (E 1), aI cI (ma 11) 6 (E 2), aI cI (ma 12) 6 (E 3), aI cI (ma 13) 8 (E 4), aI cI (ma 14) 12 (E 5), aI cZ (ma 15) 12 (E 6), aI cI (ma 16) 2400 (E 7), aJ cJ (ma 17) 2400 L, aI cZ (ma 18) 300 (E 8)] H := by rw [hH]; exact hP
  have hS : va_S jA js.heap H locs := by rw [hH, hlocs]; exact hS
  rw [← hlocs]; rw [show W jp jl je rCX10_best js jm ja jb jt jc js.heap locs 0 0 jQ (F0 jm 0 ls []) = W jp jl je rCX10_best js jm ja jb jt jc H locs 0 0 jQ (F0 jm 0 ls []) by rw [hH]]
  clear hH hlocs
  obtain ⟨hn24, hc20, hnt12, hob2, hokT, hokN, hokC, hver, hlen7, hpri⟩ := id hLA
  refine lv_aload_n hx hb dX10_best_0 rfl (lv_at hl 0 rfl) ?_
  refine Kv.callV (wr := []) (rest := []) (CX10_findSets jl G cI cZ cJ ma N F rf T X B M C E L hLA hMR) cx hP hD hS hl [0, 1, 2, 3, 4, 5, 6, 7, 8, 9, 10, 11, 12, 13, 14, 15, 16, 17, 18] [] (ci := 10) (q0 := 0) gX10_best_X10_findSets hdX10_findSets rfl rfl rfl ⟨Nat.le_of_ble_eq_true rfl, Nat.le_of_ble_eq_true rfl⟩ rfl rfl (by decide) (by decide) (by decide) dX10_best_1 rfl rfl (Nat.le_of_ble_eq_true rfl) ⟨Nat.le_of_ble_eq_true rfl, Nat.le_of_ble_eq_true rfl⟩ (fun u H locs hwf hP hD hS => ?_)
  obtain ⟨M2, C2, E2, L2⟩ := u
  try dsimp only at hwf
  have hP : va_P G vwCl [oB (ma 0) 10 [.ref (ma 1), .int (nI (N 0)), .int (nI (N 3)), .int (nI (N 1)), .int (nI (M2 0)), .ref (ma 2), .ref (ma 3), .ref (ma 4), .ref (ma 5), .ref (ma 6), .ref (ma 7), .ref (ma 8), .ref (ma 9), .ref (ma 10), .ref (ma 11), .ref (ma 12), .ref (ma 13), .int (nI (M2 1)), .int (nI (M2 2)), .int (nI (M2 3)), .int C2, .ref (ma 14), .ref (ma 15), .int (nI (M2 4)), .int (nI (M2 5)), .int (nI (M2 6)), .int (nI (M2 7)), .int (nI (M2 8)), .ref (ma 16), .ref (ma 17), .int (nI (M2 9)), .ref (ma 18), .int (nI (M2 10))], aI cI (ma 1) 7 rf, aI cI (ma 2) 96 T, aI cI (ma 3) 96 (E2 0), aI cI (ma 4) 100 X, aI cI (ma 5) 24 (F 27), aI cI (ma 6) 48 (F 17), aI cI (ma 7) 72 (F 18), aI cI (ma 8) 12 (F 19), aI cZ (ma 9) 12 B, aI cI (ma 10) 300 (E2 1), aI cI (ma 11) 6 (E2 2), aI cI (ma 12) 6 (E2 3), aI cI (ma 13) 8 (E2 4), aI cI (ma 14) 12 (E2 5), aI cZ (ma 15) 12 (E2 6), aI cI (ma 16) 2400 (E2 7), aJ cJ (ma 17) 2400 L2, aI cZ (ma 18) 300 (E2 8)] H := hP
  have hD : va_D jA [oB (ma 0) 10 [.ref (ma 1), .int (nI (N 0)), .int (nI (N 3)), .int (nI (N 1)), .int (nI (M2 0)), .ref (ma 2), .ref (ma 3), .ref (ma 4), .ref (ma 5), .ref (ma 6), .ref (ma 7), .ref (ma 8), .ref (ma 9), .ref (ma 10), .ref (ma 11), .ref (ma 12), .ref (ma 13), .int (nI (M2 1)), .int (nI (M2 2)), .int (nI (M2 3)), .int C2, .ref (ma 14), .ref (ma 15), .int (nI (M2 4)), .int (nI (M2 5)), .int (nI (M2 6)), .int (nI (M2 7)), .int (nI (M2 8)), .ref (ma 16), .ref (ma 17), .int (nI (M2 9)), .ref (ma 18), .int (nI (M2 10))], aI cI (ma 1) 7 rf, aI cI (ma 2) 96 T, aI cI (ma 3) 96 (E2 0), aI cI (ma 4) 100 X, aI cI (ma 5) 24 (F 27), aI cI (ma 6) 48 (F 17), aI cI (ma 7) 72 (F 18), aI cI (ma 8) 12 (F 19), aI cZ (ma 9) 12 B, aI cI (ma 10) 300 (E2 1), aI cI (ma 11) 6 (E2 2), aI cI (ma 12) 6 (E2 3), aI cI (ma 13) 8 (E2 4), aI cI (ma 14) 12 (E2 5), aI cZ (ma 15) 12 (E2 6), aI cI (ma 16) 2400 (E2 7), aJ cJ (ma 17) 2400 L2, aI cZ (ma 18) 300 (E2 8)] := hD
  have hFS := FS_of hn24 hnt12 hwf.1 hwf.2.2.1 hwf.2.2.2.1
  have hsm : M2 9 = (SETS N F).length := hFS.2.1
  have hsl := hFS.2.2.2
  have hpos := fun i (hi : i < (SETS N F).length) => WI_pos hn24 hnt12 hpri hi
  refine lv_iconst (v := (-1)) hx hb dX10_best_4 (by decide) ?_
  refine lv_istore_n (lv' := [(1, .int (-1)), (0, .ref (ma 0))]) hx hb dX10_best_5 rfl hl (by decide) rfl (fun ls hl => ?_)
  refine lv_iconst (v := nI 0) hx hb dX10_best_6 (by decide) ?_
  refine lv_istore_n (lv' := [(2, .int (nI 0)), (1, .int (-1)), (0, .ref (ma 0))]) hx hb dX10_best_7 rfl hl (by decide) rfl (fun ls hl => ?_)
  have L8 : ∀ (fu : Nat), ∀ (i : Nat), ∀ (bx : Int32), (M2 9 < i + fu) → (i ≤ M2 9) → (bInv (WI N F) (fun i => ((SETS N F).getD i (0, 0)).1) i bx) → ∀ (H : Heap) (locs : List Loc) (ls : Array Slot), va_P G vwCl [oB (ma 0) 10 [.ref (ma 1), .int (nI (N 0)), .int (nI (N 3)), .int (nI (N 1)), .int (nI (M2 0)), .ref (ma 2), .ref (ma 3), .ref (ma 4), .ref (ma 5), .ref (ma 6), .ref (ma 7), .ref (ma 8), .ref (ma 9), .ref (ma 10), .ref (ma 11), .ref (ma 12), .ref (ma 13), .int (nI (M2 1)), .int (nI (M2 2)), .int (nI (M2 3)), .int C2, .ref (ma 14), .ref (ma 15), .int (nI (M2 4)), .int (nI (M2 5)), .int (nI (M2 6)), .int (nI (M2 7)), .int (nI (M2 8)), .ref (ma 16), .ref (ma 17), .int (nI (M2 9)), .ref (ma 18), .int (nI (M2 10))], aI cI (ma 1) 7 rf, aI cI (ma 2) 96 T, aI cI (ma 3) 96 (E2 0), aI cI (ma 4) 100 X, aI cI (ma 5) 24 (F 27), aI cI (ma 6) 48 (F 17), aI cI (ma 7) 72 (F 18), aI cI (ma 8) 12 (F 19), aI cZ (ma 9) 12 B, aI cI (ma 10) 300 (E2 1), aI cI (ma 11) 6 (E2 2), aI cI (ma 12) 6 (E2 3), aI cI (ma 13) 8 (E2 4), aI cI (ma 14) 12 (E2 5), aI cZ (ma 15) 12 (E2 6), aI cI (ma 16) 2400 (E2 7), aJ cJ (ma 17) 2400 L2, aI cZ (ma 18) 300 (E2 8)] H → va_D jA [oB (ma 0) 10 [.ref (ma 1), .int (nI (N 0)), .int (nI (N 3)), .int (nI (N 1)), .int (nI (M2 0)), .ref (ma 2), .ref (ma 3), .ref (ma 4), .ref (ma 5), .ref (ma 6), .ref (ma 7), .ref (ma 8), .ref (ma 9), .ref (ma 10), .ref (ma 11), .ref (ma 12), .ref (ma 13), .int (nI (M2 1)), .int (nI (M2 2)), .int (nI (M2 3)), .int C2, .ref (ma 14), .ref (ma 15), .int (nI (M2 4)), .int (nI (M2 5)), .int (nI (M2 6)), .int (nI (M2 7)), .int (nI (M2 8)), .ref (ma 16), .ref (ma 17), .int (nI (M2 9)), .ref (ma 18), .int (nI (M2 10))], aI cI (ma 1) 7 rf, aI cI (ma 2) 96 T, aI cI (ma 3) 96 (E2 0), aI cI (ma 4) 100 X, aI cI (ma 5) 24 (F 27), aI cI (ma 6) 48 (F 17), aI cI (ma 7) 72 (F 18), aI cI (ma 8) 12 (F 19), aI cZ (ma 9) 12 B, aI cI (ma 10) 300 (E2 1), aI cI (ma 11) 6 (E2 2), aI cI (ma 12) 6 (E2 3), aI cI (ma 13) 8 (E2 4), aI cI (ma 14) 12 (E2 5), aI cZ (ma 15) 12 (E2 6), aI cI (ma 16) 2400 (E2 7), aJ cJ (ma 17) 2400 L2, aI cZ (ma 18) 300 (E2 8)] → va_S jA js.heap H locs → lv_has ls 3 [(0, .ref (ma 0)), (1, .int bx), (2, .int (nI i))] → W jp jl je rCX10_best js jm ja jb jt jc H locs 0 0 jQ (F0 jm 8 ls []) := by
    intro fu
    induction fu with
    | zero =>
      intro i bx hfu hi hbx H locs ls hP hD hS hl
      exact absurd hfu (by omega)
    | succ fu ih8 =>
      intro i bx hfu hi hbx H locs ls hP hD hS hl
      refine lv_iload_n hx hb dX10_best_8 rfl (lv_at hl 2 rfl) ?_
      refine lv_aload_n hx hb dX10_best_9 rfl (lv_at hl 0 rfl) ?_
      refine va_get (C := RX10) (T := TX10) (N := 33) (ci := 10) hx hb hts iX10_best_10 hown hK.1 hP 0 rfl rfl 30 (Nat.le_of_ble_eq_true rfl) (hts _ mX10_best_176) (fun _ h9 => h9) rfl dX10_best_10 ?_
      refine k_cmp_ge (tgt := 44) hx hb dX10_best_13 (by decide) (by omega) (by omega) (fun hil => ?_) (fun hil => ?_)
      · skip
        have hie : i = (SETS N F).length := by omega
        rcases hbx with ⟨hi0, rfl⟩ | ⟨j, hj, rfl, hbj⟩
        · skip
          refine lv_iload_n hx hb dX10_best_44 rfl (lv_at hl 1 rfl) ?_
          refine lv_if_ge (tgt := 53) hx hb dX10_best_45 (by decide) (fun c_2 => ?_) (fun c_2 => ?_)
          · skip
            exact absurd c_2 (by decide)
          · skip
            refine lv_bipush (v := (-9)) hx hb dX10_best_48 (by decide) ?_
            refine lv_goto (tgt := 59) hx hb dX10_best_50 (by decide) ?_
            exact hret _ _ _ _ _ (rf, M2, C2, E2, L2) dX10_best_59 (⟨by unfold ansBest; rw [← hie, hi0]; rfl, rfl⟩) hP hD hS
        · skip
          refine lv_iload_n hx hb dX10_best_44 rfl (lv_at hl 1 rfl) ?_
          refine k_if_ge (tgt := 53) hx hb dX10_best_45 (by decide) (by omega) ?_
          refine lv_aload_n hx hb dX10_best_53 rfl (lv_at hl 0 rfl) ?_
          refine va_get (C := RX10) (T := TX10) (N := 33) (ci := 10) hx hb hts iX10_best_10 hown hK.1 hP 0 rfl rfl 28 (Nat.le_of_ble_eq_true rfl) (hts _ mX10_best_56) (fun _ h9 => h9) rfl dX10_best_54 ?_
          refine lv_iload_n hx hb dX10_best_57 rfl (lv_at hl 1 rfl) ?_
          refine k_iald hx hb hK.1 hP 16 0 rfl rfl (by omega) (by decide) dX10_best_58 ?_
          exact hret _ _ _ _ _ (rf, M2, C2, E2, L2) dX10_best_59 (⟨by unfold ansBest; rw [← hie, hbj]; exact (hFS.2.2.1 j (by omega)).1, rfl⟩) hP hD hS
      · skip
        have hLi := (hFS.2.2.1 i (by omega)).2
        rcases hbx with ⟨hi0, rfl⟩ | ⟨j, hj, rfl, hbj⟩
        · skip
          refine lv_iload_n hx hb dX10_best_16 rfl (lv_at hl 1 rfl) ?_
          refine lv_if_lt (tgt := 36) hx hb dX10_best_17 (by decide) (fun c_4 => ?_) (fun c_4 => ?_)
          · skip
            refine lv_iload_n hx hb dX10_best_36 rfl (lv_at hl 2 rfl) ?_
            refine lv_istore_n (lv' := [(1, .int (nI i)), (0, .ref (ma 0)), (2, .int (nI i))]) hx hb dX10_best_37 rfl hl (by decide) rfl (fun ls hl => ?_)
            refine lv_iinc (v := nI (i + 1)) (lv' := [(2, .int (nI (i + 1))), (1, .int (nI i)), (0, .ref (ma 0))]) hx hb dX10_best_38 hl (k := 2) rfl (nI_add i 1) (by decide) rfl (fun ls hl => ?_)
            refine lv_goto (tgt := 8) hx hb dX10_best_41 (by decide) ?_
            exact ih8 (i + 1) (nI i) (by omega) (by omega) (bInv_new (by rw [hi0]; exact hpos 0 (by omega))) _ _ _ hP hD hS (lv_sub hl [2, 1, 0] rfl)
          · skip
            exact absurd (by decide) c_4
        · skip
          have hLj := (hFS.2.2.1 j (by omega)).2
          refine lv_iload_n hx hb dX10_best_16 rfl (lv_at hl 1 rfl) ?_
          refine k_if_lt hx hb dX10_best_17 (tgt := 36) (by decide) (by omega) ?_
          refine lv_aload_n hx hb dX10_best_20 rfl (lv_at hl 0 rfl) ?_
          refine va_get (C := RX10) (T := TX10) (N := 33) (ci := 10) hx hb hts iX10_best_10 hown hK.1 hP 0 rfl rfl 29 (Nat.le_of_ble_eq_true rfl) (hts _ mX10_best_59) (fun _ h9 => h9) rfl dX10_best_21 ?_
          refine lv_iload_n hx hb dX10_best_24 rfl (lv_at hl 2 rfl) ?_
          refine k_lald hx hb hK.1 hP 17 2 rfl rfl (by omega) (by decide) dX10_best_25 ?_
          refine lv_aload_n hx hb dX10_best_26 rfl (lv_at hl 0 rfl) ?_
          refine va_get (C := RX10) (T := TX10) (N := 33) (ci := 10) hx hb hts iX10_best_10 hown hK.1 hP 0 rfl rfl 29 (Nat.le_of_ble_eq_true rfl) (hts _ mX10_best_59) (fun _ h9 => h9) rfl dX10_best_27 ?_
          refine lv_iload_n hx hb dX10_best_30 rfl (lv_at hl 1 rfl) ?_
          refine k_lald hx hb hK.1 hP 17 2 rfl rfl (by omega) (by decide) dX10_best_31 ?_
          refine W.lcmp hx hb dX10_best_32 ?_
          refine lv_if_le (tgt := 38) hx hb dX10_best_33 (by decide) (fun hcm => ?_) (fun hcm => ?_)
          · skip
            refine lv_iinc (v := nI (i + 1)) (lv' := [(2, .int (nI (i + 1))), (0, .ref (ma 0)), (1, .int (nI j))]) hx hb dX10_best_38 hl (k := 2) rfl (nI_add i 1) (by decide) rfl (fun ls hl => ?_)
            refine lv_goto (tgt := 8) hx hb dX10_best_41 (by decide) ?_
            exact ih8 (i + 1) (nI j) (by omega) (by omega) (bInv_old hj hbj (by rw [hLi, hLj] at hcm; exact fun z => Int32.not_lt.mpr hcm (lcmp_gt.mpr z))) _ _ _ hP hD hS (lv_sub hl [1, 2, 0] rfl)
          · skip
            refine lv_iload_n hx hb dX10_best_36 rfl (lv_at hl 2 rfl) ?_
            refine lv_istore_n (lv' := [(1, .int (nI i)), (0, .ref (ma 0)), (2, .int (nI i))]) hx hb dX10_best_37 rfl hl (by decide) rfl (fun ls hl => ?_)
            refine lv_iinc (v := nI (i + 1)) (lv' := [(2, .int (nI (i + 1))), (1, .int (nI i)), (0, .ref (ma 0))]) hx hb dX10_best_38 hl (k := 2) rfl (nI_add i 1) (by decide) rfl (fun ls hl => ?_)
            refine lv_goto (tgt := 8) hx hb dX10_best_41 (by decide) ?_
            exact ih8 (i + 1) (nI i) (by omega) (by omega) (bInv_new (by rw [hbj]; rw [hLi, hLj] at hcm; exact lcmp_gt.mp (Int32.not_le.mp hcm))) _ _ _ hP hD hS (lv_sub hl [2, 1, 0] rfl)
  exact L8 (M2 9 + 1) 0 (-1) (by omega) (by omega) (Or.inl ⟨rfl, rfl⟩) _ _ _ hP hD hS (lv_sub hl [2, 1, 0] rfl)

theorem lcmp_lt {a b : Int64} : lg_cmp a b < (0 : Int32) ↔ a < b := by
  unfold lg_cmp
  by_cases h1 : b < a
  · have : ¬ a < b := fun z => Int64.lt_irrefl (Int64.lt_trans h1 z)
    simp [h1, this]
  · by_cases h2 : a = b
    · subst h2; simp [h1]
    · have : a < b := by
        rcases Int64.lt_or_le a b with q | q
        · exact q
        · exact absurd (Int64.lt_of_le_of_ne q (fun z => h2 z.symm)) h1
      simp [h1, h2, this]
theorem nI_m9 {j : Nat} (h : j < 2 ^ 31) : ¬ nI j = (-9) := fun q => by
  have h1 := nI_toInt h
  rw [q] at h1
  have h2 : (-9 : Int32).toInt = -9 := by decide
  omega
theorem iX10_parting_10 : ∀ w ∈ wsX100, w ∈ wsX10_parting := by decide +kernel
theorem mX10_parting_34 : Cond.fieldLink RX10 34 "LineFinderModel" "isOpen" "[Z" ∈ wsX10_parting := List.mem_of_getElem? (i := 4) rfl
theorem mX10_parting_50 : Cond.fieldLink RX10 50 "LineFinderModel" "meets" "[I" ∈ wsX10_parting := List.mem_of_getElem? (i := 5) rfl
theorem mX10_parting_56 : Cond.fieldLink RX10 56 "LineFinderModel" "sets" "[I" ∈ wsX10_parting := List.mem_of_getElem? (i := 6) rfl
theorem mX10_parting_59 : Cond.fieldLink RX10 59 "LineFinderModel" "chances" "[J" ∈ wsX10_parting := List.mem_of_getElem? (i := 2) rfl
theorem mX10_parting_100 : Cond.fieldLink RX10 100 "LineFinderModel" "tests" "I" ∈ wsX10_parting := List.mem_of_getElem? (i := 3) rfl
theorem mX10_parting_176 : Cond.fieldLink RX10 176 "LineFinderModel" "setMany" "I" ∈ wsX10_parting := List.mem_of_getElem? (i := 1) rfl
theorem wX10_parting_abco : Cond.code Lib.MathLoose.abs_long.x Lib.MathLoose.abs_long.code 2 (some .long) ∈ wsX10_parting := List.mem_of_getElem? (i := 11) rfl
theorem wX10_parting_abin : Cond.initialized "java/lang/Math" ∈ wsX10_parting := List.mem_of_getElem? (i := 10) rfl
theorem wX10_parting_ablk : Cond.methodLink RX10 185 Lib.MathLoose.abs_long.x ∈ wsX10_parting := List.mem_of_getElem? (i := 8) rfl
theorem wX10_parting_abst : Cond.static Lib.MathLoose.abs_long.x ∈ wsX10_parting := List.mem_of_getElem? (i := 9) rfl
theorem wX10_parting_k174 : Cond.constantLong RX10 174 (2) ∈ wsX10_parting := List.mem_of_getElem? (i := 7) rfl
abbrev rCX10_parting : Room := { frames := 5, cells := 0, slots := 0, locals := 119 }
set_option maxHeartbeats 4000000 in
set_option maxRecDepth 100000 in
theorem CX10_parting (jl : Launch) (G : va_G) (cI cZ cJ : ClassId) (ma : Nat → Nat) (N : Nat → Nat) (F : Nat → Fn) (rf T X B : Fn) (M : Nat → Nat) (C : Int32) (E : Nat → Fn) (L : Nat → Int64) (hLA : LA N F) (hMR : MR N F T X B)  : Ki jl yX10_parting wsX10_parting rCX10_parting G cI cZ cJ [.ref (ma 0)] [oB (ma 0) 10 [.ref (ma 1), .int (nI (N 0)), .int (nI (N 3)), .int (nI (N 1)), .int (nI (M 0)), .ref (ma 2), .ref (ma 3), .ref (ma 4), .ref (ma 5), .ref (ma 6), .ref (ma 7), .ref (ma 8), .ref (ma 9), .ref (ma 10), .ref (ma 11), .ref (ma 12), .ref (ma 13), .int (nI (M 1)), .int (nI (M 2)), .int (nI (M 3)), .int C, .ref (ma 14), .ref (ma 15), .int (nI (M 4)), .int (nI (M 5)), .int (nI (M 6)), .int (nI (M 7)), .int (nI (M 8)), .ref (ma 16), .ref (ma 17), .int (nI (M 9)), .ref (ma 18), .int (nI (M 10))], aI cI (ma 1) 7 rf, aI cI (ma 2) 96 T, aI cI (ma 3) 96 (E 0), aI cI (ma 4) 100 X, aI cI (ma 5) 24 (F 27), aI cI (ma 6) 48 (F 17), aI cI (ma 7) 72 (F 18), aI cI (ma 8) 12 (F 19), aI cZ (ma 9) 12 B, aI cI (ma 10) 300 (E 1), aI cI (ma 11) 6 (E 2), aI cI (ma 12) 6 (E 3), aI cI (ma 13) 8 (E 4), aI cI (ma 14) 12 (E 5), aI cZ (ma 15) 12 (E 6), aI cI (ma 16) 2400 (E 7), aJ cJ (ma 17) 2400 L, aI cZ (ma 18) 300 (E 8)] (S := Fn × (Nat → Nat) × Int32 × (Nat → Fn) × (Nat → Int64)) (fun (r : Int32) (u : Fn × (Nat → Nat) × Int32 × (Nat → Fn) × (Nat → Int64)) => match u with | (rf1, M1, C1, E1, L1) => r = ansPart N F ∧ rf1 = rf) (fun (u : Fn × (Nat → Nat) × Int32 × (Nat → Fn) × (Nat → Int64)) => match u with | (rf1, M1, C1, E1, L1) => [oB (ma 0) 10 [.ref (ma 1), .int (nI (N 0)), .int (nI (N 3)), .int (nI (N 1)), .int (nI (M1 0)), .ref (ma 2), .ref (ma 3), .ref (ma 4), .ref (ma 5), .ref (ma 6), .ref (ma 7), .ref (ma 8), .ref (ma 9), .ref (ma 10), .ref (ma 11), .ref (ma 12), .ref (ma 13), .int (nI (M1 1)), .int (nI (M1 2)), .int (nI (M1 3)), .int C1, .ref (ma 14), .ref (ma 15), .int (nI (M1 4)), .int (nI (M1 5)), .int (nI (M1 6)), .int (nI (M1 7)), .int (nI (M1 8)), .ref (ma 16), .ref (ma 17), .int (nI (M1 9)), .ref (ma 18), .int (nI (M1 10))], aI cI (ma 1) 7 rf1, aI cI (ma 2) 96 T, aI cI (ma 3) 96 (E1 0), aI cI (ma 4) 100 X, aI cI (ma 5) 24 (F 27), aI cI (ma 6) 48 (F 17), aI cI (ma 7) 72 (F 18), aI cI (ma 8) 12 (F 19), aI cZ (ma 9) 12 B, aI cI (ma 10) 300 (E1 1), aI cI (ma 11) 6 (E1 2), aI cI (ma 12) 6 (E1 3), aI cI (ma 13) 8 (E1 4), aI cI (ma 14) 12 (E1 5), aI cZ (ma 15) 12 (E1 6), aI cI (ma 16) 2400 (E1 7), aJ cJ (ma 17) 2400 L1, aI cZ (ma 18) 300 (E1 8)]) := by
  refine Ki.of (cc := cX10_parting) (maxL := 11) (by decide +kernel) rfl (Nat.le_of_ble_eq_true rfl) ?_
  intro jp je js jm ja jb jt jc jA jQ ls cx hnm hP hD hS hl hret
  obtain ⟨hx, hb, hml, hown, hts, hK, hA⟩ := id cx
  have hl : lv_has ls 11 [(0, .ref (ma 0))] := hl
  obtain ⟨H, hH⟩ : ∃ H, H = js.heap := ⟨_, rfl⟩
  obtain ⟨locs, hlocs⟩ : ∃ z : List Loc, z = [] := ⟨_, rfl⟩
  have hP : va_P G vwCl [oB (ma 0) 10 [.ref (ma 1), .int (nI (N 0)), .int (nI (N 3)), .int (nI (N 1)), .int (nI (M 0)), .ref (ma 2), .ref (ma 3), .ref (ma 4), .ref (ma 5), .ref (ma 6), .ref (ma 7), .ref (ma 8), .ref (ma 9), .ref (ma 10), .ref (ma 11), .ref (ma 12), .ref (ma 13), .int (nI (M 1)), .int (nI (M 2)), .int (nI (M 3)), .int C, .ref (ma 14), .ref (ma 15), .int (nI (M 4)), .int (nI (M 5)), .int (nI (M 6)), .int (nI (M 7)), .int (nI (M 8)), .ref (ma 16), .ref (ma 17), .int (nI (M 9)), .ref (ma 18), .int (nI (M 10))], aI cI (ma 1) 7 rf, aI cI (ma 2) 96 T, aI cI (ma 3) 96 (E 0), aI cI (ma 4) 100 X, aI cI (ma 5) 24 (F 27), aI cI (ma 6) 48 (F 17), aI cI (ma 7) 72 (F 18), aI cI (ma 8) 12 (F 19), aI cZ (ma 9) 12 B, aI cI (ma 10) 300 (E 1), aI cI (ma 11) 6 (E 2), aI cI (ma 12) 6 (E 3), aI cI (ma 13) 8 (E 4), aI cI (ma 14) 12 (E 5), aI cZ (ma 15) 12 (E 6), aI cI (ma 16) 2400 (E 7), aJ cJ (ma 17) 2400 L, aI cZ (ma 18) 300 (E 8)] H := by rw [hH]; exact hP
  have hS : va_S jA js.heap H locs := by rw [hH, hlocs]; exact hS
  rw [← hlocs]; rw [show W jp jl je rCX10_parting js jm ja jb jt jc js.heap locs 0 0 jQ (F0 jm 0 ls []) = W jp jl je rCX10_parting js jm ja jb jt jc H locs 0 0 jQ (F0 jm 0 ls []) by rw [hH]]
  clear hH hlocs
  obtain ⟨hn24, hc20, hnt12, hob2, hokT, hokN, hokC, hver, hlen7, hpri⟩ := id hLA
  refine lv_aload_n hx hb dX10_parting_0 rfl (lv_at hl 0 rfl) ?_
  refine Kv.callV (wr := []) (rest := []) (CX10_findSets jl G cI cZ cJ ma N F rf T X B M C E L hLA hMR) cx hP hD hS hl [0, 1, 2, 3, 4, 5, 6, 7, 8, 9, 10, 11, 12, 13, 14, 15, 16, 17, 18] [] (ci := 10) (q0 := 0) gX10_parting_X10_findSets hdX10_findSets rfl rfl rfl ⟨Nat.le_of_ble_eq_true rfl, Nat.le_of_ble_eq_true rfl⟩ rfl rfl (by decide) (by decide) (by decide) dX10_parting_1 rfl rfl (Nat.le_of_ble_eq_true rfl) ⟨Nat.le_of_ble_eq_true rfl, Nat.le_of_ble_eq_true rfl⟩ (fun u H locs hwf hP hD hS => ?_)
  obtain ⟨M2, C2, E2, L2⟩ := u
  try dsimp only at hwf
  have hP : va_P G vwCl [oB (ma 0) 10 [.ref (ma 1), .int (nI (N 0)), .int (nI (N 3)), .int (nI (N 1)), .int (nI (M2 0)), .ref (ma 2), .ref (ma 3), .ref (ma 4), .ref (ma 5), .ref (ma 6), .ref (ma 7), .ref (ma 8), .ref (ma 9), .ref (ma 10), .ref (ma 11), .ref (ma 12), .ref (ma 13), .int (nI (M2 1)), .int (nI (M2 2)), .int (nI (M2 3)), .int C2, .ref (ma 14), .ref (ma 15), .int (nI (M2 4)), .int (nI (M2 5)), .int (nI (M2 6)), .int (nI (M2 7)), .int (nI (M2 8)), .ref (ma 16), .ref (ma 17), .int (nI (M2 9)), .ref (ma 18), .int (nI (M2 10))], aI cI (ma 1) 7 rf, aI cI (ma 2) 96 T, aI cI (ma 3) 96 (E2 0), aI cI (ma 4) 100 X, aI cI (ma 5) 24 (F 27), aI cI (ma 6) 48 (F 17), aI cI (ma 7) 72 (F 18), aI cI (ma 8) 12 (F 19), aI cZ (ma 9) 12 B, aI cI (ma 10) 300 (E2 1), aI cI (ma 11) 6 (E2 2), aI cI (ma 12) 6 (E2 3), aI cI (ma 13) 8 (E2 4), aI cI (ma 14) 12 (E2 5), aI cZ (ma 15) 12 (E2 6), aI cI (ma 16) 2400 (E2 7), aJ cJ (ma 17) 2400 L2, aI cZ (ma 18) 300 (E2 8)] H := hP
  have hD : va_D jA [oB (ma 0) 10 [.ref (ma 1), .int (nI (N 0)), .int (nI (N 3)), .int (nI (N 1)), .int (nI (M2 0)), .ref (ma 2), .ref (ma 3), .ref (ma 4), .ref (ma 5), .ref (ma 6), .ref (ma 7), .ref (ma 8), .ref (ma 9), .ref (ma 10), .ref (ma 11), .ref (ma 12), .ref (ma 13), .int (nI (M2 1)), .int (nI (M2 2)), .int (nI (M2 3)), .int C2, .ref (ma 14), .ref (ma 15), .int (nI (M2 4)), .int (nI (M2 5)), .int (nI (M2 6)), .int (nI (M2 7)), .int (nI (M2 8)), .ref (ma 16), .ref (ma 17), .int (nI (M2 9)), .ref (ma 18), .int (nI (M2 10))], aI cI (ma 1) 7 rf, aI cI (ma 2) 96 T, aI cI (ma 3) 96 (E2 0), aI cI (ma 4) 100 X, aI cI (ma 5) 24 (F 27), aI cI (ma 6) 48 (F 17), aI cI (ma 7) 72 (F 18), aI cI (ma 8) 12 (F 19), aI cZ (ma 9) 12 B, aI cI (ma 10) 300 (E2 1), aI cI (ma 11) 6 (E2 2), aI cI (ma 12) 6 (E2 3), aI cI (ma 13) 8 (E2 4), aI cI (ma 14) 12 (E2 5), aI cZ (ma 15) 12 (E2 6), aI cI (ma 16) 2400 (E2 7), aJ cJ (ma 17) 2400 L2, aI cZ (ma 18) 300 (E2 8)] := hD
  have hFS := FS_of hn24 hnt12 hwf.1 hwf.2.2.1 hwf.2.2.2.1
  have hsm : M2 9 = (SETS N F).length := hFS.2.1
  have hsl := hFS.2.2.2
  refine lv_aload_n hx hb dX10_parting_4 rfl (lv_at hl 0 rfl) ?_
  refine va_get (C := RX10) (T := TX10) (N := 33) (ci := 10) hx hb hts iX10_parting_10 hown hK.1 hP 0 rfl rfl 30 (Nat.le_of_ble_eq_true rfl) (hts _ mX10_parting_176) (fun _ h9 => h9) rfl dX10_parting_5 ?_
  refine k_if_ne (tgt := 14) hx hb dX10_parting_8 (by decide) (by omega) (fun hz0 => ?_) (fun hz0 => ?_)
  · skip
    refine lv_lconst (v := 0) hx hb dX10_parting_14 (by decide) ?_
    refine lv_lstore_n (lv' := [(1, .long 0), (0, .ref (ma 0))]) hx hb dX10_parting_15 rfl hl (by decide) rfl (fun ls hl => ?_)
    refine lv_iconst (v := nI 0) hx hb dX10_parting_16 (by decide) ?_
    refine lv_istore_n (lv' := [(3, .int (nI 0)), (1, .long 0), (0, .ref (ma 0))]) hx hb dX10_parting_17 rfl hl (by decide) rfl (fun ls hl => ?_)
    have L18 : ∀ (fu : Nat), ∀ (i : Nat), ∀ (v : Int64), (M2 9 < i + fu) → (i ≤ M2 9) → (v = sL (WI N F) i) → ∀ (H : Heap) (locs : List Loc) (ls : Array Slot), va_P G vwCl [oB (ma 0) 10 [.ref (ma 1), .int (nI (N 0)), .int (nI (N 3)), .int (nI (N 1)), .int (nI (M2 0)), .ref (ma 2), .ref (ma 3), .ref (ma 4), .ref (ma 5), .ref (ma 6), .ref (ma 7), .ref (ma 8), .ref (ma 9), .ref (ma 10), .ref (ma 11), .ref (ma 12), .ref (ma 13), .int (nI (M2 1)), .int (nI (M2 2)), .int (nI (M2 3)), .int C2, .ref (ma 14), .ref (ma 15), .int (nI (M2 4)), .int (nI (M2 5)), .int (nI (M2 6)), .int (nI (M2 7)), .int (nI (M2 8)), .ref (ma 16), .ref (ma 17), .int (nI (M2 9)), .ref (ma 18), .int (nI (M2 10))], aI cI (ma 1) 7 rf, aI cI (ma 2) 96 T, aI cI (ma 3) 96 (E2 0), aI cI (ma 4) 100 X, aI cI (ma 5) 24 (F 27), aI cI (ma 6) 48 (F 17), aI cI (ma 7) 72 (F 18), aI cI (ma 8) 12 (F 19), aI cZ (ma 9) 12 B, aI cI (ma 10) 300 (E2 1), aI cI (ma 11) 6 (E2 2), aI cI (ma 12) 6 (E2 3), aI cI (ma 13) 8 (E2 4), aI cI (ma 14) 12 (E2 5), aI cZ (ma 15) 12 (E2 6), aI cI (ma 16) 2400 (E2 7), aJ cJ (ma 17) 2400 L2, aI cZ (ma 18) 300 (E2 8)] H → va_D jA [oB (ma 0) 10 [.ref (ma 1), .int (nI (N 0)), .int (nI (N 3)), .int (nI (N 1)), .int (nI (M2 0)), .ref (ma 2), .ref (ma 3), .ref (ma 4), .ref (ma 5), .ref (ma 6), .ref (ma 7), .ref (ma 8), .ref (ma 9), .ref (ma 10), .ref (ma 11), .ref (ma 12), .ref (ma 13), .int (nI (M2 1)), .int (nI (M2 2)), .int (nI (M2 3)), .int C2, .ref (ma 14), .ref (ma 15), .int (nI (M2 4)), .int (nI (M2 5)), .int (nI (M2 6)), .int (nI (M2 7)), .int (nI (M2 8)), .ref (ma 16), .ref (ma 17), .int (nI (M2 9)), .ref (ma 18), .int (nI (M2 10))], aI cI (ma 1) 7 rf, aI cI (ma 2) 96 T, aI cI (ma 3) 96 (E2 0), aI cI (ma 4) 100 X, aI cI (ma 5) 24 (F 27), aI cI (ma 6) 48 (F 17), aI cI (ma 7) 72 (F 18), aI cI (ma 8) 12 (F 19), aI cZ (ma 9) 12 B, aI cI (ma 10) 300 (E2 1), aI cI (ma 11) 6 (E2 2), aI cI (ma 12) 6 (E2 3), aI cI (ma 13) 8 (E2 4), aI cI (ma 14) 12 (E2 5), aI cZ (ma 15) 12 (E2 6), aI cI (ma 16) 2400 (E2 7), aJ cJ (ma 17) 2400 L2, aI cZ (ma 18) 300 (E2 8)] → va_S jA js.heap H locs → lv_has ls 11 [(0, .ref (ma 0)), (1, .long v), (3, .int (nI i))] → W jp jl je rCX10_parting js jm ja jb jt jc H locs 0 0 jQ (F0 jm 18 ls []) := by
      intro fu
      induction fu with
      | zero =>
        intro i v hfu hi hv H locs ls hP hD hS hl
        exact absurd hfu (by omega)
      | succ fu ih18 =>
        intro i v hfu hi hv H locs ls hP hD hS hl
        refine lv_iload_n hx hb dX10_parting_18 rfl (lv_at hl 2 rfl) ?_
        refine lv_aload_n hx hb dX10_parting_19 rfl (lv_at hl 0 rfl) ?_
        refine va_get (C := RX10) (T := TX10) (N := 33) (ci := 10) hx hb hts iX10_parting_10 hown hK.1 hP 0 rfl rfl 30 (Nat.le_of_ble_eq_true rfl) (hts _ mX10_parting_176) (fun _ h9 => h9) rfl dX10_parting_20 ?_
        refine k_cmp_ge (tgt := 41) hx hb dX10_parting_23 (by decide) (by omega) (by omega) (fun hil => ?_) (fun hil => ?_)
        · skip
          have hall : v = sL (WI N F) (SETS N F).length := by rw [hv, show i = (SETS N F).length by omega]
          refine lv_bipush (v := (-9)) hx hb dX10_parting_41 (by decide) ?_
          refine lv_istore_n (lv' := [(3, .int (-9)), (0, .ref (ma 0)), (1, .long v)]) hx hb dX10_parting_43 rfl hl (by decide) rfl (fun ls hl => ?_)
          refine lv_lconst (v := 0) hx hb dX10_parting_44 (by decide) ?_
          refine lv_lstore (lv' := [(4, .long 0), (3, .int (-9)), (0, .ref (ma 0)), (1, .long v)]) hx hb dX10_parting_45 hl (by decide) rfl (fun ls hl => ?_)
          refine lv_iconst (v := nI 0) hx hb dX10_parting_47 (by decide) ?_
          refine lv_istore (lv' := [(6, .int (nI 0)), (4, .long 0), (3, .int (-9)), (0, .ref (ma 0)), (1, .long v)]) hx hb dX10_parting_48 hl (by decide) rfl (fun ls hl => ?_)
          have L50 : ∀ (fu : Nat), ∀ (t : Nat), ∀ (bx : Int32), ∀ (lv : Int64), (N 3 < t + fu) → (t ≤ N 3) → (partF (fun t => (N 2).testBit t) (AWAY N F) t = (bx, lv)) → (bx = (-9) ∨ ∃ j, j < 12 ∧ bx = nI j) → ∀ (H : Heap) (locs : List Loc) (ls : Array Slot), va_P G vwCl [oB (ma 0) 10 [.ref (ma 1), .int (nI (N 0)), .int (nI (N 3)), .int (nI (N 1)), .int (nI (M2 0)), .ref (ma 2), .ref (ma 3), .ref (ma 4), .ref (ma 5), .ref (ma 6), .ref (ma 7), .ref (ma 8), .ref (ma 9), .ref (ma 10), .ref (ma 11), .ref (ma 12), .ref (ma 13), .int (nI (M2 1)), .int (nI (M2 2)), .int (nI (M2 3)), .int C2, .ref (ma 14), .ref (ma 15), .int (nI (M2 4)), .int (nI (M2 5)), .int (nI (M2 6)), .int (nI (M2 7)), .int (nI (M2 8)), .ref (ma 16), .ref (ma 17), .int (nI (M2 9)), .ref (ma 18), .int (nI (M2 10))], aI cI (ma 1) 7 rf, aI cI (ma 2) 96 T, aI cI (ma 3) 96 (E2 0), aI cI (ma 4) 100 X, aI cI (ma 5) 24 (F 27), aI cI (ma 6) 48 (F 17), aI cI (ma 7) 72 (F 18), aI cI (ma 8) 12 (F 19), aI cZ (ma 9) 12 B, aI cI (ma 10) 300 (E2 1), aI cI (ma 11) 6 (E2 2), aI cI (ma 12) 6 (E2 3), aI cI (ma 13) 8 (E2 4), aI cI (ma 14) 12 (E2 5), aI cZ (ma 15) 12 (E2 6), aI cI (ma 16) 2400 (E2 7), aJ cJ (ma 17) 2400 L2, aI cZ (ma 18) 300 (E2 8)] H → va_D jA [oB (ma 0) 10 [.ref (ma 1), .int (nI (N 0)), .int (nI (N 3)), .int (nI (N 1)), .int (nI (M2 0)), .ref (ma 2), .ref (ma 3), .ref (ma 4), .ref (ma 5), .ref (ma 6), .ref (ma 7), .ref (ma 8), .ref (ma 9), .ref (ma 10), .ref (ma 11), .ref (ma 12), .ref (ma 13), .int (nI (M2 1)), .int (nI (M2 2)), .int (nI (M2 3)), .int C2, .ref (ma 14), .ref (ma 15), .int (nI (M2 4)), .int (nI (M2 5)), .int (nI (M2 6)), .int (nI (M2 7)), .int (nI (M2 8)), .ref (ma 16), .ref (ma 17), .int (nI (M2 9)), .ref (ma 18), .int (nI (M2 10))], aI cI (ma 1) 7 rf, aI cI (ma 2) 96 T, aI cI (ma 3) 96 (E2 0), aI cI (ma 4) 100 X, aI cI (ma 5) 24 (F 27), aI cI (ma 6) 48 (F 17), aI cI (ma 7) 72 (F 18), aI cI (ma 8) 12 (F 19), aI cZ (ma 9) 12 B, aI cI (ma 10) 300 (E2 1), aI cI (ma 11) 6 (E2 2), aI cI (ma 12) 6 (E2 3), aI cI (ma 13) 8 (E2 4), aI cI (ma 14) 12 (E2 5), aI cZ (ma 15) 12 (E2 6), aI cI (ma 16) 2400 (E2 7), aJ cJ (ma 17) 2400 L2, aI cZ (ma 18) 300 (E2 8)] → va_S jA js.heap H locs → lv_has ls 11 [(0, .ref (ma 0)), (1, .long v), (3, .int bx), (4, .long lv), (6, .int (nI t))] → W jp jl je rCX10_parting js jm ja jb jt jc H locs 0 0 jQ (F0 jm 50 ls []) := by
            intro fu
            induction fu with
            | zero =>
              intro t bx lv hfu hT hpt hbx H locs ls hP hD hS hl
              exact absurd hfu (by omega)
            | succ fu ih50 =>
              intro t bx lv hfu hT hpt hbx H locs ls hP hD hS hl
              refine lv_iload hx hb dX10_parting_50 (lv_at hl 4 rfl) ?_
              refine lv_aload_n hx hb dX10_parting_52 rfl (lv_at hl 0 rfl) ?_
              refine va_get (C := RX10) (T := TX10) (N := 33) (ci := 10) hx hb hts iX10_parting_10 hown hK.1 hP 0 rfl rfl 2 (Nat.le_of_ble_eq_true rfl) (hts _ mX10_parting_100) (fun _ h9 => h9) rfl dX10_parting_53 ?_
              refine k_cmp_ge (tgt := 168) hx hb dX10_parting_56 (by decide) (by omega) (by omega) (fun ht => ?_) (fun ht => ?_)
              · skip
                refine lv_iload_n hx hb dX10_parting_168 rfl (lv_at hl 2 rfl) ?_
                exact hret _ _ _ _ _ (rf, M2, C2, E2, L2) dX10_parting_169 (⟨by unfold ansPart; rw [if_neg (by omega), ← show t = N 3 by omega, hpt], rfl⟩) hP hD hS
              · skip
                have hop := hMR.2.2 t (by omega)
                have hmt := hwf.1.2.2.2 t ht
                refine lv_aload_n hx hb dX10_parting_59 rfl (lv_at hl 0 rfl) ?_
                refine va_get (C := RX10) (T := TX10) (N := 33) (ci := 10) hx hb hts iX10_parting_10 hown hK.1 hP 0 rfl rfl 12 (Nat.le_of_ble_eq_true rfl) (hts _ mX10_parting_34) (fun _ h9 => h9) rfl dX10_parting_60 ?_
                refine lv_iload hx hb dX10_parting_63 (lv_at hl 4 rfl) ?_
                refine k_zald hx hb hK.1 hP 9 1 rfl rfl (by omega) (by decide) dX10_parting_65 ?_
                rcases Bool.eq_false_or_eq_true ((N 2).testBit t) with ho | ho
                · skip
                  refine k_topN (j := 1) (by rw [hop, ho]; rfl) ?_
                  refine k_if_ne_t (tgt := 72) hx hb dX10_parting_66 (by decide) (by decide) ?_
                  refine lv_lconst (v := 0) hx hb dX10_parting_72 (by decide) ?_
                  refine lv_lstore (lv' := [(7, .long 0), (0, .ref (ma 0)), (1, .long v), (3, .int bx), (4, .long lv), (6, .int (nI t))]) hx hb dX10_parting_73 hl (by decide) rfl (fun ls hl => ?_)
                  refine lv_iconst (v := nI 0) hx hb dX10_parting_75 (by decide) ?_
                  refine lv_istore (lv' := [(9, .int (nI 0)), (7, .long 0), (0, .ref (ma 0)), (1, .long v), (3, .int bx), (4, .long lv), (6, .int (nI t))]) hx hb dX10_parting_76 hl (by decide) rfl (fun ls hl => ?_)
                  have L78 : ∀ (fu : Nat), ∀ (i2 : Nat), ∀ (s2 : Int64), (M2 9 < i2 + fu) → (i2 ≤ M2 9) → (s2 = sL (fun i => if ((SETS N F).getD i (0, 0)).2.testBit t = true then WI N F i else 0) i2) → ∀ (H : Heap) (locs : List Loc) (ls : Array Slot), va_P G vwCl [oB (ma 0) 10 [.ref (ma 1), .int (nI (N 0)), .int (nI (N 3)), .int (nI (N 1)), .int (nI (M2 0)), .ref (ma 2), .ref (ma 3), .ref (ma 4), .ref (ma 5), .ref (ma 6), .ref (ma 7), .ref (ma 8), .ref (ma 9), .ref (ma 10), .ref (ma 11), .ref (ma 12), .ref (ma 13), .int (nI (M2 1)), .int (nI (M2 2)), .int (nI (M2 3)), .int C2, .ref (ma 14), .ref (ma 15), .int (nI (M2 4)), .int (nI (M2 5)), .int (nI (M2 6)), .int (nI (M2 7)), .int (nI (M2 8)), .ref (ma 16), .ref (ma 17), .int (nI (M2 9)), .ref (ma 18), .int (nI (M2 10))], aI cI (ma 1) 7 rf, aI cI (ma 2) 96 T, aI cI (ma 3) 96 (E2 0), aI cI (ma 4) 100 X, aI cI (ma 5) 24 (F 27), aI cI (ma 6) 48 (F 17), aI cI (ma 7) 72 (F 18), aI cI (ma 8) 12 (F 19), aI cZ (ma 9) 12 B, aI cI (ma 10) 300 (E2 1), aI cI (ma 11) 6 (E2 2), aI cI (ma 12) 6 (E2 3), aI cI (ma 13) 8 (E2 4), aI cI (ma 14) 12 (E2 5), aI cZ (ma 15) 12 (E2 6), aI cI (ma 16) 2400 (E2 7), aJ cJ (ma 17) 2400 L2, aI cZ (ma 18) 300 (E2 8)] H → va_D jA [oB (ma 0) 10 [.ref (ma 1), .int (nI (N 0)), .int (nI (N 3)), .int (nI (N 1)), .int (nI (M2 0)), .ref (ma 2), .ref (ma 3), .ref (ma 4), .ref (ma 5), .ref (ma 6), .ref (ma 7), .ref (ma 8), .ref (ma 9), .ref (ma 10), .ref (ma 11), .ref (ma 12), .ref (ma 13), .int (nI (M2 1)), .int (nI (M2 2)), .int (nI (M2 3)), .int C2, .ref (ma 14), .ref (ma 15), .int (nI (M2 4)), .int (nI (M2 5)), .int (nI (M2 6)), .int (nI (M2 7)), .int (nI (M2 8)), .ref (ma 16), .ref (ma 17), .int (nI (M2 9)), .ref (ma 18), .int (nI (M2 10))], aI cI (ma 1) 7 rf, aI cI (ma 2) 96 T, aI cI (ma 3) 96 (E2 0), aI cI (ma 4) 100 X, aI cI (ma 5) 24 (F 27), aI cI (ma 6) 48 (F 17), aI cI (ma 7) 72 (F 18), aI cI (ma 8) 12 (F 19), aI cZ (ma 9) 12 B, aI cI (ma 10) 300 (E2 1), aI cI (ma 11) 6 (E2 2), aI cI (ma 12) 6 (E2 3), aI cI (ma 13) 8 (E2 4), aI cI (ma 14) 12 (E2 5), aI cZ (ma 15) 12 (E2 6), aI cI (ma 16) 2400 (E2 7), aJ cJ (ma 17) 2400 L2, aI cZ (ma 18) 300 (E2 8)] → va_S jA js.heap H locs → lv_has ls 11 [(0, .ref (ma 0)), (1, .long v), (3, .int bx), (4, .long lv), (6, .int (nI t)), (7, .long s2), (9, .int (nI i2))] → W jp jl je rCX10_parting js jm ja jb jt jc H locs 0 0 jQ (F0 jm 78 ls []) := by
                    intro fu
                    induction fu with
                    | zero =>
                      intro i2 s2 hfu hi2 hs2 H locs ls hP hD hS hl
                      exact absurd hfu (by omega)
                    | succ fu ih78 =>
                      intro i2 s2 hfu hi2 hs2 H locs ls hP hD hS hl
                      refine lv_iload hx hb dX10_parting_78 (lv_at hl 6 rfl) ?_
                      refine lv_aload_n hx hb dX10_parting_80 rfl (lv_at hl 0 rfl) ?_
                      refine va_get (C := RX10) (T := TX10) (N := 33) (ci := 10) hx hb hts iX10_parting_10 hown hK.1 hP 0 rfl rfl 30 (Nat.le_of_ble_eq_true rfl) (hts _ mX10_parting_176) (fun _ h9 => h9) rfl dX10_parting_81 ?_
                      refine k_cmp_ge (tgt := 127) hx hb dX10_parting_84 (by decide) (by omega) (by omega) (fun hil2 => ?_) (fun hil2 => ?_)
                      · skip
                        refine lv_ldc2 (own := RX10) (v := 2) hx hb hown (hts _ wX10_parting_k174) dX10_parting_127 ?_
                        refine lv_lload hx hb dX10_parting_130 (lv_at hl 5 rfl) ?_
                        refine lv_lmul hx hb dX10_parting_132 ?_
                        refine lv_lload_n hx hb dX10_parting_133 rfl (lv_at hl 1 rfl) ?_
                        refine lv_lsub hx hb dX10_parting_134 ?_
                        refine va_mabs_long hx hb (hml.trans hl.1.symm) hown (hts _ wX10_parting_ablk) (hts _ wX10_parting_abst) (hts _ wX10_parting_abin) (hts _ wX10_parting_abco) (Nat.le_of_ble_eq_true rfl) (Nat.le_of_ble_eq_true rfl) (Nat.zero_le _) (Nat.zero_le _) dX10_parting_135 ?_
                        have haw : lAbs (2 * s2 - v) = AWAY N F t := by unfold AWAY; rw [hs2, hall, show i2 = (SETS N F).length by omega]
                        refine lv_lstore (lv' := [(9, .long (lAbs ((2 * s2) - v))), (0, .ref (ma 0)), (1, .long v), (3, .int bx), (4, .long lv), (6, .int (nI t)), (7, .long s2)]) hx hb dX10_parting_138 hl (by decide) rfl (fun ls hl => ?_)
                        rcases hbx with hb9 | ⟨j, hj12, hbj⟩
                        · skip
                          subst hb9
                          refine lv_iload_n hx hb dX10_parting_140 rfl (lv_at hl 3 rfl) ?_
                          refine lv_if_lt (tgt := 155) hx hb dX10_parting_141 (by decide) (fun c_3 => ?_) (fun c_3 => ?_)
                          · skip
                            refine lv_iload hx hb dX10_parting_155 (lv_at hl 5 rfl) ?_
                            refine lv_istore_n (lv' := [(3, .int (nI t)), (9, .long (lAbs ((2 * s2) - v))), (0, .ref (ma 0)), (1, .long v), (4, .long lv), (6, .int (nI t)), (7, .long s2)]) hx hb dX10_parting_157 rfl hl (by decide) rfl (fun ls hl => ?_)
                            refine lv_lload hx hb dX10_parting_158 (lv_at hl 1 rfl) ?_
                            refine lv_lstore (lv' := [(4, .long (lAbs ((2 * s2) - v))), (3, .int (nI t)), (9, .long (lAbs ((2 * s2) - v))), (0, .ref (ma 0)), (1, .long v), (6, .int (nI t)), (7, .long s2)]) hx hb dX10_parting_160 hl (by decide) rfl (fun ls hl => ?_)
                            refine lv_iinc (v := nI (t + 1)) (lv' := [(6, .int (nI (t + 1))), (4, .long (lAbs ((2 * s2) - v))), (3, .int (nI t)), (9, .long (lAbs ((2 * s2) - v))), (0, .ref (ma 0)), (1, .long v), (7, .long s2)]) hx hb dX10_parting_162 hl (k := 5) rfl (nI_add t 1) (by decide) rfl (fun ls hl => ?_)
                            refine lv_goto (tgt := 50) hx hb dX10_parting_165 (by decide) ?_
                            exact ih50 (t + 1) (nI t) (lAbs ((2 * s2) - v)) (by omega) (by omega) (by rw [partF, if_pos (by rw [ho, hpt]; rfl), ← haw]) (Or.inr ⟨t, by omega, rfl⟩) _ _ _ hP hD hS (lv_sub hl [4, 5, 2, 1, 0] rfl)
                          · skip
                            exact absurd (by decide) c_3
                        · skip
                          subst hbj
                          refine lv_iload_n hx hb dX10_parting_140 rfl (lv_at hl 3 rfl) ?_
                          refine k_if_lt hx hb dX10_parting_141 (tgt := 155) (by decide) (by omega) ?_
                          refine lv_lload hx hb dX10_parting_144 (lv_at hl 0 rfl) ?_
                          refine lv_lload hx hb dX10_parting_146 (lv_at hl 4 rfl) ?_
                          refine W.lcmp hx hb dX10_parting_148 ?_
                          refine lv_if_lt (tgt := 155) hx hb dX10_parting_149 (by decide) (fun hcm => ?_) (fun hcm => ?_)
                          · skip
                            refine lv_iload hx hb dX10_parting_155 (lv_at hl 5 rfl) ?_
                            refine lv_istore_n (lv' := [(3, .int (nI t)), (9, .long (lAbs ((2 * s2) - v))), (0, .ref (ma 0)), (1, .long v), (4, .long lv), (6, .int (nI t)), (7, .long s2)]) hx hb dX10_parting_157 rfl hl (by decide) rfl (fun ls hl => ?_)
                            refine lv_lload hx hb dX10_parting_158 (lv_at hl 1 rfl) ?_
                            refine lv_lstore (lv' := [(4, .long (lAbs ((2 * s2) - v))), (3, .int (nI t)), (9, .long (lAbs ((2 * s2) - v))), (0, .ref (ma 0)), (1, .long v), (6, .int (nI t)), (7, .long s2)]) hx hb dX10_parting_160 hl (by decide) rfl (fun ls hl => ?_)
                            refine lv_iinc (v := nI (t + 1)) (lv' := [(6, .int (nI (t + 1))), (4, .long (lAbs ((2 * s2) - v))), (3, .int (nI t)), (9, .long (lAbs ((2 * s2) - v))), (0, .ref (ma 0)), (1, .long v), (7, .long s2)]) hx hb dX10_parting_162 hl (k := 5) rfl (nI_add t 1) (by decide) rfl (fun ls hl => ?_)
                            refine lv_goto (tgt := 50) hx hb dX10_parting_165 (by decide) ?_
                            exact ih50 (t + 1) (nI t) (lAbs ((2 * s2) - v)) (by omega) (by omega) (by rw [partF, if_pos (by rw [ho, hpt]; dsimp only; rw [decide_eq_true (p := AWAY N F t < lv) (by rw [← haw]; exact lcmp_lt.mp hcm), Bool.or_true]; rfl), ← haw]) (Or.inr ⟨t, by omega, rfl⟩) _ _ _ hP hD hS (lv_sub hl [4, 5, 2, 1, 0] rfl)
                          · skip
                            refine lv_goto (tgt := 162) hx hb dX10_parting_152 (by decide) ?_
                            refine lv_iinc (v := nI (t + 1)) (lv' := [(6, .int (nI (t + 1))), (9, .long (lAbs ((2 * s2) - v))), (0, .ref (ma 0)), (1, .long v), (3, .int (nI j)), (4, .long lv), (7, .long s2)]) hx hb dX10_parting_162 hl (k := 5) rfl (nI_add t 1) (by decide) rfl (fun ls hl => ?_)
                            refine lv_goto (tgt := 50) hx hb dX10_parting_165 (by decide) ?_
                            exact ih50 (t + 1) (nI j) lv (by omega) (by omega) (by rw [partF, if_neg (by rw [ho, hpt]; dsimp only; rw [decide_eq_false (nI_m9 (show j < 2 ^ 31 by omega)), decide_eq_false (p := AWAY N F t < lv) (by rw [← haw]; exact fun z => hcm (lcmp_lt.mpr z))]; decide)]; exact hpt) (Or.inr ⟨j, hj12, rfl⟩) _ _ _ hP hD hS (lv_sub hl [2, 3, 4, 5, 0] rfl)
                      · skip
                        have hsi := (hFS.2.2.1 i2 (by omega)).1
                        have hrr := RLs_sets hn24 _ (getD_mem (show i2 < (SETS N F).length by omega)) t ht
                        have hx24 := (sm_allS (M := MBL N F) (fa := FAL N F) (fun i => bs_lt12 _ hnt12) hn24 _ (getD_mem (show i2 < (SETS N F).length by omega))).1
                        refine lv_lload hx hb dX10_parting_87 (lv_at hl 5 rfl) ?_
                        refine lv_aload_n hx hb dX10_parting_89 rfl (lv_at hl 0 rfl) ?_
                        refine va_get (C := RX10) (T := TX10) (N := 33) (ci := 10) hx hb hts iX10_parting_10 hown hK.1 hP 0 rfl rfl 21 (Nat.le_of_ble_eq_true rfl) (hts _ mX10_parting_50) (fun _ h9 => h9) rfl dX10_parting_90 ?_
                        refine lv_iload hx hb dX10_parting_93 (lv_at hl 4 rfl) ?_
                        refine k_iald hx hb hK.1 hP 14 0 rfl rfl (by omega) (by decide) dX10_parting_95 ?_
                        refine k_topN hmt.1 ?_
                        refine lv_aload_n hx hb dX10_parting_96 rfl (lv_at hl 0 rfl) ?_
                        refine va_get (C := RX10) (T := TX10) (N := 33) (ci := 10) hx hb hts iX10_parting_10 hown hK.1 hP 0 rfl rfl 28 (Nat.le_of_ble_eq_true rfl) (hts _ mX10_parting_56) (fun _ h9 => h9) rfl dX10_parting_97 ?_
                        refine lv_iload hx hb dX10_parting_100 (lv_at hl 6 rfl) ?_
                        refine k_iald hx hb hK.1 hP 16 0 rfl rfl (by omega) (by decide) dX10_parting_102 ?_
                        refine k_topN hsi ?_
                        refine k_iand hx hb dX10_parting_103 ?_
                        refine k_if_eq (tgt := 117) hx hb dX10_parting_104 (by decide) (by have := MET_lt N F t; exact Nat.lt_of_le_of_lt Nat.and_le_left (by omega)) (fun hz => ?_) (fun hz => ?_)
                        · skip
                          have hbit : ((SETS N F).getD i2 (0, 0)).2.testBit t = false := by rw [hrr, hz]; rfl
                          refine lv_lconst (v := 0) hx hb dX10_parting_117 (by decide) ?_
                          refine lv_ladd hx hb dX10_parting_118 ?_
                          refine lv_lstore (lv' := [(7, .long (s2 + 0)), (0, .ref (ma 0)), (1, .long v), (3, .int bx), (4, .long lv), (6, .int (nI t)), (9, .int (nI i2))]) hx hb dX10_parting_119 hl (by decide) rfl (fun ls hl => ?_)
                          refine lv_iinc (v := nI (i2 + 1)) (lv' := [(9, .int (nI (i2 + 1))), (7, .long (s2 + 0)), (0, .ref (ma 0)), (1, .long v), (3, .int bx), (4, .long lv), (6, .int (nI t))]) hx hb dX10_parting_121 hl (k := 6) rfl (nI_add i2 1) (by decide) rfl (fun ls hl => ?_)
                          refine lv_goto (tgt := 78) hx hb dX10_parting_124 (by decide) ?_
                          exact ih78 (i2 + 1) (s2 + 0) (by omega) (by omega) (by rw [sL, ← hs2, if_neg (by rw [hbit]; decide)]) _ _ _ hP hD hS (lv_sub hl [2, 3, 4, 5, 6, 1, 0] rfl)
                        · skip
                          have hbit : ((SETS N F).getD i2 (0, 0)).2.testBit t = true := by rw [hrr]; exact decide_eq_true hz
                          refine lv_aload_n hx hb dX10_parting_107 rfl (lv_at hl 0 rfl) ?_
                          refine va_get (C := RX10) (T := TX10) (N := 33) (ci := 10) hx hb hts iX10_parting_10 hown hK.1 hP 0 rfl rfl 29 (Nat.le_of_ble_eq_true rfl) (hts _ mX10_parting_59) (fun _ h9 => h9) rfl dX10_parting_108 ?_
                          refine lv_iload hx hb dX10_parting_111 (lv_at hl 6 rfl) ?_
                          refine k_lald hx hb hK.1 hP 17 2 rfl rfl (by omega) (by decide) dX10_parting_113 ?_
                          refine lv_goto (tgt := 118) hx hb dX10_parting_114 (by decide) ?_
                          refine lv_ladd hx hb dX10_parting_118 ?_
                          refine lv_lstore (lv' := [(7, .long (s2 + (L2 i2))), (0, .ref (ma 0)), (1, .long v), (3, .int bx), (4, .long lv), (6, .int (nI t)), (9, .int (nI i2))]) hx hb dX10_parting_119 hl (by decide) rfl (fun ls hl => ?_)
                          refine lv_iinc (v := nI (i2 + 1)) (lv' := [(9, .int (nI (i2 + 1))), (7, .long (s2 + (L2 i2))), (0, .ref (ma 0)), (1, .long v), (3, .int bx), (4, .long lv), (6, .int (nI t))]) hx hb dX10_parting_121 hl (k := 6) rfl (nI_add i2 1) (by decide) rfl (fun ls hl => ?_)
                          refine lv_goto (tgt := 78) hx hb dX10_parting_124 (by decide) ?_
                          exact ih78 (i2 + 1) (s2 + (L2 i2)) (by omega) (by omega) (by rw [sL, ← hs2, if_pos hbit, (hFS.2.2.1 i2 (by omega)).2]) _ _ _ hP hD hS (lv_sub hl [2, 3, 4, 5, 6, 1, 0] rfl)
                  exact L78 (M2 9 + 1) 0 0 (by omega) (by omega) (rfl) _ _ _ hP hD hS (lv_sub hl [2, 3, 4, 5, 6, 1, 0] rfl)
                · skip
                  refine k_topN (j := 0) (by rw [hop, ho]; rfl) ?_
                  refine k_if_ne_f (tgt := 72) hx hb dX10_parting_66 (by decide) (by decide) ?_
                  refine lv_goto (tgt := 162) hx hb dX10_parting_69 (by decide) ?_
                  refine lv_iinc (v := nI (t + 1)) (lv' := [(6, .int (nI (t + 1))), (0, .ref (ma 0)), (1, .long v), (3, .int bx), (4, .long lv)]) hx hb dX10_parting_162 hl (k := 4) rfl (nI_add t 1) (by decide) rfl (fun ls hl => ?_)
                  refine lv_goto (tgt := 50) hx hb dX10_parting_165 (by decide) ?_
                  exact ih50 (t + 1) bx lv (by omega) (by omega) (by rw [partF, if_neg (by rw [ho, Bool.false_and]; decide)]; exact hpt) (hbx) _ _ _ hP hD hS (lv_sub hl [1, 2, 3, 4, 0] rfl)
          exact L50 (N 3 + 1) 0 (-9) 0 (by omega) (by omega) (rfl) (Or.inl rfl) _ _ _ hP hD hS (lv_sub hl [3, 4, 2, 1, 0] rfl)
        · skip
          refine lv_lload_n hx hb dX10_parting_26 rfl (lv_at hl 1 rfl) ?_
          refine lv_aload_n hx hb dX10_parting_27 rfl (lv_at hl 0 rfl) ?_
          refine va_get (C := RX10) (T := TX10) (N := 33) (ci := 10) hx hb hts iX10_parting_10 hown hK.1 hP 0 rfl rfl 29 (Nat.le_of_ble_eq_true rfl) (hts _ mX10_parting_59) (fun _ h9 => h9) rfl dX10_parting_28 ?_
          refine lv_iload_n hx hb dX10_parting_31 rfl (lv_at hl 2 rfl) ?_
          refine k_lald hx hb hK.1 hP 17 2 rfl rfl (by omega) (by decide) dX10_parting_32 ?_
          refine lv_ladd hx hb dX10_parting_33 ?_
          refine lv_lstore_n (lv' := [(1, .long (v + (L2 i))), (0, .ref (ma 0)), (3, .int (nI i))]) hx hb dX10_parting_34 rfl hl (by decide) rfl (fun ls hl => ?_)
          refine lv_iinc (v := nI (i + 1)) (lv' := [(3, .int (nI (i + 1))), (1, .long (v + (L2 i))), (0, .ref (ma 0))]) hx hb dX10_parting_35 hl (k := 2) rfl (nI_add i 1) (by decide) rfl (fun ls hl => ?_)
          refine lv_goto (tgt := 18) hx hb dX10_parting_38 (by decide) ?_
          exact ih18 (i + 1) (v + (L2 i)) (by omega) (by omega) (by rw [sL, ← hv, (hFS.2.2.1 i (by omega)).2]) _ _ _ hP hD hS (lv_sub hl [2, 1, 0] rfl)
    exact L18 (M2 9 + 1) 0 0 (by omega) (by omega) (rfl) _ _ _ hP hD hS (lv_sub hl [2, 1, 0] rfl)
  · skip
    refine lv_bipush (v := (-9)) hx hb dX10_parting_11 (by decide) ?_
    exact hret _ _ _ _ _ (rf, M2, C2, E2, L2) dX10_parting_13 (⟨by unfold ansPart; rw [if_pos (by omega)], rfl⟩) hP hD hS

theorem cnt_lo {w : Int32} (h : w ≤ nI 10) : (decide (nI 11 ≤ w) && decide (w ≤ nI 16)) = false := by
  have a := Int32.le_iff_toInt_le.mp h
  rw [nI_toInt (by decide)] at a
  rw [decide_eq_false (fun z => by have b := Int32.le_iff_toInt_le.mp z; rw [nI_toInt (by decide)] at b; omega)]; rfl
theorem cnt_hi {w : Int32} (h : nI 17 ≤ w) : (decide (nI 11 ≤ w) && decide (w ≤ nI 16)) = false := by
  have a := Int32.le_iff_toInt_le.mp h
  rw [nI_toInt (by decide)] at a
  rw [decide_eq_false (p := w ≤ nI 16) (fun z => by have b := Int32.le_iff_toInt_le.mp z; rw [nI_toInt (by decide)] at b; omega), Bool.and_false]
theorem cnt_jj {w : Int32} (h1 : ¬ w ≤ nI 10) (h2 : ¬ nI 17 ≤ w) : ∃ j, 11 ≤ j ∧ j ≤ 16 ∧ w = nI j := by
  have a1 := Int32.lt_iff_toInt_lt.mp (Int32.not_le.mp h1)
  have a2 := Int32.lt_iff_toInt_lt.mp (Int32.not_le.mp h2)
  rw [nI_toInt (by decide)] at a1 a2
  refine cnt_j (fun z => ?_) ?_
  · have := Int32.lt_iff_toInt_lt.mp z
    rw [nI_toInt (by decide)] at this; omega
  · rw [Int32.le_iff_toInt_le, nI_toInt (by decide)]; omega
theorem iX10_count_10 : ∀ w ∈ wsX100, w ∈ wsX10_count := by decide +kernel
theorem mX10_count_7 : Cond.fieldLink RX10 7 "LineFinderModel" "refusals" "[I" ∈ wsX10_count := List.mem_of_getElem? (i := 1) rfl
theorem mX10_count_34 : Cond.fieldLink RX10 34 "LineFinderModel" "isOpen" "[Z" ∈ wsX10_count := List.mem_of_getElem? (i := 6) rfl
theorem mX10_count_82 : Cond.fieldLink RX10 82 "LineFinderModel" "changes" "I" ∈ wsX10_count := List.mem_of_getElem? (i := 7) rfl
theorem mX10_count_85 : Cond.fieldLink RX10 85 "LineFinderModel" "lines" "I" ∈ wsX10_count := List.mem_of_getElem? (i := 2) rfl
theorem mX10_count_100 : Cond.fieldLink RX10 100 "LineFinderModel" "tests" "I" ∈ wsX10_count := List.mem_of_getElem? (i := 3) rfl
theorem mX10_count_143 : Cond.fieldLink RX10 143 "LineFinderModel" "failing" "I" ∈ wsX10_count := List.mem_of_getElem? (i := 4) rfl
theorem mX10_count_146 : Cond.fieldLink RX10 146 "LineFinderModel" "passing" "I" ∈ wsX10_count := List.mem_of_getElem? (i := 5) rfl
theorem mX10_count_149 : Cond.fieldLink RX10 149 "LineFinderModel" "cuts" "I" ∈ wsX10_count := List.mem_of_getElem? (i := 8) rfl
abbrev rCX10_count : Room := { frames := 4, cells := 0, slots := 0, locals := 96 }
set_option maxHeartbeats 4000000 in
set_option maxRecDepth 100000 in
theorem CX10_count (jl : Launch) (G : va_G) (cI cZ cJ : ClassId) (ma : Nat → Nat) (N : Nat → Nat) (F : Nat → Fn) (rf T X B : Fn) (M : Nat → Nat) (C : Int32) (E : Nat → Fn) (L : Nat → Int64) (hLA : LA N F) (hMR : MR N F T X B) (hrf : rf = F 28) (w : Int32) : Ki jl yX10_count wsX10_count rCX10_count G cI cZ cJ [.ref (ma 0), .int w] [oB (ma 0) 10 [.ref (ma 1), .int (nI (N 0)), .int (nI (N 3)), .int (nI (N 1)), .int (nI (M 0)), .ref (ma 2), .ref (ma 3), .ref (ma 4), .ref (ma 5), .ref (ma 6), .ref (ma 7), .ref (ma 8), .ref (ma 9), .ref (ma 10), .ref (ma 11), .ref (ma 12), .ref (ma 13), .int (nI (M 1)), .int (nI (M 2)), .int (nI (M 3)), .int C, .ref (ma 14), .ref (ma 15), .int (nI (M 4)), .int (nI (M 5)), .int (nI (M 6)), .int (nI (M 7)), .int (nI (M 8)), .ref (ma 16), .ref (ma 17), .int (nI (M 9)), .ref (ma 18), .int (nI (M 10))], aI cI (ma 1) 7 rf, aI cI (ma 2) 96 T, aI cI (ma 3) 96 (E 0), aI cI (ma 4) 100 X, aI cI (ma 5) 24 (F 27), aI cI (ma 6) 48 (F 17), aI cI (ma 7) 72 (F 18), aI cI (ma 8) 12 (F 19), aI cZ (ma 9) 12 B, aI cI (ma 10) 300 (E 1), aI cI (ma 11) 6 (E 2), aI cI (ma 12) 6 (E 3), aI cI (ma 13) 8 (E 4), aI cI (ma 14) 12 (E 5), aI cZ (ma 15) 12 (E 6), aI cI (ma 16) 2400 (E 7), aJ cJ (ma 17) 2400 L, aI cZ (ma 18) 300 (E 8)] (S := Fn × (Nat → Nat) × Int32 × (Nat → Fn) × (Nat → Int64)) (fun (r : Int32) (u : Fn × (Nat → Nat) × Int32 × (Nat → Fn) × (Nat → Int64)) => match u with | (rf1, M1, C1, E1, L1) => r = ansCount N F w ∧ rf1 = rf) (fun (u : Fn × (Nat → Nat) × Int32 × (Nat → Fn) × (Nat → Int64)) => match u with | (rf1, M1, C1, E1, L1) => [oB (ma 0) 10 [.ref (ma 1), .int (nI (N 0)), .int (nI (N 3)), .int (nI (N 1)), .int (nI (M1 0)), .ref (ma 2), .ref (ma 3), .ref (ma 4), .ref (ma 5), .ref (ma 6), .ref (ma 7), .ref (ma 8), .ref (ma 9), .ref (ma 10), .ref (ma 11), .ref (ma 12), .ref (ma 13), .int (nI (M1 1)), .int (nI (M1 2)), .int (nI (M1 3)), .int C1, .ref (ma 14), .ref (ma 15), .int (nI (M1 4)), .int (nI (M1 5)), .int (nI (M1 6)), .int (nI (M1 7)), .int (nI (M1 8)), .ref (ma 16), .ref (ma 17), .int (nI (M1 9)), .ref (ma 18), .int (nI (M1 10))], aI cI (ma 1) 7 rf1, aI cI (ma 2) 96 T, aI cI (ma 3) 96 (E1 0), aI cI (ma 4) 100 X, aI cI (ma 5) 24 (F 27), aI cI (ma 6) 48 (F 17), aI cI (ma 7) 72 (F 18), aI cI (ma 8) 12 (F 19), aI cZ (ma 9) 12 B, aI cI (ma 10) 300 (E1 1), aI cI (ma 11) 6 (E1 2), aI cI (ma 12) 6 (E1 3), aI cI (ma 13) 8 (E1 4), aI cI (ma 14) 12 (E1 5), aI cZ (ma 15) 12 (E1 6), aI cI (ma 16) 2400 (E1 7), aJ cJ (ma 17) 2400 L1, aI cZ (ma 18) 300 (E1 8)]) := by
  refine Ki.of (cc := cX10_count) (maxL := 4) (by decide +kernel) rfl (Nat.le_of_ble_eq_true rfl) ?_
  intro jp je js jm ja jb jt jc jA jQ ls cx hnm hP hD hS hl hret
  obtain ⟨hx, hb, hml, hown, hts, hK, hA⟩ := id cx
  have hl : lv_has ls 4 [(0, .ref (ma 0)), (1, .int w)] := hl
  obtain ⟨H, hH⟩ : ∃ H, H = js.heap := ⟨_, rfl⟩
  obtain ⟨locs, hlocs⟩ : ∃ z : List Loc, z = [] := ⟨_, rfl⟩
  have hP : va_P G vwCl [oB (ma 0) 10 [.ref (ma 1), .int (nI (N 0)), .int (nI (N 3)), .int (nI (N 1)), .int (nI (M 0)), .ref (ma 2), .ref (ma 3), .ref (ma 4), .ref (ma 5), .ref (ma 6), .ref (ma 7), .ref (ma 8), .ref (ma 9), .ref (ma 10), .ref (ma 11), .ref (ma 12), .ref (ma 13), .int (nI (M 1)), .int (nI (M 2)), .int (nI (M 3)), .int C, .ref (ma 14), .ref (ma 15), .int (nI (M 4)), .int (nI (M 5)), .int (nI (M 6)), .int (nI (M 7)), .int (nI (M 8)), .ref (ma 16), .ref (ma 17), .int (nI (M 9)), .ref (ma 18), .int (nI (M 10))], aI cI (ma 1) 7 rf, aI cI (ma 2) 96 T, aI cI (ma 3) 96 (E 0), aI cI (ma 4) 100 X, aI cI (ma 5) 24 (F 27), aI cI (ma 6) 48 (F 17), aI cI (ma 7) 72 (F 18), aI cI (ma 8) 12 (F 19), aI cZ (ma 9) 12 B, aI cI (ma 10) 300 (E 1), aI cI (ma 11) 6 (E 2), aI cI (ma 12) 6 (E 3), aI cI (ma 13) 8 (E 4), aI cI (ma 14) 12 (E 5), aI cZ (ma 15) 12 (E 6), aI cI (ma 16) 2400 (E 7), aJ cJ (ma 17) 2400 L, aI cZ (ma 18) 300 (E 8)] H := by rw [hH]; exact hP
  have hS : va_S jA js.heap H locs := by rw [hH, hlocs]; exact hS
  rw [← hlocs]; rw [show W jp jl je rCX10_count js jm ja jb jt jc js.heap locs 0 0 jQ (F0 jm 0 ls []) = W jp jl je rCX10_count js jm ja jb jt jc H locs 0 0 jQ (F0 jm 0 ls []) by rw [hH]]
  clear hH hlocs
  obtain ⟨hn24, hc20, hnt12, hob2, hokT, hokN, hokC, hver, hlen7, hpri⟩ := id hLA
  refine lv_iload_n hx hb dX10_count_0 rfl (lv_at hl 1 rfl) ?_
  refine lv_bipush (v := nI 10) hx hb dX10_count_1 (by decide) ?_
  refine lv_icmp_le (tgt := 22) hx hb dX10_count_3 (by decide) (fun h10 => ?_) (fun h10 => ?_)
  · skip
    have hno : (decide (nI 11 ≤ w) && decide (w ≤ nI 16)) = false := cnt_lo h10
    refine lv_iconst (v := nI 0) hx hb dX10_count_22 (by decide) ?_
    refine lv_istore_n (lv' := [(2, .int (nI 0)), (0, .ref (ma 0)), (1, .int w)]) hx hb dX10_count_23 rfl hl (by decide) rfl (fun ls hl => ?_)
    refine lv_iload_n hx hb dX10_count_24 rfl (lv_at hl 2 rfl) ?_
    rcases Bool.eq_false_or_eq_true (inR w 7) with hw7 | hw7
    · skip
      obtain ⟨j, hj, rfl⟩ := inR_ix hw7
      rcases (show j = 0 ∨ j = 1 ∨ j = 2 ∨ j = 3 ∨ j = 4 ∨ j = 5 ∨ j = 6 by omega) with rfl | rfl | rfl | rfl | rfl | rfl | rfl
      · skip
        refine lv_tableIn (tgt := 68) (off := 43) hx hb dX10_count_25 (by decide) (by decide) (by decide) (by decide) ?_
        refine lv_aload_n hx hb dX10_count_68 rfl (lv_at hl 1 rfl) ?_
        refine va_get (C := RX10) (T := TX10) (N := 33) (ci := 10) hx hb hts iX10_count_10 hown hK.1 hP 0 rfl rfl 1 (Nat.le_of_ble_eq_true rfl) (hts _ mX10_count_85) (fun _ h9 => h9) rfl dX10_count_69 ?_
        exact hret _ _ _ _ _ (rf, M, C, E, L) dX10_count_72 (⟨rfl, rfl⟩) hP hD hS
      · skip
        refine lv_tableIn (tgt := 73) (off := 48) hx hb dX10_count_25 (by decide) (by decide) (by decide) (by decide) ?_
        refine lv_aload_n hx hb dX10_count_73 rfl (lv_at hl 1 rfl) ?_
        refine va_get (C := RX10) (T := TX10) (N := 33) (ci := 10) hx hb hts iX10_count_10 hown hK.1 hP 0 rfl rfl 2 (Nat.le_of_ble_eq_true rfl) (hts _ mX10_count_100) (fun _ h9 => h9) rfl dX10_count_74 ?_
        exact hret _ _ _ _ _ (rf, M, C, E, L) dX10_count_77 (⟨rfl, rfl⟩) hP hD hS
      · skip
        refine lv_tableIn (tgt := 78) (off := 53) hx hb dX10_count_25 (by decide) (by decide) (by decide) (by decide) ?_
        refine lv_aload_n hx hb dX10_count_78 rfl (lv_at hl 1 rfl) ?_
        refine Kv.callV (wr := []) (rest := []) (CX10_gathers jl G cI cZ cJ ma N F rf T X B M C E L hLA hMR) cx hP hD hS hl [0, 1, 2, 3, 4, 5, 6, 7, 8, 9, 10, 11, 12, 13, 14, 15, 16, 17, 18] [] (ci := 10) (q0 := 0) gX10_count_X10_gathers hdX10_gathers rfl rfl rfl ⟨Nat.le_of_ble_eq_true rfl, Nat.le_of_ble_eq_true rfl⟩ rfl rfl (by decide) (by decide) (by decide) dX10_count_79 rfl rfl (Nat.le_of_ble_eq_true rfl) ⟨Nat.le_of_ble_eq_true rfl, Nat.le_of_ble_eq_true rfl⟩ (fun u H locs hwg hP hD hS => ?_)
        obtain ⟨M2, C2, E2⟩ := u
        try dsimp only at hwg
        have hP : va_P G vwCl [oB (ma 0) 10 [.ref (ma 1), .int (nI (N 0)), .int (nI (N 3)), .int (nI (N 1)), .int (nI (M2 0)), .ref (ma 2), .ref (ma 3), .ref (ma 4), .ref (ma 5), .ref (ma 6), .ref (ma 7), .ref (ma 8), .ref (ma 9), .ref (ma 10), .ref (ma 11), .ref (ma 12), .ref (ma 13), .int (nI (M2 1)), .int (nI (M2 2)), .int (nI (M2 3)), .int C2, .ref (ma 14), .ref (ma 15), .int (nI (M2 4)), .int (nI (M2 5)), .int (nI (M2 6)), .int (nI (M2 7)), .int (nI (M2 8)), .ref (ma 16), .ref (ma 17), .int (nI (M2 9)), .ref (ma 18), .int (nI (M2 10))], aI cI (ma 1) 7 rf, aI cI (ma 2) 96 T, aI cI (ma 3) 96 (E2 0), aI cI (ma 4) 100 X, aI cI (ma 5) 24 (F 27), aI cI (ma 6) 48 (F 17), aI cI (ma 7) 72 (F 18), aI cI (ma 8) 12 (F 19), aI cZ (ma 9) 12 B, aI cI (ma 10) 300 (E2 1), aI cI (ma 11) 6 (E2 2), aI cI (ma 12) 6 (E2 3), aI cI (ma 13) 8 (E2 4), aI cI (ma 14) 12 (E2 5), aI cZ (ma 15) 12 (E2 6), aI cI (ma 16) 2400 (E2 7), aJ cJ (ma 17) 2400 L, aI cZ (ma 18) 300 (E2 8)] H := hP
        have hD : va_D jA [oB (ma 0) 10 [.ref (ma 1), .int (nI (N 0)), .int (nI (N 3)), .int (nI (N 1)), .int (nI (M2 0)), .ref (ma 2), .ref (ma 3), .ref (ma 4), .ref (ma 5), .ref (ma 6), .ref (ma 7), .ref (ma 8), .ref (ma 9), .ref (ma 10), .ref (ma 11), .ref (ma 12), .ref (ma 13), .int (nI (M2 1)), .int (nI (M2 2)), .int (nI (M2 3)), .int C2, .ref (ma 14), .ref (ma 15), .int (nI (M2 4)), .int (nI (M2 5)), .int (nI (M2 6)), .int (nI (M2 7)), .int (nI (M2 8)), .ref (ma 16), .ref (ma 17), .int (nI (M2 9)), .ref (ma 18), .int (nI (M2 10))], aI cI (ma 1) 7 rf, aI cI (ma 2) 96 T, aI cI (ma 3) 96 (E2 0), aI cI (ma 4) 100 X, aI cI (ma 5) 24 (F 27), aI cI (ma 6) 48 (F 17), aI cI (ma 7) 72 (F 18), aI cI (ma 8) 12 (F 19), aI cZ (ma 9) 12 B, aI cI (ma 10) 300 (E2 1), aI cI (ma 11) 6 (E2 2), aI cI (ma 12) 6 (E2 3), aI cI (ma 13) 8 (E2 4), aI cI (ma 14) 12 (E2 5), aI cZ (ma 15) 12 (E2 6), aI cI (ma 16) 2400 (E2 7), aJ cJ (ma 17) 2400 L, aI cZ (ma 18) 300 (E2 8)] := hD
        refine lv_aload_n hx hb dX10_count_82 rfl (lv_at hl 1 rfl) ?_
        refine va_get (C := RX10) (T := TX10) (N := 33) (ci := 10) hx hb hts iX10_count_10 hown hK.1 hP 0 rfl rfl 23 (Nat.le_of_ble_eq_true rfl) (hts _ mX10_count_143) (fun _ h9 => h9) rfl dX10_count_83 ?_
        exact hret _ _ _ _ _ (rf, M2, C2, E2, L) dX10_count_86 (⟨congrArg nI hwg.1.1, rfl⟩) hP hD hS
      · skip
        refine lv_tableIn (tgt := 87) (off := 62) hx hb dX10_count_25 (by decide) (by decide) (by decide) (by decide) ?_
        refine lv_aload_n hx hb dX10_count_87 rfl (lv_at hl 1 rfl) ?_
        refine Kv.callV (wr := []) (rest := []) (CX10_gathers jl G cI cZ cJ ma N F rf T X B M C E L hLA hMR) cx hP hD hS hl [0, 1, 2, 3, 4, 5, 6, 7, 8, 9, 10, 11, 12, 13, 14, 15, 16, 17, 18] [] (ci := 10) (q0 := 0) gX10_count_X10_gathers hdX10_gathers rfl rfl rfl ⟨Nat.le_of_ble_eq_true rfl, Nat.le_of_ble_eq_true rfl⟩ rfl rfl (by decide) (by decide) (by decide) dX10_count_88 rfl rfl (Nat.le_of_ble_eq_true rfl) ⟨Nat.le_of_ble_eq_true rfl, Nat.le_of_ble_eq_true rfl⟩ (fun u H locs hwg hP hD hS => ?_)
        obtain ⟨M2, C2, E2⟩ := u
        try dsimp only at hwg
        have hP : va_P G vwCl [oB (ma 0) 10 [.ref (ma 1), .int (nI (N 0)), .int (nI (N 3)), .int (nI (N 1)), .int (nI (M2 0)), .ref (ma 2), .ref (ma 3), .ref (ma 4), .ref (ma 5), .ref (ma 6), .ref (ma 7), .ref (ma 8), .ref (ma 9), .ref (ma 10), .ref (ma 11), .ref (ma 12), .ref (ma 13), .int (nI (M2 1)), .int (nI (M2 2)), .int (nI (M2 3)), .int C2, .ref (ma 14), .ref (ma 15), .int (nI (M2 4)), .int (nI (M2 5)), .int (nI (M2 6)), .int (nI (M2 7)), .int (nI (M2 8)), .ref (ma 16), .ref (ma 17), .int (nI (M2 9)), .ref (ma 18), .int (nI (M2 10))], aI cI (ma 1) 7 rf, aI cI (ma 2) 96 T, aI cI (ma 3) 96 (E2 0), aI cI (ma 4) 100 X, aI cI (ma 5) 24 (F 27), aI cI (ma 6) 48 (F 17), aI cI (ma 7) 72 (F 18), aI cI (ma 8) 12 (F 19), aI cZ (ma 9) 12 B, aI cI (ma 10) 300 (E2 1), aI cI (ma 11) 6 (E2 2), aI cI (ma 12) 6 (E2 3), aI cI (ma 13) 8 (E2 4), aI cI (ma 14) 12 (E2 5), aI cZ (ma 15) 12 (E2 6), aI cI (ma 16) 2400 (E2 7), aJ cJ (ma 17) 2400 L, aI cZ (ma 18) 300 (E2 8)] H := hP
        have hD : va_D jA [oB (ma 0) 10 [.ref (ma 1), .int (nI (N 0)), .int (nI (N 3)), .int (nI (N 1)), .int (nI (M2 0)), .ref (ma 2), .ref (ma 3), .ref (ma 4), .ref (ma 5), .ref (ma 6), .ref (ma 7), .ref (ma 8), .ref (ma 9), .ref (ma 10), .ref (ma 11), .ref (ma 12), .ref (ma 13), .int (nI (M2 1)), .int (nI (M2 2)), .int (nI (M2 3)), .int C2, .ref (ma 14), .ref (ma 15), .int (nI (M2 4)), .int (nI (M2 5)), .int (nI (M2 6)), .int (nI (M2 7)), .int (nI (M2 8)), .ref (ma 16), .ref (ma 17), .int (nI (M2 9)), .ref (ma 18), .int (nI (M2 10))], aI cI (ma 1) 7 rf, aI cI (ma 2) 96 T, aI cI (ma 3) 96 (E2 0), aI cI (ma 4) 100 X, aI cI (ma 5) 24 (F 27), aI cI (ma 6) 48 (F 17), aI cI (ma 7) 72 (F 18), aI cI (ma 8) 12 (F 19), aI cZ (ma 9) 12 B, aI cI (ma 10) 300 (E2 1), aI cI (ma 11) 6 (E2 2), aI cI (ma 12) 6 (E2 3), aI cI (ma 13) 8 (E2 4), aI cI (ma 14) 12 (E2 5), aI cZ (ma 15) 12 (E2 6), aI cI (ma 16) 2400 (E2 7), aJ cJ (ma 17) 2400 L, aI cZ (ma 18) 300 (E2 8)] := hD
        refine lv_aload_n hx hb dX10_count_91 rfl (lv_at hl 1 rfl) ?_
        refine va_get (C := RX10) (T := TX10) (N := 33) (ci := 10) hx hb hts iX10_count_10 hown hK.1 hP 0 rfl rfl 24 (Nat.le_of_ble_eq_true rfl) (hts _ mX10_count_146) (fun _ h9 => h9) rfl dX10_count_92 ?_
        exact hret _ _ _ _ _ (rf, M2, C2, E2, L) dX10_count_95 (⟨congrArg nI hwg.1.2.1, rfl⟩) hP hD hS
      · skip
        refine lv_tableIn (tgt := 96) (off := 71) hx hb dX10_count_25 (by decide) (by decide) (by decide) (by decide) ?_
        refine lv_iconst (v := nI 0) hx hb dX10_count_96 (by decide) ?_
        refine lv_istore_n (lv' := [(3, .int (nI 0)), (2, .int (nI 0)), (0, .ref (ma 0)), (1, .int (nI 4))]) hx hb dX10_count_97 rfl hl (by decide) rfl (fun ls hl => ?_)
        have L98 : ∀ (fu : Nat), ∀ (t : Nat), ∀ (m : Nat), (N 3 < t + fu) → (t ≤ N 3) → (m = ct (fun t => (N 2).testBit t) t) → ∀ (H : Heap) (locs : List Loc) (ls : Array Slot), va_P G vwCl [oB (ma 0) 10 [.ref (ma 1), .int (nI (N 0)), .int (nI (N 3)), .int (nI (N 1)), .int (nI (M 0)), .ref (ma 2), .ref (ma 3), .ref (ma 4), .ref (ma 5), .ref (ma 6), .ref (ma 7), .ref (ma 8), .ref (ma 9), .ref (ma 10), .ref (ma 11), .ref (ma 12), .ref (ma 13), .int (nI (M 1)), .int (nI (M 2)), .int (nI (M 3)), .int C, .ref (ma 14), .ref (ma 15), .int (nI (M 4)), .int (nI (M 5)), .int (nI (M 6)), .int (nI (M 7)), .int (nI (M 8)), .ref (ma 16), .ref (ma 17), .int (nI (M 9)), .ref (ma 18), .int (nI (M 10))], aI cI (ma 1) 7 rf, aI cI (ma 2) 96 T, aI cI (ma 3) 96 (E 0), aI cI (ma 4) 100 X, aI cI (ma 5) 24 (F 27), aI cI (ma 6) 48 (F 17), aI cI (ma 7) 72 (F 18), aI cI (ma 8) 12 (F 19), aI cZ (ma 9) 12 B, aI cI (ma 10) 300 (E 1), aI cI (ma 11) 6 (E 2), aI cI (ma 12) 6 (E 3), aI cI (ma 13) 8 (E 4), aI cI (ma 14) 12 (E 5), aI cZ (ma 15) 12 (E 6), aI cI (ma 16) 2400 (E 7), aJ cJ (ma 17) 2400 L, aI cZ (ma 18) 300 (E 8)] H → va_D jA [oB (ma 0) 10 [.ref (ma 1), .int (nI (N 0)), .int (nI (N 3)), .int (nI (N 1)), .int (nI (M 0)), .ref (ma 2), .ref (ma 3), .ref (ma 4), .ref (ma 5), .ref (ma 6), .ref (ma 7), .ref (ma 8), .ref (ma 9), .ref (ma 10), .ref (ma 11), .ref (ma 12), .ref (ma 13), .int (nI (M 1)), .int (nI (M 2)), .int (nI (M 3)), .int C, .ref (ma 14), .ref (ma 15), .int (nI (M 4)), .int (nI (M 5)), .int (nI (M 6)), .int (nI (M 7)), .int (nI (M 8)), .ref (ma 16), .ref (ma 17), .int (nI (M 9)), .ref (ma 18), .int (nI (M 10))], aI cI (ma 1) 7 rf, aI cI (ma 2) 96 T, aI cI (ma 3) 96 (E 0), aI cI (ma 4) 100 X, aI cI (ma 5) 24 (F 27), aI cI (ma 6) 48 (F 17), aI cI (ma 7) 72 (F 18), aI cI (ma 8) 12 (F 19), aI cZ (ma 9) 12 B, aI cI (ma 10) 300 (E 1), aI cI (ma 11) 6 (E 2), aI cI (ma 12) 6 (E 3), aI cI (ma 13) 8 (E 4), aI cI (ma 14) 12 (E 5), aI cZ (ma 15) 12 (E 6), aI cI (ma 16) 2400 (E 7), aJ cJ (ma 17) 2400 L, aI cZ (ma 18) 300 (E 8)] → va_S jA js.heap H locs → lv_has ls 4 [(0, .ref (ma 0)), (2, .int (nI m)), (3, .int (nI t))] → W jp jl je rCX10_count js jm ja jb jt jc H locs 0 0 jQ (F0 jm 98 ls []) := by
          intro fu
          induction fu with
          | zero =>
            intro t m hfu hT hm H locs ls hP hD hS hl
            exact absurd hfu (by omega)
          | succ fu ih98 =>
            intro t m hfu hT hm H locs ls hP hD hS hl
            refine lv_iload_n hx hb dX10_count_98 rfl (lv_at hl 2 rfl) ?_
            refine lv_aload_n hx hb dX10_count_99 rfl (lv_at hl 0 rfl) ?_
            refine va_get (C := RX10) (T := TX10) (N := 33) (ci := 10) hx hb hts iX10_count_10 hown hK.1 hP 0 rfl rfl 2 (Nat.le_of_ble_eq_true rfl) (hts _ mX10_count_100) (fun _ h9 => h9) rfl dX10_count_100 ?_
            refine k_cmp_ge (tgt := 129) hx hb dX10_count_103 (by decide) (by omega) (by omega) (fun ht => ?_) (fun ht => ?_)
            · skip
              refine lv_iload_n hx hb dX10_count_129 rfl (lv_at hl 1 rfl) ?_
              exact hret _ _ _ _ _ (rf, M, C, E, L) dX10_count_130 (⟨by rw [hm, show t = N 3 by omega, ← open_ct hLA]; rfl, rfl⟩) hP hD hS
            · skip
              have hop := hMR.2.2 t (by omega)
              refine lv_iload_n hx hb dX10_count_106 rfl (lv_at hl 1 rfl) ?_
              refine lv_aload_n hx hb dX10_count_107 rfl (lv_at hl 0 rfl) ?_
              refine va_get (C := RX10) (T := TX10) (N := 33) (ci := 10) hx hb hts iX10_count_10 hown hK.1 hP 0 rfl rfl 12 (Nat.le_of_ble_eq_true rfl) (hts _ mX10_count_34) (fun _ h9 => h9) rfl dX10_count_108 ?_
              refine lv_iload_n hx hb dX10_count_111 rfl (lv_at hl 2 rfl) ?_
              refine k_zald hx hb hK.1 hP 9 1 rfl rfl (by omega) (by decide) dX10_count_112 ?_
              rcases Bool.eq_false_or_eq_true ((fun t => (N 2).testBit t) t) with ho | ho
              · skip
                refine k_topN (j := 1) (by rw [hop]; dsimp only at ho; rw [ho]; rfl) ?_
                refine k_if_eq_f (tgt := 120) hx hb dX10_count_113 (by decide) (by decide) ?_
                refine lv_iconst (v := nI 1) hx hb dX10_count_116 (by decide) ?_
                refine lv_goto (tgt := 121) hx hb dX10_count_117 (by decide) ?_
                refine k_iadd hx hb dX10_count_121 ?_
                refine lv_istore_n (lv' := [(2, .int (nI (m + 1))), (0, .ref (ma 0)), (3, .int (nI t))]) hx hb dX10_count_122 rfl hl (by decide) rfl (fun ls hl => ?_)
                refine lv_iinc (v := nI (t + 1)) (lv' := [(3, .int (nI (t + 1))), (2, .int (nI (m + 1))), (0, .ref (ma 0))]) hx hb dX10_count_123 hl (k := 2) rfl (nI_add t 1) (by decide) rfl (fun ls hl => ?_)
                refine lv_goto (tgt := 98) hx hb dX10_count_126 (by decide) ?_
                exact ih98 (t + 1) (m + 1) (by omega) (by omega) (by rw [ct_y (p := fun t => (N 2).testBit t) (n := t) ho]; omega) _ _ _ hP hD hS (lv_sub hl [2, 1, 0] rfl)
              · skip
                refine k_topN (j := 0) (by rw [hop]; dsimp only at ho; rw [ho]; rfl) ?_
                refine k_if_eq_t (tgt := 120) hx hb dX10_count_113 (by decide) (by decide) ?_
                refine lv_iconst (v := nI 0) hx hb dX10_count_120 (by decide) ?_
                refine k_iadd hx hb dX10_count_121 ?_
                refine lv_istore_n (lv' := [(2, .int (nI (m + 0))), (0, .ref (ma 0)), (3, .int (nI t))]) hx hb dX10_count_122 rfl hl (by decide) rfl (fun ls hl => ?_)
                refine lv_iinc (v := nI (t + 1)) (lv' := [(3, .int (nI (t + 1))), (2, .int (nI (m + 0))), (0, .ref (ma 0))]) hx hb dX10_count_123 hl (k := 2) rfl (nI_add t 1) (by decide) rfl (fun ls hl => ?_)
                refine lv_goto (tgt := 98) hx hb dX10_count_126 (by decide) ?_
                exact ih98 (t + 1) (m + 0) (by omega) (by omega) (by rw [ct_n (p := fun t => (N 2).testBit t) (n := t) ho]; omega) _ _ _ hP hD hS (lv_sub hl [2, 1, 0] rfl)
        exact L98 (N 3 + 1) 0 0 (by omega) (by omega) (rfl) _ _ _ hP hD hS (lv_sub hl [2, 1, 0] rfl)
      · skip
        refine lv_tableIn (tgt := 131) (off := 106) hx hb dX10_count_25 (by decide) (by decide) (by decide) (by decide) ?_
        refine lv_aload_n hx hb dX10_count_131 rfl (lv_at hl 1 rfl) ?_
        refine va_get (C := RX10) (T := TX10) (N := 33) (ci := 10) hx hb hts iX10_count_10 hown hK.1 hP 0 rfl rfl 3 (Nat.le_of_ble_eq_true rfl) (hts _ mX10_count_82) (fun _ h9 => h9) rfl dX10_count_132 ?_
        exact hret _ _ _ _ _ (rf, M, C, E, L) dX10_count_135 (⟨rfl, rfl⟩) hP hD hS
      · skip
        refine lv_tableIn (tgt := 136) (off := 111) hx hb dX10_count_25 (by decide) (by decide) (by decide) (by decide) ?_
        refine lv_aload_n hx hb dX10_count_136 rfl (lv_at hl 1 rfl) ?_
        refine Kv.callV (wr := []) (rest := []) (CX10_gathers jl G cI cZ cJ ma N F rf T X B M C E L hLA hMR) cx hP hD hS hl [0, 1, 2, 3, 4, 5, 6, 7, 8, 9, 10, 11, 12, 13, 14, 15, 16, 17, 18] [] (ci := 10) (q0 := 0) gX10_count_X10_gathers hdX10_gathers rfl rfl rfl ⟨Nat.le_of_ble_eq_true rfl, Nat.le_of_ble_eq_true rfl⟩ rfl rfl (by decide) (by decide) (by decide) dX10_count_137 rfl rfl (Nat.le_of_ble_eq_true rfl) ⟨Nat.le_of_ble_eq_true rfl, Nat.le_of_ble_eq_true rfl⟩ (fun u H locs hwg hP hD hS => ?_)
        obtain ⟨M2, C2, E2⟩ := u
        try dsimp only at hwg
        have hP : va_P G vwCl [oB (ma 0) 10 [.ref (ma 1), .int (nI (N 0)), .int (nI (N 3)), .int (nI (N 1)), .int (nI (M2 0)), .ref (ma 2), .ref (ma 3), .ref (ma 4), .ref (ma 5), .ref (ma 6), .ref (ma 7), .ref (ma 8), .ref (ma 9), .ref (ma 10), .ref (ma 11), .ref (ma 12), .ref (ma 13), .int (nI (M2 1)), .int (nI (M2 2)), .int (nI (M2 3)), .int C2, .ref (ma 14), .ref (ma 15), .int (nI (M2 4)), .int (nI (M2 5)), .int (nI (M2 6)), .int (nI (M2 7)), .int (nI (M2 8)), .ref (ma 16), .ref (ma 17), .int (nI (M2 9)), .ref (ma 18), .int (nI (M2 10))], aI cI (ma 1) 7 rf, aI cI (ma 2) 96 T, aI cI (ma 3) 96 (E2 0), aI cI (ma 4) 100 X, aI cI (ma 5) 24 (F 27), aI cI (ma 6) 48 (F 17), aI cI (ma 7) 72 (F 18), aI cI (ma 8) 12 (F 19), aI cZ (ma 9) 12 B, aI cI (ma 10) 300 (E2 1), aI cI (ma 11) 6 (E2 2), aI cI (ma 12) 6 (E2 3), aI cI (ma 13) 8 (E2 4), aI cI (ma 14) 12 (E2 5), aI cZ (ma 15) 12 (E2 6), aI cI (ma 16) 2400 (E2 7), aJ cJ (ma 17) 2400 L, aI cZ (ma 18) 300 (E2 8)] H := hP
        have hD : va_D jA [oB (ma 0) 10 [.ref (ma 1), .int (nI (N 0)), .int (nI (N 3)), .int (nI (N 1)), .int (nI (M2 0)), .ref (ma 2), .ref (ma 3), .ref (ma 4), .ref (ma 5), .ref (ma 6), .ref (ma 7), .ref (ma 8), .ref (ma 9), .ref (ma 10), .ref (ma 11), .ref (ma 12), .ref (ma 13), .int (nI (M2 1)), .int (nI (M2 2)), .int (nI (M2 3)), .int C2, .ref (ma 14), .ref (ma 15), .int (nI (M2 4)), .int (nI (M2 5)), .int (nI (M2 6)), .int (nI (M2 7)), .int (nI (M2 8)), .ref (ma 16), .ref (ma 17), .int (nI (M2 9)), .ref (ma 18), .int (nI (M2 10))], aI cI (ma 1) 7 rf, aI cI (ma 2) 96 T, aI cI (ma 3) 96 (E2 0), aI cI (ma 4) 100 X, aI cI (ma 5) 24 (F 27), aI cI (ma 6) 48 (F 17), aI cI (ma 7) 72 (F 18), aI cI (ma 8) 12 (F 19), aI cZ (ma 9) 12 B, aI cI (ma 10) 300 (E2 1), aI cI (ma 11) 6 (E2 2), aI cI (ma 12) 6 (E2 3), aI cI (ma 13) 8 (E2 4), aI cI (ma 14) 12 (E2 5), aI cZ (ma 15) 12 (E2 6), aI cI (ma 16) 2400 (E2 7), aJ cJ (ma 17) 2400 L, aI cZ (ma 18) 300 (E2 8)] := hD
        refine lv_aload_n hx hb dX10_count_140 rfl (lv_at hl 1 rfl) ?_
        refine va_get (C := RX10) (T := TX10) (N := 33) (ci := 10) hx hb hts iX10_count_10 hown hK.1 hP 0 rfl rfl 25 (Nat.le_of_ble_eq_true rfl) (hts _ mX10_count_149) (fun _ h9 => h9) rfl dX10_count_141 ?_
        exact hret _ _ _ _ _ (rf, M2, C2, E2, L) dX10_count_144 (⟨congrArg nI hwg.1.2.2.1, rfl⟩) hP hD hS
    · skip
      refine lv_tableOut (tgt := 145) hx hb dX10_count_25 (by have := inR_out hw7; omega) (by decide) ?_
      refine lv_bipush (v := (-9)) hx hb dX10_count_145 (by decide) ?_
      exact hret _ _ _ _ _ (rf, M, C, E, L) dX10_count_147 (⟨(cnt_no hw7 hno).symm, rfl⟩) hP hD hS
  · skip
    refine lv_iload_n hx hb dX10_count_6 rfl (lv_at hl 1 rfl) ?_
    refine lv_bipush (v := nI 17) hx hb dX10_count_7 (by decide) ?_
    refine lv_icmp_ge (tgt := 22) hx hb dX10_count_9 (by decide) (fun h17 => ?_) (fun h17 => ?_)
    · skip
      have hno : (decide (nI 11 ≤ w) && decide (w ≤ nI 16)) = false := cnt_hi h17
      refine lv_iconst (v := nI 0) hx hb dX10_count_22 (by decide) ?_
      refine lv_istore_n (lv' := [(2, .int (nI 0)), (0, .ref (ma 0)), (1, .int w)]) hx hb dX10_count_23 rfl hl (by decide) rfl (fun ls hl => ?_)
      refine lv_iload_n hx hb dX10_count_24 rfl (lv_at hl 2 rfl) ?_
      rcases Bool.eq_false_or_eq_true (inR w 7) with hw7 | hw7
      · skip
        obtain ⟨j, hj, rfl⟩ := inR_ix hw7
        rcases (show j = 0 ∨ j = 1 ∨ j = 2 ∨ j = 3 ∨ j = 4 ∨ j = 5 ∨ j = 6 by omega) with rfl | rfl | rfl | rfl | rfl | rfl | rfl
        · skip
          refine lv_tableIn (tgt := 68) (off := 43) hx hb dX10_count_25 (by decide) (by decide) (by decide) (by decide) ?_
          refine lv_aload_n hx hb dX10_count_68 rfl (lv_at hl 1 rfl) ?_
          refine va_get (C := RX10) (T := TX10) (N := 33) (ci := 10) hx hb hts iX10_count_10 hown hK.1 hP 0 rfl rfl 1 (Nat.le_of_ble_eq_true rfl) (hts _ mX10_count_85) (fun _ h9 => h9) rfl dX10_count_69 ?_
          exact hret _ _ _ _ _ (rf, M, C, E, L) dX10_count_72 (⟨rfl, rfl⟩) hP hD hS
        · skip
          refine lv_tableIn (tgt := 73) (off := 48) hx hb dX10_count_25 (by decide) (by decide) (by decide) (by decide) ?_
          refine lv_aload_n hx hb dX10_count_73 rfl (lv_at hl 1 rfl) ?_
          refine va_get (C := RX10) (T := TX10) (N := 33) (ci := 10) hx hb hts iX10_count_10 hown hK.1 hP 0 rfl rfl 2 (Nat.le_of_ble_eq_true rfl) (hts _ mX10_count_100) (fun _ h9 => h9) rfl dX10_count_74 ?_
          exact hret _ _ _ _ _ (rf, M, C, E, L) dX10_count_77 (⟨rfl, rfl⟩) hP hD hS
        · skip
          refine lv_tableIn (tgt := 78) (off := 53) hx hb dX10_count_25 (by decide) (by decide) (by decide) (by decide) ?_
          refine lv_aload_n hx hb dX10_count_78 rfl (lv_at hl 1 rfl) ?_
          refine Kv.callV (wr := []) (rest := []) (CX10_gathers jl G cI cZ cJ ma N F rf T X B M C E L hLA hMR) cx hP hD hS hl [0, 1, 2, 3, 4, 5, 6, 7, 8, 9, 10, 11, 12, 13, 14, 15, 16, 17, 18] [] (ci := 10) (q0 := 0) gX10_count_X10_gathers hdX10_gathers rfl rfl rfl ⟨Nat.le_of_ble_eq_true rfl, Nat.le_of_ble_eq_true rfl⟩ rfl rfl (by decide) (by decide) (by decide) dX10_count_79 rfl rfl (Nat.le_of_ble_eq_true rfl) ⟨Nat.le_of_ble_eq_true rfl, Nat.le_of_ble_eq_true rfl⟩ (fun u H locs hwg hP hD hS => ?_)
          obtain ⟨M2, C2, E2⟩ := u
          try dsimp only at hwg
          have hP : va_P G vwCl [oB (ma 0) 10 [.ref (ma 1), .int (nI (N 0)), .int (nI (N 3)), .int (nI (N 1)), .int (nI (M2 0)), .ref (ma 2), .ref (ma 3), .ref (ma 4), .ref (ma 5), .ref (ma 6), .ref (ma 7), .ref (ma 8), .ref (ma 9), .ref (ma 10), .ref (ma 11), .ref (ma 12), .ref (ma 13), .int (nI (M2 1)), .int (nI (M2 2)), .int (nI (M2 3)), .int C2, .ref (ma 14), .ref (ma 15), .int (nI (M2 4)), .int (nI (M2 5)), .int (nI (M2 6)), .int (nI (M2 7)), .int (nI (M2 8)), .ref (ma 16), .ref (ma 17), .int (nI (M2 9)), .ref (ma 18), .int (nI (M2 10))], aI cI (ma 1) 7 rf, aI cI (ma 2) 96 T, aI cI (ma 3) 96 (E2 0), aI cI (ma 4) 100 X, aI cI (ma 5) 24 (F 27), aI cI (ma 6) 48 (F 17), aI cI (ma 7) 72 (F 18), aI cI (ma 8) 12 (F 19), aI cZ (ma 9) 12 B, aI cI (ma 10) 300 (E2 1), aI cI (ma 11) 6 (E2 2), aI cI (ma 12) 6 (E2 3), aI cI (ma 13) 8 (E2 4), aI cI (ma 14) 12 (E2 5), aI cZ (ma 15) 12 (E2 6), aI cI (ma 16) 2400 (E2 7), aJ cJ (ma 17) 2400 L, aI cZ (ma 18) 300 (E2 8)] H := hP
          have hD : va_D jA [oB (ma 0) 10 [.ref (ma 1), .int (nI (N 0)), .int (nI (N 3)), .int (nI (N 1)), .int (nI (M2 0)), .ref (ma 2), .ref (ma 3), .ref (ma 4), .ref (ma 5), .ref (ma 6), .ref (ma 7), .ref (ma 8), .ref (ma 9), .ref (ma 10), .ref (ma 11), .ref (ma 12), .ref (ma 13), .int (nI (M2 1)), .int (nI (M2 2)), .int (nI (M2 3)), .int C2, .ref (ma 14), .ref (ma 15), .int (nI (M2 4)), .int (nI (M2 5)), .int (nI (M2 6)), .int (nI (M2 7)), .int (nI (M2 8)), .ref (ma 16), .ref (ma 17), .int (nI (M2 9)), .ref (ma 18), .int (nI (M2 10))], aI cI (ma 1) 7 rf, aI cI (ma 2) 96 T, aI cI (ma 3) 96 (E2 0), aI cI (ma 4) 100 X, aI cI (ma 5) 24 (F 27), aI cI (ma 6) 48 (F 17), aI cI (ma 7) 72 (F 18), aI cI (ma 8) 12 (F 19), aI cZ (ma 9) 12 B, aI cI (ma 10) 300 (E2 1), aI cI (ma 11) 6 (E2 2), aI cI (ma 12) 6 (E2 3), aI cI (ma 13) 8 (E2 4), aI cI (ma 14) 12 (E2 5), aI cZ (ma 15) 12 (E2 6), aI cI (ma 16) 2400 (E2 7), aJ cJ (ma 17) 2400 L, aI cZ (ma 18) 300 (E2 8)] := hD
          refine lv_aload_n hx hb dX10_count_82 rfl (lv_at hl 1 rfl) ?_
          refine va_get (C := RX10) (T := TX10) (N := 33) (ci := 10) hx hb hts iX10_count_10 hown hK.1 hP 0 rfl rfl 23 (Nat.le_of_ble_eq_true rfl) (hts _ mX10_count_143) (fun _ h9 => h9) rfl dX10_count_83 ?_
          exact hret _ _ _ _ _ (rf, M2, C2, E2, L) dX10_count_86 (⟨congrArg nI hwg.1.1, rfl⟩) hP hD hS
        · skip
          refine lv_tableIn (tgt := 87) (off := 62) hx hb dX10_count_25 (by decide) (by decide) (by decide) (by decide) ?_
          refine lv_aload_n hx hb dX10_count_87 rfl (lv_at hl 1 rfl) ?_
          refine Kv.callV (wr := []) (rest := []) (CX10_gathers jl G cI cZ cJ ma N F rf T X B M C E L hLA hMR) cx hP hD hS hl [0, 1, 2, 3, 4, 5, 6, 7, 8, 9, 10, 11, 12, 13, 14, 15, 16, 17, 18] [] (ci := 10) (q0 := 0) gX10_count_X10_gathers hdX10_gathers rfl rfl rfl ⟨Nat.le_of_ble_eq_true rfl, Nat.le_of_ble_eq_true rfl⟩ rfl rfl (by decide) (by decide) (by decide) dX10_count_88 rfl rfl (Nat.le_of_ble_eq_true rfl) ⟨Nat.le_of_ble_eq_true rfl, Nat.le_of_ble_eq_true rfl⟩ (fun u H locs hwg hP hD hS => ?_)
          obtain ⟨M2, C2, E2⟩ := u
          try dsimp only at hwg
          have hP : va_P G vwCl [oB (ma 0) 10 [.ref (ma 1), .int (nI (N 0)), .int (nI (N 3)), .int (nI (N 1)), .int (nI (M2 0)), .ref (ma 2), .ref (ma 3), .ref (ma 4), .ref (ma 5), .ref (ma 6), .ref (ma 7), .ref (ma 8), .ref (ma 9), .ref (ma 10), .ref (ma 11), .ref (ma 12), .ref (ma 13), .int (nI (M2 1)), .int (nI (M2 2)), .int (nI (M2 3)), .int C2, .ref (ma 14), .ref (ma 15), .int (nI (M2 4)), .int (nI (M2 5)), .int (nI (M2 6)), .int (nI (M2 7)), .int (nI (M2 8)), .ref (ma 16), .ref (ma 17), .int (nI (M2 9)), .ref (ma 18), .int (nI (M2 10))], aI cI (ma 1) 7 rf, aI cI (ma 2) 96 T, aI cI (ma 3) 96 (E2 0), aI cI (ma 4) 100 X, aI cI (ma 5) 24 (F 27), aI cI (ma 6) 48 (F 17), aI cI (ma 7) 72 (F 18), aI cI (ma 8) 12 (F 19), aI cZ (ma 9) 12 B, aI cI (ma 10) 300 (E2 1), aI cI (ma 11) 6 (E2 2), aI cI (ma 12) 6 (E2 3), aI cI (ma 13) 8 (E2 4), aI cI (ma 14) 12 (E2 5), aI cZ (ma 15) 12 (E2 6), aI cI (ma 16) 2400 (E2 7), aJ cJ (ma 17) 2400 L, aI cZ (ma 18) 300 (E2 8)] H := hP
          have hD : va_D jA [oB (ma 0) 10 [.ref (ma 1), .int (nI (N 0)), .int (nI (N 3)), .int (nI (N 1)), .int (nI (M2 0)), .ref (ma 2), .ref (ma 3), .ref (ma 4), .ref (ma 5), .ref (ma 6), .ref (ma 7), .ref (ma 8), .ref (ma 9), .ref (ma 10), .ref (ma 11), .ref (ma 12), .ref (ma 13), .int (nI (M2 1)), .int (nI (M2 2)), .int (nI (M2 3)), .int C2, .ref (ma 14), .ref (ma 15), .int (nI (M2 4)), .int (nI (M2 5)), .int (nI (M2 6)), .int (nI (M2 7)), .int (nI (M2 8)), .ref (ma 16), .ref (ma 17), .int (nI (M2 9)), .ref (ma 18), .int (nI (M2 10))], aI cI (ma 1) 7 rf, aI cI (ma 2) 96 T, aI cI (ma 3) 96 (E2 0), aI cI (ma 4) 100 X, aI cI (ma 5) 24 (F 27), aI cI (ma 6) 48 (F 17), aI cI (ma 7) 72 (F 18), aI cI (ma 8) 12 (F 19), aI cZ (ma 9) 12 B, aI cI (ma 10) 300 (E2 1), aI cI (ma 11) 6 (E2 2), aI cI (ma 12) 6 (E2 3), aI cI (ma 13) 8 (E2 4), aI cI (ma 14) 12 (E2 5), aI cZ (ma 15) 12 (E2 6), aI cI (ma 16) 2400 (E2 7), aJ cJ (ma 17) 2400 L, aI cZ (ma 18) 300 (E2 8)] := hD
          refine lv_aload_n hx hb dX10_count_91 rfl (lv_at hl 1 rfl) ?_
          refine va_get (C := RX10) (T := TX10) (N := 33) (ci := 10) hx hb hts iX10_count_10 hown hK.1 hP 0 rfl rfl 24 (Nat.le_of_ble_eq_true rfl) (hts _ mX10_count_146) (fun _ h9 => h9) rfl dX10_count_92 ?_
          exact hret _ _ _ _ _ (rf, M2, C2, E2, L) dX10_count_95 (⟨congrArg nI hwg.1.2.1, rfl⟩) hP hD hS
        · skip
          refine lv_tableIn (tgt := 96) (off := 71) hx hb dX10_count_25 (by decide) (by decide) (by decide) (by decide) ?_
          refine lv_iconst (v := nI 0) hx hb dX10_count_96 (by decide) ?_
          refine lv_istore_n (lv' := [(3, .int (nI 0)), (2, .int (nI 0)), (0, .ref (ma 0)), (1, .int (nI 4))]) hx hb dX10_count_97 rfl hl (by decide) rfl (fun ls hl => ?_)
          have L98 : ∀ (fu : Nat), ∀ (t : Nat), ∀ (m : Nat), (N 3 < t + fu) → (t ≤ N 3) → (m = ct (fun t => (N 2).testBit t) t) → ∀ (H : Heap) (locs : List Loc) (ls : Array Slot), va_P G vwCl [oB (ma 0) 10 [.ref (ma 1), .int (nI (N 0)), .int (nI (N 3)), .int (nI (N 1)), .int (nI (M 0)), .ref (ma 2), .ref (ma 3), .ref (ma 4), .ref (ma 5), .ref (ma 6), .ref (ma 7), .ref (ma 8), .ref (ma 9), .ref (ma 10), .ref (ma 11), .ref (ma 12), .ref (ma 13), .int (nI (M 1)), .int (nI (M 2)), .int (nI (M 3)), .int C, .ref (ma 14), .ref (ma 15), .int (nI (M 4)), .int (nI (M 5)), .int (nI (M 6)), .int (nI (M 7)), .int (nI (M 8)), .ref (ma 16), .ref (ma 17), .int (nI (M 9)), .ref (ma 18), .int (nI (M 10))], aI cI (ma 1) 7 rf, aI cI (ma 2) 96 T, aI cI (ma 3) 96 (E 0), aI cI (ma 4) 100 X, aI cI (ma 5) 24 (F 27), aI cI (ma 6) 48 (F 17), aI cI (ma 7) 72 (F 18), aI cI (ma 8) 12 (F 19), aI cZ (ma 9) 12 B, aI cI (ma 10) 300 (E 1), aI cI (ma 11) 6 (E 2), aI cI (ma 12) 6 (E 3), aI cI (ma 13) 8 (E 4), aI cI (ma 14) 12 (E 5), aI cZ (ma 15) 12 (E 6), aI cI (ma 16) 2400 (E 7), aJ cJ (ma 17) 2400 L, aI cZ (ma 18) 300 (E 8)] H → va_D jA [oB (ma 0) 10 [.ref (ma 1), .int (nI (N 0)), .int (nI (N 3)), .int (nI (N 1)), .int (nI (M 0)), .ref (ma 2), .ref (ma 3), .ref (ma 4), .ref (ma 5), .ref (ma 6), .ref (ma 7), .ref (ma 8), .ref (ma 9), .ref (ma 10), .ref (ma 11), .ref (ma 12), .ref (ma 13), .int (nI (M 1)), .int (nI (M 2)), .int (nI (M 3)), .int C, .ref (ma 14), .ref (ma 15), .int (nI (M 4)), .int (nI (M 5)), .int (nI (M 6)), .int (nI (M 7)), .int (nI (M 8)), .ref (ma 16), .ref (ma 17), .int (nI (M 9)), .ref (ma 18), .int (nI (M 10))], aI cI (ma 1) 7 rf, aI cI (ma 2) 96 T, aI cI (ma 3) 96 (E 0), aI cI (ma 4) 100 X, aI cI (ma 5) 24 (F 27), aI cI (ma 6) 48 (F 17), aI cI (ma 7) 72 (F 18), aI cI (ma 8) 12 (F 19), aI cZ (ma 9) 12 B, aI cI (ma 10) 300 (E 1), aI cI (ma 11) 6 (E 2), aI cI (ma 12) 6 (E 3), aI cI (ma 13) 8 (E 4), aI cI (ma 14) 12 (E 5), aI cZ (ma 15) 12 (E 6), aI cI (ma 16) 2400 (E 7), aJ cJ (ma 17) 2400 L, aI cZ (ma 18) 300 (E 8)] → va_S jA js.heap H locs → lv_has ls 4 [(0, .ref (ma 0)), (2, .int (nI m)), (3, .int (nI t))] → W jp jl je rCX10_count js jm ja jb jt jc H locs 0 0 jQ (F0 jm 98 ls []) := by
            intro fu
            induction fu with
            | zero =>
              intro t m hfu hT hm H locs ls hP hD hS hl
              exact absurd hfu (by omega)
            | succ fu ih98 =>
              intro t m hfu hT hm H locs ls hP hD hS hl
              refine lv_iload_n hx hb dX10_count_98 rfl (lv_at hl 2 rfl) ?_
              refine lv_aload_n hx hb dX10_count_99 rfl (lv_at hl 0 rfl) ?_
              refine va_get (C := RX10) (T := TX10) (N := 33) (ci := 10) hx hb hts iX10_count_10 hown hK.1 hP 0 rfl rfl 2 (Nat.le_of_ble_eq_true rfl) (hts _ mX10_count_100) (fun _ h9 => h9) rfl dX10_count_100 ?_
              refine k_cmp_ge (tgt := 129) hx hb dX10_count_103 (by decide) (by omega) (by omega) (fun ht => ?_) (fun ht => ?_)
              · skip
                refine lv_iload_n hx hb dX10_count_129 rfl (lv_at hl 1 rfl) ?_
                exact hret _ _ _ _ _ (rf, M, C, E, L) dX10_count_130 (⟨by rw [hm, show t = N 3 by omega, ← open_ct hLA]; rfl, rfl⟩) hP hD hS
              · skip
                have hop := hMR.2.2 t (by omega)
                refine lv_iload_n hx hb dX10_count_106 rfl (lv_at hl 1 rfl) ?_
                refine lv_aload_n hx hb dX10_count_107 rfl (lv_at hl 0 rfl) ?_
                refine va_get (C := RX10) (T := TX10) (N := 33) (ci := 10) hx hb hts iX10_count_10 hown hK.1 hP 0 rfl rfl 12 (Nat.le_of_ble_eq_true rfl) (hts _ mX10_count_34) (fun _ h9 => h9) rfl dX10_count_108 ?_
                refine lv_iload_n hx hb dX10_count_111 rfl (lv_at hl 2 rfl) ?_
                refine k_zald hx hb hK.1 hP 9 1 rfl rfl (by omega) (by decide) dX10_count_112 ?_
                rcases Bool.eq_false_or_eq_true ((fun t => (N 2).testBit t) t) with ho | ho
                · skip
                  refine k_topN (j := 1) (by rw [hop]; dsimp only at ho; rw [ho]; rfl) ?_
                  refine k_if_eq_f (tgt := 120) hx hb dX10_count_113 (by decide) (by decide) ?_
                  refine lv_iconst (v := nI 1) hx hb dX10_count_116 (by decide) ?_
                  refine lv_goto (tgt := 121) hx hb dX10_count_117 (by decide) ?_
                  refine k_iadd hx hb dX10_count_121 ?_
                  refine lv_istore_n (lv' := [(2, .int (nI (m + 1))), (0, .ref (ma 0)), (3, .int (nI t))]) hx hb dX10_count_122 rfl hl (by decide) rfl (fun ls hl => ?_)
                  refine lv_iinc (v := nI (t + 1)) (lv' := [(3, .int (nI (t + 1))), (2, .int (nI (m + 1))), (0, .ref (ma 0))]) hx hb dX10_count_123 hl (k := 2) rfl (nI_add t 1) (by decide) rfl (fun ls hl => ?_)
                  refine lv_goto (tgt := 98) hx hb dX10_count_126 (by decide) ?_
                  exact ih98 (t + 1) (m + 1) (by omega) (by omega) (by rw [ct_y (p := fun t => (N 2).testBit t) (n := t) ho]; omega) _ _ _ hP hD hS (lv_sub hl [2, 1, 0] rfl)
                · skip
                  refine k_topN (j := 0) (by rw [hop]; dsimp only at ho; rw [ho]; rfl) ?_
                  refine k_if_eq_t (tgt := 120) hx hb dX10_count_113 (by decide) (by decide) ?_
                  refine lv_iconst (v := nI 0) hx hb dX10_count_120 (by decide) ?_
                  refine k_iadd hx hb dX10_count_121 ?_
                  refine lv_istore_n (lv' := [(2, .int (nI (m + 0))), (0, .ref (ma 0)), (3, .int (nI t))]) hx hb dX10_count_122 rfl hl (by decide) rfl (fun ls hl => ?_)
                  refine lv_iinc (v := nI (t + 1)) (lv' := [(3, .int (nI (t + 1))), (2, .int (nI (m + 0))), (0, .ref (ma 0))]) hx hb dX10_count_123 hl (k := 2) rfl (nI_add t 1) (by decide) rfl (fun ls hl => ?_)
                  refine lv_goto (tgt := 98) hx hb dX10_count_126 (by decide) ?_
                  exact ih98 (t + 1) (m + 0) (by omega) (by omega) (by rw [ct_n (p := fun t => (N 2).testBit t) (n := t) ho]; omega) _ _ _ hP hD hS (lv_sub hl [2, 1, 0] rfl)
          exact L98 (N 3 + 1) 0 0 (by omega) (by omega) (rfl) _ _ _ hP hD hS (lv_sub hl [2, 1, 0] rfl)
        · skip
          refine lv_tableIn (tgt := 131) (off := 106) hx hb dX10_count_25 (by decide) (by decide) (by decide) (by decide) ?_
          refine lv_aload_n hx hb dX10_count_131 rfl (lv_at hl 1 rfl) ?_
          refine va_get (C := RX10) (T := TX10) (N := 33) (ci := 10) hx hb hts iX10_count_10 hown hK.1 hP 0 rfl rfl 3 (Nat.le_of_ble_eq_true rfl) (hts _ mX10_count_82) (fun _ h9 => h9) rfl dX10_count_132 ?_
          exact hret _ _ _ _ _ (rf, M, C, E, L) dX10_count_135 (⟨rfl, rfl⟩) hP hD hS
        · skip
          refine lv_tableIn (tgt := 136) (off := 111) hx hb dX10_count_25 (by decide) (by decide) (by decide) (by decide) ?_
          refine lv_aload_n hx hb dX10_count_136 rfl (lv_at hl 1 rfl) ?_
          refine Kv.callV (wr := []) (rest := []) (CX10_gathers jl G cI cZ cJ ma N F rf T X B M C E L hLA hMR) cx hP hD hS hl [0, 1, 2, 3, 4, 5, 6, 7, 8, 9, 10, 11, 12, 13, 14, 15, 16, 17, 18] [] (ci := 10) (q0 := 0) gX10_count_X10_gathers hdX10_gathers rfl rfl rfl ⟨Nat.le_of_ble_eq_true rfl, Nat.le_of_ble_eq_true rfl⟩ rfl rfl (by decide) (by decide) (by decide) dX10_count_137 rfl rfl (Nat.le_of_ble_eq_true rfl) ⟨Nat.le_of_ble_eq_true rfl, Nat.le_of_ble_eq_true rfl⟩ (fun u H locs hwg hP hD hS => ?_)
          obtain ⟨M2, C2, E2⟩ := u
          try dsimp only at hwg
          have hP : va_P G vwCl [oB (ma 0) 10 [.ref (ma 1), .int (nI (N 0)), .int (nI (N 3)), .int (nI (N 1)), .int (nI (M2 0)), .ref (ma 2), .ref (ma 3), .ref (ma 4), .ref (ma 5), .ref (ma 6), .ref (ma 7), .ref (ma 8), .ref (ma 9), .ref (ma 10), .ref (ma 11), .ref (ma 12), .ref (ma 13), .int (nI (M2 1)), .int (nI (M2 2)), .int (nI (M2 3)), .int C2, .ref (ma 14), .ref (ma 15), .int (nI (M2 4)), .int (nI (M2 5)), .int (nI (M2 6)), .int (nI (M2 7)), .int (nI (M2 8)), .ref (ma 16), .ref (ma 17), .int (nI (M2 9)), .ref (ma 18), .int (nI (M2 10))], aI cI (ma 1) 7 rf, aI cI (ma 2) 96 T, aI cI (ma 3) 96 (E2 0), aI cI (ma 4) 100 X, aI cI (ma 5) 24 (F 27), aI cI (ma 6) 48 (F 17), aI cI (ma 7) 72 (F 18), aI cI (ma 8) 12 (F 19), aI cZ (ma 9) 12 B, aI cI (ma 10) 300 (E2 1), aI cI (ma 11) 6 (E2 2), aI cI (ma 12) 6 (E2 3), aI cI (ma 13) 8 (E2 4), aI cI (ma 14) 12 (E2 5), aI cZ (ma 15) 12 (E2 6), aI cI (ma 16) 2400 (E2 7), aJ cJ (ma 17) 2400 L, aI cZ (ma 18) 300 (E2 8)] H := hP
          have hD : va_D jA [oB (ma 0) 10 [.ref (ma 1), .int (nI (N 0)), .int (nI (N 3)), .int (nI (N 1)), .int (nI (M2 0)), .ref (ma 2), .ref (ma 3), .ref (ma 4), .ref (ma 5), .ref (ma 6), .ref (ma 7), .ref (ma 8), .ref (ma 9), .ref (ma 10), .ref (ma 11), .ref (ma 12), .ref (ma 13), .int (nI (M2 1)), .int (nI (M2 2)), .int (nI (M2 3)), .int C2, .ref (ma 14), .ref (ma 15), .int (nI (M2 4)), .int (nI (M2 5)), .int (nI (M2 6)), .int (nI (M2 7)), .int (nI (M2 8)), .ref (ma 16), .ref (ma 17), .int (nI (M2 9)), .ref (ma 18), .int (nI (M2 10))], aI cI (ma 1) 7 rf, aI cI (ma 2) 96 T, aI cI (ma 3) 96 (E2 0), aI cI (ma 4) 100 X, aI cI (ma 5) 24 (F 27), aI cI (ma 6) 48 (F 17), aI cI (ma 7) 72 (F 18), aI cI (ma 8) 12 (F 19), aI cZ (ma 9) 12 B, aI cI (ma 10) 300 (E2 1), aI cI (ma 11) 6 (E2 2), aI cI (ma 12) 6 (E2 3), aI cI (ma 13) 8 (E2 4), aI cI (ma 14) 12 (E2 5), aI cZ (ma 15) 12 (E2 6), aI cI (ma 16) 2400 (E2 7), aJ cJ (ma 17) 2400 L, aI cZ (ma 18) 300 (E2 8)] := hD
          refine lv_aload_n hx hb dX10_count_140 rfl (lv_at hl 1 rfl) ?_
          refine va_get (C := RX10) (T := TX10) (N := 33) (ci := 10) hx hb hts iX10_count_10 hown hK.1 hP 0 rfl rfl 25 (Nat.le_of_ble_eq_true rfl) (hts _ mX10_count_149) (fun _ h9 => h9) rfl dX10_count_141 ?_
          exact hret _ _ _ _ _ (rf, M2, C2, E2, L) dX10_count_144 (⟨congrArg nI hwg.1.2.2.1, rfl⟩) hP hD hS
      · skip
        refine lv_tableOut (tgt := 145) hx hb dX10_count_25 (by have := inR_out hw7; omega) (by decide) ?_
        refine lv_bipush (v := (-9)) hx hb dX10_count_145 (by decide) ?_
        exact hret _ _ _ _ _ (rf, M, C, E, L) dX10_count_147 (⟨(cnt_no hw7 hno).symm, rfl⟩) hP hD hS
    · skip
      obtain ⟨j, hj11, hj16, rfl⟩ := cnt_jj h10 h17
      refine lv_aload_n hx hb dX10_count_12 rfl (lv_at hl 0 rfl) ?_
      refine va_get (C := RX10) (T := TX10) (N := 33) (ci := 10) hx hb hts iX10_count_10 hown hK.1 hP 0 rfl rfl 0 (Nat.le_of_ble_eq_true rfl) (hts _ mX10_count_7) (fun _ h9 => h9) rfl dX10_count_13 ?_
      refine lv_iload_n hx hb dX10_count_16 rfl (lv_at hl 1 rfl) ?_
      refine lv_bipush (v := nI 10) hx hb dX10_count_17 (by decide) ?_
      refine k_isub hx hb dX10_count_19 (by omega) ?_
      refine k_iald hx hb hK.1 hP 1 0 rfl rfl (by omega) (by decide) dX10_count_20 ?_
      exact hret _ _ _ _ _ (rf, M, C, E, L) dX10_count_21 (⟨by rw [cnt_rf hj11 hj16, hrf], rfl⟩) hP hD hS
