def LW (cI cZ cJ : ClassId) (ad ma : Nat → Nat) (o : Nat) (N : Nat → Nat) (Y : Nat → Int32) (F : Nat → Fn) (n nt nc : Nat) (rf T X B pr inn wn wt : Fn) (M : Nat → Nat) (C : Int32) (E : Nat → Fn) (Lo O : Nat → Int64) : va_W := [aJ cJ o 1 O, oB (ad 0) 9 [.ref (ad 1), .ref (ad 23), .ref (ad 27), .ref (ad 31), .ref (ad 33), .ref (ad 35), .ref (ad 36), .ref (ad 37), .ref (ad 41), .ref (ad 42), .int (Y 4)], oB (ad 1) 3 [.ref (ad 2), .ref (ad 7), .ref (ad 12), .ref (ad 17), .ref (ad 22)], oB (ad 2) 0 [.ref (ad 3), .ref (ad 4), .ref (ad 5), .ref (ad 6), .int (nI (N 0))], aI cI (ad 3) 24 (F 0), aI cI (ad 4) 24 (F 1), aI cI (ad 5) 24 (F 2), aI cI (ad 6) 24 (F 3), oB (ad 7) 0 [.ref (ad 8), .ref (ad 9), .ref (ad 10), .ref (ad 11), .int (nI (N 0))], aI cI (ad 8) 24 (F 4), aI cI (ad 9) 24 (F 5), aI cI (ad 10) 24 (F 6), aI cI (ad 11) 24 (F 7), oB (ad 12) 0 [.ref (ad 13), .ref (ad 14), .ref (ad 15), .ref (ad 16), .int (nI (N 19))], aI cI (ad 13) 24 (F 8), aI cI (ad 14) 24 (F 9), aI cI (ad 15) 24 (F 10), aI cI (ad 16) 24 (F 11), oB (ad 17) 0 [.ref (ad 18), .ref (ad 19), .ref (ad 20), .ref (ad 21), .int (nI (N 1))], aI cI (ad 18) 24 (F 12), aI cI (ad 19) 24 (F 13), aI cI (ad 20) 24 (F 14), aI cI (ad 21) 24 (F 15), aI cI (ad 22) 20 (F 16), oB (ad 23) 6 [.ref (ad 24), .ref (ad 25), .ref (ad 26), .int (nI (N 2)), .int (nI (N 3))], aI cI (ad 24) 48 (F 17), aI cI (ad 25) 72 (F 18), aI cI (ad 26) 12 (F 19), oB (ad 27) 4 [.ref (ad 28), .ref (ad 29), .ref (ad 30), .int (nI (N 4)), .int (nI (N 5)), .int (nI (N 6)), .int (Y 0), .int (Y 1), .int (Y 2), .int (Y 3)], aI cI (ad 28) 300 (F 20), aI cI (ad 29) 6 (F 21), aI cI (ad 30) 8 (F 22), oB (ad 31) 5 [.ref (ad 32)], aI cI (ad 32) 8 (F 23), oB (ad 33) 8 [.ref (ad 34), .int (nI (N 7)), .int (nI (N 8)), .int (nI (N 9))], aI cI (ad 34) 24 (F 24), oB (ad 35) 1 [.int (nI (N 10)), .int (nI (N 11))], oB (ad 36) 1 [.int (nI (N 12)), .int (nI (N 13))], oB (ad 37) 7 [.ref (ad 33), .ref (ad 38), .ref (ad 39), .ref (ad 40), .int (nI (N 14)), .int (nI (N 15))], aI cI (ad 38) 2324 (F 25), aI cI (ad 39) 2324 (F 26), aI cI (ad 40) 24 (F 27), oB (ad 41) 2 [.int (nI (N 16)), .int (nI (N 17)), .int (nI (N 18))], aI cI (ad 42) 7 (F 28), oB (ma 0) 10 [.ref (ma 1), .int (nI n), .int (nI nt), .int (nI nc), .int (nI (M 0)), .ref (ma 2), .ref (ma 3), .ref (ma 4), .ref (ma 5), .ref (ma 6), .ref (ma 7), .ref (ma 8), .ref (ma 9), .ref (ma 10), .ref (ma 11), .ref (ma 12), .ref (ma 13), .int (nI (M 1)), .int (nI (M 2)), .int (nI (M 3)), .int C, .ref (ma 14), .ref (ma 15), .int (nI (M 4)), .int (nI (M 5)), .int (nI (M 6)), .int (nI (M 7)), .int (nI (M 8)), .ref (ma 16), .ref (ma 17), .int (nI (M 9)), .ref (ma 18), .int (nI (M 10))], aI cI (ma 1) 7 rf, aI cI (ma 2) 96 T, aI cI (ma 3) 96 (E 0), aI cI (ma 4) 100 X, aI cI (ma 5) 24 pr, aI cI (ma 6) 48 inn, aI cI (ma 7) 72 wn, aI cI (ma 8) 12 wt, aI cZ (ma 9) 12 B, aI cI (ma 10) 300 (E 1), aI cI (ma 11) 6 (E 2), aI cI (ma 12) 6 (E 3), aI cI (ma 13) 8 (E 4), aI cI (ma 14) 12 (E 5), aI cZ (ma 15) 12 (E 6), aI cI (ma 16) 2400 (E 7), aJ cJ (ma 17) 2400 Lo, aI cZ (ma 18) 300 (E 8)]
/-- what the law stands on -/
def LC (jp : Program) (jl : Launch) (js : State) (jm : MethodId) (ja : Array Value) (jc : Code) (jA : Nat → Prop) (G : va_G) (cI cZ cJ : ClassId) (sb Ls : Nat) (xs : Nat → Int32) : Prop := KCx jp js jm ja jc cL_law 7 wsL_law RL jA G cI cZ cJ ∧ XS js ∧ XZ jA js js.heap ∧ va_X sb Ls xs js js.heap ∧ sb < js.heap.size ∧ ¬ jA sb ∧ Ls ≤ 3072 ∧ jl.stackTraces = false
/-- the law goes on well from this row, whatever the two objects hold, if they hold the same -/
def LAt (jp : Program) (jl : Launch) (je : Env) (js : State) (jm : MethodId) (ja : Array Value) (jb : List Frame) (jt : Method) (jc : Code) (jA : Nat → Prop) (jQ : State → Prop) (G : va_G) (cI cZ cJ : ClassId) (sb : Nat) (ad ma : Nat → Nat) (o i cells slots pc : Nat) : Prop := ∀ (N : Nat → Nat) (Y : Nat → Int32) (F : Nat → Fn) (n nt nc : Nat) (rf T X B pr inn wn wt : Fn) (M : Nat → Nat) (C : Int32) (E : Nat → Fn) (Lo O : Nat → Int64), LA N F → LJ N Y F → GQ N F n nt nc T X B pr inn wn wt → rf = F 28 → ∀ (H : Heap) (locs : List Loc) (ls : Array Slot), va_P G vwCl (LW cI cZ cJ ad ma o N Y F n nt nc rf T X B pr inn wn wt M C E Lo O) H → va_D jA (LW cI cZ cJ ad ma o N Y F n nt nc rf T X B pr inn wn wt M C E Lo O) → va_S jA js.heap H locs → lv_has ls 7 [(0, .ref sb), (1, .ref (ad 0)), (2, .ref (ma 0)), (3, .ref o), (4, .int (nI i))] → W jp jl je room_1 js jm ja jb jt jc H locs cells slots jQ (F0 jm pc ls [])
theorem EqE.mr {N N1 : Nat → Nat} {F F1 : Nat → Fn} {T X B : Fn} (e : EqE N N1 F F1) (h : MR N F T X B) : MR N1 F1 T X B := by
  obtain ⟨h1, h2, h3, h4, h5, h6, h7, h8, h9, h10, h11, h12, h13, h14, h15, h16, h17, h18, h19, h20, h21⟩ := e
  obtain ⟨m1, m2, m3⟩ := h
  refine ⟨fun i hi j hj => ?_, fun c hc => ⟨?_, fun j hj => ?_⟩, fun t ht => ?_⟩
  · rw [m1 i (by rw [← h1]; exact hi) j hj]
    rcases (show j = 0 ∨ j = 1 ∨ j = 2 ∨ j = 3 by omega) with rfl | rfl | rfl | rfl
    · rw [h5]
    · rw [h6]
    · rw [h7]
    · rw [h8]
  · rw [(m2 c (by rw [← h2]; exact hc)).1, h17]
  · rw [(m2 c (by rw [← h2]; exact hc)).2 j hj]
    rcases (show j = 0 ∨ j = 1 ∨ j = 2 ∨ j = 3 by omega) with rfl | rfl | rfl | rfl
    · rw [h13]
    · rw [h14]
    · rw [h15]
    · rw [h16]
  · rw [m3 t ht, h3]
theorem EqE.gq {N N1 : Nat → Nat} {F F1 : Nat → Fn} {n nt nc : Nat} {T X B pr inn wn wt : Fn} (e : EqE N N1 F F1) (h : GQ N F n nt nc T X B pr inn wn wt) : GQ N1 F1 n nt nc T X B pr inn wn wt := by
  obtain ⟨g1, g2, g3, g4, g5, g6, g7, g8⟩ := h
  have hm := e.mr g8
  obtain ⟨h1, h2, h3, h4, h5, h6, h7, h8, h9, h10, h11, h12, h13, h14, h15, h16, h17, h18, h19, h20, h21⟩ := e
  exact ⟨g1.trans h1.symm, g2.trans h4.symm, g3.trans h2.symm, g4.trans h21.symm, g5.trans h18.symm, g6.trans h19.symm, g7.trans h20.symm, hm⟩
section KIT6
variable {p : Program} {l : Launch} {e : Env} {R : Room} {s : State} {m : MethodId} {args : Array Value} {below : List Frame} {meth : Method} {c : Code} {H : Heap} {locs : List Loc} {cells slots : Nat} {Q : State → Prop} {cc : ByteArray} {pc : Nat} {ls : Array Slot} {rest : List Value} {A : Nat → Prop}
theorem k_sld (hx : p.tables.exec = Jvm.exec) (hb : c.code = cc) {b L : Nat} {xs : Nat → Int32} (hX : va_X b L xs s s.heap) (hbl : b < s.heap.size) (hbA : ¬ A b) (hS : va_S A s.heap H locs) {x : Nat} (h1 : x < L) (h2 : L ≤ 3072) (hdg : decode cc pc = .ok (.iaload, 1)) (kk : W p l e R s m args below meth c H locs cells slots Q (F0 m (pc + 1) ls (.int (xs x) :: rest))) : W p l e R s m args below meth c H locs cells slots Q (F0 m pc ls (.int (nI x) :: .ref b :: rest)) := by
  refine va_sld hx hb hX hbl hbA hS (vp_in_nI h1 (by omega)) hdg ?_
  rw [nI_clamp (by omega)]
  exact kk
end KIT6
theorem hdL_out : yL_out.cls ≠ "java/lang/invoke/MethodHandle" ∧ yL_out.cls ≠ "java/lang/invoke/VarHandle" ∧ (parseMethodDescriptor yL_out.desc).map (fun d => d.parameters.length) = some 4 := by decide +kernel
theorem hdL_mendBy : yL_mendBy.cls ≠ "java/lang/invoke/MethodHandle" ∧ yL_mendBy.cls ≠ "java/lang/invoke/VarHandle" ∧ (parseMethodDescriptor yL_mendBy.desc).map (fun d => d.parameters.length) = some 4 := by decide +kernel
