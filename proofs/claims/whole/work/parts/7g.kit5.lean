/-! methods that return or throw an IllegalArgumentException -/
abbrev xIAE : String := "java/lang/IllegalArgumentException"
abbrev xNs : List String := ["java/lang/RuntimeException", "java/lang/Exception"]
/-- what a throw asks of the state beside the words -/
def XS (U : State) : Prop := (∃ a, vk_R RX9 140 "no such test" a U) ∧ (∃ a, vk_R RX9 145 "no such number" a U) ∧ (∃ a, vk_R RX9 212 "no such test or line, or nothing to mend" a U) ∧ (∃ a, vk_R RX9 214 "no value mends" a U) ∧ va_Nw (.declares (Jvm.Bundle.initS "java/lang/RuntimeException")) U ∧ va_Nw (.declares (Jvm.Bundle.initS "java/lang/Exception")) U ∧ va_Nw (.declares (Jvm.Bundle.initS Jvm.Bundle.tN)) U ∧ va_Nw (.castable xIAE xIAE) U
theorem XS.warm {s U : State} (hW : s.WarmedH U.vm) (h : XS s) : XS U := by
  obtain ⟨⟨a1, h1⟩, ⟨a2, h2⟩, ⟨a3, h3⟩, ⟨a4, h4⟩, h5, h6, h7, h8⟩ := h
  exact ⟨⟨a1, vk_R.warm hW h1⟩, ⟨a2, vk_R.warm hW h2⟩, ⟨a3, vk_R.warm hW h3⟩, ⟨a4, vk_R.warm hW h4⟩, va_Nw.warmD hW h5, va_Nw.warmD hW h6, va_Nw.warmD hW h7, va_Nw.warmC hW h8⟩
theorem XS.same {u U : State} (hv : u.vm = U.vm) (h : XS u) : XS U := by
  obtain ⟨⟨a1, h1⟩, ⟨a2, h2⟩, ⟨a3, h3⟩, ⟨a4, h4⟩, h5, h6, h7, h8⟩ := h
  exact ⟨⟨a1, vk_R.same hv.symm h1⟩, ⟨a2, vk_R.same hv.symm h2⟩, ⟨a3, vk_R.same hv.symm h3⟩, ⟨a4, vk_R.same hv.symm h4⟩, va_Nw.same rfl hv h5, va_Nw.same rfl hv h6, va_Nw.same rfl hv h7, va_Nw.same rfl hv h8⟩
/-- Throwable's two statics, outside A -/
def XZ (A : Nat → Prop) (U : State) (H : Heap) : Prop := vx_Zq Jvm.Bundle.tN "UNASSIGNED_STACK" Jvm.Bundle.steD A U H ∧ vx_Zq Jvm.Bundle.tN "SUPPRESSED_SENTINEL" Jvm.Bundle.listD A U H
theorem XZ.moved {A : Nat → Prop} {u U : State} {H : Heap} (hvm : u.vm.Alike U.vm) (h : XZ A u H) : XZ A U H := ⟨h.1.moved hvm, h.2.moved hvm⟩
theorem XZ.kept {A : Nat → Prop} {U : State} {H H1 : Heap} (h : XZ A U H) (hq : ∀ a : Nat, a < H.size → ¬ A a → H1[a]? = H[a]?) : XZ A U H1 := ⟨h.1.kept hq, h.2.kept hq⟩
theorem XZ.narrow {A B : Nat → Prop} {U : State} {H : Heap} (h : XZ A U H) (hAB : ∀ q, B q → A q) : XZ B U H := ⟨h.1.narrow hAB, h.2.narrow hAB⟩
def XPre (G : va_G) (cI cZ cJ : ClassId) (av : List Value) (wc : va_W) (sz : Nat) : Array Value → State → Prop := va_Pc av (fun U => U.heap.size = sz ∧ va_P G vwCl wc U.heap ∧ KK G cI cZ cJ U ∧ va_D (fun _ => True) wc ∧ XS U ∧ XZ (va_A wc sz) U U.heap)
theorem XPre.blind {G : va_G} {cI cZ cJ : ClassId} {av : List Value} {wc : va_W} {sz : Nat} : FrameBlind (XPre G cI cZ cJ av wc sz) := fun a U g mk q => by
  obtain ⟨q0, q1, qP, qK, qD, qS, qZ⟩ := q
  exact ⟨q0, q1, qP, qK.call, qD, XS.same (u := U) (U := U.calling g mk a) rfl qS, XZ.moved (u := U) (U := U.calling g mk a) (Vm.Alike.refl U.vm) qZ⟩
def XB {SX : Type} (G : va_G) (wc : va_W) (sz : Nat) (wx : SX → va_W) : String → SX → State → Prop := fun E u t => E = xIAE ∧ va_P G vwCl (wx u) t.heap ∧ va_D (va_A wc sz) (wx u)
def Xi (l : Launch) (y : MethodName) (ws : List Cond) (rm : Room) (G : va_G) (cI cZ cJ : ClassId) (av : List Value) (wc : va_W) {S SX : Type} (post : Int32 → S → Prop) (w1 : S → va_W) (px : SX → Prop) (wx : SX → va_W) : Prop := ∀ sz : Nat, vx_Met l y ws rm (XPre G cI cZ cJ av wc sz) (va_Qi post (KB G wc sz w1) (va_A wc sz)) (vx_X px (XB G wc sz wx) (va_A wc sz)) rm.cells rm.slots (va_A wc sz)
/-- a method with a table of its own, which catches -/
def KiX (l : Launch) (y : MethodName) (ws : List Cond) (rm : Room) (G : va_G) (cI cZ cJ : ClassId) (av : List Value) (wc : va_W) {S : Type} (post : Int32 → S → Prop) (w1 : S → va_W) : Prop := ∀ sz : Nat, Met l y ws rm (XPre G cI cZ cJ av wc sz) (va_Qi post (KB G wc sz w1) (va_A wc sz)) rm.cells rm.slots (va_A wc sz)
theorem x_fit1 : Jvm.Bundle.fit xIAE = true := by decide +kernel
theorem x_fit2 : ∀ n ∈ xNs, Jvm.Bundle.fit n = true := by decide +kernel
theorem x_bad : ∀ w ∈ (vx_atS RX9 142 xIAE xNs).filter (fun w => !goodWord w), w ∈ [Cond.declares (Jvm.Bundle.initS "java/lang/RuntimeException"), Cond.declares (Jvm.Bundle.initS "java/lang/Exception"), Cond.declares (Jvm.Bundle.initS Jvm.Bundle.tN), Cond.castable xIAE xIAE] := by decide +kernel
theorem x_ot : ∀ w ∈ Cond.classLink RX9 138 xIAE :: Cond.initialized xIAE :: vx_atS RX9 142 xIAE xNs, vx_ot w = true := by decide +kernel
theorem Xi.of {l : Launch} {y : MethodName} {ws ws' : List Cond} {rm : Room} {G : va_G} {cI cZ cJ : ClassId} {av : List Value} {wc : va_W} {S SX : Type} {post : Int32 → S → Prop} {w1 : S → va_W} {px : SX → Prop} {wx : SX → va_W} {cc : ByteArray} {maxL : Nat} (hlt : l.stackTraces = false) (hy : plainName y.cls = true) (hyc : y.cls = RX9) (hw : ws = Cond.code y cc maxL (some .int) :: ws') (hle : (lg_sl av).length ≤ maxL)
    (hk : Cond.classLink RX9 138 xIAE ∈ ws) (hini : Cond.initialized xIAE ∈ ws) (hat : ∀ w ∈ (vx_atS RX9 142 xIAE xNs).filter goodWord, w ∈ ws) (hrf : 5 < rm.frames) (hrl : 82 ≤ rm.locals) (hrc : 1 ≤ rm.cells) (hrs : 6 ≤ rm.slots)
    (body : ∀ (p : Program) (e : Env) (s : State) (m : MethodId) (args : Array Value) (below : List Frame) (meth : Method) (c : Code) (A : Nat → Prop) (Q : State → Prop) (ls : Array Slot), KCx p s m args c cc maxL ws y.cls A G cI cZ cJ → XS s → va_P G vwCl wc s.heap → va_D A wc → va_S A s.heap s.heap [] → lv_has ls maxL (lv_args 0 av) →
      (∀ (H : Heap) (locs : List Loc) (pc : Nat) (ls : Array Slot) (r : Int32) (u : S), decode cc pc = .ok (.ireturn, 1) → post r u → va_P G vwCl (w1 u) H → va_D A (w1 u) → va_S A s.heap H locs → W p l e rm s m args below meth c H locs 0 0 Q (F0 m pc ls [.int r])) →
      (∀ (H : Heap) (locs : List Loc) (pc is : Nat) (text : String) (ls : Array Slot) (u : SX), (∃ a, vk_R RX9 is text a s) → decode cc pc = .ok (.new 138, 3) → decode cc (pc + 3) = .ok (.dup, 1) → decode cc (pc + 4) = .ok (.ldc is, 2) → decode cc (pc + 6) = .ok (.invokespecial 142, 3) → decode cc (pc + 9) = .ok (.athrow, 1) → ls.size = maxL → px u → va_P G vwCl (wx u) H → va_D A (wx u) → va_S A s.heap H locs → W p l e rm s m args below meth c H locs 0 0 Q (F0 m pc ls [])) →
      W p l e rm s m args below meth c s.heap [] 0 0 Q (F0 m 0 ls [])) : Xi l y ws rm G cI cZ cJ av wc post w1 px wx := by
  intro sz
  refine vx_ofW (cc := cc) (maxL := maxL) (ret := some .int) hy hw ?_
  intro p e s m args below meth c s₁ B hml htab hv
  obtain ⟨rfl, hsz, hP, hK, hD0, hXS, hXZ⟩ := hv
  subst hsz
  rw [lg_entry_eq]
  have hts := atoms_spec (ws := ws) B.pre
  have hown : s.vm.findClass RX9 = some m.cls := by rw [← hyc]; exact findClass_of_methodNamed B.named
  refine body p e s m _ below meth c (va_A wc s.heap.size) _ _ ⟨B.exec, B.bytes, hml, findClass_of_methodNamed B.named, hts, hK, fun q h => Or.inr h⟩ hXS hP hD0.self va_S.rf (lv_entry av hle) ?_ ?_
  · intro H locs pc ls r u hd hp hP hD hS
    refine W.widen (k := rm.cells) (n := rm.slots) (Nat.zero_le _) (Nat.zero_le _) ?_
    exact vx_ret (W.iret B.exec B.bytes B.returns (fun t ht hW => ⟨⟨r, u, rfl, hp, by rw [ht]; exact hP, hD⟩, hS.F ht⟩) hS.2.2 hd B.notSynchronized)
  · intro H locs pc is text ls u hstr d0 d3 d4 d6 d9 hsize hpx hP hD hS
    obtain ⟨sa, hsa⟩ := hstr
    obtain ⟨-, -, -, -, n1, n2, n3, n4⟩ := hXS
    refine vx_throwS B.exec B.bytes hlt (own := RX9) (cls := xIAE) (text := text) (names := xNs) (ik := 138) (is := is) (ic := 142) (A := va_A wc s.heap.size) hown x_fit1 x_fit2 (hts _ hk) (hts _ hini) hsa
      (vx_hat (L := vx_atS RX9 142 xIAE xNs) (fun w hw => hts w (hat w hw)) x_bad (vx_c (va_Nw.use rfl n1) (vx_c (va_Nw.use rfl n2) (vx_c (va_Nw.use rfl n3) (vx_c (va_Nw.use rfl n4) vx_n)))))
      x_ot hXZ.1 hXZ.2 hS (hsize.trans hml.symm) d0 d3 d4 d6 d9 (fun x hx => (htab x hx).elim) hrf hrl (by rw [Nat.zero_add]; exact hrc) (by rw [Nat.zero_add]; exact hrs) B.notSynchronized ?_ hS.2.2 (by rw [Nat.zero_add]; exact hrc) (by rw [Nat.zero_add]; exact hrs)
    intro t hvm hsz ho
    refine ⟨u, hpx, ⟨rfl, hP.kept (fun k x hx => ho x.1 ((hP k x hx).lt)), hD⟩, Nat.le_trans hS.1 hsz, fun q hq hA => ?_⟩
    rw [ho q (Nat.lt_of_lt_of_le hq hS.1)]
    exact hS.2.1 q hq hA
theorem XPre.at {G : va_G} {cI cZ cJ : ClassId} {av : List Value} {w wc : va_W} {s : State} {A : Nat → Prop} {H : Heap} {locs : List Loc} (hK : KK G cI cZ cJ s) (hA : ∀ q : Nat, s.heap.size ≤ q → A q) (hxs : XS s) (hxz : XZ A s s.heap) (hP : va_P G vwCl w H) (hD : va_D A w) (hS : va_S A s.heap H locs) (isC : List Nat) (hC : isC.map (fun i => w[i]?) = wc.map some) (hnC : va_nd isC = true) :
    ∀ U : State, U.heap = H → s.WarmedH U.vm → XPre G cI cZ cJ av wc H.size av.toArray U := fun U hU hW => by
  have hPc := k_subP hP isC hC
  have hDc := hD.sub isC hnC hC
  have hFc := va_free (wc := wc) hD hS hA isC hC
  refine ⟨rfl, by rw [hU], by rw [hU]; exact hPc, hK.warm hW, hDc.weaken (fun _ _ _ _ => trivial), hxs.warm hW, ?_⟩
  rw [hU]
  exact ((hxz.kept hS.2.1).moved hW.alike).narrow hFc
theorem Xi.callV {p : Program} {l : Launch} {e : Env} {R : Room} {s : State} {m : MethodId} {args : Array Value} {below : List Frame} {meth : Method} {c : Code} {H : Heap} {locs : List Loc} {cells slots : Nat} {Q : State → Prop} {A : Nat → Prop} {cc : ByteArray} {nL : Nat} {Ts : List Cond} {own : String} {G : va_G} {cI cZ cJ : ClassId} {y : MethodName} {ws2 ws3 : List Cond} {rm2 : Room} {bytes : ByteArray} {maxL2 index n pc : Nat} {ls : Array Slot} {lv : List (Nat × Value)} {st rest As : List Value} {w wc wr : va_W} {S : Type} {SX : Type} {post : Int32 → S → Prop} {w1 : S → va_W} {px : SX → Prop} {wx : SX → va_W} {b : Nat} {ret2 : Option FieldType} (hM : Xi l y ws2 rm2 G cI cZ cJ (.ref b :: As) wc post w1 px wx) (cx : KCx p s m args c cc nL Ts own A G cI cZ cJ) (hxs : XS s) (hxz : XZ A s s.heap) (hP : va_P G vwCl w H) (hD : va_D A w) (hS : va_S A s.heap H locs) (hl : lv_has ls nL lv) (isC isR : List Nat) {C : String} {ci q0 : Nat} {T2 : u_T} {N2 : Nat} {fs : List Value} (hG : GoodIn Ts (wsV own index C y ws2)) (hd : y.cls = C ∧ y.cls ≠ "java/lang/invoke/MethodHandle" ∧ y.cls ≠ "java/lang/invoke/VarHandle" ∧ (parseMethodDescriptor y.desc).map (fun d => d.parameters.length) = some n) (hci : vwCl[ci]? = some (C, T2, N2)) (he : wc[q0]? = some (b, .inr (ci, fs))) (hw : ws2 = Cond.code y bytes maxL2 ret2 :: ws3) (hR : rm2.frames + 1 ≤ R.frames ∧ 8 + (maxL2 + 11) + rm2.locals ≤ R.locals) (hC : isC.map (fun i => w[i]?) = wc.map some) (hRr : isR.map (fun i => w[i]?) = wr.map some) (hnC : va_nd isC = true) (hnR : va_nd isR = true) (hdis : ∀ i ∈ isR, i ∉ isC)
    (hdec : decode cc pc = .ok (.invokevirtual index, 3)) (hst : st = As.reverse ++ .ref b :: rest) (hn : As.length = n) (hrm : (rest.map fun v => v.category).sum ≤ 8) (hcs : cells + rm2.cells ≤ R.cells ∧ slots + rm2.slots ≤ R.slots)
    (kx : ∀ (q9 : Nat) (ce : Cell) (u : SX) (H : Heap) (locs : List Loc), px u → va_P G vwCl (wr ++ wx u) H → va_D A (wr ++ wx u) → va_S A s.heap H locs → H[q9]? = some ce → ce.vm = .none → s.vm.findClass xIAE = some ce.cls → vx_W p l e R s m args below meth c H locs (cells + rm2.cells) (slots + rm2.slots) Q (F0 m pc ls rest) q9)
    (kk : ∀ (r : Int32) (u : S) (H : Heap) (locs : List Loc), post r u → va_P G vwCl (wr ++ w1 u) H → va_D A (wr ++ w1 u) → va_S A s.heap H locs → W p l e R s m args below meth c H locs (cells + rm2.cells) (slots + rm2.slots) Q (F0 m (pc + 3) ls (.int r :: rest))) : W p l e R s m args below meth c H locs cells slots Q (F0 m pc ls st) := by
  obtain ⟨hx, hb, hml, hown, hts, hK, hA⟩ := cx
  have hPc := k_subP hP isC hC
  have hFc := va_free (wc := wc) hD hS hA isC hC
  have hpre := XPre.at (av := .ref b :: As) hK hA hxs hxz hP hD hS isC hC hnC
  refine vx_calli (vx_runV (As := As) (rest := rest) ⟨hx, hb, hml, hown, hts⟩ (hM H.size) (cwV n hts hG hw rfl rfl hd hR) ⟨XPre.blind, va_recv hK.1 hPc hci he, hpre⟩ rfl hn hl.1 hst (lv_room hrm) hdec hcs) hS (fun q _ h => hFc q h) hFc (fun q _ h => hFc q h) (fun E ce q9 u t H1 locs1 ht hvm hpx hB hz1 hk1 hS1 hc1 hc2 hc3 => ?_) (fun r u t H1 locs1 ht hvm hw1 hB hz1 hk1 hS1 => ?_)
  · obtain ⟨rfl, hP1, hD1⟩ := hB
    rw [ht] at hP1
    obtain ⟨hP2, hD2⟩ := va_join hP hD isC isR hC hRr hnR hdis hk1 hFc hP1 hD1
    exact kx q9 ce u H1 locs1 hpx hP2 hD2 hS1 hc1 hc2 hc3
  · obtain ⟨hP1, hD1⟩ := hB
    rw [ht] at hP1
    obtain ⟨hP2, hD2⟩ := va_join hP hD isC isR hC hRr hnR hdis hk1 hFc hP1 hD1
    exact kk r u H1 locs1 hw1 hP2 hD2 hS1
theorem KiX.callS {p : Program} {l : Launch} {e : Env} {R : Room} {s : State} {m : MethodId} {args : Array Value} {below : List Frame} {meth : Method} {c : Code} {H : Heap} {locs : List Loc} {cells slots : Nat} {Q : State → Prop} {A : Nat → Prop} {cc : ByteArray} {nL : Nat} {Ts : List Cond} {own : String} {G : va_G} {cI cZ cJ : ClassId} {y : MethodName} {ws2 ws3 : List Cond} {rm2 : Room} {bytes : ByteArray} {maxL2 index n pc : Nat} {ls : Array Slot} {lv : List (Nat × Value)} {st rest As : List Value} {w wc wr : va_W} {S : Type} {post : Int32 → S → Prop} {w1 : S → va_W} {ret2 : Option FieldType} {hh : List (Nat × Nat × Nat × Nat)} (hM : KiX l y ws2 rm2 G cI cZ cJ As wc post w1) (cx : KCx p s m args c cc nL Ts own A G cI cZ cJ) (hxs : XS s) (hxz : XZ A s s.heap) (hP : va_P G vwCl w H) (hD : va_D A w) (hS : va_S A s.heap H locs) (hl : lv_has ls nL lv) (isC isR : List Nat) (hG : GoodIn Ts (va_wsS own index y ws2)) (hd : y.cls ≠ "java/lang/invoke/MethodHandle" ∧ y.cls ≠ "java/lang/invoke/VarHandle" ∧ (parseMethodDescriptor y.desc).map (fun d => d.parameters.length) = some n) (hw : ws2 = Cond.codeWith y bytes maxL2 ret2 hh :: ws3) (hR : rm2.frames + 1 ≤ R.frames ∧ 8 + (maxL2 + 11) + rm2.locals ≤ R.locals) (hC : isC.map (fun i => w[i]?) = wc.map some) (hRr : isR.map (fun i => w[i]?) = wr.map some) (hnC : va_nd isC = true) (hnR : va_nd isR = true) (hdis : ∀ i ∈ isR, i ∉ isC)
    (hdec : decode cc pc = .ok (.invokestatic index, 3)) (hst : st = As.reverse ++ rest) (hn : As.length = n) (hrm : (rest.map fun v => v.category).sum ≤ 8) (hcs : cells + rm2.cells ≤ R.cells ∧ slots + rm2.slots ≤ R.slots)
    (kk : ∀ (r : Int32) (u : S) (H : Heap) (locs : List Loc), post r u → va_P G vwCl (wr ++ w1 u) H → va_D A (wr ++ w1 u) → va_S A s.heap H locs → W p l e R s m args below meth c H locs (cells + rm2.cells) (slots + rm2.slots) Q (F0 m (pc + 3) ls (.int r :: rest))) : W p l e R s m args below meth c H locs cells slots Q (F0 m pc ls st) := by
  obtain ⟨hx, hb, hml, hown, hts, hK, hA⟩ := cx
  have hFc := va_free (wc := wc) hD hS hA isC hC
  have hpre := XPre.at (av := As) hK hA hxs hxz hP hD hS isC hC hnC
  refine va_calli (vx_runSW (As := As) (rest := rest) ⟨hx, hb, hml, hown, hts⟩ (hM H.size) (vx_cwSW n hts hG hw rfl rfl hd hR) ⟨XPre.blind, hpre⟩ rfl hn hl.1 hst (lv_room hrm) hdec hcs) hS (fun q _ h => hFc q h) hFc (fun r u t H1 locs1 ht hvm hw1 hB hz1 hk1 hS1 => ?_)
  obtain ⟨hP1, hD1⟩ := hB
  rw [ht] at hP1
  obtain ⟨hP2, hD2⟩ := va_join hP hD isC isR hC hRr hnR hdis hk1 hFc hP1 hD1
  exact kk r u H1 locs1 hw1 hP2 hD2 hS1
theorem KiX.of {l : Launch} {y : MethodName} {ws ws' : List Cond} {rm : Room} {G : va_G} {cI cZ cJ : ClassId} {av : List Value} {wc : va_W} {S : Type} {post : Int32 → S → Prop} {w1 : S → va_W} {cc : ByteArray} {maxL : Nat} {hh : List (Nat × Nat × Nat × Nat)} (hy : plainName y.cls = true) (hw : ws = Cond.codeWith y cc maxL (some .int) hh :: ws') (hle : (lg_sl av).length ≤ maxL)
    (body : ∀ (p : Program) (e : Env) (s : State) (m : MethodId) (args : Array Value) (below : List Frame) (meth : Method) (c : Code) (A : Nat → Prop) (Q : State → Prop) (ls : Array Slot), KCx p s m args c cc maxL ws y.cls A G cI cZ cJ → XS s → XZ A s s.heap → c.exceptionTable.toList = tableOf hh → va_P G vwCl wc s.heap → va_D A wc → va_S A s.heap s.heap [] → lv_has ls maxL (lv_args 0 av) →
      (∀ (H : Heap) (locs : List Loc) (pc : Nat) (ls : Array Slot) (r : Int32) (u : S), decode cc pc = .ok (.ireturn, 1) → post r u → va_P G vwCl (w1 u) H → va_D A (w1 u) → va_S A s.heap H locs → W p l e rm s m args below meth c H locs rm.cells rm.slots Q (F0 m pc ls [.int r])) →
      W p l e rm s m args below meth c s.heap [] 0 0 Q (F0 m 0 ls [])) : KiX l y ws rm G cI cZ cJ av wc post w1 := by
  intro sz
  refine va_MetW (cc := cc) (maxL := maxL) (ret := some .int) hy hw ?_
  intro p e s m args below meth c s₁ B hml hv
  obtain ⟨rfl, hsz, hP, hK, hD0, hXS, hXZ⟩ := hv
  subst hsz
  rw [lg_entry_eq]
  have hts := atoms_spec (ws := ws) B.pre
  refine body p e s m _ below meth c (va_A wc s.heap.size) _ _ ⟨B.exec, B.bytes, hml, findClass_of_methodNamed B.named, hts, hK, fun q h => Or.inr h⟩ hXS hXZ (vx_table (x := y) B (hts _ (by rw [hw]; exact List.mem_cons_self))) hP hD0.self va_S.rf (lv_entry av hle) ?_
  intro H locs pc ls r u hd hp hP hD hS
  exact W.iret B.exec B.bytes B.returns (fun t ht hW => ⟨⟨r, u, rfl, hp, by rw [ht]; exact hP, hD⟩, hS.F ht⟩) hS.2.2 hd B.notSynchronized
