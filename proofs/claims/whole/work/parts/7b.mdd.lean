theorem iX10_wrote_10 : ∀ w ∈ wsX100, w ∈ wsX10_wrote := by decide +kernel
theorem mX10_wrote_16 : Cond.fieldLink RX10 16 "LineFinderModel" "now" "[I" ∈ wsX10_wrote := List.mem_of_getElem? (i := 1) rfl
theorem mX10_wrote_38 : Cond.fieldLink RX10 38 "LineFinderModel" "at" "[I" ∈ wsX10_wrote := List.mem_of_getElem? (i := 2) rfl
theorem mX10_wrote_63 : Cond.fieldLink RX10 63 "LineFinderModel" "hangs" "[Z" ∈ wsX10_wrote := List.mem_of_getElem? (i := 3) rfl
abbrev rCX10_wrote : Room := { frames := 0, cells := 0, slots := 0, locals := 0 }
set_option maxHeartbeats 4000000 in
set_option maxRecDepth 100000 in
theorem CX10_wrote (jl : Launch) (G : va_G) (cI cZ cJ : ClassId) (ma : Nat → Nat) (N : Nat → Nat) (F : Nat → Fn) (rf T X B : Fn) (M : Nat → Nat) (C : Int32) (E : Nat → Fn) (L : Nat → Int64) (hLA : LA N F) (hMR : MR N F T X B) (TR : Fn) (sc k : Nat) (hTR : TRK N (E 1) TR sc) (hsc : sc ≤ 300) (hV : VER N F (N 1) (E 0)) (hk : k ≤ sc) (v : Nat) (hv8 : v < 8) : Kv jl yX10_wrote wsX10_wrote rCX10_wrote G cI cZ cJ [.ref (ma 0), .int (nI k), .int (nI v)] [oB (ma 0) 10 [.ref (ma 1), .int (nI (N 0)), .int (nI (N 3)), .int (nI (N 1)), .int (nI (M 0)), .ref (ma 2), .ref (ma 3), .ref (ma 4), .ref (ma 5), .ref (ma 6), .ref (ma 7), .ref (ma 8), .ref (ma 9), .ref (ma 10), .ref (ma 11), .ref (ma 12), .ref (ma 13), .int (nI (M 1)), .int (nI (M 2)), .int (nI (M 3)), .int C, .ref (ma 14), .ref (ma 15), .int (nI (M 4)), .int (nI (M 5)), .int (nI (M 6)), .int (nI (M 7)), .int (nI (M 8)), .ref (ma 16), .ref (ma 17), .int (nI (M 9)), .ref (ma 18), .int (nI (M 10))], aI cI (ma 1) 7 rf, aI cI (ma 2) 96 T, aI cI (ma 3) 96 (E 0), aI cI (ma 4) 100 X, aI cI (ma 5) 24 (F 27), aI cI (ma 6) 48 (F 17), aI cI (ma 7) 72 (F 18), aI cI (ma 8) 12 (F 19), aI cZ (ma 9) 12 B, aI cI (ma 10) 300 (E 1), aI cI (ma 11) 6 (E 2), aI cI (ma 12) 6 (E 3), aI cI (ma 13) 8 (E 4), aI cI (ma 14) 12 (E 5), aI cZ (ma 15) 12 (E 6), aI cI (ma 16) 2400 (E 7), aJ cJ (ma 17) 2400 L, aI cZ (ma 18) 300 (E 8)] (S := Fn) (fun (hg1 : Fn) => UU F TR hg1 k = UU F TR (E 8) k ||| (VF F TR k).1 v ∧ ∀ j, k ≤ j → hg1 j = E 8 j) (fun (hg1 : Fn) => [oB (ma 0) 10 [.ref (ma 1), .int (nI (N 0)), .int (nI (N 3)), .int (nI (N 1)), .int (nI (M 0)), .ref (ma 2), .ref (ma 3), .ref (ma 4), .ref (ma 5), .ref (ma 6), .ref (ma 7), .ref (ma 8), .ref (ma 9), .ref (ma 10), .ref (ma 11), .ref (ma 12), .ref (ma 13), .int (nI (M 1)), .int (nI (M 2)), .int (nI (M 3)), .int C, .ref (ma 14), .ref (ma 15), .int (nI (M 4)), .int (nI (M 5)), .int (nI (M 6)), .int (nI (M 7)), .int (nI (M 8)), .ref (ma 16), .ref (ma 17), .int (nI (M 9)), .ref (ma 18), .int (nI (M 10))], aI cI (ma 1) 7 rf, aI cI (ma 2) 96 T, aI cI (ma 3) 96 (E 0), aI cI (ma 4) 100 X, aI cI (ma 5) 24 (F 27), aI cI (ma 6) 48 (F 17), aI cI (ma 7) 72 (F 18), aI cI (ma 8) 12 (F 19), aI cZ (ma 9) 12 B, aI cI (ma 10) 300 (E 1), aI cI (ma 11) 6 (E 2), aI cI (ma 12) 6 (E 3), aI cI (ma 13) 8 (E 4), aI cI (ma 14) 12 (E 5), aI cZ (ma 15) 12 (E 6), aI cI (ma 16) 2400 (E 7), aJ cJ (ma 17) 2400 L, aI cZ (ma 18) 300 hg1]) := by
  refine Kv.of (cc := cX10_wrote) (maxL := 4) (by decide +kernel) rfl (Nat.le_of_ble_eq_true rfl) ?_
  intro jp je js jm ja jb jt jc jA jQ ls cx hnm hP hD hS hl hret
  obtain ⟨hx, hb, hml, hown, hts, hK, hA⟩ := id cx
  have hl : lv_has ls 4 [(0, .ref (ma 0)), (1, .int (nI k)), (2, .int (nI v))] := hl
  obtain ⟨H, hH⟩ : ∃ H, H = js.heap := ⟨_, rfl⟩
  obtain ⟨locs, hlocs⟩ : ∃ z : List Loc, z = [] := ⟨_, rfl⟩
  have hP : va_P G vwCl [oB (ma 0) 10 [.ref (ma 1), .int (nI (N 0)), .int (nI (N 3)), .int (nI (N 1)), .int (nI (M 0)), .ref (ma 2), .ref (ma 3), .ref (ma 4), .ref (ma 5), .ref (ma 6), .ref (ma 7), .ref (ma 8), .ref (ma 9), .ref (ma 10), .ref (ma 11), .ref (ma 12), .ref (ma 13), .int (nI (M 1)), .int (nI (M 2)), .int (nI (M 3)), .int C, .ref (ma 14), .ref (ma 15), .int (nI (M 4)), .int (nI (M 5)), .int (nI (M 6)), .int (nI (M 7)), .int (nI (M 8)), .ref (ma 16), .ref (ma 17), .int (nI (M 9)), .ref (ma 18), .int (nI (M 10))], aI cI (ma 1) 7 rf, aI cI (ma 2) 96 T, aI cI (ma 3) 96 (E 0), aI cI (ma 4) 100 X, aI cI (ma 5) 24 (F 27), aI cI (ma 6) 48 (F 17), aI cI (ma 7) 72 (F 18), aI cI (ma 8) 12 (F 19), aI cZ (ma 9) 12 B, aI cI (ma 10) 300 (E 1), aI cI (ma 11) 6 (E 2), aI cI (ma 12) 6 (E 3), aI cI (ma 13) 8 (E 4), aI cI (ma 14) 12 (E 5), aI cZ (ma 15) 12 (E 6), aI cI (ma 16) 2400 (E 7), aJ cJ (ma 17) 2400 L, aI cZ (ma 18) 300 (E 8)] H := by rw [hH]; exact hP
  have hS : va_S jA js.heap H locs := by rw [hH, hlocs]; exact hS
  rw [← hlocs]; rw [show W jp jl je rCX10_wrote js jm ja jb jt jc js.heap locs 0 0 jQ (F0 jm 0 ls []) = W jp jl je rCX10_wrote js jm ja jb jt jc H locs 0 0 jQ (F0 jm 0 ls []) by rw [hH]]
  clear hH hlocs
  obtain ⟨hn24, hc20, hnt12, hob2, hokT, hokN, hokC, hver, hlen7, hpri⟩ := id hLA
  refine lv_iload_n hx hb dX10_wrote_0 rfl (lv_at hl 1 rfl) ?_
  refine lv_iconst (v := nI 1) hx hb dX10_wrote_1 (by decide) ?_
  refine lv_isub hx hb dX10_wrote_2 ?_
  refine lv_istore_n (lv' := [(3, .int ((nI k) - (nI 1))), (0, .ref (ma 0)), (1, .int (nI k)), (2, .int (nI v))]) hx hb dX10_wrote_3 rfl hl (by decide) rfl (fun ls hl => ?_)
  have L4 : ∀ (fu : Nat), ∀ (m : Nat), ∀ (i3 : Int32), (m < fu) → (m ≤ k) → (i3 = nI m - nI 1) → ((VF F TR m).1 v = (VF F TR k).1 v) → ∀ (H : Heap) (locs : List Loc) (ls : Array Slot), va_P G vwCl [oB (ma 0) 10 [.ref (ma 1), .int (nI (N 0)), .int (nI (N 3)), .int (nI (N 1)), .int (nI (M 0)), .ref (ma 2), .ref (ma 3), .ref (ma 4), .ref (ma 5), .ref (ma 6), .ref (ma 7), .ref (ma 8), .ref (ma 9), .ref (ma 10), .ref (ma 11), .ref (ma 12), .ref (ma 13), .int (nI (M 1)), .int (nI (M 2)), .int (nI (M 3)), .int C, .ref (ma 14), .ref (ma 15), .int (nI (M 4)), .int (nI (M 5)), .int (nI (M 6)), .int (nI (M 7)), .int (nI (M 8)), .ref (ma 16), .ref (ma 17), .int (nI (M 9)), .ref (ma 18), .int (nI (M 10))], aI cI (ma 1) 7 rf, aI cI (ma 2) 96 T, aI cI (ma 3) 96 (E 0), aI cI (ma 4) 100 X, aI cI (ma 5) 24 (F 27), aI cI (ma 6) 48 (F 17), aI cI (ma 7) 72 (F 18), aI cI (ma 8) 12 (F 19), aI cZ (ma 9) 12 B, aI cI (ma 10) 300 (E 1), aI cI (ma 11) 6 (E 2), aI cI (ma 12) 6 (E 3), aI cI (ma 13) 8 (E 4), aI cI (ma 14) 12 (E 5), aI cZ (ma 15) 12 (E 6), aI cI (ma 16) 2400 (E 7), aJ cJ (ma 17) 2400 L, aI cZ (ma 18) 300 (E 8)] H → va_D jA [oB (ma 0) 10 [.ref (ma 1), .int (nI (N 0)), .int (nI (N 3)), .int (nI (N 1)), .int (nI (M 0)), .ref (ma 2), .ref (ma 3), .ref (ma 4), .ref (ma 5), .ref (ma 6), .ref (ma 7), .ref (ma 8), .ref (ma 9), .ref (ma 10), .ref (ma 11), .ref (ma 12), .ref (ma 13), .int (nI (M 1)), .int (nI (M 2)), .int (nI (M 3)), .int C, .ref (ma 14), .ref (ma 15), .int (nI (M 4)), .int (nI (M 5)), .int (nI (M 6)), .int (nI (M 7)), .int (nI (M 8)), .ref (ma 16), .ref (ma 17), .int (nI (M 9)), .ref (ma 18), .int (nI (M 10))], aI cI (ma 1) 7 rf, aI cI (ma 2) 96 T, aI cI (ma 3) 96 (E 0), aI cI (ma 4) 100 X, aI cI (ma 5) 24 (F 27), aI cI (ma 6) 48 (F 17), aI cI (ma 7) 72 (F 18), aI cI (ma 8) 12 (F 19), aI cZ (ma 9) 12 B, aI cI (ma 10) 300 (E 1), aI cI (ma 11) 6 (E 2), aI cI (ma 12) 6 (E 3), aI cI (ma 13) 8 (E 4), aI cI (ma 14) 12 (E 5), aI cZ (ma 15) 12 (E 6), aI cI (ma 16) 2400 (E 7), aJ cJ (ma 17) 2400 L, aI cZ (ma 18) 300 (E 8)] → va_S jA js.heap H locs → lv_has ls 4 [(0, .ref (ma 0)), (1, .int (nI k)), (2, .int (nI v)), (3, .int i3)] → W jp jl je rCX10_wrote js jm ja jb jt jc H locs 0 0 jQ (F0 jm 4 ls []) := by
    intro fu
    induction fu with
    | zero =>
      intro m i3 hfu hm hi3 hinv H locs ls hP hD hS hl
      exact absurd hfu (by omega)
    | succ fu ih4 =>
      intro m i3 hfu hm hi3 hinv H locs ls hP hD hS hl
      refine lv_iload_n hx hb dX10_wrote_4 rfl (lv_at hl 3 rfl) ?_
      rcases m with _ | m
      · skip
        rw [m_0] at hi3
        subst hi3
        refine lv_if_lt (tgt := 61) hx hb dX10_wrote_5 (by decide) (fun c_1 => ?_) (fun c_1 => ?_)
        · skip
          exact hret _ _ _ _ (E 8) dX10_wrote_61 (⟨by rw [← hinv]; exact (Nat.or_zero _).symm, fun j hj => rfl⟩) hP hD hS
        · skip
          exact absurd (by decide) c_1
      · skip
        rw [m_s] at hi3
        subst hi3
        refine k_if_lt hx hb dX10_wrote_5 (tgt := 61) (by decide) (by omega) ?_
        obtain ⟨l, hln, hat, htr⟩ := hTR m (by omega)
        obtain ⟨q, hq8, hop, hx8, -⟩ := hokN l hln
        have htn : tn (TR m) = l := by rw [htr]; exact tn_nI (by omega)
        have hop2 : E 0 (4 * l) = nI q := (ver_at hLA hV hln (by decide : 0 < 4)).trans hop
        refine lv_aload_n hx hb dX10_wrote_8 rfl (lv_at hl 0 rfl) ?_
        refine va_get (C := RX10) (T := TX10) (N := 33) (ci := 10) hx hb hts iX10_wrote_10 hown hK.1 hP 0 rfl rfl 6 (Nat.le_of_ble_eq_true rfl) (hts _ mX10_wrote_16) (fun _ h9 => h9) rfl dX10_wrote_9 ?_
        refine lv_iconst (v := nI 4) hx hb dX10_wrote_12 (by decide) ?_
        refine lv_aload_n hx hb dX10_wrote_13 rfl (lv_at hl 0 rfl) ?_
        refine va_get (C := RX10) (T := TX10) (N := 33) (ci := 10) hx hb hts iX10_wrote_10 hown hK.1 hP 0 rfl rfl 13 (Nat.le_of_ble_eq_true rfl) (hts _ mX10_wrote_38) (fun _ h9 => h9) rfl dX10_wrote_14 ?_
        refine lv_iload_n hx hb dX10_wrote_17 rfl (lv_at hl 3 rfl) ?_
        refine k_iald hx hb hK.1 hP 10 0 rfl rfl (by omega) (by decide) dX10_wrote_18 ?_
        refine k_topN hat ?_
        refine k_imul hx hb dX10_wrote_19 ?_
        refine k_iald hx hb hK.1 hP 3 0 rfl rfl (by omega) (by decide) dX10_wrote_20 ?_
        refine k_topN hop2 ?_
        refine lv_iconst (v := nI 4) hx hb dX10_wrote_21 (by decide) ?_
        refine k_cmp_gt (tgt := 55) hx hb dX10_wrote_22 (by decide) (by omega) (by omega) (fun h4 => ?_) (fun h4 => ?_)
        · skip
          refine lv_iinc (v := nI m - nI 1) (lv' := [(3, .int (nI m - nI 1)), (0, .ref (ma 0)), (1, .int (nI k)), (2, .int (nI v))]) hx hb dX10_wrote_55 hl (k := 3) rfl (m_dec m) (by decide) rfl (fun ls hl => ?_)
          refine lv_goto (tgt := 4) hx hb dX10_wrote_58 (by decide) ?_
          exact ih4 m (nI m - nI 1) (by omega) (by omega) (rfl) (by rw [← hinv]; exact (VF_miss htn hop hq8 hx8 (Or.inl h4)).symm) _ _ _ hP hD hS (lv_sub hl [1, 2, 3, 0] rfl)
        · skip
          have hxe : E 0 (4 * l + 1) = F 5 l := ver_at hLA hV hln (by decide)
          refine lv_aload_n hx hb dX10_wrote_25 rfl (lv_at hl 0 rfl) ?_
          refine va_get (C := RX10) (T := TX10) (N := 33) (ci := 10) hx hb hts iX10_wrote_10 hown hK.1 hP 0 rfl rfl 6 (Nat.le_of_ble_eq_true rfl) (hts _ mX10_wrote_16) (fun _ h9 => h9) rfl dX10_wrote_26 ?_
          refine lv_iconst (v := nI 4) hx hb dX10_wrote_29 (by decide) ?_
          refine lv_aload_n hx hb dX10_wrote_30 rfl (lv_at hl 0 rfl) ?_
          refine va_get (C := RX10) (T := TX10) (N := 33) (ci := 10) hx hb hts iX10_wrote_10 hown hK.1 hP 0 rfl rfl 13 (Nat.le_of_ble_eq_true rfl) (hts _ mX10_wrote_38) (fun _ h9 => h9) rfl dX10_wrote_31 ?_
          refine lv_iload_n hx hb dX10_wrote_34 rfl (lv_at hl 3 rfl) ?_
          refine k_iald hx hb hK.1 hP 10 0 rfl rfl (by omega) (by decide) dX10_wrote_35 ?_
          refine k_topN hat ?_
          refine k_imul hx hb dX10_wrote_36 ?_
          refine lv_iconst (v := nI 1) hx hb dX10_wrote_37 (by decide) ?_
          refine k_iadd hx hb dX10_wrote_38 ?_
          refine k_iald hx hb hK.1 hP 3 0 rfl rfl (by omega) (by decide) dX10_wrote_39 ?_
          refine lv_iload_n hx hb dX10_wrote_40 rfl (lv_at hl 2 rfl) ?_
          refine lv_icmp_eq (tgt := 47) hx hb dX10_wrote_41 (by decide) (fun hxv => ?_) (fun hxv => ?_)
          · skip
            refine lv_aload_n hx hb dX10_wrote_47 rfl (lv_at hl 0 rfl) ?_
            refine va_get (C := RX10) (T := TX10) (N := 33) (ci := 10) hx hb hts iX10_wrote_10 hown hK.1 hP 0 rfl rfl 31 (Nat.le_of_ble_eq_true rfl) (hts _ mX10_wrote_63) (fun _ h9 => h9) rfl dX10_wrote_48 ?_
            refine lv_iload_n hx hb dX10_wrote_51 rfl (lv_at hl 3 rfl) ?_
            refine lv_iconst (v := nI 1) hx hb dX10_wrote_52 (by decide) ?_
            refine k_zast hx hb hK.1 hP hD hS 18 1 rfl rfl (by decide) (by omega) (by decide) dX10_wrote_53 (fun H locs hP hD hS => ?_)
            have hP : va_P G vwCl [oB (ma 0) 10 [.ref (ma 1), .int (nI (N 0)), .int (nI (N 3)), .int (nI (N 1)), .int (nI (M 0)), .ref (ma 2), .ref (ma 3), .ref (ma 4), .ref (ma 5), .ref (ma 6), .ref (ma 7), .ref (ma 8), .ref (ma 9), .ref (ma 10), .ref (ma 11), .ref (ma 12), .ref (ma 13), .int (nI (M 1)), .int (nI (M 2)), .int (nI (M 3)), .int C, .ref (ma 14), .ref (ma 15), .int (nI (M 4)), .int (nI (M 5)), .int (nI (M 6)), .int (nI (M 7)), .int (nI (M 8)), .ref (ma 16), .ref (ma 17), .int (nI (M 9)), .ref (ma 18), .int (nI (M 10))], aI cI (ma 1) 7 rf, aI cI (ma 2) 96 T, aI cI (ma 3) 96 (E 0), aI cI (ma 4) 100 X, aI cI (ma 5) 24 (F 27), aI cI (ma 6) 48 (F 17), aI cI (ma 7) 72 (F 18), aI cI (ma 8) 12 (F 19), aI cZ (ma 9) 12 B, aI cI (ma 10) 300 (E 1), aI cI (ma 11) 6 (E 2), aI cI (ma 12) 6 (E 3), aI cI (ma 13) 8 (E 4), aI cI (ma 14) 12 (E 5), aI cZ (ma 15) 12 (E 6), aI cI (ma 16) 2400 (E 7), aJ cJ (ma 17) 2400 L, aI cZ (ma 18) 300 (upd (E 8) m (nI 1))] H := hP
            have hD : va_D jA [oB (ma 0) 10 [.ref (ma 1), .int (nI (N 0)), .int (nI (N 3)), .int (nI (N 1)), .int (nI (M 0)), .ref (ma 2), .ref (ma 3), .ref (ma 4), .ref (ma 5), .ref (ma 6), .ref (ma 7), .ref (ma 8), .ref (ma 9), .ref (ma 10), .ref (ma 11), .ref (ma 12), .ref (ma 13), .int (nI (M 1)), .int (nI (M 2)), .int (nI (M 3)), .int C, .ref (ma 14), .ref (ma 15), .int (nI (M 4)), .int (nI (M 5)), .int (nI (M 6)), .int (nI (M 7)), .int (nI (M 8)), .ref (ma 16), .ref (ma 17), .int (nI (M 9)), .ref (ma 18), .int (nI (M 10))], aI cI (ma 1) 7 rf, aI cI (ma 2) 96 T, aI cI (ma 3) 96 (E 0), aI cI (ma 4) 100 X, aI cI (ma 5) 24 (F 27), aI cI (ma 6) 48 (F 17), aI cI (ma 7) 72 (F 18), aI cI (ma 8) 12 (F 19), aI cZ (ma 9) 12 B, aI cI (ma 10) 300 (E 1), aI cI (ma 11) 6 (E 2), aI cI (ma 12) 6 (E 3), aI cI (ma 13) 8 (E 4), aI cI (ma 14) 12 (E 5), aI cZ (ma 15) 12 (E 6), aI cI (ma 16) 2400 (E 7), aJ cJ (ma 17) 2400 L, aI cZ (ma 18) 300 (upd (E 8) m (nI 1))] := hD
            exact hret _ _ _ _ (upd (E 8) m (nI 1)) dX10_wrote_54 (⟨by rw [UU_mark (by omega), ← hinv, VF_hit htn hop (by omega) (by rw [← hxe]; exact hxv) hv8], fun j hj => upd_n (by omega)⟩) hP hD hS
          · skip
            refine lv_goto (tgt := 55) hx hb dX10_wrote_44 (by decide) ?_
            refine lv_iinc (v := nI m - nI 1) (lv' := [(3, .int (nI m - nI 1)), (0, .ref (ma 0)), (1, .int (nI k)), (2, .int (nI v))]) hx hb dX10_wrote_55 hl (k := 3) rfl (m_dec m) (by decide) rfl (fun ls hl => ?_)
            refine lv_goto (tgt := 4) hx hb dX10_wrote_58 (by decide) ?_
            exact ih4 m (nI m - nI 1) (by omega) (by omega) (rfl) (by rw [← hinv]; exact (VF_miss htn hop hq8 hx8 (Or.inr (by rw [← hxe]; exact hxv))).symm) _ _ _ hP hD hS (lv_sub hl [1, 2, 3, 0] rfl)
  exact L4 (k + 1) k ((nI k) - (nI 1)) (by omega) (Nat.le_refl _) (rfl) (rfl) _ _ _ hP hD hS (lv_sub hl [1, 2, 3, 0] rfl)

theorem iX10_latestIf_10 : ∀ w ∈ wsX100, w ∈ wsX10_latestIf := by decide +kernel
theorem mX10_latestIf_16 : Cond.fieldLink RX10 16 "LineFinderModel" "now" "[I" ∈ wsX10_latestIf := List.mem_of_getElem? (i := 1) rfl
theorem mX10_latestIf_38 : Cond.fieldLink RX10 38 "LineFinderModel" "at" "[I" ∈ wsX10_latestIf := List.mem_of_getElem? (i := 2) rfl
theorem mX10_latestIf_63 : Cond.fieldLink RX10 63 "LineFinderModel" "hangs" "[Z" ∈ wsX10_latestIf := List.mem_of_getElem? (i := 3) rfl
abbrev rCX10_latestIf : Room := { frames := 0, cells := 0, slots := 0, locals := 0 }
set_option maxHeartbeats 4000000 in
set_option maxRecDepth 100000 in
theorem CX10_latestIf (jl : Launch) (G : va_G) (cI cZ cJ : ClassId) (ma : Nat → Nat) (N : Nat → Nat) (F : Nat → Fn) (rf T X B : Fn) (M : Nat → Nat) (C : Int32) (E : Nat → Fn) (L : Nat → Int64) (hLA : LA N F) (hMR : MR N F T X B) (TR : Fn) (sc k : Nat) (hTR : TRK N (E 1) TR sc) (hsc : sc ≤ 300) (hV : VER N F (N 1) (E 0)) (hk : k ≤ sc) : Kv jl yX10_latestIf wsX10_latestIf rCX10_latestIf G cI cZ cJ [.ref (ma 0), .int (nI k)] [oB (ma 0) 10 [.ref (ma 1), .int (nI (N 0)), .int (nI (N 3)), .int (nI (N 1)), .int (nI (M 0)), .ref (ma 2), .ref (ma 3), .ref (ma 4), .ref (ma 5), .ref (ma 6), .ref (ma 7), .ref (ma 8), .ref (ma 9), .ref (ma 10), .ref (ma 11), .ref (ma 12), .ref (ma 13), .int (nI (M 1)), .int (nI (M 2)), .int (nI (M 3)), .int C, .ref (ma 14), .ref (ma 15), .int (nI (M 4)), .int (nI (M 5)), .int (nI (M 6)), .int (nI (M 7)), .int (nI (M 8)), .ref (ma 16), .ref (ma 17), .int (nI (M 9)), .ref (ma 18), .int (nI (M 10))], aI cI (ma 1) 7 rf, aI cI (ma 2) 96 T, aI cI (ma 3) 96 (E 0), aI cI (ma 4) 100 X, aI cI (ma 5) 24 (F 27), aI cI (ma 6) 48 (F 17), aI cI (ma 7) 72 (F 18), aI cI (ma 8) 12 (F 19), aI cZ (ma 9) 12 B, aI cI (ma 10) 300 (E 1), aI cI (ma 11) 6 (E 2), aI cI (ma 12) 6 (E 3), aI cI (ma 13) 8 (E 4), aI cI (ma 14) 12 (E 5), aI cZ (ma 15) 12 (E 6), aI cI (ma 16) 2400 (E 7), aJ cJ (ma 17) 2400 L, aI cZ (ma 18) 300 (E 8)] (S := Fn) (fun (hg1 : Fn) => UU F TR hg1 k = UU F TR (E 8) k ||| (VF F TR k).2 ∧ ∀ j, k ≤ j → hg1 j = E 8 j) (fun (hg1 : Fn) => [oB (ma 0) 10 [.ref (ma 1), .int (nI (N 0)), .int (nI (N 3)), .int (nI (N 1)), .int (nI (M 0)), .ref (ma 2), .ref (ma 3), .ref (ma 4), .ref (ma 5), .ref (ma 6), .ref (ma 7), .ref (ma 8), .ref (ma 9), .ref (ma 10), .ref (ma 11), .ref (ma 12), .ref (ma 13), .int (nI (M 1)), .int (nI (M 2)), .int (nI (M 3)), .int C, .ref (ma 14), .ref (ma 15), .int (nI (M 4)), .int (nI (M 5)), .int (nI (M 6)), .int (nI (M 7)), .int (nI (M 8)), .ref (ma 16), .ref (ma 17), .int (nI (M 9)), .ref (ma 18), .int (nI (M 10))], aI cI (ma 1) 7 rf, aI cI (ma 2) 96 T, aI cI (ma 3) 96 (E 0), aI cI (ma 4) 100 X, aI cI (ma 5) 24 (F 27), aI cI (ma 6) 48 (F 17), aI cI (ma 7) 72 (F 18), aI cI (ma 8) 12 (F 19), aI cZ (ma 9) 12 B, aI cI (ma 10) 300 (E 1), aI cI (ma 11) 6 (E 2), aI cI (ma 12) 6 (E 3), aI cI (ma 13) 8 (E 4), aI cI (ma 14) 12 (E 5), aI cZ (ma 15) 12 (E 6), aI cI (ma 16) 2400 (E 7), aJ cJ (ma 17) 2400 L, aI cZ (ma 18) 300 hg1]) := by
  refine Kv.of (cc := cX10_latestIf) (maxL := 3) (by decide +kernel) rfl (Nat.le_of_ble_eq_true rfl) ?_
  intro jp je js jm ja jb jt jc jA jQ ls cx hnm hP hD hS hl hret
  obtain ⟨hx, hb, hml, hown, hts, hK, hA⟩ := id cx
  have hl : lv_has ls 3 [(0, .ref (ma 0)), (1, .int (nI k))] := hl
  obtain ⟨H, hH⟩ : ∃ H, H = js.heap := ⟨_, rfl⟩
  obtain ⟨locs, hlocs⟩ : ∃ z : List Loc, z = [] := ⟨_, rfl⟩
  have hP : va_P G vwCl [oB (ma 0) 10 [.ref (ma 1), .int (nI (N 0)), .int (nI (N 3)), .int (nI (N 1)), .int (nI (M 0)), .ref (ma 2), .ref (ma 3), .ref (ma 4), .ref (ma 5), .ref (ma 6), .ref (ma 7), .ref (ma 8), .ref (ma 9), .ref (ma 10), .ref (ma 11), .ref (ma 12), .ref (ma 13), .int (nI (M 1)), .int (nI (M 2)), .int (nI (M 3)), .int C, .ref (ma 14), .ref (ma 15), .int (nI (M 4)), .int (nI (M 5)), .int (nI (M 6)), .int (nI (M 7)), .int (nI (M 8)), .ref (ma 16), .ref (ma 17), .int (nI (M 9)), .ref (ma 18), .int (nI (M 10))], aI cI (ma 1) 7 rf, aI cI (ma 2) 96 T, aI cI (ma 3) 96 (E 0), aI cI (ma 4) 100 X, aI cI (ma 5) 24 (F 27), aI cI (ma 6) 48 (F 17), aI cI (ma 7) 72 (F 18), aI cI (ma 8) 12 (F 19), aI cZ (ma 9) 12 B, aI cI (ma 10) 300 (E 1), aI cI (ma 11) 6 (E 2), aI cI (ma 12) 6 (E 3), aI cI (ma 13) 8 (E 4), aI cI (ma 14) 12 (E 5), aI cZ (ma 15) 12 (E 6), aI cI (ma 16) 2400 (E 7), aJ cJ (ma 17) 2400 L, aI cZ (ma 18) 300 (E 8)] H := by rw [hH]; exact hP
  have hS : va_S jA js.heap H locs := by rw [hH, hlocs]; exact hS
  rw [← hlocs]; rw [show W jp jl je rCX10_latestIf js jm ja jb jt jc js.heap locs 0 0 jQ (F0 jm 0 ls []) = W jp jl je rCX10_latestIf js jm ja jb jt jc H locs 0 0 jQ (F0 jm 0 ls []) by rw [hH]]
  clear hH hlocs
  obtain ⟨hn24, hc20, hnt12, hob2, hokT, hokN, hokC, hver, hlen7, hpri⟩ := id hLA
  refine lv_iload_n hx hb dX10_latestIf_0 rfl (lv_at hl 1 rfl) ?_
  refine lv_iconst (v := nI 1) hx hb dX10_latestIf_1 (by decide) ?_
  refine lv_isub hx hb dX10_latestIf_2 ?_
  refine lv_istore_n (lv' := [(2, .int ((nI k) - (nI 1))), (0, .ref (ma 0)), (1, .int (nI k))]) hx hb dX10_latestIf_3 rfl hl (by decide) rfl (fun ls hl => ?_)
  have L4 : ∀ (fu : Nat), ∀ (m : Nat), ∀ (i3 : Int32), (m < fu) → (m ≤ k) → (i3 = nI m - nI 1) → ((VF F TR m).2 = (VF F TR k).2) → ∀ (H : Heap) (locs : List Loc) (ls : Array Slot), va_P G vwCl [oB (ma 0) 10 [.ref (ma 1), .int (nI (N 0)), .int (nI (N 3)), .int (nI (N 1)), .int (nI (M 0)), .ref (ma 2), .ref (ma 3), .ref (ma 4), .ref (ma 5), .ref (ma 6), .ref (ma 7), .ref (ma 8), .ref (ma 9), .ref (ma 10), .ref (ma 11), .ref (ma 12), .ref (ma 13), .int (nI (M 1)), .int (nI (M 2)), .int (nI (M 3)), .int C, .ref (ma 14), .ref (ma 15), .int (nI (M 4)), .int (nI (M 5)), .int (nI (M 6)), .int (nI (M 7)), .int (nI (M 8)), .ref (ma 16), .ref (ma 17), .int (nI (M 9)), .ref (ma 18), .int (nI (M 10))], aI cI (ma 1) 7 rf, aI cI (ma 2) 96 T, aI cI (ma 3) 96 (E 0), aI cI (ma 4) 100 X, aI cI (ma 5) 24 (F 27), aI cI (ma 6) 48 (F 17), aI cI (ma 7) 72 (F 18), aI cI (ma 8) 12 (F 19), aI cZ (ma 9) 12 B, aI cI (ma 10) 300 (E 1), aI cI (ma 11) 6 (E 2), aI cI (ma 12) 6 (E 3), aI cI (ma 13) 8 (E 4), aI cI (ma 14) 12 (E 5), aI cZ (ma 15) 12 (E 6), aI cI (ma 16) 2400 (E 7), aJ cJ (ma 17) 2400 L, aI cZ (ma 18) 300 (E 8)] H → va_D jA [oB (ma 0) 10 [.ref (ma 1), .int (nI (N 0)), .int (nI (N 3)), .int (nI (N 1)), .int (nI (M 0)), .ref (ma 2), .ref (ma 3), .ref (ma 4), .ref (ma 5), .ref (ma 6), .ref (ma 7), .ref (ma 8), .ref (ma 9), .ref (ma 10), .ref (ma 11), .ref (ma 12), .ref (ma 13), .int (nI (M 1)), .int (nI (M 2)), .int (nI (M 3)), .int C, .ref (ma 14), .ref (ma 15), .int (nI (M 4)), .int (nI (M 5)), .int (nI (M 6)), .int (nI (M 7)), .int (nI (M 8)), .ref (ma 16), .ref (ma 17), .int (nI (M 9)), .ref (ma 18), .int (nI (M 10))], aI cI (ma 1) 7 rf, aI cI (ma 2) 96 T, aI cI (ma 3) 96 (E 0), aI cI (ma 4) 100 X, aI cI (ma 5) 24 (F 27), aI cI (ma 6) 48 (F 17), aI cI (ma 7) 72 (F 18), aI cI (ma 8) 12 (F 19), aI cZ (ma 9) 12 B, aI cI (ma 10) 300 (E 1), aI cI (ma 11) 6 (E 2), aI cI (ma 12) 6 (E 3), aI cI (ma 13) 8 (E 4), aI cI (ma 14) 12 (E 5), aI cZ (ma 15) 12 (E 6), aI cI (ma 16) 2400 (E 7), aJ cJ (ma 17) 2400 L, aI cZ (ma 18) 300 (E 8)] → va_S jA js.heap H locs → lv_has ls 3 [(0, .ref (ma 0)), (1, .int (nI k)), (2, .int i3)] → W jp jl je rCX10_latestIf js jm ja jb jt jc H locs 0 0 jQ (F0 jm 4 ls []) := by
    intro fu
    induction fu with
    | zero =>
      intro m i3 hfu hm hi3 hinv H locs ls hP hD hS hl
      exact absurd hfu (by omega)
    | succ fu ih4 =>
      intro m i3 hfu hm hi3 hinv H locs ls hP hD hS hl
      refine lv_iload_n hx hb dX10_latestIf_4 rfl (lv_at hl 2 rfl) ?_
      rcases m with _ | m
      · skip
        rw [m_0] at hi3
        subst hi3
        refine lv_if_lt (tgt := 42) hx hb dX10_latestIf_5 (by decide) (fun c_1 => ?_) (fun c_1 => ?_)
        · skip
          exact hret _ _ _ _ (E 8) dX10_latestIf_42 (⟨by rw [← hinv]; exact (Nat.or_zero _).symm, fun j hj => rfl⟩) hP hD hS
        · skip
          exact absurd (by decide) c_1
      · skip
        rw [m_s] at hi3
        subst hi3
        refine k_if_lt hx hb dX10_latestIf_5 (tgt := 42) (by decide) (by omega) ?_
        obtain ⟨l, hln, hat, htr⟩ := hTR m (by omega)
        obtain ⟨q, hq8, hop, hx8, -⟩ := hokN l hln
        have htn : tn (TR m) = l := by rw [htr]; exact tn_nI (by omega)
        have hop2 : E 0 (4 * l) = nI q := (ver_at hLA hV hln (by decide : 0 < 4)).trans hop
        refine lv_aload_n hx hb dX10_latestIf_8 rfl (lv_at hl 0 rfl) ?_
        refine va_get (C := RX10) (T := TX10) (N := 33) (ci := 10) hx hb hts iX10_latestIf_10 hown hK.1 hP 0 rfl rfl 6 (Nat.le_of_ble_eq_true rfl) (hts _ mX10_latestIf_16) (fun _ h9 => h9) rfl dX10_latestIf_9 ?_
        refine lv_iconst (v := nI 4) hx hb dX10_latestIf_12 (by decide) ?_
        refine lv_aload_n hx hb dX10_latestIf_13 rfl (lv_at hl 0 rfl) ?_
        refine va_get (C := RX10) (T := TX10) (N := 33) (ci := 10) hx hb hts iX10_latestIf_10 hown hK.1 hP 0 rfl rfl 13 (Nat.le_of_ble_eq_true rfl) (hts _ mX10_latestIf_38) (fun _ h9 => h9) rfl dX10_latestIf_14 ?_
        refine lv_iload_n hx hb dX10_latestIf_17 rfl (lv_at hl 2 rfl) ?_
        refine k_iald hx hb hK.1 hP 10 0 rfl rfl (by omega) (by decide) dX10_latestIf_18 ?_
        refine k_topN hat ?_
        refine k_imul hx hb dX10_latestIf_19 ?_
        refine k_iald hx hb hK.1 hP 3 0 rfl rfl (by omega) (by decide) dX10_latestIf_20 ?_
        refine k_topN hop2 ?_
        refine lv_iconst (v := nI 5) hx hb dX10_latestIf_21 (by decide) ?_
        refine k_cmp_eq (tgt := 28) hx hb dX10_latestIf_22 (by decide) (by omega) (by omega) (fun h5 => ?_) (fun h5 => ?_)
        · skip
          refine lv_aload_n hx hb dX10_latestIf_28 rfl (lv_at hl 0 rfl) ?_
          refine va_get (C := RX10) (T := TX10) (N := 33) (ci := 10) hx hb hts iX10_latestIf_10 hown hK.1 hP 0 rfl rfl 31 (Nat.le_of_ble_eq_true rfl) (hts _ mX10_latestIf_63) (fun _ h9 => h9) rfl dX10_latestIf_29 ?_
          refine lv_iload_n hx hb dX10_latestIf_32 rfl (lv_at hl 2 rfl) ?_
          refine lv_iconst (v := nI 1) hx hb dX10_latestIf_33 (by decide) ?_
          refine k_zast hx hb hK.1 hP hD hS 18 1 rfl rfl (by decide) (by omega) (by decide) dX10_latestIf_34 (fun H locs hP hD hS => ?_)
          have hP : va_P G vwCl [oB (ma 0) 10 [.ref (ma 1), .int (nI (N 0)), .int (nI (N 3)), .int (nI (N 1)), .int (nI (M 0)), .ref (ma 2), .ref (ma 3), .ref (ma 4), .ref (ma 5), .ref (ma 6), .ref (ma 7), .ref (ma 8), .ref (ma 9), .ref (ma 10), .ref (ma 11), .ref (ma 12), .ref (ma 13), .int (nI (M 1)), .int (nI (M 2)), .int (nI (M 3)), .int C, .ref (ma 14), .ref (ma 15), .int (nI (M 4)), .int (nI (M 5)), .int (nI (M 6)), .int (nI (M 7)), .int (nI (M 8)), .ref (ma 16), .ref (ma 17), .int (nI (M 9)), .ref (ma 18), .int (nI (M 10))], aI cI (ma 1) 7 rf, aI cI (ma 2) 96 T, aI cI (ma 3) 96 (E 0), aI cI (ma 4) 100 X, aI cI (ma 5) 24 (F 27), aI cI (ma 6) 48 (F 17), aI cI (ma 7) 72 (F 18), aI cI (ma 8) 12 (F 19), aI cZ (ma 9) 12 B, aI cI (ma 10) 300 (E 1), aI cI (ma 11) 6 (E 2), aI cI (ma 12) 6 (E 3), aI cI (ma 13) 8 (E 4), aI cI (ma 14) 12 (E 5), aI cZ (ma 15) 12 (E 6), aI cI (ma 16) 2400 (E 7), aJ cJ (ma 17) 2400 L, aI cZ (ma 18) 300 (upd (E 8) m (nI 1))] H := hP
          have hD : va_D jA [oB (ma 0) 10 [.ref (ma 1), .int (nI (N 0)), .int (nI (N 3)), .int (nI (N 1)), .int (nI (M 0)), .ref (ma 2), .ref (ma 3), .ref (ma 4), .ref (ma 5), .ref (ma 6), .ref (ma 7), .ref (ma 8), .ref (ma 9), .ref (ma 10), .ref (ma 11), .ref (ma 12), .ref (ma 13), .int (nI (M 1)), .int (nI (M 2)), .int (nI (M 3)), .int C, .ref (ma 14), .ref (ma 15), .int (nI (M 4)), .int (nI (M 5)), .int (nI (M 6)), .int (nI (M 7)), .int (nI (M 8)), .ref (ma 16), .ref (ma 17), .int (nI (M 9)), .ref (ma 18), .int (nI (M 10))], aI cI (ma 1) 7 rf, aI cI (ma 2) 96 T, aI cI (ma 3) 96 (E 0), aI cI (ma 4) 100 X, aI cI (ma 5) 24 (F 27), aI cI (ma 6) 48 (F 17), aI cI (ma 7) 72 (F 18), aI cI (ma 8) 12 (F 19), aI cZ (ma 9) 12 B, aI cI (ma 10) 300 (E 1), aI cI (ma 11) 6 (E 2), aI cI (ma 12) 6 (E 3), aI cI (ma 13) 8 (E 4), aI cI (ma 14) 12 (E 5), aI cZ (ma 15) 12 (E 6), aI cI (ma 16) 2400 (E 7), aJ cJ (ma 17) 2400 L, aI cZ (ma 18) 300 (upd (E 8) m (nI 1))] := hD
          exact hret _ _ _ _ (upd (E 8) m (nI 1)) dX10_latestIf_35 (⟨by rw [UU_mark (by omega), ← hinv, VF_if htn (by rw [hop, h5])], fun j hj => upd_n (by omega)⟩) hP hD hS
        · skip
          refine lv_goto (tgt := 36) hx hb dX10_latestIf_25 (by decide) ?_
          refine lv_iinc (v := nI m - nI 1) (lv' := [(2, .int (nI m - nI 1)), (0, .ref (ma 0)), (1, .int (nI k))]) hx hb dX10_latestIf_36 hl (k := 2) rfl (m_dec m) (by decide) rfl (fun ls hl => ?_)
          refine lv_goto (tgt := 4) hx hb dX10_latestIf_39 (by decide) ?_
          exact ih4 m (nI m - nI 1) (by omega) (by omega) (rfl) (by rw [← hinv]; exact (VF_noif htn hop hq8 h5).symm) _ _ _ hP hD hS (lv_sub hl [1, 2, 0] rfl)
  exact L4 (k + 1) k ((nI k) - (nI 1)) (by omega) (Nat.le_refl _) (rfl) (rfl) _ _ _ hP hD hS (lv_sub hl [1, 2, 0] rfl)

theorem iX10_slice_10 : ∀ w ∈ wsX100, w ∈ wsX10_slice := by decide +kernel
theorem mX10_slice_16 : Cond.fieldLink RX10 16 "LineFinderModel" "now" "[I" ∈ wsX10_slice := List.mem_of_getElem? (i := 6) rfl
theorem mX10_slice_38 : Cond.fieldLink RX10 38 "LineFinderModel" "at" "[I" ∈ wsX10_slice := List.mem_of_getElem? (i := 5) rfl
theorem mX10_slice_44 : Cond.fieldLink RX10 44 "LineFinderModel" "outStep" "[I" ∈ wsX10_slice := List.mem_of_getElem? (i := 4) rfl
theorem mX10_slice_63 : Cond.fieldLink RX10 63 "LineFinderModel" "hangs" "[Z" ∈ wsX10_slice := List.mem_of_getElem? (i := 3) rfl
theorem mX10_slice_106 : Cond.fieldLink RX10 106 "LineFinderModel" "steps" "I" ∈ wsX10_slice := List.mem_of_getElem? (i := 2) rfl
theorem mX10_slice_109 : Cond.fieldLink RX10 109 "LineFinderModel" "outMany" "I" ∈ wsX10_slice := List.mem_of_getElem? (i := 1) rfl
theorem hdX10_latestIf : yX10_latestIf.cls = RX10 ∧ yX10_latestIf.cls ≠ "java/lang/invoke/MethodHandle" ∧ yX10_latestIf.cls ≠ "java/lang/invoke/VarHandle" ∧ (parseMethodDescriptor yX10_latestIf.desc).map (fun d => d.parameters.length) = some 1 := by decide +kernel
theorem hdX10_wrote : yX10_wrote.cls = RX10 ∧ yX10_wrote.cls ≠ "java/lang/invoke/MethodHandle" ∧ yX10_wrote.cls ≠ "java/lang/invoke/VarHandle" ∧ (parseMethodDescriptor yX10_wrote.desc).map (fun d => d.parameters.length) = some 2 := by decide +kernel
abbrev rCX10_slice : Room := { frames := 2, cells := 0, slots := 0, locals := 53 }
set_option maxHeartbeats 4000000 in
set_option maxRecDepth 100000 in
theorem CX10_slice (jl : Launch) (G : va_G) (cI cZ cJ : ClassId) (ma : Nat → Nat) (N : Nat → Nat) (F : Nat → Fn) (rf T X B : Fn) (M : Nat → Nat) (C : Int32) (E : Nat → Fn) (L : Nat → Int64) (hLA : LA N F) (hMR : MR N F T X B) (p k : Int32) : Ki jl yX10_slice wsX10_slice rCX10_slice G cI cZ cJ [.ref (ma 0), .int p, .int k] [oB (ma 0) 10 [.ref (ma 1), .int (nI (N 0)), .int (nI (N 3)), .int (nI (N 1)), .int (nI (M 0)), .ref (ma 2), .ref (ma 3), .ref (ma 4), .ref (ma 5), .ref (ma 6), .ref (ma 7), .ref (ma 8), .ref (ma 9), .ref (ma 10), .ref (ma 11), .ref (ma 12), .ref (ma 13), .int (nI (M 1)), .int (nI (M 2)), .int (nI (M 3)), .int C, .ref (ma 14), .ref (ma 15), .int (nI (M 4)), .int (nI (M 5)), .int (nI (M 6)), .int (nI (M 7)), .int (nI (M 8)), .ref (ma 16), .ref (ma 17), .int (nI (M 9)), .ref (ma 18), .int (nI (M 10))], aI cI (ma 1) 7 rf, aI cI (ma 2) 96 T, aI cI (ma 3) 96 (E 0), aI cI (ma 4) 100 X, aI cI (ma 5) 24 (F 27), aI cI (ma 6) 48 (F 17), aI cI (ma 7) 72 (F 18), aI cI (ma 8) 12 (F 19), aI cZ (ma 9) 12 B, aI cI (ma 10) 300 (E 1), aI cI (ma 11) 6 (E 2), aI cI (ma 12) 6 (E 3), aI cI (ma 13) 8 (E 4), aI cI (ma 14) 12 (E 5), aI cZ (ma 15) 12 (E 6), aI cI (ma 16) 2400 (E 7), aJ cJ (ma 17) 2400 L, aI cZ (ma 18) 300 (E 8)] (S := Fn × (Nat → Nat) × Int32 × (Nat → Fn) × (Nat → Int64)) (fun (r : Int32) (u : Fn × (Nat → Nat) × Int32 × (Nat → Fn) × (Nat → Int64)) => match u with | (rf1, M1, C1, E1, L1) => r = rA (cIx (N 3) (RUNP N F (tn p)).2.2.1 p k) (ansSlice N F (tn p) (tn k)) ∧ rf1 = rfU rf (cIx (N 3) (RUNP N F (tn p)).2.2.1 p k)) (fun (u : Fn × (Nat → Nat) × Int32 × (Nat → Fn) × (Nat → Int64)) => match u with | (rf1, M1, C1, E1, L1) => [oB (ma 0) 10 [.ref (ma 1), .int (nI (N 0)), .int (nI (N 3)), .int (nI (N 1)), .int (nI (M1 0)), .ref (ma 2), .ref (ma 3), .ref (ma 4), .ref (ma 5), .ref (ma 6), .ref (ma 7), .ref (ma 8), .ref (ma 9), .ref (ma 10), .ref (ma 11), .ref (ma 12), .ref (ma 13), .int (nI (M1 1)), .int (nI (M1 2)), .int (nI (M1 3)), .int C1, .ref (ma 14), .ref (ma 15), .int (nI (M1 4)), .int (nI (M1 5)), .int (nI (M1 6)), .int (nI (M1 7)), .int (nI (M1 8)), .ref (ma 16), .ref (ma 17), .int (nI (M1 9)), .ref (ma 18), .int (nI (M1 10))], aI cI (ma 1) 7 rf1, aI cI (ma 2) 96 T, aI cI (ma 3) 96 (E1 0), aI cI (ma 4) 100 X, aI cI (ma 5) 24 (F 27), aI cI (ma 6) 48 (F 17), aI cI (ma 7) 72 (F 18), aI cI (ma 8) 12 (F 19), aI cZ (ma 9) 12 B, aI cI (ma 10) 300 (E1 1), aI cI (ma 11) 6 (E1 2), aI cI (ma 12) 6 (E1 3), aI cI (ma 13) 8 (E1 4), aI cI (ma 14) 12 (E1 5), aI cZ (ma 15) 12 (E1 6), aI cI (ma 16) 2400 (E1 7), aJ cJ (ma 17) 2400 L1, aI cZ (ma 18) 300 (E1 8)]) := by
  refine Ki.of (cc := cX10_slice) (maxL := 7) (by decide +kernel) rfl (Nat.le_of_ble_eq_true rfl) ?_
  intro jp je js jm ja jb jt jc jA jQ ls cx hnm hP hD hS hl hret
  obtain ⟨hx, hb, hml, hown, hts, hK, hA⟩ := id cx
  have hl : lv_has ls 7 [(0, .ref (ma 0)), (1, .int p), (2, .int k)] := hl
  obtain ⟨H, hH⟩ : ∃ H, H = js.heap := ⟨_, rfl⟩
  obtain ⟨locs, hlocs⟩ : ∃ z : List Loc, z = [] := ⟨_, rfl⟩
  have hP : va_P G vwCl [oB (ma 0) 10 [.ref (ma 1), .int (nI (N 0)), .int (nI (N 3)), .int (nI (N 1)), .int (nI (M 0)), .ref (ma 2), .ref (ma 3), .ref (ma 4), .ref (ma 5), .ref (ma 6), .ref (ma 7), .ref (ma 8), .ref (ma 9), .ref (ma 10), .ref (ma 11), .ref (ma 12), .ref (ma 13), .int (nI (M 1)), .int (nI (M 2)), .int (nI (M 3)), .int C, .ref (ma 14), .ref (ma 15), .int (nI (M 4)), .int (nI (M 5)), .int (nI (M 6)), .int (nI (M 7)), .int (nI (M 8)), .ref (ma 16), .ref (ma 17), .int (nI (M 9)), .ref (ma 18), .int (nI (M 10))], aI cI (ma 1) 7 rf, aI cI (ma 2) 96 T, aI cI (ma 3) 96 (E 0), aI cI (ma 4) 100 X, aI cI (ma 5) 24 (F 27), aI cI (ma 6) 48 (F 17), aI cI (ma 7) 72 (F 18), aI cI (ma 8) 12 (F 19), aI cZ (ma 9) 12 B, aI cI (ma 10) 300 (E 1), aI cI (ma 11) 6 (E 2), aI cI (ma 12) 6 (E 3), aI cI (ma 13) 8 (E 4), aI cI (ma 14) 12 (E 5), aI cZ (ma 15) 12 (E 6), aI cI (ma 16) 2400 (E 7), aJ cJ (ma 17) 2400 L, aI cZ (ma 18) 300 (E 8)] H := by rw [hH]; exact hP
  have hS : va_S jA js.heap H locs := by rw [hH, hlocs]; exact hS
  rw [← hlocs]; rw [show W jp jl je rCX10_slice js jm ja jb jt jc js.heap locs 0 0 jQ (F0 jm 0 ls []) = W jp jl je rCX10_slice js jm ja jb jt jc H locs 0 0 jQ (F0 jm 0 ls []) by rw [hH]]
  clear hH hlocs
  obtain ⟨hn24, hc20, hnt12, hob2, hokT, hokN, hokC, hver, hlen7, hpri⟩ := id hLA
  refine lv_aload_n hx hb dX10_slice_0 rfl (lv_at hl 0 rfl) ?_
  refine lv_iload_n hx hb dX10_slice_1 rfl (lv_at hl 1 rfl) ?_
  refine Ki.callV (wr := [aI cI (ma 1) 7 rf, aI cI (ma 2) 96 T, aI cI (ma 3) 96 (E 0), aI cI (ma 4) 100 X, aI cI (ma 5) 24 (F 27), aI cI (ma 6) 48 (F 17), aI cI (ma 7) 72 (F 18), aI cI (ma 8) 12 (F 19), aI cZ (ma 9) 12 B, aI cI (ma 10) 300 (E 1), aI cI (ma 11) 6 (E 2), aI cI (ma 12) 6 (E 3), aI cI (ma 13) 8 (E 4), aI cI (ma 14) 12 (E 5), aI cZ (ma 15) 12 (E 6), aI cI (ma 16) 2400 (E 7), aJ cJ (ma 17) 2400 L, aI cZ (ma 18) 300 (E 8)]) (rest := []) (CX10_isTest jl G cI cZ cJ ma N F rf T X B M C E L hLA hMR p) cx hP hD hS hl [0] [1, 2, 3, 4, 5, 6, 7, 8, 9, 10, 11, 12, 13, 14, 15, 16, 17, 18] (ci := 10) (q0 := 0) gX10_slice_X10_isTest hdX10_isTest rfl rfl rfl ⟨Nat.le_of_ble_eq_true rfl, Nat.le_of_ble_eq_true rfl⟩ rfl rfl (by decide) (by decide) (by decide) dX10_slice_2 rfl rfl (Nat.le_of_ble_eq_true rfl) ⟨Nat.le_of_ble_eq_true rfl, Nat.le_of_ble_eq_true rfl⟩ (fun r_1 u H locs hw_2 hP hD hS => ?_)
  have hP : va_P G vwCl [aI cI (ma 1) 7 rf, aI cI (ma 2) 96 T, aI cI (ma 3) 96 (E 0), aI cI (ma 4) 100 X, aI cI (ma 5) 24 (F 27), aI cI (ma 6) 48 (F 17), aI cI (ma 7) 72 (F 18), aI cI (ma 8) 12 (F 19), aI cZ (ma 9) 12 B, aI cI (ma 10) 300 (E 1), aI cI (ma 11) 6 (E 2), aI cI (ma 12) 6 (E 3), aI cI (ma 13) 8 (E 4), aI cI (ma 14) 12 (E 5), aI cZ (ma 15) 12 (E 6), aI cI (ma 16) 2400 (E 7), aJ cJ (ma 17) 2400 L, aI cZ (ma 18) 300 (E 8), oB (ma 0) 10 [.ref (ma 1), .int (nI (N 0)), .int (nI (N 3)), .int (nI (N 1)), .int (nI (M 0)), .ref (ma 2), .ref (ma 3), .ref (ma 4), .ref (ma 5), .ref (ma 6), .ref (ma 7), .ref (ma 8), .ref (ma 9), .ref (ma 10), .ref (ma 11), .ref (ma 12), .ref (ma 13), .int (nI (M 1)), .int (nI (M 2)), .int (nI (M 3)), .int C, .ref (ma 14), .ref (ma 15), .int (nI (M 4)), .int (nI (M 5)), .int (nI (M 6)), .int (nI (M 7)), .int (nI (M 8)), .ref (ma 16), .ref (ma 17), .int (nI (M 9)), .ref (ma 18), .int (nI (M 10))]] H := hP
  have hD : va_D jA [aI cI (ma 1) 7 rf, aI cI (ma 2) 96 T, aI cI (ma 3) 96 (E 0), aI cI (ma 4) 100 X, aI cI (ma 5) 24 (F 27), aI cI (ma 6) 48 (F 17), aI cI (ma 7) 72 (F 18), aI cI (ma 8) 12 (F 19), aI cZ (ma 9) 12 B, aI cI (ma 10) 300 (E 1), aI cI (ma 11) 6 (E 2), aI cI (ma 12) 6 (E 3), aI cI (ma 13) 8 (E 4), aI cI (ma 14) 12 (E 5), aI cZ (ma 15) 12 (E 6), aI cI (ma 16) 2400 (E 7), aJ cJ (ma 17) 2400 L, aI cZ (ma 18) 300 (E 8), oB (ma 0) 10 [.ref (ma 1), .int (nI (N 0)), .int (nI (N 3)), .int (nI (N 1)), .int (nI (M 0)), .ref (ma 2), .ref (ma 3), .ref (ma 4), .ref (ma 5), .ref (ma 6), .ref (ma 7), .ref (ma 8), .ref (ma 9), .ref (ma 10), .ref (ma 11), .ref (ma 12), .ref (ma 13), .int (nI (M 1)), .int (nI (M 2)), .int (nI (M 3)), .int C, .ref (ma 14), .ref (ma 15), .int (nI (M 4)), .int (nI (M 5)), .int (nI (M 6)), .int (nI (M 7)), .int (nI (M 8)), .ref (ma 16), .ref (ma 17), .int (nI (M 9)), .ref (ma 18), .int (nI (M 10))]] := hD
  rcases hw_2 with ⟨t, ht, rfl, rfl⟩ | ⟨hno, rfl⟩
  · skip
    refine k_if_ne_t (tgt := 14) hx hb dX10_slice_5 (by decide) (by decide) ?_
    refine lv_aload_n hx hb dX10_slice_14 rfl (lv_at hl 0 rfl) ?_
    refine Kv.callV (wr := []) (rest := []) (CX10_last jl G cI cZ cJ ma N F rf T X B M C E L hLA hMR) cx hP hD hS hl [18, 0, 1, 2, 3, 4, 5, 6, 7, 8, 9, 10, 11, 12, 13, 14, 15, 16, 17] [] (ci := 10) (q0 := 0) gX10_slice_X10_last hdX10_last rfl rfl rfl ⟨Nat.le_of_ble_eq_true rfl, Nat.le_of_ble_eq_true rfl⟩ rfl rfl (by decide) (by decide) (by decide) dX10_slice_15 rfl rfl (Nat.le_of_ble_eq_true rfl) ⟨Nat.le_of_ble_eq_true rfl, Nat.le_of_ble_eq_true rfl⟩ (fun u H locs hwL hP hD hS => ?_)
    obtain ⟨nw2, rfl⟩ : ∃ z, z = u := ⟨_, rfl⟩
    try dsimp only at hwL
    have hP : va_P G vwCl [oB (ma 0) 10 [.ref (ma 1), .int (nI (N 0)), .int (nI (N 3)), .int (nI (N 1)), .int (nI (M 0)), .ref (ma 2), .ref (ma 3), .ref (ma 4), .ref (ma 5), .ref (ma 6), .ref (ma 7), .ref (ma 8), .ref (ma 9), .ref (ma 10), .ref (ma 11), .ref (ma 12), .ref (ma 13), .int (nI (M 1)), .int (nI (M 2)), .int (nI (M 3)), .int C, .ref (ma 14), .ref (ma 15), .int (nI (M 4)), .int (nI (M 5)), .int (nI (M 6)), .int (nI (M 7)), .int (nI (M 8)), .ref (ma 16), .ref (ma 17), .int (nI (M 9)), .ref (ma 18), .int (nI (M 10))], aI cI (ma 1) 7 rf, aI cI (ma 2) 96 T, aI cI (ma 3) 96 nw2, aI cI (ma 4) 100 X, aI cI (ma 5) 24 (F 27), aI cI (ma 6) 48 (F 17), aI cI (ma 7) 72 (F 18), aI cI (ma 8) 12 (F 19), aI cZ (ma 9) 12 B, aI cI (ma 10) 300 (E 1), aI cI (ma 11) 6 (E 2), aI cI (ma 12) 6 (E 3), aI cI (ma 13) 8 (E 4), aI cI (ma 14) 12 (E 5), aI cZ (ma 15) 12 (E 6), aI cI (ma 16) 2400 (E 7), aJ cJ (ma 17) 2400 L, aI cZ (ma 18) 300 (E 8)] H := hP
    have hD : va_D jA [oB (ma 0) 10 [.ref (ma 1), .int (nI (N 0)), .int (nI (N 3)), .int (nI (N 1)), .int (nI (M 0)), .ref (ma 2), .ref (ma 3), .ref (ma 4), .ref (ma 5), .ref (ma 6), .ref (ma 7), .ref (ma 8), .ref (ma 9), .ref (ma 10), .ref (ma 11), .ref (ma 12), .ref (ma 13), .int (nI (M 1)), .int (nI (M 2)), .int (nI (M 3)), .int C, .ref (ma 14), .ref (ma 15), .int (nI (M 4)), .int (nI (M 5)), .int (nI (M 6)), .int (nI (M 7)), .int (nI (M 8)), .ref (ma 16), .ref (ma 17), .int (nI (M 9)), .ref (ma 18), .int (nI (M 10))], aI cI (ma 1) 7 rf, aI cI (ma 2) 96 T, aI cI (ma 3) 96 nw2, aI cI (ma 4) 100 X, aI cI (ma 5) 24 (F 27), aI cI (ma 6) 48 (F 17), aI cI (ma 7) 72 (F 18), aI cI (ma 8) 12 (F 19), aI cZ (ma 9) 12 B, aI cI (ma 10) 300 (E 1), aI cI (ma 11) 6 (E 2), aI cI (ma 12) 6 (E 3), aI cI (ma 13) 8 (E 4), aI cI (ma 14) 12 (E 5), aI cZ (ma 15) 12 (E 6), aI cI (ma 16) 2400 (E 7), aJ cJ (ma 17) 2400 L, aI cZ (ma 18) 300 (E 8)] := hD
    refine lv_aload_n hx hb dX10_slice_18 rfl (lv_at hl 0 rfl) ?_
    refine lv_iload_n hx hb dX10_slice_19 rfl (lv_at hl 1 rfl) ?_
    refine lv_iconst (v := (-1)) hx hb dX10_slice_20 (by decide) ?_
    refine lv_iconst (v := (-1)) hx hb dX10_slice_21 (by decide) ?_
    refine lv_iconst (v := nI 0) hx hb dX10_slice_22 (by decide) ?_
    refine Kv.callV (wr := []) (rest := []) (CX10_runs jl G cI cZ cJ ma N F rf T X B M C (fF [nw2, E 1, E 2, E 3, E 4, E 5, E 6, E 7, E 8]) L hLA hMR t ht (ver_row hLA (Nat.le_refl _) hwL) (-1) (-1) (nI 0)) cx hP hD hS hl [0, 1, 2, 3, 4, 5, 6, 7, 8, 9, 10, 11, 12, 13, 14, 15, 16, 17, 18] [] (ci := 10) (q0 := 0) gX10_slice_X10_runs hdX10_runs rfl rfl rfl ⟨Nat.le_of_ble_eq_true rfl, Nat.le_of_ble_eq_true rfl⟩ rfl rfl (by decide) (by decide) (by decide) dX10_slice_23 rfl rfl (Nat.le_of_ble_eq_true rfl) ⟨Nat.le_of_ble_eq_true rfl, Nat.le_of_ble_eq_true rfl⟩ (fun u H locs hw8 hP hD hS => ?_)
    obtain ⟨l1, sc1, oc1, ic1, tr1, vr1, ou1, os1⟩ := u
    try dsimp only at hw8
    have hP : va_P G vwCl [oB (ma 0) 10 [.ref (ma 1), .int (nI (N 0)), .int (nI (N 3)), .int (nI (N 1)), .int (nI (M 0)), .ref (ma 2), .ref (ma 3), .ref (ma 4), .ref (ma 5), .ref (ma 6), .ref (ma 7), .ref (ma 8), .ref (ma 9), .ref (ma 10), .ref (ma 11), .ref (ma 12), .ref (ma 13), .int (nI sc1), .int (nI oc1), .int (nI ic1), .int (bI (r_on (N 0) (l1, sc1, oc1, ic1, tr1, vr1, ou1, os1))), .ref (ma 14), .ref (ma 15), .int (nI (M 4)), .int (nI (M 5)), .int (nI (M 6)), .int (nI (M 7)), .int (nI (M 8)), .ref (ma 16), .ref (ma 17), .int (nI (M 9)), .ref (ma 18), .int (nI (M 10))], aI cI (ma 1) 7 rf, aI cI (ma 2) 96 T, aI cI (ma 3) 96 nw2, aI cI (ma 4) 100 X, aI cI (ma 5) 24 (F 27), aI cI (ma 6) 48 (F 17), aI cI (ma 7) 72 (F 18), aI cI (ma 8) 12 (F 19), aI cZ (ma 9) 12 B, aI cI (ma 10) 300 tr1, aI cI (ma 11) 6 ou1, aI cI (ma 12) 6 os1, aI cI (ma 13) 8 vr1, aI cI (ma 14) 12 (E 5), aI cZ (ma 15) 12 (E 6), aI cI (ma 16) 2400 (E 7), aJ cJ (ma 17) 2400 L, aI cZ (ma 18) 300 (E 8)] H := hP
    have hD : va_D jA [oB (ma 0) 10 [.ref (ma 1), .int (nI (N 0)), .int (nI (N 3)), .int (nI (N 1)), .int (nI (M 0)), .ref (ma 2), .ref (ma 3), .ref (ma 4), .ref (ma 5), .ref (ma 6), .ref (ma 7), .ref (ma 8), .ref (ma 9), .ref (ma 10), .ref (ma 11), .ref (ma 12), .ref (ma 13), .int (nI sc1), .int (nI oc1), .int (nI ic1), .int (bI (r_on (N 0) (l1, sc1, oc1, ic1, tr1, vr1, ou1, os1))), .ref (ma 14), .ref (ma 15), .int (nI (M 4)), .int (nI (M 5)), .int (nI (M 6)), .int (nI (M 7)), .int (nI (M 8)), .ref (ma 16), .ref (ma 17), .int (nI (M 9)), .ref (ma 18), .int (nI (M 10))], aI cI (ma 1) 7 rf, aI cI (ma 2) 96 T, aI cI (ma 3) 96 nw2, aI cI (ma 4) 100 X, aI cI (ma 5) 24 (F 27), aI cI (ma 6) 48 (F 17), aI cI (ma 7) 72 (F 18), aI cI (ma 8) 12 (F 19), aI cZ (ma 9) 12 B, aI cI (ma 10) 300 tr1, aI cI (ma 11) 6 ou1, aI cI (ma 12) 6 os1, aI cI (ma 13) 8 vr1, aI cI (ma 14) 12 (E 5), aI cZ (ma 15) 12 (E 6), aI cI (ma 16) 2400 (E 7), aJ cJ (ma 17) 2400 L, aI cZ (ma 18) 300 (E 8)] := hD
    have hag : r_ag (l1, sc1, oc1, ic1, tr1, vr1, ou1, os1) (RUNP N F t) := mrun_p hLA hwL hw8.1
    have htt : tn (nI t) = t := tn_nI (by omega)
    have hoc3 : oc1 ≤ 6 := hw8.2.2.2.1
    have hsc3 : sc1 ≤ 300 := hw8.2.2.1
    have hoce : oc1 = (RUNP N F t).2.2.1 := hag.2.2.1
    have hsce : sc1 = (RUNP N F t).2.1 := hag.2.1
    have hlin : r_lin (N 0) (l1, sc1, oc1, ic1, tr1, vr1, ou1, os1) := by rw [hw8.1]; exact r_run_lin
    refine lv_iload_n hx hb dX10_slice_26 rfl (lv_at hl 2 rfl) ?_
    refine lv_aload_n hx hb dX10_slice_27 rfl (lv_at hl 0 rfl) ?_
    refine va_get (C := RX10) (T := TX10) (N := 33) (ci := 10) hx hb hts iX10_slice_10 hown hK.1 hP 0 rfl rfl 18 (Nat.le_of_ble_eq_true rfl) (hts _ mX10_slice_109) (fun _ h9 => h9) rfl dX10_slice_28 ?_
    refine Ki.callS (wr := [oB (ma 0) 10 [.ref (ma 1), .int (nI (N 0)), .int (nI (N 3)), .int (nI (N 1)), .int (nI (M 0)), .ref (ma 2), .ref (ma 3), .ref (ma 4), .ref (ma 5), .ref (ma 6), .ref (ma 7), .ref (ma 8), .ref (ma 9), .ref (ma 10), .ref (ma 11), .ref (ma 12), .ref (ma 13), .int (nI sc1), .int (nI oc1), .int (nI ic1), .int (bI (r_on (N 0) (l1, sc1, oc1, ic1, tr1, vr1, ou1, os1))), .ref (ma 14), .ref (ma 15), .int (nI (M 4)), .int (nI (M 5)), .int (nI (M 6)), .int (nI (M 7)), .int (nI (M 8)), .ref (ma 16), .ref (ma 17), .int (nI (M 9)), .ref (ma 18), .int (nI (M 10))], aI cI (ma 1) 7 rf, aI cI (ma 2) 96 T, aI cI (ma 3) 96 nw2, aI cI (ma 4) 100 X, aI cI (ma 5) 24 (F 27), aI cI (ma 6) 48 (F 17), aI cI (ma 7) 72 (F 18), aI cI (ma 8) 12 (F 19), aI cZ (ma 9) 12 B, aI cI (ma 10) 300 tr1, aI cI (ma 11) 6 ou1, aI cI (ma 12) 6 os1, aI cI (ma 13) 8 vr1, aI cI (ma 14) 12 (E 5), aI cZ (ma 15) 12 (E 6), aI cI (ma 16) 2400 (E 7), aJ cJ (ma 17) 2400 L, aI cZ (ma 18) 300 (E 8)]) (rest := []) (CX10_isIn jl G cI cZ cJ k oc1 (by omega)) cx hP hD hS hl [] [0, 1, 2, 3, 4, 5, 6, 7, 8, 9, 10, 11, 12, 13, 14, 15, 16, 17, 18] gX10_slice_X10_isIn hdX10_isIn rfl ⟨Nat.le_of_ble_eq_true rfl, Nat.le_of_ble_eq_true rfl⟩ rfl rfl (by decide) (by decide) (by decide) dX10_slice_31 rfl rfl (Nat.le_of_ble_eq_true rfl) ⟨Nat.le_of_ble_eq_true rfl, Nat.le_of_ble_eq_true rfl⟩ (fun r_6 u H locs hw_7 hP hD hS => ?_)
    have hP : va_P G vwCl [oB (ma 0) 10 [.ref (ma 1), .int (nI (N 0)), .int (nI (N 3)), .int (nI (N 1)), .int (nI (M 0)), .ref (ma 2), .ref (ma 3), .ref (ma 4), .ref (ma 5), .ref (ma 6), .ref (ma 7), .ref (ma 8), .ref (ma 9), .ref (ma 10), .ref (ma 11), .ref (ma 12), .ref (ma 13), .int (nI sc1), .int (nI oc1), .int (nI ic1), .int (bI (r_on (N 0) (l1, sc1, oc1, ic1, tr1, vr1, ou1, os1))), .ref (ma 14), .ref (ma 15), .int (nI (M 4)), .int (nI (M 5)), .int (nI (M 6)), .int (nI (M 7)), .int (nI (M 8)), .ref (ma 16), .ref (ma 17), .int (nI (M 9)), .ref (ma 18), .int (nI (M 10))], aI cI (ma 1) 7 rf, aI cI (ma 2) 96 T, aI cI (ma 3) 96 nw2, aI cI (ma 4) 100 X, aI cI (ma 5) 24 (F 27), aI cI (ma 6) 48 (F 17), aI cI (ma 7) 72 (F 18), aI cI (ma 8) 12 (F 19), aI cZ (ma 9) 12 B, aI cI (ma 10) 300 tr1, aI cI (ma 11) 6 ou1, aI cI (ma 12) 6 os1, aI cI (ma 13) 8 vr1, aI cI (ma 14) 12 (E 5), aI cZ (ma 15) 12 (E 6), aI cI (ma 16) 2400 (E 7), aJ cJ (ma 17) 2400 L, aI cZ (ma 18) 300 (E 8)] H := hP
    have hD : va_D jA [oB (ma 0) 10 [.ref (ma 1), .int (nI (N 0)), .int (nI (N 3)), .int (nI (N 1)), .int (nI (M 0)), .ref (ma 2), .ref (ma 3), .ref (ma 4), .ref (ma 5), .ref (ma 6), .ref (ma 7), .ref (ma 8), .ref (ma 9), .ref (ma 10), .ref (ma 11), .ref (ma 12), .ref (ma 13), .int (nI sc1), .int (nI oc1), .int (nI ic1), .int (bI (r_on (N 0) (l1, sc1, oc1, ic1, tr1, vr1, ou1, os1))), .ref (ma 14), .ref (ma 15), .int (nI (M 4)), .int (nI (M 5)), .int (nI (M 6)), .int (nI (M 7)), .int (nI (M 8)), .ref (ma 16), .ref (ma 17), .int (nI (M 9)), .ref (ma 18), .int (nI (M 10))], aI cI (ma 1) 7 rf, aI cI (ma 2) 96 T, aI cI (ma 3) 96 nw2, aI cI (ma 4) 100 X, aI cI (ma 5) 24 (F 27), aI cI (ma 6) 48 (F 17), aI cI (ma 7) 72 (F 18), aI cI (ma 8) 12 (F 19), aI cZ (ma 9) 12 B, aI cI (ma 10) 300 tr1, aI cI (ma 11) 6 ou1, aI cI (ma 12) 6 os1, aI cI (ma 13) 8 vr1, aI cI (ma 14) 12 (E 5), aI cZ (ma 15) 12 (E 6), aI cI (ma 16) 2400 (E 7), aJ cJ (ma 17) 2400 L, aI cZ (ma 18) 300 (E 8)] := hD
    rcases hw_7 with ⟨j, hj, rfl, rfl⟩ | ⟨hnk, rfl⟩
    · skip
      refine k_if_ne_t (tgt := 43) hx hb dX10_slice_34 (by decide) (by decide) ?_
      have hc : cIx (N 3) (RUNP N F (tn (nI t))).2.2.1 (nI t) (nI j) = nI 0 := by rw [htt]; exact cIx_y (by omega) (by omega) ht (by omega)
      obtain ⟨TR, hTRe⟩ : ∃ z, z = (RUNP N F t).2.2.2.2.1 := ⟨_, rfl⟩
      have hTR : TRK N tr1 TR sc1 := fun m hm => by obtain ⟨l, h1, h2⟩ := hlin m hm; exact ⟨l, h1, h2, by rw [hTRe, ← hag.2.2.2.2.1 m hm]; exact h2⟩
      obtain ⟨o, ho1, ho2, ho3, ho4⟩ := (osi_run hLA t).2 j (by rw [← hoce]; exact hj)
      rw [← hsce] at ho1
      rw [← hTRe] at ho3 ho4
      have hos : os1 j = nI o := by rw [← ho2]; exact hag.2.2.2.2.2.2.2 j hj
      have hans : ansSlice N F t j = nI (SS F TR o) := by unfold ansSlice; rw [← hTRe, ← hsce, s_go_S ho1 ho3 ho4 (fun m hm => by obtain ⟨l, h1, h2, h3⟩ := hTR m hm; obtain ⟨q, hq8, hop, -⟩ := hokN l h1; exact ⟨q, hq8, by rw [h3, tn_nI (by omega)]; exact hop⟩)]
      refine lv_iconst (v := nI 0) hx hb dX10_slice_43 (by decide) ?_
      refine lv_istore_n (lv' := [(3, .int (nI 0)), (0, .ref (ma 0)), (1, .int (nI t)), (2, .int (nI j))]) hx hb dX10_slice_44 rfl hl (by decide) rfl (fun ls hl => ?_)
      have L45 : ∀ (fu : Nat), ∀ (m : Nat), ∀ (hg : Fn), (sc1 < m + fu) → (m ≤ sc1) → (∀ i, i < m → hg i = if i = o then nI 1 else nI 0) → ∀ (H : Heap) (locs : List Loc) (ls : Array Slot), va_P G vwCl [oB (ma 0) 10 [.ref (ma 1), .int (nI (N 0)), .int (nI (N 3)), .int (nI (N 1)), .int (nI (M 0)), .ref (ma 2), .ref (ma 3), .ref (ma 4), .ref (ma 5), .ref (ma 6), .ref (ma 7), .ref (ma 8), .ref (ma 9), .ref (ma 10), .ref (ma 11), .ref (ma 12), .ref (ma 13), .int (nI sc1), .int (nI oc1), .int (nI ic1), .int (bI (r_on (N 0) (l1, sc1, oc1, ic1, tr1, vr1, ou1, os1))), .ref (ma 14), .ref (ma 15), .int (nI (M 4)), .int (nI (M 5)), .int (nI (M 6)), .int (nI (M 7)), .int (nI (M 8)), .ref (ma 16), .ref (ma 17), .int (nI (M 9)), .ref (ma 18), .int (nI (M 10))], aI cI (ma 1) 7 rf, aI cI (ma 2) 96 T, aI cI (ma 3) 96 nw2, aI cI (ma 4) 100 X, aI cI (ma 5) 24 (F 27), aI cI (ma 6) 48 (F 17), aI cI (ma 7) 72 (F 18), aI cI (ma 8) 12 (F 19), aI cZ (ma 9) 12 B, aI cI (ma 10) 300 tr1, aI cI (ma 11) 6 ou1, aI cI (ma 12) 6 os1, aI cI (ma 13) 8 vr1, aI cI (ma 14) 12 (E 5), aI cZ (ma 15) 12 (E 6), aI cI (ma 16) 2400 (E 7), aJ cJ (ma 17) 2400 L, aI cZ (ma 18) 300 hg] H → va_D jA [oB (ma 0) 10 [.ref (ma 1), .int (nI (N 0)), .int (nI (N 3)), .int (nI (N 1)), .int (nI (M 0)), .ref (ma 2), .ref (ma 3), .ref (ma 4), .ref (ma 5), .ref (ma 6), .ref (ma 7), .ref (ma 8), .ref (ma 9), .ref (ma 10), .ref (ma 11), .ref (ma 12), .ref (ma 13), .int (nI sc1), .int (nI oc1), .int (nI ic1), .int (bI (r_on (N 0) (l1, sc1, oc1, ic1, tr1, vr1, ou1, os1))), .ref (ma 14), .ref (ma 15), .int (nI (M 4)), .int (nI (M 5)), .int (nI (M 6)), .int (nI (M 7)), .int (nI (M 8)), .ref (ma 16), .ref (ma 17), .int (nI (M 9)), .ref (ma 18), .int (nI (M 10))], aI cI (ma 1) 7 rf, aI cI (ma 2) 96 T, aI cI (ma 3) 96 nw2, aI cI (ma 4) 100 X, aI cI (ma 5) 24 (F 27), aI cI (ma 6) 48 (F 17), aI cI (ma 7) 72 (F 18), aI cI (ma 8) 12 (F 19), aI cZ (ma 9) 12 B, aI cI (ma 10) 300 tr1, aI cI (ma 11) 6 ou1, aI cI (ma 12) 6 os1, aI cI (ma 13) 8 vr1, aI cI (ma 14) 12 (E 5), aI cZ (ma 15) 12 (E 6), aI cI (ma 16) 2400 (E 7), aJ cJ (ma 17) 2400 L, aI cZ (ma 18) 300 hg] → va_S jA js.heap H locs → lv_has ls 7 [(0, .ref (ma 0)), (1, .int (nI t)), (2, .int (nI j)), (3, .int (nI m))] → W jp jl je rCX10_slice js jm ja jb jt jc H locs 0 0 jQ (F0 jm 45 ls []) := by
        intro fu
        induction fu with
        | zero =>
          intro m hg hfu hm hhg H locs ls hP hD hS hl
          exact absurd hfu (by omega)
        | succ fu ih45 =>
          intro m hg hfu hm hhg H locs ls hP hD hS hl
          refine lv_iload_n hx hb dX10_slice_45 rfl (lv_at hl 3 rfl) ?_
          refine lv_aload_n hx hb dX10_slice_46 rfl (lv_at hl 0 rfl) ?_
          refine va_get (C := RX10) (T := TX10) (N := 33) (ci := 10) hx hb hts iX10_slice_10 hown hK.1 hP 0 rfl rfl 17 (Nat.le_of_ble_eq_true rfl) (hts _ mX10_slice_106) (fun _ h9 => h9) rfl dX10_slice_47 ?_
          refine k_cmp_ge (tgt := 80) hx hb dX10_slice_50 (by decide) (by omega) (by omega) (fun hml2 => ?_) (fun hml2 => ?_)
          · skip
            have hme : m = sc1 := by omega
            have hU1 : UU F TR hg (o + 1) = SS F TR o := UU_one ho1 (fun i hi => hhg i (by omega))
            clear hhg hme hm
            refine lv_iconst (v := nI 0) hx hb dX10_slice_80 (by decide) ?_
            refine lv_istore_n (lv' := [(3, .int (nI 0)), (0, .ref (ma 0)), (1, .int (nI t)), (2, .int (nI j))]) hx hb dX10_slice_81 rfl hl (by decide) rfl (fun ls hl => ?_)
            refine lv_aload_n hx hb dX10_slice_82 rfl (lv_at hl 1 rfl) ?_
            refine va_get (C := RX10) (T := TX10) (N := 33) (ci := 10) hx hb hts iX10_slice_10 hown hK.1 hP 0 rfl rfl 15 (Nat.le_of_ble_eq_true rfl) (hts _ mX10_slice_44) (fun _ h9 => h9) rfl dX10_slice_83 ?_
            refine lv_iload_n hx hb dX10_slice_86 rfl (lv_at hl 3 rfl) ?_
            refine k_iald hx hb hK.1 hP 12 0 rfl rfl (by omega) (by decide) dX10_slice_87 ?_
            refine k_topN hos ?_
            refine lv_istore (lv' := [(4, .int (nI o)), (3, .int (nI 0)), (0, .ref (ma 0)), (1, .int (nI t)), (2, .int (nI j))]) hx hb dX10_slice_88 hl (by decide) rfl (fun ls hl => ?_)
            have L90 : ∀ (fu : Nat), ∀ (m : Nat), ∀ (i4 : Int32), ∀ (se : Nat), ∀ (hg : Fn), (m < fu) → (m ≤ o + 1) → (i4 = nI m - nI 1) → (se < 2 ^ 24) → (se ||| UU F TR hg m = SS F TR o) → ∀ (H : Heap) (locs : List Loc) (ls : Array Slot), va_P G vwCl [oB (ma 0) 10 [.ref (ma 1), .int (nI (N 0)), .int (nI (N 3)), .int (nI (N 1)), .int (nI (M 0)), .ref (ma 2), .ref (ma 3), .ref (ma 4), .ref (ma 5), .ref (ma 6), .ref (ma 7), .ref (ma 8), .ref (ma 9), .ref (ma 10), .ref (ma 11), .ref (ma 12), .ref (ma 13), .int (nI sc1), .int (nI oc1), .int (nI ic1), .int (bI (r_on (N 0) (l1, sc1, oc1, ic1, tr1, vr1, ou1, os1))), .ref (ma 14), .ref (ma 15), .int (nI (M 4)), .int (nI (M 5)), .int (nI (M 6)), .int (nI (M 7)), .int (nI (M 8)), .ref (ma 16), .ref (ma 17), .int (nI (M 9)), .ref (ma 18), .int (nI (M 10))], aI cI (ma 1) 7 rf, aI cI (ma 2) 96 T, aI cI (ma 3) 96 nw2, aI cI (ma 4) 100 X, aI cI (ma 5) 24 (F 27), aI cI (ma 6) 48 (F 17), aI cI (ma 7) 72 (F 18), aI cI (ma 8) 12 (F 19), aI cZ (ma 9) 12 B, aI cI (ma 10) 300 tr1, aI cI (ma 11) 6 ou1, aI cI (ma 12) 6 os1, aI cI (ma 13) 8 vr1, aI cI (ma 14) 12 (E 5), aI cZ (ma 15) 12 (E 6), aI cI (ma 16) 2400 (E 7), aJ cJ (ma 17) 2400 L, aI cZ (ma 18) 300 hg] H → va_D jA [oB (ma 0) 10 [.ref (ma 1), .int (nI (N 0)), .int (nI (N 3)), .int (nI (N 1)), .int (nI (M 0)), .ref (ma 2), .ref (ma 3), .ref (ma 4), .ref (ma 5), .ref (ma 6), .ref (ma 7), .ref (ma 8), .ref (ma 9), .ref (ma 10), .ref (ma 11), .ref (ma 12), .ref (ma 13), .int (nI sc1), .int (nI oc1), .int (nI ic1), .int (bI (r_on (N 0) (l1, sc1, oc1, ic1, tr1, vr1, ou1, os1))), .ref (ma 14), .ref (ma 15), .int (nI (M 4)), .int (nI (M 5)), .int (nI (M 6)), .int (nI (M 7)), .int (nI (M 8)), .ref (ma 16), .ref (ma 17), .int (nI (M 9)), .ref (ma 18), .int (nI (M 10))], aI cI (ma 1) 7 rf, aI cI (ma 2) 96 T, aI cI (ma 3) 96 nw2, aI cI (ma 4) 100 X, aI cI (ma 5) 24 (F 27), aI cI (ma 6) 48 (F 17), aI cI (ma 7) 72 (F 18), aI cI (ma 8) 12 (F 19), aI cZ (ma 9) 12 B, aI cI (ma 10) 300 tr1, aI cI (ma 11) 6 ou1, aI cI (ma 12) 6 os1, aI cI (ma 13) 8 vr1, aI cI (ma 14) 12 (E 5), aI cZ (ma 15) 12 (E 6), aI cI (ma 16) 2400 (E 7), aJ cJ (ma 17) 2400 L, aI cZ (ma 18) 300 hg] → va_S jA js.heap H locs → lv_has ls 7 [(0, .ref (ma 0)), (1, .int (nI t)), (2, .int (nI j)), (3, .int (nI se)), (4, .int i4)] → W jp jl je rCX10_slice js jm ja jb jt jc H locs 0 0 jQ (F0 jm 90 ls []) := by
              intro fu
              induction fu with
              | zero =>
                intro m i4 se hg hfu hm hi4 hse hinv H locs ls hP hD hS hl
                exact absurd hfu (by omega)
              | succ fu ih90 =>
                intro m i4 se hg hfu hm hi4 hse hinv H locs ls hP hD hS hl
                refine lv_iload hx hb dX10_slice_90 (lv_at hl 4 rfl) ?_
                rcases m with _ | m
                · skip
                  rw [m_0] at hi4
                  subst hi4
                  refine lv_if_lt (tgt := 248) hx hb dX10_slice_92 (by decide) (fun c_9 => ?_) (fun c_9 => ?_)
                  · skip
                    refine lv_iload_n hx hb dX10_slice_248 rfl (lv_at hl 3 rfl) ?_
                    exact hret _ _ _ _ _ (rf, (fN [M 0, sc1, oc1, ic1, M 4, M 5, M 6, M 7, M 8, M 9, M 10]), bI (r_on (N 0) (l1, sc1, oc1, ic1, tr1, vr1, ou1, os1)), (fF [nw2, tr1, ou1, os1, vr1, E 5, E 6, E 7, hg]), L) dX10_slice_249 (⟨by rw [rA_0 hc, htt, tn_nI (show j < 2 ^ 31 by omega), hans]; exact by rw [← hinv]; exact congrArg nI (Nat.or_zero _).symm, (rfU_0 hc).symm⟩) hP hD hS
                  · skip
                    exact absurd (by decide) c_9
                · skip
                  rw [m_s] at hi4
                  subst hi4
                  refine k_if_lt hx hb dX10_slice_92 (tgt := 248) (by decide) (by omega) ?_
                  refine lv_aload_n hx hb dX10_slice_95 rfl (lv_at hl 0 rfl) ?_
                  refine va_get (C := RX10) (T := TX10) (N := 33) (ci := 10) hx hb hts iX10_slice_10 hown hK.1 hP 0 rfl rfl 31 (Nat.le_of_ble_eq_true rfl) (hts _ mX10_slice_63) (fun _ h9 => h9) rfl dX10_slice_96 ?_
                  refine lv_iload hx hb dX10_slice_99 (lv_at hl 4 rfl) ?_
                  refine k_zald hx hb hK.1 hP 18 1 rfl rfl (by omega) (by decide) dX10_slice_101 ?_
                  refine lv_if_ne (tgt := 108) hx hb dX10_slice_102 (by decide) (fun hh0 => ?_) (fun hh0 => ?_)
                  · skip
                    have hmsc : m < sc1 := by omega
                    obtain ⟨l, hln, hat, htr⟩ := hTR m hmsc
                    obtain ⟨q, hq8, hop, hx8, h123, h4, h5, h6⟩ := hokN l hln
                    have htn : tn (TR m) = l := by rw [htr]; exact tn_nI (by omega)
                    have hop2 : nw2 (4 * l) = nI q := (ver_at hLA hwL hln (by decide : 0 < 4)).trans hop
                    have hxe : nw2 (4 * l + 1) = F 5 l := ver_at hLA hwL hln (by decide)
                    have hye : nw2 (4 * l + 2) = F 6 l := ver_at hLA hwL hln (by decide)
                    have hze : nw2 (4 * l + 3) = F 7 l := ver_at hLA hwL hln (by decide)
                    rw [UU_y hh0] at hinv
                    have hpl := p2_24 (show l < 24 by omega)
                    have hse2 : se ||| 1 * 2 ^ l < 2 ^ 24 := by rw [Nat.one_mul]; exact Nat.or_lt_two_pow hse hpl
                    refine lv_aload_n hx hb dX10_slice_108 rfl (lv_at hl 0 rfl) ?_
                    refine va_get (C := RX10) (T := TX10) (N := 33) (ci := 10) hx hb hts iX10_slice_10 hown hK.1 hP 0 rfl rfl 13 (Nat.le_of_ble_eq_true rfl) (hts _ mX10_slice_38) (fun _ h9 => h9) rfl dX10_slice_109 ?_
                    refine lv_iload hx hb dX10_slice_112 (lv_at hl 4 rfl) ?_
                    refine k_iald hx hb hK.1 hP 10 0 rfl rfl (by omega) (by decide) dX10_slice_114 ?_
                    refine k_topN hat ?_
                    refine lv_istore (lv' := [(5, .int (nI l)), (0, .ref (ma 0)), (1, .int (nI t)), (2, .int (nI j)), (3, .int (nI se)), (4, .int (nI m))]) hx hb dX10_slice_115 hl (by decide) rfl (fun ls hl => ?_)
                    refine lv_aload_n hx hb dX10_slice_117 rfl (lv_at hl 1 rfl) ?_
                    refine va_get (C := RX10) (T := TX10) (N := 33) (ci := 10) hx hb hts iX10_slice_10 hown hK.1 hP 0 rfl rfl 6 (Nat.le_of_ble_eq_true rfl) (hts _ mX10_slice_16) (fun _ h9 => h9) rfl dX10_slice_118 ?_
                    refine lv_iconst (v := nI 4) hx hb dX10_slice_121 (by decide) ?_
                    refine lv_iload hx hb dX10_slice_122 (lv_at hl 0 rfl) ?_
                    refine k_imul hx hb dX10_slice_124 ?_
                    refine k_iald hx hb hK.1 hP 3 0 rfl rfl (by omega) (by decide) dX10_slice_125 ?_
                    refine k_topN hop2 ?_
                    refine lv_istore (lv' := [(6, .int (nI q)), (5, .int (nI l)), (0, .ref (ma 0)), (1, .int (nI t)), (2, .int (nI j)), (3, .int (nI se)), (4, .int (nI m))]) hx hb dX10_slice_126 hl (by decide) rfl (fun ls hl => ?_)
                    refine lv_iload_n hx hb dX10_slice_128 rfl (lv_at hl 5 rfl) ?_
                    refine lv_iconst (v := nI 1) hx hb dX10_slice_129 (by decide) ?_
                    refine lv_iload hx hb dX10_slice_130 (lv_at hl 1 rfl) ?_
                    refine k_ishl hx hb dX10_slice_132 (by omega) (by omega) ?_
                    refine k_ior hx hb dX10_slice_133 ?_
                    refine lv_istore_n (lv' := [(3, .int (nI (se ||| (1 * 2 ^ l)))), (6, .int (nI q)), (5, .int (nI l)), (0, .ref (ma 0)), (1, .int (nI t)), (2, .int (nI j)), (4, .int (nI m))]) hx hb dX10_slice_134 rfl hl (by decide) rfl (fun ls hl => ?_)
                    have hrd := s_reads_k (xs := F 5) (ys := F 6) (zs := F 7) (V := (VF F TR m).1) hop hq8
                    have hSS : SS F TR m = (2 ^ l ||| (VF F TR m).2) ||| s_reads (F 4) (F 5) (F 6) (F 7) (VF F TR m).1 l := by unfold SS s_lines; rw [htn]
                    rw [hSS, hrd] at hinv
                    rcases (show q = 0 ∨ q = 1 ∨ q = 2 ∨ q = 3 ∨ q = 4 ∨ q = 5 ∨ q = 6 ∨ q = 7 by omega) with rfl | rfl | rfl | rfl | rfl | rfl | rfl | rfl
                    · skip
                      simp at hinv
                      refine lv_iload hx hb dX10_slice_135 (lv_at hl 1 rfl) ?_
                      refine k_if_le (tgt := 183) hx hb dX10_slice_137 (by decide) (by decide) (fun c_11 => ?_) (fun c_11 => ?_)
                      · skip
                        refine lv_iload hx hb dX10_slice_183 (lv_at hl 1 rfl) ?_
                        refine lv_iconst (v := nI 5) hx hb dX10_slice_185 (by decide) ?_
                        refine k_cmp_eq (tgt := 196) hx hb dX10_slice_186 (by decide) (by decide) (by decide) (fun c_12 => ?_) (fun c_12 => ?_)
                        · skip
                          exact absurd c_12 (by decide)
                        · skip
                          refine lv_iload hx hb dX10_slice_189 (lv_at hl 1 rfl) ?_
                          refine lv_bipush (v := nI 7) hx hb dX10_slice_191 (by decide) ?_
                          refine k_cmp_ne (tgt := 236) hx hb dX10_slice_193 (by decide) (by decide) (by decide) (fun c_13 => ?_) (fun c_13 => ?_)
                          · skip
                            refine lv_aload_n hx hb dX10_slice_236 rfl (lv_at hl 3 rfl) ?_
                            refine lv_iload hx hb dX10_slice_237 (lv_at hl 6 rfl) ?_
                            refine Kv.callV (wr := []) (rest := []) (CX10_latestIf jl G cI cZ cJ ma N F rf T X B (fN [M 0, sc1, oc1, ic1, M 4, M 5, M 6, M 7, M 8, M 9, M 10]) (bI (r_on (N 0) (l1, sc1, oc1, ic1, tr1, vr1, ou1, os1))) (fF [nw2, tr1, ou1, os1, vr1, E 5, E 6, E 7, hg]) L hLA hMR TR sc1 m hTR hsc3 hwL (by omega)) cx hP hD hS hl [0, 1, 2, 3, 4, 5, 6, 7, 8, 9, 10, 11, 12, 13, 14, 15, 16, 17, 18] [] (ci := 10) (q0 := 0) gX10_slice_X10_latestIf hdX10_latestIf rfl rfl rfl ⟨Nat.le_of_ble_eq_true rfl, Nat.le_of_ble_eq_true rfl⟩ rfl rfl (by decide) (by decide) (by decide) dX10_slice_239 rfl rfl (Nat.le_of_ble_eq_true rfl) ⟨Nat.le_of_ble_eq_true rfl, Nat.le_of_ble_eq_true rfl⟩ (fun u H locs hwm3 hP hD hS => ?_)
                            obtain ⟨hg3, rfl⟩ : ∃ z, z = u := ⟨_, rfl⟩
                            try dsimp only at hwm3
                            have hP : va_P G vwCl [oB (ma 0) 10 [.ref (ma 1), .int (nI (N 0)), .int (nI (N 3)), .int (nI (N 1)), .int (nI (M 0)), .ref (ma 2), .ref (ma 3), .ref (ma 4), .ref (ma 5), .ref (ma 6), .ref (ma 7), .ref (ma 8), .ref (ma 9), .ref (ma 10), .ref (ma 11), .ref (ma 12), .ref (ma 13), .int (nI sc1), .int (nI oc1), .int (nI ic1), .int (bI (r_on (N 0) (l1, sc1, oc1, ic1, tr1, vr1, ou1, os1))), .ref (ma 14), .ref (ma 15), .int (nI (M 4)), .int (nI (M 5)), .int (nI (M 6)), .int (nI (M 7)), .int (nI (M 8)), .ref (ma 16), .ref (ma 17), .int (nI (M 9)), .ref (ma 18), .int (nI (M 10))], aI cI (ma 1) 7 rf, aI cI (ma 2) 96 T, aI cI (ma 3) 96 nw2, aI cI (ma 4) 100 X, aI cI (ma 5) 24 (F 27), aI cI (ma 6) 48 (F 17), aI cI (ma 7) 72 (F 18), aI cI (ma 8) 12 (F 19), aI cZ (ma 9) 12 B, aI cI (ma 10) 300 tr1, aI cI (ma 11) 6 ou1, aI cI (ma 12) 6 os1, aI cI (ma 13) 8 vr1, aI cI (ma 14) 12 (E 5), aI cZ (ma 15) 12 (E 6), aI cI (ma 16) 2400 (E 7), aJ cJ (ma 17) 2400 L, aI cZ (ma 18) 300 hg3] H := hP
                            have hD : va_D jA [oB (ma 0) 10 [.ref (ma 1), .int (nI (N 0)), .int (nI (N 3)), .int (nI (N 1)), .int (nI (M 0)), .ref (ma 2), .ref (ma 3), .ref (ma 4), .ref (ma 5), .ref (ma 6), .ref (ma 7), .ref (ma 8), .ref (ma 9), .ref (ma 10), .ref (ma 11), .ref (ma 12), .ref (ma 13), .int (nI sc1), .int (nI oc1), .int (nI ic1), .int (bI (r_on (N 0) (l1, sc1, oc1, ic1, tr1, vr1, ou1, os1))), .ref (ma 14), .ref (ma 15), .int (nI (M 4)), .int (nI (M 5)), .int (nI (M 6)), .int (nI (M 7)), .int (nI (M 8)), .ref (ma 16), .ref (ma 17), .int (nI (M 9)), .ref (ma 18), .int (nI (M 10))], aI cI (ma 1) 7 rf, aI cI (ma 2) 96 T, aI cI (ma 3) 96 nw2, aI cI (ma 4) 100 X, aI cI (ma 5) 24 (F 27), aI cI (ma 6) 48 (F 17), aI cI (ma 7) 72 (F 18), aI cI (ma 8) 12 (F 19), aI cZ (ma 9) 12 B, aI cI (ma 10) 300 tr1, aI cI (ma 11) 6 ou1, aI cI (ma 12) 6 os1, aI cI (ma 13) 8 vr1, aI cI (ma 14) 12 (E 5), aI cZ (ma 15) 12 (E 6), aI cI (ma 16) 2400 (E 7), aJ cJ (ma 17) 2400 L, aI cZ (ma 18) 300 hg3] := hD
                            have hu3 := hwm3.1
                            have hU : UU F TR hg3 m = (UU F TR hg m ||| (VF F TR m).2) := by exact hu3
                            refine lv_iinc (v := nI m - nI 1) (lv' := [(4, .int (nI m - nI 1)), (3, .int (nI (se ||| (1 * 2 ^ l)))), (6, .int (nI 0)), (5, .int (nI l)), (0, .ref (ma 0)), (1, .int (nI t)), (2, .int (nI j))]) hx hb dX10_slice_242 hl (k := 6) rfl (m_dec m) (by decide) rfl (fun ls hl => ?_)
                            refine lv_goto (tgt := 90) hx hb dX10_slice_245 (by decide) ?_
                            exact ih90 m (nI m - nI 1) (se ||| (1 * 2 ^ l)) hg3 (by omega) (by omega) (rfl) (hse2) (by rw [hU, Nat.one_mul]; exact or_ac3 (by rw [Nat.or_zero]; exact hinv)) _ _ _ hP hD hS (lv_sub hl [4, 5, 6, 1, 0] rfl)
                          · skip
                            exact absurd c_13 (by decide)
                      · skip
                        exact absurd c_11 (by decide)
                    · skip
                      simp at hinv
                      obtain ⟨hy8, hz8⟩ := h123 (by decide)
                      refine lv_iload hx hb dX10_slice_135 (lv_at hl 1 rfl) ?_
                      refine k_if_le (tgt := 183) hx hb dX10_slice_137 (by decide) (by decide) (fun c_15 => ?_) (fun c_15 => ?_)
                      · skip
                        exact absurd c_15 (by decide)
                      · skip
                        refine lv_iload hx hb dX10_slice_140 (lv_at hl 1 rfl) ?_
                        refine lv_iconst (v := nI 4) hx hb dX10_slice_142 (by decide) ?_
                        refine k_cmp_ge (tgt := 183) hx hb dX10_slice_143 (by decide) (by decide) (by decide) (fun c_16 => ?_) (fun c_16 => ?_)
                        · skip
                          exact absurd c_16 (by decide)
                        · skip
                          refine lv_aload_n hx hb dX10_slice_146 rfl (lv_at hl 3 rfl) ?_
                          refine lv_iload hx hb dX10_slice_147 (lv_at hl 6 rfl) ?_
                          refine lv_aload_n hx hb dX10_slice_149 rfl (lv_at hl 3 rfl) ?_
                          refine va_get (C := RX10) (T := TX10) (N := 33) (ci := 10) hx hb hts iX10_slice_10 hown hK.1 hP 0 rfl rfl 6 (Nat.le_of_ble_eq_true rfl) (hts _ mX10_slice_16) (fun _ h9 => h9) rfl dX10_slice_150 ?_
                          refine lv_iconst (v := nI 4) hx hb dX10_slice_153 (by decide) ?_
                          refine lv_iload hx hb dX10_slice_154 (lv_at hl 2 rfl) ?_
                          refine k_imul hx hb dX10_slice_156 ?_
                          refine lv_iconst (v := nI 2) hx hb dX10_slice_157 (by decide) ?_
                          refine k_iadd hx hb dX10_slice_158 ?_
                          refine k_iald hx hb hK.1 hP 3 0 rfl rfl (by omega) (by decide) dX10_slice_159 ?_
                          refine k_topN (hye.trans (hy8.eq (by decide))) ?_
                          refine Kv.callV (wr := []) (rest := []) (CX10_wrote jl G cI cZ cJ ma N F rf T X B (fN [M 0, sc1, oc1, ic1, M 4, M 5, M 6, M 7, M 8, M 9, M 10]) (bI (r_on (N 0) (l1, sc1, oc1, ic1, tr1, vr1, ou1, os1))) (fF [nw2, tr1, ou1, os1, vr1, E 5, E 6, E 7, hg]) L hLA hMR TR sc1 m hTR hsc3 hwL (by omega) (tn (F 6 l)) (hy8.lt (by decide))) cx hP hD hS hl [0, 1, 2, 3, 4, 5, 6, 7, 8, 9, 10, 11, 12, 13, 14, 15, 16, 17, 18] [] (ci := 10) (q0 := 0) gX10_slice_X10_wrote hdX10_wrote rfl rfl rfl ⟨Nat.le_of_ble_eq_true rfl, Nat.le_of_ble_eq_true rfl⟩ rfl rfl (by decide) (by decide) (by decide) dX10_slice_160 rfl rfl (Nat.le_of_ble_eq_true rfl) ⟨Nat.le_of_ble_eq_true rfl, Nat.le_of_ble_eq_true rfl⟩ (fun u H locs hwm1 hP hD hS => ?_)
                          obtain ⟨hg1, rfl⟩ : ∃ z, z = u := ⟨_, rfl⟩
                          try dsimp only at hwm1
                          have hP : va_P G vwCl [oB (ma 0) 10 [.ref (ma 1), .int (nI (N 0)), .int (nI (N 3)), .int (nI (N 1)), .int (nI (M 0)), .ref (ma 2), .ref (ma 3), .ref (ma 4), .ref (ma 5), .ref (ma 6), .ref (ma 7), .ref (ma 8), .ref (ma 9), .ref (ma 10), .ref (ma 11), .ref (ma 12), .ref (ma 13), .int (nI sc1), .int (nI oc1), .int (nI ic1), .int (bI (r_on (N 0) (l1, sc1, oc1, ic1, tr1, vr1, ou1, os1))), .ref (ma 14), .ref (ma 15), .int (nI (M 4)), .int (nI (M 5)), .int (nI (M 6)), .int (nI (M 7)), .int (nI (M 8)), .ref (ma 16), .ref (ma 17), .int (nI (M 9)), .ref (ma 18), .int (nI (M 10))], aI cI (ma 1) 7 rf, aI cI (ma 2) 96 T, aI cI (ma 3) 96 nw2, aI cI (ma 4) 100 X, aI cI (ma 5) 24 (F 27), aI cI (ma 6) 48 (F 17), aI cI (ma 7) 72 (F 18), aI cI (ma 8) 12 (F 19), aI cZ (ma 9) 12 B, aI cI (ma 10) 300 tr1, aI cI (ma 11) 6 ou1, aI cI (ma 12) 6 os1, aI cI (ma 13) 8 vr1, aI cI (ma 14) 12 (E 5), aI cZ (ma 15) 12 (E 6), aI cI (ma 16) 2400 (E 7), aJ cJ (ma 17) 2400 L, aI cZ (ma 18) 300 hg1] H := hP
                          have hD : va_D jA [oB (ma 0) 10 [.ref (ma 1), .int (nI (N 0)), .int (nI (N 3)), .int (nI (N 1)), .int (nI (M 0)), .ref (ma 2), .ref (ma 3), .ref (ma 4), .ref (ma 5), .ref (ma 6), .ref (ma 7), .ref (ma 8), .ref (ma 9), .ref (ma 10), .ref (ma 11), .ref (ma 12), .ref (ma 13), .int (nI sc1), .int (nI oc1), .int (nI ic1), .int (bI (r_on (N 0) (l1, sc1, oc1, ic1, tr1, vr1, ou1, os1))), .ref (ma 14), .ref (ma 15), .int (nI (M 4)), .int (nI (M 5)), .int (nI (M 6)), .int (nI (M 7)), .int (nI (M 8)), .ref (ma 16), .ref (ma 17), .int (nI (M 9)), .ref (ma 18), .int (nI (M 10))], aI cI (ma 1) 7 rf, aI cI (ma 2) 96 T, aI cI (ma 3) 96 nw2, aI cI (ma 4) 100 X, aI cI (ma 5) 24 (F 27), aI cI (ma 6) 48 (F 17), aI cI (ma 7) 72 (F 18), aI cI (ma 8) 12 (F 19), aI cZ (ma 9) 12 B, aI cI (ma 10) 300 tr1, aI cI (ma 11) 6 ou1, aI cI (ma 12) 6 os1, aI cI (ma 13) 8 vr1, aI cI (ma 14) 12 (E 5), aI cZ (ma 15) 12 (E 6), aI cI (ma 16) 2400 (E 7), aJ cJ (ma 17) 2400 L, aI cZ (ma 18) 300 hg1] := hD
                          have hu1 := hwm1.1
                          refine lv_aload_n hx hb dX10_slice_163 rfl (lv_at hl 3 rfl) ?_
                          refine lv_iload hx hb dX10_slice_164 (lv_at hl 6 rfl) ?_
                          refine lv_aload_n hx hb dX10_slice_166 rfl (lv_at hl 3 rfl) ?_
                          refine va_get (C := RX10) (T := TX10) (N := 33) (ci := 10) hx hb hts iX10_slice_10 hown hK.1 hP 0 rfl rfl 6 (Nat.le_of_ble_eq_true rfl) (hts _ mX10_slice_16) (fun _ h9 => h9) rfl dX10_slice_167 ?_
                          refine lv_iconst (v := nI 4) hx hb dX10_slice_170 (by decide) ?_
                          refine lv_iload hx hb dX10_slice_171 (lv_at hl 2 rfl) ?_
                          refine k_imul hx hb dX10_slice_173 ?_
                          refine lv_iconst (v := nI 3) hx hb dX10_slice_174 (by decide) ?_
                          refine k_iadd hx hb dX10_slice_175 ?_
                          refine k_iald hx hb hK.1 hP 3 0 rfl rfl (by omega) (by decide) dX10_slice_176 ?_
                          refine k_topN (hze.trans (hz8.eq (by decide))) ?_
                          refine Kv.callV (wr := []) (rest := []) (CX10_wrote jl G cI cZ cJ ma N F rf T X B (fN [M 0, sc1, oc1, ic1, M 4, M 5, M 6, M 7, M 8, M 9, M 10]) (bI (r_on (N 0) (l1, sc1, oc1, ic1, tr1, vr1, ou1, os1))) (fF [nw2, tr1, ou1, os1, vr1, E 5, E 6, E 7, hg1]) L hLA hMR TR sc1 m hTR hsc3 hwL (by omega) (tn (F 7 l)) (hz8.lt (by decide))) cx hP hD hS hl [0, 1, 2, 3, 4, 5, 6, 7, 8, 9, 10, 11, 12, 13, 14, 15, 16, 17, 18] [] (ci := 10) (q0 := 0) gX10_slice_X10_wrote hdX10_wrote rfl rfl rfl ⟨Nat.le_of_ble_eq_true rfl, Nat.le_of_ble_eq_true rfl⟩ rfl rfl (by decide) (by decide) (by decide) dX10_slice_177 rfl rfl (Nat.le_of_ble_eq_true rfl) ⟨Nat.le_of_ble_eq_true rfl, Nat.le_of_ble_eq_true rfl⟩ (fun u H locs hwm2 hP hD hS => ?_)
                          obtain ⟨hg2, rfl⟩ : ∃ z, z = u := ⟨_, rfl⟩
                          try dsimp only at hwm2
                          have hP : va_P G vwCl [oB (ma 0) 10 [.ref (ma 1), .int (nI (N 0)), .int (nI (N 3)), .int (nI (N 1)), .int (nI (M 0)), .ref (ma 2), .ref (ma 3), .ref (ma 4), .ref (ma 5), .ref (ma 6), .ref (ma 7), .ref (ma 8), .ref (ma 9), .ref (ma 10), .ref (ma 11), .ref (ma 12), .ref (ma 13), .int (nI sc1), .int (nI oc1), .int (nI ic1), .int (bI (r_on (N 0) (l1, sc1, oc1, ic1, tr1, vr1, ou1, os1))), .ref (ma 14), .ref (ma 15), .int (nI (M 4)), .int (nI (M 5)), .int (nI (M 6)), .int (nI (M 7)), .int (nI (M 8)), .ref (ma 16), .ref (ma 17), .int (nI (M 9)), .ref (ma 18), .int (nI (M 10))], aI cI (ma 1) 7 rf, aI cI (ma 2) 96 T, aI cI (ma 3) 96 nw2, aI cI (ma 4) 100 X, aI cI (ma 5) 24 (F 27), aI cI (ma 6) 48 (F 17), aI cI (ma 7) 72 (F 18), aI cI (ma 8) 12 (F 19), aI cZ (ma 9) 12 B, aI cI (ma 10) 300 tr1, aI cI (ma 11) 6 ou1, aI cI (ma 12) 6 os1, aI cI (ma 13) 8 vr1, aI cI (ma 14) 12 (E 5), aI cZ (ma 15) 12 (E 6), aI cI (ma 16) 2400 (E 7), aJ cJ (ma 17) 2400 L, aI cZ (ma 18) 300 hg2] H := hP
                          have hD : va_D jA [oB (ma 0) 10 [.ref (ma 1), .int (nI (N 0)), .int (nI (N 3)), .int (nI (N 1)), .int (nI (M 0)), .ref (ma 2), .ref (ma 3), .ref (ma 4), .ref (ma 5), .ref (ma 6), .ref (ma 7), .ref (ma 8), .ref (ma 9), .ref (ma 10), .ref (ma 11), .ref (ma 12), .ref (ma 13), .int (nI sc1), .int (nI oc1), .int (nI ic1), .int (bI (r_on (N 0) (l1, sc1, oc1, ic1, tr1, vr1, ou1, os1))), .ref (ma 14), .ref (ma 15), .int (nI (M 4)), .int (nI (M 5)), .int (nI (M 6)), .int (nI (M 7)), .int (nI (M 8)), .ref (ma 16), .ref (ma 17), .int (nI (M 9)), .ref (ma 18), .int (nI (M 10))], aI cI (ma 1) 7 rf, aI cI (ma 2) 96 T, aI cI (ma 3) 96 nw2, aI cI (ma 4) 100 X, aI cI (ma 5) 24 (F 27), aI cI (ma 6) 48 (F 17), aI cI (ma 7) 72 (F 18), aI cI (ma 8) 12 (F 19), aI cZ (ma 9) 12 B, aI cI (ma 10) 300 tr1, aI cI (ma 11) 6 ou1, aI cI (ma 12) 6 os1, aI cI (ma 13) 8 vr1, aI cI (ma 14) 12 (E 5), aI cZ (ma 15) 12 (E 6), aI cI (ma 16) 2400 (E 7), aJ cJ (ma 17) 2400 L, aI cZ (ma 18) 300 hg2] := hD
                          have hu2 := hwm2.1
                          refine lv_goto (tgt := 236) hx hb dX10_slice_180 (by decide) ?_
                          refine lv_aload_n hx hb dX10_slice_236 rfl (lv_at hl 3 rfl) ?_
                          refine lv_iload hx hb dX10_slice_237 (lv_at hl 6 rfl) ?_
                          refine Kv.callV (wr := []) (rest := []) (CX10_latestIf jl G cI cZ cJ ma N F rf T X B (fN [M 0, sc1, oc1, ic1, M 4, M 5, M 6, M 7, M 8, M 9, M 10]) (bI (r_on (N 0) (l1, sc1, oc1, ic1, tr1, vr1, ou1, os1))) (fF [nw2, tr1, ou1, os1, vr1, E 5, E 6, E 7, hg2]) L hLA hMR TR sc1 m hTR hsc3 hwL (by omega)) cx hP hD hS hl [0, 1, 2, 3, 4, 5, 6, 7, 8, 9, 10, 11, 12, 13, 14, 15, 16, 17, 18] [] (ci := 10) (q0 := 0) gX10_slice_X10_latestIf hdX10_latestIf rfl rfl rfl ⟨Nat.le_of_ble_eq_true rfl, Nat.le_of_ble_eq_true rfl⟩ rfl rfl (by decide) (by decide) (by decide) dX10_slice_239 rfl rfl (Nat.le_of_ble_eq_true rfl) ⟨Nat.le_of_ble_eq_true rfl, Nat.le_of_ble_eq_true rfl⟩ (fun u H locs hwm3 hP hD hS => ?_)
                          obtain ⟨hg3, rfl⟩ : ∃ z, z = u := ⟨_, rfl⟩
                          try dsimp only at hwm3
                          have hP : va_P G vwCl [oB (ma 0) 10 [.ref (ma 1), .int (nI (N 0)), .int (nI (N 3)), .int (nI (N 1)), .int (nI (M 0)), .ref (ma 2), .ref (ma 3), .ref (ma 4), .ref (ma 5), .ref (ma 6), .ref (ma 7), .ref (ma 8), .ref (ma 9), .ref (ma 10), .ref (ma 11), .ref (ma 12), .ref (ma 13), .int (nI sc1), .int (nI oc1), .int (nI ic1), .int (bI (r_on (N 0) (l1, sc1, oc1, ic1, tr1, vr1, ou1, os1))), .ref (ma 14), .ref (ma 15), .int (nI (M 4)), .int (nI (M 5)), .int (nI (M 6)), .int (nI (M 7)), .int (nI (M 8)), .ref (ma 16), .ref (ma 17), .int (nI (M 9)), .ref (ma 18), .int (nI (M 10))], aI cI (ma 1) 7 rf, aI cI (ma 2) 96 T, aI cI (ma 3) 96 nw2, aI cI (ma 4) 100 X, aI cI (ma 5) 24 (F 27), aI cI (ma 6) 48 (F 17), aI cI (ma 7) 72 (F 18), aI cI (ma 8) 12 (F 19), aI cZ (ma 9) 12 B, aI cI (ma 10) 300 tr1, aI cI (ma 11) 6 ou1, aI cI (ma 12) 6 os1, aI cI (ma 13) 8 vr1, aI cI (ma 14) 12 (E 5), aI cZ (ma 15) 12 (E 6), aI cI (ma 16) 2400 (E 7), aJ cJ (ma 17) 2400 L, aI cZ (ma 18) 300 hg3] H := hP
                          have hD : va_D jA [oB (ma 0) 10 [.ref (ma 1), .int (nI (N 0)), .int (nI (N 3)), .int (nI (N 1)), .int (nI (M 0)), .ref (ma 2), .ref (ma 3), .ref (ma 4), .ref (ma 5), .ref (ma 6), .ref (ma 7), .ref (ma 8), .ref (ma 9), .ref (ma 10), .ref (ma 11), .ref (ma 12), .ref (ma 13), .int (nI sc1), .int (nI oc1), .int (nI ic1), .int (bI (r_on (N 0) (l1, sc1, oc1, ic1, tr1, vr1, ou1, os1))), .ref (ma 14), .ref (ma 15), .int (nI (M 4)), .int (nI (M 5)), .int (nI (M 6)), .int (nI (M 7)), .int (nI (M 8)), .ref (ma 16), .ref (ma 17), .int (nI (M 9)), .ref (ma 18), .int (nI (M 10))], aI cI (ma 1) 7 rf, aI cI (ma 2) 96 T, aI cI (ma 3) 96 nw2, aI cI (ma 4) 100 X, aI cI (ma 5) 24 (F 27), aI cI (ma 6) 48 (F 17), aI cI (ma 7) 72 (F 18), aI cI (ma 8) 12 (F 19), aI cZ (ma 9) 12 B, aI cI (ma 10) 300 tr1, aI cI (ma 11) 6 ou1, aI cI (ma 12) 6 os1, aI cI (ma 13) 8 vr1, aI cI (ma 14) 12 (E 5), aI cZ (ma 15) 12 (E 6), aI cI (ma 16) 2400 (E 7), aJ cJ (ma 17) 2400 L, aI cZ (ma 18) 300 hg3] := hD
                          have hu3 := hwm3.1
                          have hU : UU F TR hg3 m = (((UU F TR hg m ||| (VF F TR m).1 (tn (F 6 l))) ||| (VF F TR m).1 (tn (F 7 l))) ||| (VF F TR m).2) := by rw [show UU F TR hg3 m = UU F TR hg2 m ||| (VF F TR m).2 from hu3, show UU F TR hg2 m = UU F TR hg1 m ||| _ from hu2, show UU F TR hg1 m = UU F TR hg m ||| _ from hu1]
                          refine lv_iinc (v := nI m - nI 1) (lv' := [(4, .int (nI m - nI 1)), (3, .int (nI (se ||| (1 * 2 ^ l)))), (6, .int (nI 1)), (5, .int (nI l)), (0, .ref (ma 0)), (1, .int (nI t)), (2, .int (nI j))]) hx hb dX10_slice_242 hl (k := 6) rfl (m_dec m) (by decide) rfl (fun ls hl => ?_)
                          refine lv_goto (tgt := 90) hx hb dX10_slice_245 (by decide) ?_
                          exact ih90 m (nI m - nI 1) (se ||| (1 * 2 ^ l)) hg3 (by omega) (by omega) (rfl) (hse2) (by rw [hU, Nat.one_mul]; exact or_ac1 hinv) _ _ _ hP hD hS (lv_sub hl [4, 5, 6, 1, 0] rfl)
                    · skip
                      simp at hinv
                      obtain ⟨hy8, hz8⟩ := h123 (by decide)
                      refine lv_iload hx hb dX10_slice_135 (lv_at hl 1 rfl) ?_
                      refine k_if_le (tgt := 183) hx hb dX10_slice_137 (by decide) (by decide) (fun c_20 => ?_) (fun c_20 => ?_)
                      · skip
                        exact absurd c_20 (by decide)
                      · skip
                        refine lv_iload hx hb dX10_slice_140 (lv_at hl 1 rfl) ?_
                        refine lv_iconst (v := nI 4) hx hb dX10_slice_142 (by decide) ?_
                        refine k_cmp_ge (tgt := 183) hx hb dX10_slice_143 (by decide) (by decide) (by decide) (fun c_21 => ?_) (fun c_21 => ?_)
                        · skip
                          exact absurd c_21 (by decide)
                        · skip
                          refine lv_aload_n hx hb dX10_slice_146 rfl (lv_at hl 3 rfl) ?_
                          refine lv_iload hx hb dX10_slice_147 (lv_at hl 6 rfl) ?_
                          refine lv_aload_n hx hb dX10_slice_149 rfl (lv_at hl 3 rfl) ?_
                          refine va_get (C := RX10) (T := TX10) (N := 33) (ci := 10) hx hb hts iX10_slice_10 hown hK.1 hP 0 rfl rfl 6 (Nat.le_of_ble_eq_true rfl) (hts _ mX10_slice_16) (fun _ h9 => h9) rfl dX10_slice_150 ?_
                          refine lv_iconst (v := nI 4) hx hb dX10_slice_153 (by decide) ?_
                          refine lv_iload hx hb dX10_slice_154 (lv_at hl 2 rfl) ?_
                          refine k_imul hx hb dX10_slice_156 ?_
                          refine lv_iconst (v := nI 2) hx hb dX10_slice_157 (by decide) ?_
                          refine k_iadd hx hb dX10_slice_158 ?_
                          refine k_iald hx hb hK.1 hP 3 0 rfl rfl (by omega) (by decide) dX10_slice_159 ?_
                          refine k_topN (hye.trans (hy8.eq (by decide))) ?_
                          refine Kv.callV (wr := []) (rest := []) (CX10_wrote jl G cI cZ cJ ma N F rf T X B (fN [M 0, sc1, oc1, ic1, M 4, M 5, M 6, M 7, M 8, M 9, M 10]) (bI (r_on (N 0) (l1, sc1, oc1, ic1, tr1, vr1, ou1, os1))) (fF [nw2, tr1, ou1, os1, vr1, E 5, E 6, E 7, hg]) L hLA hMR TR sc1 m hTR hsc3 hwL (by omega) (tn (F 6 l)) (hy8.lt (by decide))) cx hP hD hS hl [0, 1, 2, 3, 4, 5, 6, 7, 8, 9, 10, 11, 12, 13, 14, 15, 16, 17, 18] [] (ci := 10) (q0 := 0) gX10_slice_X10_wrote hdX10_wrote rfl rfl rfl ⟨Nat.le_of_ble_eq_true rfl, Nat.le_of_ble_eq_true rfl⟩ rfl rfl (by decide) (by decide) (by decide) dX10_slice_160 rfl rfl (Nat.le_of_ble_eq_true rfl) ⟨Nat.le_of_ble_eq_true rfl, Nat.le_of_ble_eq_true rfl⟩ (fun u H locs hwm1 hP hD hS => ?_)
                          obtain ⟨hg1, rfl⟩ : ∃ z, z = u := ⟨_, rfl⟩
                          try dsimp only at hwm1
                          have hP : va_P G vwCl [oB (ma 0) 10 [.ref (ma 1), .int (nI (N 0)), .int (nI (N 3)), .int (nI (N 1)), .int (nI (M 0)), .ref (ma 2), .ref (ma 3), .ref (ma 4), .ref (ma 5), .ref (ma 6), .ref (ma 7), .ref (ma 8), .ref (ma 9), .ref (ma 10), .ref (ma 11), .ref (ma 12), .ref (ma 13), .int (nI sc1), .int (nI oc1), .int (nI ic1), .int (bI (r_on (N 0) (l1, sc1, oc1, ic1, tr1, vr1, ou1, os1))), .ref (ma 14), .ref (ma 15), .int (nI (M 4)), .int (nI (M 5)), .int (nI (M 6)), .int (nI (M 7)), .int (nI (M 8)), .ref (ma 16), .ref (ma 17), .int (nI (M 9)), .ref (ma 18), .int (nI (M 10))], aI cI (ma 1) 7 rf, aI cI (ma 2) 96 T, aI cI (ma 3) 96 nw2, aI cI (ma 4) 100 X, aI cI (ma 5) 24 (F 27), aI cI (ma 6) 48 (F 17), aI cI (ma 7) 72 (F 18), aI cI (ma 8) 12 (F 19), aI cZ (ma 9) 12 B, aI cI (ma 10) 300 tr1, aI cI (ma 11) 6 ou1, aI cI (ma 12) 6 os1, aI cI (ma 13) 8 vr1, aI cI (ma 14) 12 (E 5), aI cZ (ma 15) 12 (E 6), aI cI (ma 16) 2400 (E 7), aJ cJ (ma 17) 2400 L, aI cZ (ma 18) 300 hg1] H := hP
                          have hD : va_D jA [oB (ma 0) 10 [.ref (ma 1), .int (nI (N 0)), .int (nI (N 3)), .int (nI (N 1)), .int (nI (M 0)), .ref (ma 2), .ref (ma 3), .ref (ma 4), .ref (ma 5), .ref (ma 6), .ref (ma 7), .ref (ma 8), .ref (ma 9), .ref (ma 10), .ref (ma 11), .ref (ma 12), .ref (ma 13), .int (nI sc1), .int (nI oc1), .int (nI ic1), .int (bI (r_on (N 0) (l1, sc1, oc1, ic1, tr1, vr1, ou1, os1))), .ref (ma 14), .ref (ma 15), .int (nI (M 4)), .int (nI (M 5)), .int (nI (M 6)), .int (nI (M 7)), .int (nI (M 8)), .ref (ma 16), .ref (ma 17), .int (nI (M 9)), .ref (ma 18), .int (nI (M 10))], aI cI (ma 1) 7 rf, aI cI (ma 2) 96 T, aI cI (ma 3) 96 nw2, aI cI (ma 4) 100 X, aI cI (ma 5) 24 (F 27), aI cI (ma 6) 48 (F 17), aI cI (ma 7) 72 (F 18), aI cI (ma 8) 12 (F 19), aI cZ (ma 9) 12 B, aI cI (ma 10) 300 tr1, aI cI (ma 11) 6 ou1, aI cI (ma 12) 6 os1, aI cI (ma 13) 8 vr1, aI cI (ma 14) 12 (E 5), aI cZ (ma 15) 12 (E 6), aI cI (ma 16) 2400 (E 7), aJ cJ (ma 17) 2400 L, aI cZ (ma 18) 300 hg1] := hD
                          have hu1 := hwm1.1
                          refine lv_aload_n hx hb dX10_slice_163 rfl (lv_at hl 3 rfl) ?_
                          refine lv_iload hx hb dX10_slice_164 (lv_at hl 6 rfl) ?_
                          refine lv_aload_n hx hb dX10_slice_166 rfl (lv_at hl 3 rfl) ?_
                          refine va_get (C := RX10) (T := TX10) (N := 33) (ci := 10) hx hb hts iX10_slice_10 hown hK.1 hP 0 rfl rfl 6 (Nat.le_of_ble_eq_true rfl) (hts _ mX10_slice_16) (fun _ h9 => h9) rfl dX10_slice_167 ?_
                          refine lv_iconst (v := nI 4) hx hb dX10_slice_170 (by decide) ?_
                          refine lv_iload hx hb dX10_slice_171 (lv_at hl 2 rfl) ?_
                          refine k_imul hx hb dX10_slice_173 ?_
                          refine lv_iconst (v := nI 3) hx hb dX10_slice_174 (by decide) ?_
                          refine k_iadd hx hb dX10_slice_175 ?_
                          refine k_iald hx hb hK.1 hP 3 0 rfl rfl (by omega) (by decide) dX10_slice_176 ?_
                          refine k_topN (hze.trans (hz8.eq (by decide))) ?_
                          refine Kv.callV (wr := []) (rest := []) (CX10_wrote jl G cI cZ cJ ma N F rf T X B (fN [M 0, sc1, oc1, ic1, M 4, M 5, M 6, M 7, M 8, M 9, M 10]) (bI (r_on (N 0) (l1, sc1, oc1, ic1, tr1, vr1, ou1, os1))) (fF [nw2, tr1, ou1, os1, vr1, E 5, E 6, E 7, hg1]) L hLA hMR TR sc1 m hTR hsc3 hwL (by omega) (tn (F 7 l)) (hz8.lt (by decide))) cx hP hD hS hl [0, 1, 2, 3, 4, 5, 6, 7, 8, 9, 10, 11, 12, 13, 14, 15, 16, 17, 18] [] (ci := 10) (q0 := 0) gX10_slice_X10_wrote hdX10_wrote rfl rfl rfl ⟨Nat.le_of_ble_eq_true rfl, Nat.le_of_ble_eq_true rfl⟩ rfl rfl (by decide) (by decide) (by decide) dX10_slice_177 rfl rfl (Nat.le_of_ble_eq_true rfl) ⟨Nat.le_of_ble_eq_true rfl, Nat.le_of_ble_eq_true rfl⟩ (fun u H locs hwm2 hP hD hS => ?_)
                          obtain ⟨hg2, rfl⟩ : ∃ z, z = u := ⟨_, rfl⟩
                          try dsimp only at hwm2
                          have hP : va_P G vwCl [oB (ma 0) 10 [.ref (ma 1), .int (nI (N 0)), .int (nI (N 3)), .int (nI (N 1)), .int (nI (M 0)), .ref (ma 2), .ref (ma 3), .ref (ma 4), .ref (ma 5), .ref (ma 6), .ref (ma 7), .ref (ma 8), .ref (ma 9), .ref (ma 10), .ref (ma 11), .ref (ma 12), .ref (ma 13), .int (nI sc1), .int (nI oc1), .int (nI ic1), .int (bI (r_on (N 0) (l1, sc1, oc1, ic1, tr1, vr1, ou1, os1))), .ref (ma 14), .ref (ma 15), .int (nI (M 4)), .int (nI (M 5)), .int (nI (M 6)), .int (nI (M 7)), .int (nI (M 8)), .ref (ma 16), .ref (ma 17), .int (nI (M 9)), .ref (ma 18), .int (nI (M 10))], aI cI (ma 1) 7 rf, aI cI (ma 2) 96 T, aI cI (ma 3) 96 nw2, aI cI (ma 4) 100 X, aI cI (ma 5) 24 (F 27), aI cI (ma 6) 48 (F 17), aI cI (ma 7) 72 (F 18), aI cI (ma 8) 12 (F 19), aI cZ (ma 9) 12 B, aI cI (ma 10) 300 tr1, aI cI (ma 11) 6 ou1, aI cI (ma 12) 6 os1, aI cI (ma 13) 8 vr1, aI cI (ma 14) 12 (E 5), aI cZ (ma 15) 12 (E 6), aI cI (ma 16) 2400 (E 7), aJ cJ (ma 17) 2400 L, aI cZ (ma 18) 300 hg2] H := hP
                          have hD : va_D jA [oB (ma 0) 10 [.ref (ma 1), .int (nI (N 0)), .int (nI (N 3)), .int (nI (N 1)), .int (nI (M 0)), .ref (ma 2), .ref (ma 3), .ref (ma 4), .ref (ma 5), .ref (ma 6), .ref (ma 7), .ref (ma 8), .ref (ma 9), .ref (ma 10), .ref (ma 11), .ref (ma 12), .ref (ma 13), .int (nI sc1), .int (nI oc1), .int (nI ic1), .int (bI (r_on (N 0) (l1, sc1, oc1, ic1, tr1, vr1, ou1, os1))), .ref (ma 14), .ref (ma 15), .int (nI (M 4)), .int (nI (M 5)), .int (nI (M 6)), .int (nI (M 7)), .int (nI (M 8)), .ref (ma 16), .ref (ma 17), .int (nI (M 9)), .ref (ma 18), .int (nI (M 10))], aI cI (ma 1) 7 rf, aI cI (ma 2) 96 T, aI cI (ma 3) 96 nw2, aI cI (ma 4) 100 X, aI cI (ma 5) 24 (F 27), aI cI (ma 6) 48 (F 17), aI cI (ma 7) 72 (F 18), aI cI (ma 8) 12 (F 19), aI cZ (ma 9) 12 B, aI cI (ma 10) 300 tr1, aI cI (ma 11) 6 ou1, aI cI (ma 12) 6 os1, aI cI (ma 13) 8 vr1, aI cI (ma 14) 12 (E 5), aI cZ (ma 15) 12 (E 6), aI cI (ma 16) 2400 (E 7), aJ cJ (ma 17) 2400 L, aI cZ (ma 18) 300 hg2] := hD
                          have hu2 := hwm2.1
                          refine lv_goto (tgt := 236) hx hb dX10_slice_180 (by decide) ?_
                          refine lv_aload_n hx hb dX10_slice_236 rfl (lv_at hl 3 rfl) ?_
                          refine lv_iload hx hb dX10_slice_237 (lv_at hl 6 rfl) ?_
                          refine Kv.callV (wr := []) (rest := []) (CX10_latestIf jl G cI cZ cJ ma N F rf T X B (fN [M 0, sc1, oc1, ic1, M 4, M 5, M 6, M 7, M 8, M 9, M 10]) (bI (r_on (N 0) (l1, sc1, oc1, ic1, tr1, vr1, ou1, os1))) (fF [nw2, tr1, ou1, os1, vr1, E 5, E 6, E 7, hg2]) L hLA hMR TR sc1 m hTR hsc3 hwL (by omega)) cx hP hD hS hl [0, 1, 2, 3, 4, 5, 6, 7, 8, 9, 10, 11, 12, 13, 14, 15, 16, 17, 18] [] (ci := 10) (q0 := 0) gX10_slice_X10_latestIf hdX10_latestIf rfl rfl rfl ⟨Nat.le_of_ble_eq_true rfl, Nat.le_of_ble_eq_true rfl⟩ rfl rfl (by decide) (by decide) (by decide) dX10_slice_239 rfl rfl (Nat.le_of_ble_eq_true rfl) ⟨Nat.le_of_ble_eq_true rfl, Nat.le_of_ble_eq_true rfl⟩ (fun u H locs hwm3 hP hD hS => ?_)
                          obtain ⟨hg3, rfl⟩ : ∃ z, z = u := ⟨_, rfl⟩
                          try dsimp only at hwm3
                          have hP : va_P G vwCl [oB (ma 0) 10 [.ref (ma 1), .int (nI (N 0)), .int (nI (N 3)), .int (nI (N 1)), .int (nI (M 0)), .ref (ma 2), .ref (ma 3), .ref (ma 4), .ref (ma 5), .ref (ma 6), .ref (ma 7), .ref (ma 8), .ref (ma 9), .ref (ma 10), .ref (ma 11), .ref (ma 12), .ref (ma 13), .int (nI sc1), .int (nI oc1), .int (nI ic1), .int (bI (r_on (N 0) (l1, sc1, oc1, ic1, tr1, vr1, ou1, os1))), .ref (ma 14), .ref (ma 15), .int (nI (M 4)), .int (nI (M 5)), .int (nI (M 6)), .int (nI (M 7)), .int (nI (M 8)), .ref (ma 16), .ref (ma 17), .int (nI (M 9)), .ref (ma 18), .int (nI (M 10))], aI cI (ma 1) 7 rf, aI cI (ma 2) 96 T, aI cI (ma 3) 96 nw2, aI cI (ma 4) 100 X, aI cI (ma 5) 24 (F 27), aI cI (ma 6) 48 (F 17), aI cI (ma 7) 72 (F 18), aI cI (ma 8) 12 (F 19), aI cZ (ma 9) 12 B, aI cI (ma 10) 300 tr1, aI cI (ma 11) 6 ou1, aI cI (ma 12) 6 os1, aI cI (ma 13) 8 vr1, aI cI (ma 14) 12 (E 5), aI cZ (ma 15) 12 (E 6), aI cI (ma 16) 2400 (E 7), aJ cJ (ma 17) 2400 L, aI cZ (ma 18) 300 hg3] H := hP
                          have hD : va_D jA [oB (ma 0) 10 [.ref (ma 1), .int (nI (N 0)), .int (nI (N 3)), .int (nI (N 1)), .int (nI (M 0)), .ref (ma 2), .ref (ma 3), .ref (ma 4), .ref (ma 5), .ref (ma 6), .ref (ma 7), .ref (ma 8), .ref (ma 9), .ref (ma 10), .ref (ma 11), .ref (ma 12), .ref (ma 13), .int (nI sc1), .int (nI oc1), .int (nI ic1), .int (bI (r_on (N 0) (l1, sc1, oc1, ic1, tr1, vr1, ou1, os1))), .ref (ma 14), .ref (ma 15), .int (nI (M 4)), .int (nI (M 5)), .int (nI (M 6)), .int (nI (M 7)), .int (nI (M 8)), .ref (ma 16), .ref (ma 17), .int (nI (M 9)), .ref (ma 18), .int (nI (M 10))], aI cI (ma 1) 7 rf, aI cI (ma 2) 96 T, aI cI (ma 3) 96 nw2, aI cI (ma 4) 100 X, aI cI (ma 5) 24 (F 27), aI cI (ma 6) 48 (F 17), aI cI (ma 7) 72 (F 18), aI cI (ma 8) 12 (F 19), aI cZ (ma 9) 12 B, aI cI (ma 10) 300 tr1, aI cI (ma 11) 6 ou1, aI cI (ma 12) 6 os1, aI cI (ma 13) 8 vr1, aI cI (ma 14) 12 (E 5), aI cZ (ma 15) 12 (E 6), aI cI (ma 16) 2400 (E 7), aJ cJ (ma 17) 2400 L, aI cZ (ma 18) 300 hg3] := hD
                          have hu3 := hwm3.1
                          have hU : UU F TR hg3 m = (((UU F TR hg m ||| (VF F TR m).1 (tn (F 6 l))) ||| (VF F TR m).1 (tn (F 7 l))) ||| (VF F TR m).2) := by rw [show UU F TR hg3 m = UU F TR hg2 m ||| (VF F TR m).2 from hu3, show UU F TR hg2 m = UU F TR hg1 m ||| _ from hu2, show UU F TR hg1 m = UU F TR hg m ||| _ from hu1]
                          refine lv_iinc (v := nI m - nI 1) (lv' := [(4, .int (nI m - nI 1)), (3, .int (nI (se ||| (1 * 2 ^ l)))), (6, .int (nI 2)), (5, .int (nI l)), (0, .ref (ma 0)), (1, .int (nI t)), (2, .int (nI j))]) hx hb dX10_slice_242 hl (k := 6) rfl (m_dec m) (by decide) rfl (fun ls hl => ?_)
                          refine lv_goto (tgt := 90) hx hb dX10_slice_245 (by decide) ?_
                          exact ih90 m (nI m - nI 1) (se ||| (1 * 2 ^ l)) hg3 (by omega) (by omega) (rfl) (hse2) (by rw [hU, Nat.one_mul]; exact or_ac1 hinv) _ _ _ hP hD hS (lv_sub hl [4, 5, 6, 1, 0] rfl)
                    · skip
                      simp at hinv
                      obtain ⟨hy8, hz8⟩ := h123 (by decide)
                      refine lv_iload hx hb dX10_slice_135 (lv_at hl 1 rfl) ?_
                      refine k_if_le (tgt := 183) hx hb dX10_slice_137 (by decide) (by decide) (fun c_25 => ?_) (fun c_25 => ?_)
                      · skip
                        exact absurd c_25 (by decide)
                      · skip
                        refine lv_iload hx hb dX10_slice_140 (lv_at hl 1 rfl) ?_
                        refine lv_iconst (v := nI 4) hx hb dX10_slice_142 (by decide) ?_
                        refine k_cmp_ge (tgt := 183) hx hb dX10_slice_143 (by decide) (by decide) (by decide) (fun c_26 => ?_) (fun c_26 => ?_)
                        · skip
                          exact absurd c_26 (by decide)
                        · skip
                          refine lv_aload_n hx hb dX10_slice_146 rfl (lv_at hl 3 rfl) ?_
                          refine lv_iload hx hb dX10_slice_147 (lv_at hl 6 rfl) ?_
                          refine lv_aload_n hx hb dX10_slice_149 rfl (lv_at hl 3 rfl) ?_
                          refine va_get (C := RX10) (T := TX10) (N := 33) (ci := 10) hx hb hts iX10_slice_10 hown hK.1 hP 0 rfl rfl 6 (Nat.le_of_ble_eq_true rfl) (hts _ mX10_slice_16) (fun _ h9 => h9) rfl dX10_slice_150 ?_
                          refine lv_iconst (v := nI 4) hx hb dX10_slice_153 (by decide) ?_
                          refine lv_iload hx hb dX10_slice_154 (lv_at hl 2 rfl) ?_
                          refine k_imul hx hb dX10_slice_156 ?_
                          refine lv_iconst (v := nI 2) hx hb dX10_slice_157 (by decide) ?_
                          refine k_iadd hx hb dX10_slice_158 ?_
                          refine k_iald hx hb hK.1 hP 3 0 rfl rfl (by omega) (by decide) dX10_slice_159 ?_
                          refine k_topN (hye.trans (hy8.eq (by decide))) ?_
                          refine Kv.callV (wr := []) (rest := []) (CX10_wrote jl G cI cZ cJ ma N F rf T X B (fN [M 0, sc1, oc1, ic1, M 4, M 5, M 6, M 7, M 8, M 9, M 10]) (bI (r_on (N 0) (l1, sc1, oc1, ic1, tr1, vr1, ou1, os1))) (fF [nw2, tr1, ou1, os1, vr1, E 5, E 6, E 7, hg]) L hLA hMR TR sc1 m hTR hsc3 hwL (by omega) (tn (F 6 l)) (hy8.lt (by decide))) cx hP hD hS hl [0, 1, 2, 3, 4, 5, 6, 7, 8, 9, 10, 11, 12, 13, 14, 15, 16, 17, 18] [] (ci := 10) (q0 := 0) gX10_slice_X10_wrote hdX10_wrote rfl rfl rfl ⟨Nat.le_of_ble_eq_true rfl, Nat.le_of_ble_eq_true rfl⟩ rfl rfl (by decide) (by decide) (by decide) dX10_slice_160 rfl rfl (Nat.le_of_ble_eq_true rfl) ⟨Nat.le_of_ble_eq_true rfl, Nat.le_of_ble_eq_true rfl⟩ (fun u H locs hwm1 hP hD hS => ?_)
                          obtain ⟨hg1, rfl⟩ : ∃ z, z = u := ⟨_, rfl⟩
                          try dsimp only at hwm1
                          have hP : va_P G vwCl [oB (ma 0) 10 [.ref (ma 1), .int (nI (N 0)), .int (nI (N 3)), .int (nI (N 1)), .int (nI (M 0)), .ref (ma 2), .ref (ma 3), .ref (ma 4), .ref (ma 5), .ref (ma 6), .ref (ma 7), .ref (ma 8), .ref (ma 9), .ref (ma 10), .ref (ma 11), .ref (ma 12), .ref (ma 13), .int (nI sc1), .int (nI oc1), .int (nI ic1), .int (bI (r_on (N 0) (l1, sc1, oc1, ic1, tr1, vr1, ou1, os1))), .ref (ma 14), .ref (ma 15), .int (nI (M 4)), .int (nI (M 5)), .int (nI (M 6)), .int (nI (M 7)), .int (nI (M 8)), .ref (ma 16), .ref (ma 17), .int (nI (M 9)), .ref (ma 18), .int (nI (M 10))], aI cI (ma 1) 7 rf, aI cI (ma 2) 96 T, aI cI (ma 3) 96 nw2, aI cI (ma 4) 100 X, aI cI (ma 5) 24 (F 27), aI cI (ma 6) 48 (F 17), aI cI (ma 7) 72 (F 18), aI cI (ma 8) 12 (F 19), aI cZ (ma 9) 12 B, aI cI (ma 10) 300 tr1, aI cI (ma 11) 6 ou1, aI cI (ma 12) 6 os1, aI cI (ma 13) 8 vr1, aI cI (ma 14) 12 (E 5), aI cZ (ma 15) 12 (E 6), aI cI (ma 16) 2400 (E 7), aJ cJ (ma 17) 2400 L, aI cZ (ma 18) 300 hg1] H := hP
                          have hD : va_D jA [oB (ma 0) 10 [.ref (ma 1), .int (nI (N 0)), .int (nI (N 3)), .int (nI (N 1)), .int (nI (M 0)), .ref (ma 2), .ref (ma 3), .ref (ma 4), .ref (ma 5), .ref (ma 6), .ref (ma 7), .ref (ma 8), .ref (ma 9), .ref (ma 10), .ref (ma 11), .ref (ma 12), .ref (ma 13), .int (nI sc1), .int (nI oc1), .int (nI ic1), .int (bI (r_on (N 0) (l1, sc1, oc1, ic1, tr1, vr1, ou1, os1))), .ref (ma 14), .ref (ma 15), .int (nI (M 4)), .int (nI (M 5)), .int (nI (M 6)), .int (nI (M 7)), .int (nI (M 8)), .ref (ma 16), .ref (ma 17), .int (nI (M 9)), .ref (ma 18), .int (nI (M 10))], aI cI (ma 1) 7 rf, aI cI (ma 2) 96 T, aI cI (ma 3) 96 nw2, aI cI (ma 4) 100 X, aI cI (ma 5) 24 (F 27), aI cI (ma 6) 48 (F 17), aI cI (ma 7) 72 (F 18), aI cI (ma 8) 12 (F 19), aI cZ (ma 9) 12 B, aI cI (ma 10) 300 tr1, aI cI (ma 11) 6 ou1, aI cI (ma 12) 6 os1, aI cI (ma 13) 8 vr1, aI cI (ma 14) 12 (E 5), aI cZ (ma 15) 12 (E 6), aI cI (ma 16) 2400 (E 7), aJ cJ (ma 17) 2400 L, aI cZ (ma 18) 300 hg1] := hD
                          have hu1 := hwm1.1
                          refine lv_aload_n hx hb dX10_slice_163 rfl (lv_at hl 3 rfl) ?_
                          refine lv_iload hx hb dX10_slice_164 (lv_at hl 6 rfl) ?_
                          refine lv_aload_n hx hb dX10_slice_166 rfl (lv_at hl 3 rfl) ?_
                          refine va_get (C := RX10) (T := TX10) (N := 33) (ci := 10) hx hb hts iX10_slice_10 hown hK.1 hP 0 rfl rfl 6 (Nat.le_of_ble_eq_true rfl) (hts _ mX10_slice_16) (fun _ h9 => h9) rfl dX10_slice_167 ?_
                          refine lv_iconst (v := nI 4) hx hb dX10_slice_170 (by decide) ?_
                          refine lv_iload hx hb dX10_slice_171 (lv_at hl 2 rfl) ?_
                          refine k_imul hx hb dX10_slice_173 ?_
                          refine lv_iconst (v := nI 3) hx hb dX10_slice_174 (by decide) ?_
                          refine k_iadd hx hb dX10_slice_175 ?_
                          refine k_iald hx hb hK.1 hP 3 0 rfl rfl (by omega) (by decide) dX10_slice_176 ?_
                          refine k_topN (hze.trans (hz8.eq (by decide))) ?_
                          refine Kv.callV (wr := []) (rest := []) (CX10_wrote jl G cI cZ cJ ma N F rf T X B (fN [M 0, sc1, oc1, ic1, M 4, M 5, M 6, M 7, M 8, M 9, M 10]) (bI (r_on (N 0) (l1, sc1, oc1, ic1, tr1, vr1, ou1, os1))) (fF [nw2, tr1, ou1, os1, vr1, E 5, E 6, E 7, hg1]) L hLA hMR TR sc1 m hTR hsc3 hwL (by omega) (tn (F 7 l)) (hz8.lt (by decide))) cx hP hD hS hl [0, 1, 2, 3, 4, 5, 6, 7, 8, 9, 10, 11, 12, 13, 14, 15, 16, 17, 18] [] (ci := 10) (q0 := 0) gX10_slice_X10_wrote hdX10_wrote rfl rfl rfl ⟨Nat.le_of_ble_eq_true rfl, Nat.le_of_ble_eq_true rfl⟩ rfl rfl (by decide) (by decide) (by decide) dX10_slice_177 rfl rfl (Nat.le_of_ble_eq_true rfl) ⟨Nat.le_of_ble_eq_true rfl, Nat.le_of_ble_eq_true rfl⟩ (fun u H locs hwm2 hP hD hS => ?_)
                          obtain ⟨hg2, rfl⟩ : ∃ z, z = u := ⟨_, rfl⟩
                          try dsimp only at hwm2
                          have hP : va_P G vwCl [oB (ma 0) 10 [.ref (ma 1), .int (nI (N 0)), .int (nI (N 3)), .int (nI (N 1)), .int (nI (M 0)), .ref (ma 2), .ref (ma 3), .ref (ma 4), .ref (ma 5), .ref (ma 6), .ref (ma 7), .ref (ma 8), .ref (ma 9), .ref (ma 10), .ref (ma 11), .ref (ma 12), .ref (ma 13), .int (nI sc1), .int (nI oc1), .int (nI ic1), .int (bI (r_on (N 0) (l1, sc1, oc1, ic1, tr1, vr1, ou1, os1))), .ref (ma 14), .ref (ma 15), .int (nI (M 4)), .int (nI (M 5)), .int (nI (M 6)), .int (nI (M 7)), .int (nI (M 8)), .ref (ma 16), .ref (ma 17), .int (nI (M 9)), .ref (ma 18), .int (nI (M 10))], aI cI (ma 1) 7 rf, aI cI (ma 2) 96 T, aI cI (ma 3) 96 nw2, aI cI (ma 4) 100 X, aI cI (ma 5) 24 (F 27), aI cI (ma 6) 48 (F 17), aI cI (ma 7) 72 (F 18), aI cI (ma 8) 12 (F 19), aI cZ (ma 9) 12 B, aI cI (ma 10) 300 tr1, aI cI (ma 11) 6 ou1, aI cI (ma 12) 6 os1, aI cI (ma 13) 8 vr1, aI cI (ma 14) 12 (E 5), aI cZ (ma 15) 12 (E 6), aI cI (ma 16) 2400 (E 7), aJ cJ (ma 17) 2400 L, aI cZ (ma 18) 300 hg2] H := hP
                          have hD : va_D jA [oB (ma 0) 10 [.ref (ma 1), .int (nI (N 0)), .int (nI (N 3)), .int (nI (N 1)), .int (nI (M 0)), .ref (ma 2), .ref (ma 3), .ref (ma 4), .ref (ma 5), .ref (ma 6), .ref (ma 7), .ref (ma 8), .ref (ma 9), .ref (ma 10), .ref (ma 11), .ref (ma 12), .ref (ma 13), .int (nI sc1), .int (nI oc1), .int (nI ic1), .int (bI (r_on (N 0) (l1, sc1, oc1, ic1, tr1, vr1, ou1, os1))), .ref (ma 14), .ref (ma 15), .int (nI (M 4)), .int (nI (M 5)), .int (nI (M 6)), .int (nI (M 7)), .int (nI (M 8)), .ref (ma 16), .ref (ma 17), .int (nI (M 9)), .ref (ma 18), .int (nI (M 10))], aI cI (ma 1) 7 rf, aI cI (ma 2) 96 T, aI cI (ma 3) 96 nw2, aI cI (ma 4) 100 X, aI cI (ma 5) 24 (F 27), aI cI (ma 6) 48 (F 17), aI cI (ma 7) 72 (F 18), aI cI (ma 8) 12 (F 19), aI cZ (ma 9) 12 B, aI cI (ma 10) 300 tr1, aI cI (ma 11) 6 ou1, aI cI (ma 12) 6 os1, aI cI (ma 13) 8 vr1, aI cI (ma 14) 12 (E 5), aI cZ (ma 15) 12 (E 6), aI cI (ma 16) 2400 (E 7), aJ cJ (ma 17) 2400 L, aI cZ (ma 18) 300 hg2] := hD
                          have hu2 := hwm2.1
                          refine lv_goto (tgt := 236) hx hb dX10_slice_180 (by decide) ?_
                          refine lv_aload_n hx hb dX10_slice_236 rfl (lv_at hl 3 rfl) ?_
                          refine lv_iload hx hb dX10_slice_237 (lv_at hl 6 rfl) ?_
                          refine Kv.callV (wr := []) (rest := []) (CX10_latestIf jl G cI cZ cJ ma N F rf T X B (fN [M 0, sc1, oc1, ic1, M 4, M 5, M 6, M 7, M 8, M 9, M 10]) (bI (r_on (N 0) (l1, sc1, oc1, ic1, tr1, vr1, ou1, os1))) (fF [nw2, tr1, ou1, os1, vr1, E 5, E 6, E 7, hg2]) L hLA hMR TR sc1 m hTR hsc3 hwL (by omega)) cx hP hD hS hl [0, 1, 2, 3, 4, 5, 6, 7, 8, 9, 10, 11, 12, 13, 14, 15, 16, 17, 18] [] (ci := 10) (q0 := 0) gX10_slice_X10_latestIf hdX10_latestIf rfl rfl rfl ⟨Nat.le_of_ble_eq_true rfl, Nat.le_of_ble_eq_true rfl⟩ rfl rfl (by decide) (by decide) (by decide) dX10_slice_239 rfl rfl (Nat.le_of_ble_eq_true rfl) ⟨Nat.le_of_ble_eq_true rfl, Nat.le_of_ble_eq_true rfl⟩ (fun u H locs hwm3 hP hD hS => ?_)
                          obtain ⟨hg3, rfl⟩ : ∃ z, z = u := ⟨_, rfl⟩
                          try dsimp only at hwm3
                          have hP : va_P G vwCl [oB (ma 0) 10 [.ref (ma 1), .int (nI (N 0)), .int (nI (N 3)), .int (nI (N 1)), .int (nI (M 0)), .ref (ma 2), .ref (ma 3), .ref (ma 4), .ref (ma 5), .ref (ma 6), .ref (ma 7), .ref (ma 8), .ref (ma 9), .ref (ma 10), .ref (ma 11), .ref (ma 12), .ref (ma 13), .int (nI sc1), .int (nI oc1), .int (nI ic1), .int (bI (r_on (N 0) (l1, sc1, oc1, ic1, tr1, vr1, ou1, os1))), .ref (ma 14), .ref (ma 15), .int (nI (M 4)), .int (nI (M 5)), .int (nI (M 6)), .int (nI (M 7)), .int (nI (M 8)), .ref (ma 16), .ref (ma 17), .int (nI (M 9)), .ref (ma 18), .int (nI (M 10))], aI cI (ma 1) 7 rf, aI cI (ma 2) 96 T, aI cI (ma 3) 96 nw2, aI cI (ma 4) 100 X, aI cI (ma 5) 24 (F 27), aI cI (ma 6) 48 (F 17), aI cI (ma 7) 72 (F 18), aI cI (ma 8) 12 (F 19), aI cZ (ma 9) 12 B, aI cI (ma 10) 300 tr1, aI cI (ma 11) 6 ou1, aI cI (ma 12) 6 os1, aI cI (ma 13) 8 vr1, aI cI (ma 14) 12 (E 5), aI cZ (ma 15) 12 (E 6), aI cI (ma 16) 2400 (E 7), aJ cJ (ma 17) 2400 L, aI cZ (ma 18) 300 hg3] H := hP
                          have hD : va_D jA [oB (ma 0) 10 [.ref (ma 1), .int (nI (N 0)), .int (nI (N 3)), .int (nI (N 1)), .int (nI (M 0)), .ref (ma 2), .ref (ma 3), .ref (ma 4), .ref (ma 5), .ref (ma 6), .ref (ma 7), .ref (ma 8), .ref (ma 9), .ref (ma 10), .ref (ma 11), .ref (ma 12), .ref (ma 13), .int (nI sc1), .int (nI oc1), .int (nI ic1), .int (bI (r_on (N 0) (l1, sc1, oc1, ic1, tr1, vr1, ou1, os1))), .ref (ma 14), .ref (ma 15), .int (nI (M 4)), .int (nI (M 5)), .int (nI (M 6)), .int (nI (M 7)), .int (nI (M 8)), .ref (ma 16), .ref (ma 17), .int (nI (M 9)), .ref (ma 18), .int (nI (M 10))], aI cI (ma 1) 7 rf, aI cI (ma 2) 96 T, aI cI (ma 3) 96 nw2, aI cI (ma 4) 100 X, aI cI (ma 5) 24 (F 27), aI cI (ma 6) 48 (F 17), aI cI (ma 7) 72 (F 18), aI cI (ma 8) 12 (F 19), aI cZ (ma 9) 12 B, aI cI (ma 10) 300 tr1, aI cI (ma 11) 6 ou1, aI cI (ma 12) 6 os1, aI cI (ma 13) 8 vr1, aI cI (ma 14) 12 (E 5), aI cZ (ma 15) 12 (E 6), aI cI (ma 16) 2400 (E 7), aJ cJ (ma 17) 2400 L, aI cZ (ma 18) 300 hg3] := hD
                          have hu3 := hwm3.1
                          have hU : UU F TR hg3 m = (((UU F TR hg m ||| (VF F TR m).1 (tn (F 6 l))) ||| (VF F TR m).1 (tn (F 7 l))) ||| (VF F TR m).2) := by rw [show UU F TR hg3 m = UU F TR hg2 m ||| (VF F TR m).2 from hu3, show UU F TR hg2 m = UU F TR hg1 m ||| _ from hu2, show UU F TR hg1 m = UU F TR hg m ||| _ from hu1]
                          refine lv_iinc (v := nI m - nI 1) (lv' := [(4, .int (nI m - nI 1)), (3, .int (nI (se ||| (1 * 2 ^ l)))), (6, .int (nI 3)), (5, .int (nI l)), (0, .ref (ma 0)), (1, .int (nI t)), (2, .int (nI j))]) hx hb dX10_slice_242 hl (k := 6) rfl (m_dec m) (by decide) rfl (fun ls hl => ?_)
                          refine lv_goto (tgt := 90) hx hb dX10_slice_245 (by decide) ?_
                          exact ih90 m (nI m - nI 1) (se ||| (1 * 2 ^ l)) hg3 (by omega) (by omega) (rfl) (hse2) (by rw [hU, Nat.one_mul]; exact or_ac1 hinv) _ _ _ hP hD hS (lv_sub hl [4, 5, 6, 1, 0] rfl)
                    · skip
                      simp at hinv
                      refine lv_iload hx hb dX10_slice_135 (lv_at hl 1 rfl) ?_
                      refine k_if_le (tgt := 183) hx hb dX10_slice_137 (by decide) (by decide) (fun c_30 => ?_) (fun c_30 => ?_)
                      · skip
                        exact absurd c_30 (by decide)
                      · skip
                        refine lv_iload hx hb dX10_slice_140 (lv_at hl 1 rfl) ?_
                        refine lv_iconst (v := nI 4) hx hb dX10_slice_142 (by decide) ?_
                        refine k_cmp_ge (tgt := 183) hx hb dX10_slice_143 (by decide) (by decide) (by decide) (fun c_31 => ?_) (fun c_31 => ?_)
                        · skip
                          refine lv_iload hx hb dX10_slice_183 (lv_at hl 1 rfl) ?_
                          refine lv_iconst (v := nI 5) hx hb dX10_slice_185 (by decide) ?_
                          refine k_cmp_eq (tgt := 196) hx hb dX10_slice_186 (by decide) (by decide) (by decide) (fun c_32 => ?_) (fun c_32 => ?_)
                          · skip
                            exact absurd c_32 (by decide)
                          · skip
                            refine lv_iload hx hb dX10_slice_189 (lv_at hl 1 rfl) ?_
                            refine lv_bipush (v := nI 7) hx hb dX10_slice_191 (by decide) ?_
                            refine k_cmp_ne (tgt := 236) hx hb dX10_slice_193 (by decide) (by decide) (by decide) (fun c_33 => ?_) (fun c_33 => ?_)
                            · skip
                              refine lv_aload_n hx hb dX10_slice_236 rfl (lv_at hl 3 rfl) ?_
                              refine lv_iload hx hb dX10_slice_237 (lv_at hl 6 rfl) ?_
                              refine Kv.callV (wr := []) (rest := []) (CX10_latestIf jl G cI cZ cJ ma N F rf T X B (fN [M 0, sc1, oc1, ic1, M 4, M 5, M 6, M 7, M 8, M 9, M 10]) (bI (r_on (N 0) (l1, sc1, oc1, ic1, tr1, vr1, ou1, os1))) (fF [nw2, tr1, ou1, os1, vr1, E 5, E 6, E 7, hg]) L hLA hMR TR sc1 m hTR hsc3 hwL (by omega)) cx hP hD hS hl [0, 1, 2, 3, 4, 5, 6, 7, 8, 9, 10, 11, 12, 13, 14, 15, 16, 17, 18] [] (ci := 10) (q0 := 0) gX10_slice_X10_latestIf hdX10_latestIf rfl rfl rfl ⟨Nat.le_of_ble_eq_true rfl, Nat.le_of_ble_eq_true rfl⟩ rfl rfl (by decide) (by decide) (by decide) dX10_slice_239 rfl rfl (Nat.le_of_ble_eq_true rfl) ⟨Nat.le_of_ble_eq_true rfl, Nat.le_of_ble_eq_true rfl⟩ (fun u H locs hwm3 hP hD hS => ?_)
                              obtain ⟨hg3, rfl⟩ : ∃ z, z = u := ⟨_, rfl⟩
                              try dsimp only at hwm3
                              have hP : va_P G vwCl [oB (ma 0) 10 [.ref (ma 1), .int (nI (N 0)), .int (nI (N 3)), .int (nI (N 1)), .int (nI (M 0)), .ref (ma 2), .ref (ma 3), .ref (ma 4), .ref (ma 5), .ref (ma 6), .ref (ma 7), .ref (ma 8), .ref (ma 9), .ref (ma 10), .ref (ma 11), .ref (ma 12), .ref (ma 13), .int (nI sc1), .int (nI oc1), .int (nI ic1), .int (bI (r_on (N 0) (l1, sc1, oc1, ic1, tr1, vr1, ou1, os1))), .ref (ma 14), .ref (ma 15), .int (nI (M 4)), .int (nI (M 5)), .int (nI (M 6)), .int (nI (M 7)), .int (nI (M 8)), .ref (ma 16), .ref (ma 17), .int (nI (M 9)), .ref (ma 18), .int (nI (M 10))], aI cI (ma 1) 7 rf, aI cI (ma 2) 96 T, aI cI (ma 3) 96 nw2, aI cI (ma 4) 100 X, aI cI (ma 5) 24 (F 27), aI cI (ma 6) 48 (F 17), aI cI (ma 7) 72 (F 18), aI cI (ma 8) 12 (F 19), aI cZ (ma 9) 12 B, aI cI (ma 10) 300 tr1, aI cI (ma 11) 6 ou1, aI cI (ma 12) 6 os1, aI cI (ma 13) 8 vr1, aI cI (ma 14) 12 (E 5), aI cZ (ma 15) 12 (E 6), aI cI (ma 16) 2400 (E 7), aJ cJ (ma 17) 2400 L, aI cZ (ma 18) 300 hg3] H := hP
                              have hD : va_D jA [oB (ma 0) 10 [.ref (ma 1), .int (nI (N 0)), .int (nI (N 3)), .int (nI (N 1)), .int (nI (M 0)), .ref (ma 2), .ref (ma 3), .ref (ma 4), .ref (ma 5), .ref (ma 6), .ref (ma 7), .ref (ma 8), .ref (ma 9), .ref (ma 10), .ref (ma 11), .ref (ma 12), .ref (ma 13), .int (nI sc1), .int (nI oc1), .int (nI ic1), .int (bI (r_on (N 0) (l1, sc1, oc1, ic1, tr1, vr1, ou1, os1))), .ref (ma 14), .ref (ma 15), .int (nI (M 4)), .int (nI (M 5)), .int (nI (M 6)), .int (nI (M 7)), .int (nI (M 8)), .ref (ma 16), .ref (ma 17), .int (nI (M 9)), .ref (ma 18), .int (nI (M 10))], aI cI (ma 1) 7 rf, aI cI (ma 2) 96 T, aI cI (ma 3) 96 nw2, aI cI (ma 4) 100 X, aI cI (ma 5) 24 (F 27), aI cI (ma 6) 48 (F 17), aI cI (ma 7) 72 (F 18), aI cI (ma 8) 12 (F 19), aI cZ (ma 9) 12 B, aI cI (ma 10) 300 tr1, aI cI (ma 11) 6 ou1, aI cI (ma 12) 6 os1, aI cI (ma 13) 8 vr1, aI cI (ma 14) 12 (E 5), aI cZ (ma 15) 12 (E 6), aI cI (ma 16) 2400 (E 7), aJ cJ (ma 17) 2400 L, aI cZ (ma 18) 300 hg3] := hD
                              have hu3 := hwm3.1
                              have hU : UU F TR hg3 m = (UU F TR hg m ||| (VF F TR m).2) := by exact hu3
                              refine lv_iinc (v := nI m - nI 1) (lv' := [(4, .int (nI m - nI 1)), (3, .int (nI (se ||| (1 * 2 ^ l)))), (6, .int (nI 4)), (5, .int (nI l)), (0, .ref (ma 0)), (1, .int (nI t)), (2, .int (nI j))]) hx hb dX10_slice_242 hl (k := 6) rfl (m_dec m) (by decide) rfl (fun ls hl => ?_)
                              refine lv_goto (tgt := 90) hx hb dX10_slice_245 (by decide) ?_
                              exact ih90 m (nI m - nI 1) (se ||| (1 * 2 ^ l)) hg3 (by omega) (by omega) (rfl) (hse2) (by rw [hU, Nat.one_mul]; exact or_ac3 (by rw [Nat.or_zero]; exact hinv)) _ _ _ hP hD hS (lv_sub hl [4, 5, 6, 1, 0] rfl)
                            · skip
                              exact absurd c_33 (by decide)
                        · skip
                          exact absurd c_31 (by decide)
                    · skip
                      simp at hinv
                      have hx8 := hx8 (by decide)
                      obtain ⟨hy8, -⟩ := h5 rfl
                      refine lv_iload hx hb dX10_slice_135 (lv_at hl 1 rfl) ?_
                      refine k_if_le (tgt := 183) hx hb dX10_slice_137 (by decide) (by decide) (fun c_35 => ?_) (fun c_35 => ?_)
                      · skip
                        exact absurd c_35 (by decide)
                      · skip
                        refine lv_iload hx hb dX10_slice_140 (lv_at hl 1 rfl) ?_
                        refine lv_iconst (v := nI 4) hx hb dX10_slice_142 (by decide) ?_
                        refine k_cmp_ge (tgt := 183) hx hb dX10_slice_143 (by decide) (by decide) (by decide) (fun c_36 => ?_) (fun c_36 => ?_)
                        · skip
                          refine lv_iload hx hb dX10_slice_183 (lv_at hl 1 rfl) ?_
                          refine lv_iconst (v := nI 5) hx hb dX10_slice_185 (by decide) ?_
                          refine k_cmp_eq (tgt := 196) hx hb dX10_slice_186 (by decide) (by decide) (by decide) (fun c_37 => ?_) (fun c_37 => ?_)
                          · skip
                            refine lv_aload_n hx hb dX10_slice_196 rfl (lv_at hl 3 rfl) ?_
                            refine lv_iload hx hb dX10_slice_197 (lv_at hl 6 rfl) ?_
                            refine lv_aload_n hx hb dX10_slice_199 rfl (lv_at hl 3 rfl) ?_
                            refine va_get (C := RX10) (T := TX10) (N := 33) (ci := 10) hx hb hts iX10_slice_10 hown hK.1 hP 0 rfl rfl 6 (Nat.le_of_ble_eq_true rfl) (hts _ mX10_slice_16) (fun _ h9 => h9) rfl dX10_slice_200 ?_
                            refine lv_iconst (v := nI 4) hx hb dX10_slice_203 (by decide) ?_
                            refine lv_iload hx hb dX10_slice_204 (lv_at hl 2 rfl) ?_
                            refine k_imul hx hb dX10_slice_206 ?_
                            refine lv_iconst (v := nI 1) hx hb dX10_slice_207 (by decide) ?_
                            refine k_iadd hx hb dX10_slice_208 ?_
                            refine k_iald hx hb hK.1 hP 3 0 rfl rfl (by omega) (by decide) dX10_slice_209 ?_
                            refine k_topN (hxe.trans (hx8.eq (by decide))) ?_
                            refine Kv.callV (wr := []) (rest := []) (CX10_wrote jl G cI cZ cJ ma N F rf T X B (fN [M 0, sc1, oc1, ic1, M 4, M 5, M 6, M 7, M 8, M 9, M 10]) (bI (r_on (N 0) (l1, sc1, oc1, ic1, tr1, vr1, ou1, os1))) (fF [nw2, tr1, ou1, os1, vr1, E 5, E 6, E 7, hg]) L hLA hMR TR sc1 m hTR hsc3 hwL (by omega) (tn (F 5 l)) (hx8.lt (by decide))) cx hP hD hS hl [0, 1, 2, 3, 4, 5, 6, 7, 8, 9, 10, 11, 12, 13, 14, 15, 16, 17, 18] [] (ci := 10) (q0 := 0) gX10_slice_X10_wrote hdX10_wrote rfl rfl rfl ⟨Nat.le_of_ble_eq_true rfl, Nat.le_of_ble_eq_true rfl⟩ rfl rfl (by decide) (by decide) (by decide) dX10_slice_210 rfl rfl (Nat.le_of_ble_eq_true rfl) ⟨Nat.le_of_ble_eq_true rfl, Nat.le_of_ble_eq_true rfl⟩ (fun u H locs hwm1 hP hD hS => ?_)
                            obtain ⟨hg1, rfl⟩ : ∃ z, z = u := ⟨_, rfl⟩
                            try dsimp only at hwm1
                            have hP : va_P G vwCl [oB (ma 0) 10 [.ref (ma 1), .int (nI (N 0)), .int (nI (N 3)), .int (nI (N 1)), .int (nI (M 0)), .ref (ma 2), .ref (ma 3), .ref (ma 4), .ref (ma 5), .ref (ma 6), .ref (ma 7), .ref (ma 8), .ref (ma 9), .ref (ma 10), .ref (ma 11), .ref (ma 12), .ref (ma 13), .int (nI sc1), .int (nI oc1), .int (nI ic1), .int (bI (r_on (N 0) (l1, sc1, oc1, ic1, tr1, vr1, ou1, os1))), .ref (ma 14), .ref (ma 15), .int (nI (M 4)), .int (nI (M 5)), .int (nI (M 6)), .int (nI (M 7)), .int (nI (M 8)), .ref (ma 16), .ref (ma 17), .int (nI (M 9)), .ref (ma 18), .int (nI (M 10))], aI cI (ma 1) 7 rf, aI cI (ma 2) 96 T, aI cI (ma 3) 96 nw2, aI cI (ma 4) 100 X, aI cI (ma 5) 24 (F 27), aI cI (ma 6) 48 (F 17), aI cI (ma 7) 72 (F 18), aI cI (ma 8) 12 (F 19), aI cZ (ma 9) 12 B, aI cI (ma 10) 300 tr1, aI cI (ma 11) 6 ou1, aI cI (ma 12) 6 os1, aI cI (ma 13) 8 vr1, aI cI (ma 14) 12 (E 5), aI cZ (ma 15) 12 (E 6), aI cI (ma 16) 2400 (E 7), aJ cJ (ma 17) 2400 L, aI cZ (ma 18) 300 hg1] H := hP
                            have hD : va_D jA [oB (ma 0) 10 [.ref (ma 1), .int (nI (N 0)), .int (nI (N 3)), .int (nI (N 1)), .int (nI (M 0)), .ref (ma 2), .ref (ma 3), .ref (ma 4), .ref (ma 5), .ref (ma 6), .ref (ma 7), .ref (ma 8), .ref (ma 9), .ref (ma 10), .ref (ma 11), .ref (ma 12), .ref (ma 13), .int (nI sc1), .int (nI oc1), .int (nI ic1), .int (bI (r_on (N 0) (l1, sc1, oc1, ic1, tr1, vr1, ou1, os1))), .ref (ma 14), .ref (ma 15), .int (nI (M 4)), .int (nI (M 5)), .int (nI (M 6)), .int (nI (M 7)), .int (nI (M 8)), .ref (ma 16), .ref (ma 17), .int (nI (M 9)), .ref (ma 18), .int (nI (M 10))], aI cI (ma 1) 7 rf, aI cI (ma 2) 96 T, aI cI (ma 3) 96 nw2, aI cI (ma 4) 100 X, aI cI (ma 5) 24 (F 27), aI cI (ma 6) 48 (F 17), aI cI (ma 7) 72 (F 18), aI cI (ma 8) 12 (F 19), aI cZ (ma 9) 12 B, aI cI (ma 10) 300 tr1, aI cI (ma 11) 6 ou1, aI cI (ma 12) 6 os1, aI cI (ma 13) 8 vr1, aI cI (ma 14) 12 (E 5), aI cZ (ma 15) 12 (E 6), aI cI (ma 16) 2400 (E 7), aJ cJ (ma 17) 2400 L, aI cZ (ma 18) 300 hg1] := hD
                            have hu1 := hwm1.1
                            refine lv_iload hx hb dX10_slice_213 (lv_at hl 1 rfl) ?_
                            refine lv_iconst (v := nI 5) hx hb dX10_slice_215 (by decide) ?_
                            refine k_cmp_ne (tgt := 236) hx hb dX10_slice_216 (by decide) (by decide) (by decide) (fun c_39 => ?_) (fun c_39 => ?_)
                            · skip
                              exact absurd c_39 (by decide)
                            · skip
                              refine lv_aload_n hx hb dX10_slice_219 rfl (lv_at hl 3 rfl) ?_
                              refine lv_iload hx hb dX10_slice_220 (lv_at hl 6 rfl) ?_
                              refine lv_aload_n hx hb dX10_slice_222 rfl (lv_at hl 3 rfl) ?_
                              refine va_get (C := RX10) (T := TX10) (N := 33) (ci := 10) hx hb hts iX10_slice_10 hown hK.1 hP 0 rfl rfl 6 (Nat.le_of_ble_eq_true rfl) (hts _ mX10_slice_16) (fun _ h9 => h9) rfl dX10_slice_223 ?_
                              refine lv_iconst (v := nI 4) hx hb dX10_slice_226 (by decide) ?_
                              refine lv_iload hx hb dX10_slice_227 (lv_at hl 2 rfl) ?_
                              refine k_imul hx hb dX10_slice_229 ?_
                              refine lv_iconst (v := nI 2) hx hb dX10_slice_230 (by decide) ?_
                              refine k_iadd hx hb dX10_slice_231 ?_
                              refine k_iald hx hb hK.1 hP 3 0 rfl rfl (by omega) (by decide) dX10_slice_232 ?_
                              refine k_topN (hye.trans (hy8.eq (by decide))) ?_
                              refine Kv.callV (wr := []) (rest := []) (CX10_wrote jl G cI cZ cJ ma N F rf T X B (fN [M 0, sc1, oc1, ic1, M 4, M 5, M 6, M 7, M 8, M 9, M 10]) (bI (r_on (N 0) (l1, sc1, oc1, ic1, tr1, vr1, ou1, os1))) (fF [nw2, tr1, ou1, os1, vr1, E 5, E 6, E 7, hg1]) L hLA hMR TR sc1 m hTR hsc3 hwL (by omega) (tn (F 6 l)) (hy8.lt (by decide))) cx hP hD hS hl [0, 1, 2, 3, 4, 5, 6, 7, 8, 9, 10, 11, 12, 13, 14, 15, 16, 17, 18] [] (ci := 10) (q0 := 0) gX10_slice_X10_wrote hdX10_wrote rfl rfl rfl ⟨Nat.le_of_ble_eq_true rfl, Nat.le_of_ble_eq_true rfl⟩ rfl rfl (by decide) (by decide) (by decide) dX10_slice_233 rfl rfl (Nat.le_of_ble_eq_true rfl) ⟨Nat.le_of_ble_eq_true rfl, Nat.le_of_ble_eq_true rfl⟩ (fun u H locs hwm2 hP hD hS => ?_)
                              obtain ⟨hg2, rfl⟩ : ∃ z, z = u := ⟨_, rfl⟩
                              try dsimp only at hwm2
                              have hP : va_P G vwCl [oB (ma 0) 10 [.ref (ma 1), .int (nI (N 0)), .int (nI (N 3)), .int (nI (N 1)), .int (nI (M 0)), .ref (ma 2), .ref (ma 3), .ref (ma 4), .ref (ma 5), .ref (ma 6), .ref (ma 7), .ref (ma 8), .ref (ma 9), .ref (ma 10), .ref (ma 11), .ref (ma 12), .ref (ma 13), .int (nI sc1), .int (nI oc1), .int (nI ic1), .int (bI (r_on (N 0) (l1, sc1, oc1, ic1, tr1, vr1, ou1, os1))), .ref (ma 14), .ref (ma 15), .int (nI (M 4)), .int (nI (M 5)), .int (nI (M 6)), .int (nI (M 7)), .int (nI (M 8)), .ref (ma 16), .ref (ma 17), .int (nI (M 9)), .ref (ma 18), .int (nI (M 10))], aI cI (ma 1) 7 rf, aI cI (ma 2) 96 T, aI cI (ma 3) 96 nw2, aI cI (ma 4) 100 X, aI cI (ma 5) 24 (F 27), aI cI (ma 6) 48 (F 17), aI cI (ma 7) 72 (F 18), aI cI (ma 8) 12 (F 19), aI cZ (ma 9) 12 B, aI cI (ma 10) 300 tr1, aI cI (ma 11) 6 ou1, aI cI (ma 12) 6 os1, aI cI (ma 13) 8 vr1, aI cI (ma 14) 12 (E 5), aI cZ (ma 15) 12 (E 6), aI cI (ma 16) 2400 (E 7), aJ cJ (ma 17) 2400 L, aI cZ (ma 18) 300 hg2] H := hP
                              have hD : va_D jA [oB (ma 0) 10 [.ref (ma 1), .int (nI (N 0)), .int (nI (N 3)), .int (nI (N 1)), .int (nI (M 0)), .ref (ma 2), .ref (ma 3), .ref (ma 4), .ref (ma 5), .ref (ma 6), .ref (ma 7), .ref (ma 8), .ref (ma 9), .ref (ma 10), .ref (ma 11), .ref (ma 12), .ref (ma 13), .int (nI sc1), .int (nI oc1), .int (nI ic1), .int (bI (r_on (N 0) (l1, sc1, oc1, ic1, tr1, vr1, ou1, os1))), .ref (ma 14), .ref (ma 15), .int (nI (M 4)), .int (nI (M 5)), .int (nI (M 6)), .int (nI (M 7)), .int (nI (M 8)), .ref (ma 16), .ref (ma 17), .int (nI (M 9)), .ref (ma 18), .int (nI (M 10))], aI cI (ma 1) 7 rf, aI cI (ma 2) 96 T, aI cI (ma 3) 96 nw2, aI cI (ma 4) 100 X, aI cI (ma 5) 24 (F 27), aI cI (ma 6) 48 (F 17), aI cI (ma 7) 72 (F 18), aI cI (ma 8) 12 (F 19), aI cZ (ma 9) 12 B, aI cI (ma 10) 300 tr1, aI cI (ma 11) 6 ou1, aI cI (ma 12) 6 os1, aI cI (ma 13) 8 vr1, aI cI (ma 14) 12 (E 5), aI cZ (ma 15) 12 (E 6), aI cI (ma 16) 2400 (E 7), aJ cJ (ma 17) 2400 L, aI cZ (ma 18) 300 hg2] := hD
                              have hu2 := hwm2.1
                              refine lv_aload_n hx hb dX10_slice_236 rfl (lv_at hl 3 rfl) ?_
                              refine lv_iload hx hb dX10_slice_237 (lv_at hl 6 rfl) ?_
                              refine Kv.callV (wr := []) (rest := []) (CX10_latestIf jl G cI cZ cJ ma N F rf T X B (fN [M 0, sc1, oc1, ic1, M 4, M 5, M 6, M 7, M 8, M 9, M 10]) (bI (r_on (N 0) (l1, sc1, oc1, ic1, tr1, vr1, ou1, os1))) (fF [nw2, tr1, ou1, os1, vr1, E 5, E 6, E 7, hg2]) L hLA hMR TR sc1 m hTR hsc3 hwL (by omega)) cx hP hD hS hl [0, 1, 2, 3, 4, 5, 6, 7, 8, 9, 10, 11, 12, 13, 14, 15, 16, 17, 18] [] (ci := 10) (q0 := 0) gX10_slice_X10_latestIf hdX10_latestIf rfl rfl rfl ⟨Nat.le_of_ble_eq_true rfl, Nat.le_of_ble_eq_true rfl⟩ rfl rfl (by decide) (by decide) (by decide) dX10_slice_239 rfl rfl (Nat.le_of_ble_eq_true rfl) ⟨Nat.le_of_ble_eq_true rfl, Nat.le_of_ble_eq_true rfl⟩ (fun u H locs hwm3 hP hD hS => ?_)
                              obtain ⟨hg3, rfl⟩ : ∃ z, z = u := ⟨_, rfl⟩
                              try dsimp only at hwm3
                              have hP : va_P G vwCl [oB (ma 0) 10 [.ref (ma 1), .int (nI (N 0)), .int (nI (N 3)), .int (nI (N 1)), .int (nI (M 0)), .ref (ma 2), .ref (ma 3), .ref (ma 4), .ref (ma 5), .ref (ma 6), .ref (ma 7), .ref (ma 8), .ref (ma 9), .ref (ma 10), .ref (ma 11), .ref (ma 12), .ref (ma 13), .int (nI sc1), .int (nI oc1), .int (nI ic1), .int (bI (r_on (N 0) (l1, sc1, oc1, ic1, tr1, vr1, ou1, os1))), .ref (ma 14), .ref (ma 15), .int (nI (M 4)), .int (nI (M 5)), .int (nI (M 6)), .int (nI (M 7)), .int (nI (M 8)), .ref (ma 16), .ref (ma 17), .int (nI (M 9)), .ref (ma 18), .int (nI (M 10))], aI cI (ma 1) 7 rf, aI cI (ma 2) 96 T, aI cI (ma 3) 96 nw2, aI cI (ma 4) 100 X, aI cI (ma 5) 24 (F 27), aI cI (ma 6) 48 (F 17), aI cI (ma 7) 72 (F 18), aI cI (ma 8) 12 (F 19), aI cZ (ma 9) 12 B, aI cI (ma 10) 300 tr1, aI cI (ma 11) 6 ou1, aI cI (ma 12) 6 os1, aI cI (ma 13) 8 vr1, aI cI (ma 14) 12 (E 5), aI cZ (ma 15) 12 (E 6), aI cI (ma 16) 2400 (E 7), aJ cJ (ma 17) 2400 L, aI cZ (ma 18) 300 hg3] H := hP
                              have hD : va_D jA [oB (ma 0) 10 [.ref (ma 1), .int (nI (N 0)), .int (nI (N 3)), .int (nI (N 1)), .int (nI (M 0)), .ref (ma 2), .ref (ma 3), .ref (ma 4), .ref (ma 5), .ref (ma 6), .ref (ma 7), .ref (ma 8), .ref (ma 9), .ref (ma 10), .ref (ma 11), .ref (ma 12), .ref (ma 13), .int (nI sc1), .int (nI oc1), .int (nI ic1), .int (bI (r_on (N 0) (l1, sc1, oc1, ic1, tr1, vr1, ou1, os1))), .ref (ma 14), .ref (ma 15), .int (nI (M 4)), .int (nI (M 5)), .int (nI (M 6)), .int (nI (M 7)), .int (nI (M 8)), .ref (ma 16), .ref (ma 17), .int (nI (M 9)), .ref (ma 18), .int (nI (M 10))], aI cI (ma 1) 7 rf, aI cI (ma 2) 96 T, aI cI (ma 3) 96 nw2, aI cI (ma 4) 100 X, aI cI (ma 5) 24 (F 27), aI cI (ma 6) 48 (F 17), aI cI (ma 7) 72 (F 18), aI cI (ma 8) 12 (F 19), aI cZ (ma 9) 12 B, aI cI (ma 10) 300 tr1, aI cI (ma 11) 6 ou1, aI cI (ma 12) 6 os1, aI cI (ma 13) 8 vr1, aI cI (ma 14) 12 (E 5), aI cZ (ma 15) 12 (E 6), aI cI (ma 16) 2400 (E 7), aJ cJ (ma 17) 2400 L, aI cZ (ma 18) 300 hg3] := hD
                              have hu3 := hwm3.1
                              have hU : UU F TR hg3 m = (((UU F TR hg m ||| (VF F TR m).1 (tn (F 5 l))) ||| (VF F TR m).1 (tn (F 6 l))) ||| (VF F TR m).2) := by rw [show UU F TR hg3 m = UU F TR hg2 m ||| (VF F TR m).2 from hu3, show UU F TR hg2 m = UU F TR hg1 m ||| _ from hu2, show UU F TR hg1 m = UU F TR hg m ||| _ from hu1]
                              refine lv_iinc (v := nI m - nI 1) (lv' := [(4, .int (nI m - nI 1)), (3, .int (nI (se ||| (1 * 2 ^ l)))), (6, .int (nI 5)), (5, .int (nI l)), (0, .ref (ma 0)), (1, .int (nI t)), (2, .int (nI j))]) hx hb dX10_slice_242 hl (k := 6) rfl (m_dec m) (by decide) rfl (fun ls hl => ?_)
                              refine lv_goto (tgt := 90) hx hb dX10_slice_245 (by decide) ?_
                              exact ih90 m (nI m - nI 1) (se ||| (1 * 2 ^ l)) hg3 (by omega) (by omega) (rfl) (hse2) (by rw [hU, Nat.one_mul]; exact or_ac1 hinv) _ _ _ hP hD hS (lv_sub hl [4, 5, 6, 1, 0] rfl)
                          · skip
                            exact absurd c_37 (by decide)
                        · skip
                          exact absurd c_36 (by decide)
                    · skip
                      simp at hinv
                      refine lv_iload hx hb dX10_slice_135 (lv_at hl 1 rfl) ?_
                      refine k_if_le (tgt := 183) hx hb dX10_slice_137 (by decide) (by decide) (fun c_42 => ?_) (fun c_42 => ?_)
                      · skip
                        exact absurd c_42 (by decide)
                      · skip
                        refine lv_iload hx hb dX10_slice_140 (lv_at hl 1 rfl) ?_
                        refine lv_iconst (v := nI 4) hx hb dX10_slice_142 (by decide) ?_
                        refine k_cmp_ge (tgt := 183) hx hb dX10_slice_143 (by decide) (by decide) (by decide) (fun c_43 => ?_) (fun c_43 => ?_)
                        · skip
                          refine lv_iload hx hb dX10_slice_183 (lv_at hl 1 rfl) ?_
                          refine lv_iconst (v := nI 5) hx hb dX10_slice_185 (by decide) ?_
                          refine k_cmp_eq (tgt := 196) hx hb dX10_slice_186 (by decide) (by decide) (by decide) (fun c_44 => ?_) (fun c_44 => ?_)
                          · skip
                            exact absurd c_44 (by decide)
                          · skip
                            refine lv_iload hx hb dX10_slice_189 (lv_at hl 1 rfl) ?_
                            refine lv_bipush (v := nI 7) hx hb dX10_slice_191 (by decide) ?_
                            refine k_cmp_ne (tgt := 236) hx hb dX10_slice_193 (by decide) (by decide) (by decide) (fun c_45 => ?_) (fun c_45 => ?_)
                            · skip
                              refine lv_aload_n hx hb dX10_slice_236 rfl (lv_at hl 3 rfl) ?_
                              refine lv_iload hx hb dX10_slice_237 (lv_at hl 6 rfl) ?_
                              refine Kv.callV (wr := []) (rest := []) (CX10_latestIf jl G cI cZ cJ ma N F rf T X B (fN [M 0, sc1, oc1, ic1, M 4, M 5, M 6, M 7, M 8, M 9, M 10]) (bI (r_on (N 0) (l1, sc1, oc1, ic1, tr1, vr1, ou1, os1))) (fF [nw2, tr1, ou1, os1, vr1, E 5, E 6, E 7, hg]) L hLA hMR TR sc1 m hTR hsc3 hwL (by omega)) cx hP hD hS hl [0, 1, 2, 3, 4, 5, 6, 7, 8, 9, 10, 11, 12, 13, 14, 15, 16, 17, 18] [] (ci := 10) (q0 := 0) gX10_slice_X10_latestIf hdX10_latestIf rfl rfl rfl ⟨Nat.le_of_ble_eq_true rfl, Nat.le_of_ble_eq_true rfl⟩ rfl rfl (by decide) (by decide) (by decide) dX10_slice_239 rfl rfl (Nat.le_of_ble_eq_true rfl) ⟨Nat.le_of_ble_eq_true rfl, Nat.le_of_ble_eq_true rfl⟩ (fun u H locs hwm3 hP hD hS => ?_)
                              obtain ⟨hg3, rfl⟩ : ∃ z, z = u := ⟨_, rfl⟩
                              try dsimp only at hwm3
                              have hP : va_P G vwCl [oB (ma 0) 10 [.ref (ma 1), .int (nI (N 0)), .int (nI (N 3)), .int (nI (N 1)), .int (nI (M 0)), .ref (ma 2), .ref (ma 3), .ref (ma 4), .ref (ma 5), .ref (ma 6), .ref (ma 7), .ref (ma 8), .ref (ma 9), .ref (ma 10), .ref (ma 11), .ref (ma 12), .ref (ma 13), .int (nI sc1), .int (nI oc1), .int (nI ic1), .int (bI (r_on (N 0) (l1, sc1, oc1, ic1, tr1, vr1, ou1, os1))), .ref (ma 14), .ref (ma 15), .int (nI (M 4)), .int (nI (M 5)), .int (nI (M 6)), .int (nI (M 7)), .int (nI (M 8)), .ref (ma 16), .ref (ma 17), .int (nI (M 9)), .ref (ma 18), .int (nI (M 10))], aI cI (ma 1) 7 rf, aI cI (ma 2) 96 T, aI cI (ma 3) 96 nw2, aI cI (ma 4) 100 X, aI cI (ma 5) 24 (F 27), aI cI (ma 6) 48 (F 17), aI cI (ma 7) 72 (F 18), aI cI (ma 8) 12 (F 19), aI cZ (ma 9) 12 B, aI cI (ma 10) 300 tr1, aI cI (ma 11) 6 ou1, aI cI (ma 12) 6 os1, aI cI (ma 13) 8 vr1, aI cI (ma 14) 12 (E 5), aI cZ (ma 15) 12 (E 6), aI cI (ma 16) 2400 (E 7), aJ cJ (ma 17) 2400 L, aI cZ (ma 18) 300 hg3] H := hP
                              have hD : va_D jA [oB (ma 0) 10 [.ref (ma 1), .int (nI (N 0)), .int (nI (N 3)), .int (nI (N 1)), .int (nI (M 0)), .ref (ma 2), .ref (ma 3), .ref (ma 4), .ref (ma 5), .ref (ma 6), .ref (ma 7), .ref (ma 8), .ref (ma 9), .ref (ma 10), .ref (ma 11), .ref (ma 12), .ref (ma 13), .int (nI sc1), .int (nI oc1), .int (nI ic1), .int (bI (r_on (N 0) (l1, sc1, oc1, ic1, tr1, vr1, ou1, os1))), .ref (ma 14), .ref (ma 15), .int (nI (M 4)), .int (nI (M 5)), .int (nI (M 6)), .int (nI (M 7)), .int (nI (M 8)), .ref (ma 16), .ref (ma 17), .int (nI (M 9)), .ref (ma 18), .int (nI (M 10))], aI cI (ma 1) 7 rf, aI cI (ma 2) 96 T, aI cI (ma 3) 96 nw2, aI cI (ma 4) 100 X, aI cI (ma 5) 24 (F 27), aI cI (ma 6) 48 (F 17), aI cI (ma 7) 72 (F 18), aI cI (ma 8) 12 (F 19), aI cZ (ma 9) 12 B, aI cI (ma 10) 300 tr1, aI cI (ma 11) 6 ou1, aI cI (ma 12) 6 os1, aI cI (ma 13) 8 vr1, aI cI (ma 14) 12 (E 5), aI cZ (ma 15) 12 (E 6), aI cI (ma 16) 2400 (E 7), aJ cJ (ma 17) 2400 L, aI cZ (ma 18) 300 hg3] := hD
                              have hu3 := hwm3.1
                              have hU : UU F TR hg3 m = (UU F TR hg m ||| (VF F TR m).2) := by exact hu3
                              refine lv_iinc (v := nI m - nI 1) (lv' := [(4, .int (nI m - nI 1)), (3, .int (nI (se ||| (1 * 2 ^ l)))), (6, .int (nI 6)), (5, .int (nI l)), (0, .ref (ma 0)), (1, .int (nI t)), (2, .int (nI j))]) hx hb dX10_slice_242 hl (k := 6) rfl (m_dec m) (by decide) rfl (fun ls hl => ?_)
                              refine lv_goto (tgt := 90) hx hb dX10_slice_245 (by decide) ?_
                              exact ih90 m (nI m - nI 1) (se ||| (1 * 2 ^ l)) hg3 (by omega) (by omega) (rfl) (hse2) (by rw [hU, Nat.one_mul]; exact or_ac3 (by rw [Nat.or_zero]; exact hinv)) _ _ _ hP hD hS (lv_sub hl [4, 5, 6, 1, 0] rfl)
                            · skip
                              exact absurd c_45 (by decide)
                        · skip
                          exact absurd c_43 (by decide)
                    · skip
                      simp at hinv
                      have hx8 := hx8 (by decide)
                      refine lv_iload hx hb dX10_slice_135 (lv_at hl 1 rfl) ?_
                      refine k_if_le (tgt := 183) hx hb dX10_slice_137 (by decide) (by decide) (fun c_47 => ?_) (fun c_47 => ?_)
                      · skip
                        exact absurd c_47 (by decide)
                      · skip
                        refine lv_iload hx hb dX10_slice_140 (lv_at hl 1 rfl) ?_
                        refine lv_iconst (v := nI 4) hx hb dX10_slice_142 (by decide) ?_
                        refine k_cmp_ge (tgt := 183) hx hb dX10_slice_143 (by decide) (by decide) (by decide) (fun c_48 => ?_) (fun c_48 => ?_)
                        · skip
                          refine lv_iload hx hb dX10_slice_183 (lv_at hl 1 rfl) ?_
                          refine lv_iconst (v := nI 5) hx hb dX10_slice_185 (by decide) ?_
                          refine k_cmp_eq (tgt := 196) hx hb dX10_slice_186 (by decide) (by decide) (by decide) (fun c_49 => ?_) (fun c_49 => ?_)
                          · skip
                            exact absurd c_49 (by decide)
                          · skip
                            refine lv_iload hx hb dX10_slice_189 (lv_at hl 1 rfl) ?_
                            refine lv_bipush (v := nI 7) hx hb dX10_slice_191 (by decide) ?_
                            refine k_cmp_ne (tgt := 236) hx hb dX10_slice_193 (by decide) (by decide) (by decide) (fun c_50 => ?_) (fun c_50 => ?_)
                            · skip
                              exact absurd c_50 (by decide)
                            · skip
                              refine lv_aload_n hx hb dX10_slice_196 rfl (lv_at hl 3 rfl) ?_
                              refine lv_iload hx hb dX10_slice_197 (lv_at hl 6 rfl) ?_
                              refine lv_aload_n hx hb dX10_slice_199 rfl (lv_at hl 3 rfl) ?_
                              refine va_get (C := RX10) (T := TX10) (N := 33) (ci := 10) hx hb hts iX10_slice_10 hown hK.1 hP 0 rfl rfl 6 (Nat.le_of_ble_eq_true rfl) (hts _ mX10_slice_16) (fun _ h9 => h9) rfl dX10_slice_200 ?_
                              refine lv_iconst (v := nI 4) hx hb dX10_slice_203 (by decide) ?_
                              refine lv_iload hx hb dX10_slice_204 (lv_at hl 2 rfl) ?_
                              refine k_imul hx hb dX10_slice_206 ?_
                              refine lv_iconst (v := nI 1) hx hb dX10_slice_207 (by decide) ?_
                              refine k_iadd hx hb dX10_slice_208 ?_
                              refine k_iald hx hb hK.1 hP 3 0 rfl rfl (by omega) (by decide) dX10_slice_209 ?_
                              refine k_topN (hxe.trans (hx8.eq (by decide))) ?_
                              refine Kv.callV (wr := []) (rest := []) (CX10_wrote jl G cI cZ cJ ma N F rf T X B (fN [M 0, sc1, oc1, ic1, M 4, M 5, M 6, M 7, M 8, M 9, M 10]) (bI (r_on (N 0) (l1, sc1, oc1, ic1, tr1, vr1, ou1, os1))) (fF [nw2, tr1, ou1, os1, vr1, E 5, E 6, E 7, hg]) L hLA hMR TR sc1 m hTR hsc3 hwL (by omega) (tn (F 5 l)) (hx8.lt (by decide))) cx hP hD hS hl [0, 1, 2, 3, 4, 5, 6, 7, 8, 9, 10, 11, 12, 13, 14, 15, 16, 17, 18] [] (ci := 10) (q0 := 0) gX10_slice_X10_wrote hdX10_wrote rfl rfl rfl ⟨Nat.le_of_ble_eq_true rfl, Nat.le_of_ble_eq_true rfl⟩ rfl rfl (by decide) (by decide) (by decide) dX10_slice_210 rfl rfl (Nat.le_of_ble_eq_true rfl) ⟨Nat.le_of_ble_eq_true rfl, Nat.le_of_ble_eq_true rfl⟩ (fun u H locs hwm1 hP hD hS => ?_)
                              obtain ⟨hg1, rfl⟩ : ∃ z, z = u := ⟨_, rfl⟩
                              try dsimp only at hwm1
                              have hP : va_P G vwCl [oB (ma 0) 10 [.ref (ma 1), .int (nI (N 0)), .int (nI (N 3)), .int (nI (N 1)), .int (nI (M 0)), .ref (ma 2), .ref (ma 3), .ref (ma 4), .ref (ma 5), .ref (ma 6), .ref (ma 7), .ref (ma 8), .ref (ma 9), .ref (ma 10), .ref (ma 11), .ref (ma 12), .ref (ma 13), .int (nI sc1), .int (nI oc1), .int (nI ic1), .int (bI (r_on (N 0) (l1, sc1, oc1, ic1, tr1, vr1, ou1, os1))), .ref (ma 14), .ref (ma 15), .int (nI (M 4)), .int (nI (M 5)), .int (nI (M 6)), .int (nI (M 7)), .int (nI (M 8)), .ref (ma 16), .ref (ma 17), .int (nI (M 9)), .ref (ma 18), .int (nI (M 10))], aI cI (ma 1) 7 rf, aI cI (ma 2) 96 T, aI cI (ma 3) 96 nw2, aI cI (ma 4) 100 X, aI cI (ma 5) 24 (F 27), aI cI (ma 6) 48 (F 17), aI cI (ma 7) 72 (F 18), aI cI (ma 8) 12 (F 19), aI cZ (ma 9) 12 B, aI cI (ma 10) 300 tr1, aI cI (ma 11) 6 ou1, aI cI (ma 12) 6 os1, aI cI (ma 13) 8 vr1, aI cI (ma 14) 12 (E 5), aI cZ (ma 15) 12 (E 6), aI cI (ma 16) 2400 (E 7), aJ cJ (ma 17) 2400 L, aI cZ (ma 18) 300 hg1] H := hP
                              have hD : va_D jA [oB (ma 0) 10 [.ref (ma 1), .int (nI (N 0)), .int (nI (N 3)), .int (nI (N 1)), .int (nI (M 0)), .ref (ma 2), .ref (ma 3), .ref (ma 4), .ref (ma 5), .ref (ma 6), .ref (ma 7), .ref (ma 8), .ref (ma 9), .ref (ma 10), .ref (ma 11), .ref (ma 12), .ref (ma 13), .int (nI sc1), .int (nI oc1), .int (nI ic1), .int (bI (r_on (N 0) (l1, sc1, oc1, ic1, tr1, vr1, ou1, os1))), .ref (ma 14), .ref (ma 15), .int (nI (M 4)), .int (nI (M 5)), .int (nI (M 6)), .int (nI (M 7)), .int (nI (M 8)), .ref (ma 16), .ref (ma 17), .int (nI (M 9)), .ref (ma 18), .int (nI (M 10))], aI cI (ma 1) 7 rf, aI cI (ma 2) 96 T, aI cI (ma 3) 96 nw2, aI cI (ma 4) 100 X, aI cI (ma 5) 24 (F 27), aI cI (ma 6) 48 (F 17), aI cI (ma 7) 72 (F 18), aI cI (ma 8) 12 (F 19), aI cZ (ma 9) 12 B, aI cI (ma 10) 300 tr1, aI cI (ma 11) 6 ou1, aI cI (ma 12) 6 os1, aI cI (ma 13) 8 vr1, aI cI (ma 14) 12 (E 5), aI cZ (ma 15) 12 (E 6), aI cI (ma 16) 2400 (E 7), aJ cJ (ma 17) 2400 L, aI cZ (ma 18) 300 hg1] := hD
                              have hu1 := hwm1.1
                              refine lv_iload hx hb dX10_slice_213 (lv_at hl 1 rfl) ?_
                              refine lv_iconst (v := nI 5) hx hb dX10_slice_215 (by decide) ?_
                              refine k_cmp_ne (tgt := 236) hx hb dX10_slice_216 (by decide) (by decide) (by decide) (fun c_52 => ?_) (fun c_52 => ?_)
                              · skip
                                refine lv_aload_n hx hb dX10_slice_236 rfl (lv_at hl 3 rfl) ?_
                                refine lv_iload hx hb dX10_slice_237 (lv_at hl 6 rfl) ?_
                                refine Kv.callV (wr := []) (rest := []) (CX10_latestIf jl G cI cZ cJ ma N F rf T X B (fN [M 0, sc1, oc1, ic1, M 4, M 5, M 6, M 7, M 8, M 9, M 10]) (bI (r_on (N 0) (l1, sc1, oc1, ic1, tr1, vr1, ou1, os1))) (fF [nw2, tr1, ou1, os1, vr1, E 5, E 6, E 7, hg1]) L hLA hMR TR sc1 m hTR hsc3 hwL (by omega)) cx hP hD hS hl [0, 1, 2, 3, 4, 5, 6, 7, 8, 9, 10, 11, 12, 13, 14, 15, 16, 17, 18] [] (ci := 10) (q0 := 0) gX10_slice_X10_latestIf hdX10_latestIf rfl rfl rfl ⟨Nat.le_of_ble_eq_true rfl, Nat.le_of_ble_eq_true rfl⟩ rfl rfl (by decide) (by decide) (by decide) dX10_slice_239 rfl rfl (Nat.le_of_ble_eq_true rfl) ⟨Nat.le_of_ble_eq_true rfl, Nat.le_of_ble_eq_true rfl⟩ (fun u H locs hwm3 hP hD hS => ?_)
                                obtain ⟨hg3, rfl⟩ : ∃ z, z = u := ⟨_, rfl⟩
                                try dsimp only at hwm3
                                have hP : va_P G vwCl [oB (ma 0) 10 [.ref (ma 1), .int (nI (N 0)), .int (nI (N 3)), .int (nI (N 1)), .int (nI (M 0)), .ref (ma 2), .ref (ma 3), .ref (ma 4), .ref (ma 5), .ref (ma 6), .ref (ma 7), .ref (ma 8), .ref (ma 9), .ref (ma 10), .ref (ma 11), .ref (ma 12), .ref (ma 13), .int (nI sc1), .int (nI oc1), .int (nI ic1), .int (bI (r_on (N 0) (l1, sc1, oc1, ic1, tr1, vr1, ou1, os1))), .ref (ma 14), .ref (ma 15), .int (nI (M 4)), .int (nI (M 5)), .int (nI (M 6)), .int (nI (M 7)), .int (nI (M 8)), .ref (ma 16), .ref (ma 17), .int (nI (M 9)), .ref (ma 18), .int (nI (M 10))], aI cI (ma 1) 7 rf, aI cI (ma 2) 96 T, aI cI (ma 3) 96 nw2, aI cI (ma 4) 100 X, aI cI (ma 5) 24 (F 27), aI cI (ma 6) 48 (F 17), aI cI (ma 7) 72 (F 18), aI cI (ma 8) 12 (F 19), aI cZ (ma 9) 12 B, aI cI (ma 10) 300 tr1, aI cI (ma 11) 6 ou1, aI cI (ma 12) 6 os1, aI cI (ma 13) 8 vr1, aI cI (ma 14) 12 (E 5), aI cZ (ma 15) 12 (E 6), aI cI (ma 16) 2400 (E 7), aJ cJ (ma 17) 2400 L, aI cZ (ma 18) 300 hg3] H := hP
                                have hD : va_D jA [oB (ma 0) 10 [.ref (ma 1), .int (nI (N 0)), .int (nI (N 3)), .int (nI (N 1)), .int (nI (M 0)), .ref (ma 2), .ref (ma 3), .ref (ma 4), .ref (ma 5), .ref (ma 6), .ref (ma 7), .ref (ma 8), .ref (ma 9), .ref (ma 10), .ref (ma 11), .ref (ma 12), .ref (ma 13), .int (nI sc1), .int (nI oc1), .int (nI ic1), .int (bI (r_on (N 0) (l1, sc1, oc1, ic1, tr1, vr1, ou1, os1))), .ref (ma 14), .ref (ma 15), .int (nI (M 4)), .int (nI (M 5)), .int (nI (M 6)), .int (nI (M 7)), .int (nI (M 8)), .ref (ma 16), .ref (ma 17), .int (nI (M 9)), .ref (ma 18), .int (nI (M 10))], aI cI (ma 1) 7 rf, aI cI (ma 2) 96 T, aI cI (ma 3) 96 nw2, aI cI (ma 4) 100 X, aI cI (ma 5) 24 (F 27), aI cI (ma 6) 48 (F 17), aI cI (ma 7) 72 (F 18), aI cI (ma 8) 12 (F 19), aI cZ (ma 9) 12 B, aI cI (ma 10) 300 tr1, aI cI (ma 11) 6 ou1, aI cI (ma 12) 6 os1, aI cI (ma 13) 8 vr1, aI cI (ma 14) 12 (E 5), aI cZ (ma 15) 12 (E 6), aI cI (ma 16) 2400 (E 7), aJ cJ (ma 17) 2400 L, aI cZ (ma 18) 300 hg3] := hD
                                have hu3 := hwm3.1
                                have hU : UU F TR hg3 m = ((UU F TR hg m ||| (VF F TR m).1 (tn (F 5 l))) ||| (VF F TR m).2) := by rw [show UU F TR hg3 m = UU F TR hg1 m ||| (VF F TR m).2 from hu3, show UU F TR hg1 m = UU F TR hg m ||| _ from hu1]
                                refine lv_iinc (v := nI m - nI 1) (lv' := [(4, .int (nI m - nI 1)), (3, .int (nI (se ||| (1 * 2 ^ l)))), (6, .int (nI 7)), (5, .int (nI l)), (0, .ref (ma 0)), (1, .int (nI t)), (2, .int (nI j))]) hx hb dX10_slice_242 hl (k := 6) rfl (m_dec m) (by decide) rfl (fun ls hl => ?_)
                                refine lv_goto (tgt := 90) hx hb dX10_slice_245 (by decide) ?_
                                exact ih90 m (nI m - nI 1) (se ||| (1 * 2 ^ l)) hg3 (by omega) (by omega) (rfl) (hse2) (by rw [hU, Nat.one_mul]; exact or_ac2 hinv) _ _ _ hP hD hS (lv_sub hl [4, 5, 6, 1, 0] rfl)
                              · skip
                                exact absurd c_52 (by decide)
                        · skip
                          exact absurd c_48 (by decide)
                  · skip
                    refine lv_goto (tgt := 242) hx hb dX10_slice_105 (by decide) ?_
                    refine lv_iinc (v := nI m - nI 1) (lv' := [(4, .int (nI m - nI 1)), (0, .ref (ma 0)), (1, .int (nI t)), (2, .int (nI j)), (3, .int (nI se))]) hx hb dX10_slice_242 hl (k := 4) rfl (m_dec m) (by decide) rfl (fun ls hl => ?_)
                    refine lv_goto (tgt := 90) hx hb dX10_slice_245 (by decide) ?_
                    exact ih90 m (nI m - nI 1) se hg (by omega) (by omega) (rfl) (hse) (by rw [← hinv, UU_n hh0]) _ _ _ hP hD hS (lv_sub hl [1, 2, 3, 4, 0] rfl)
            exact L90 (o + 2) (o + 1) (nI o) 0 hg (by omega) (Nat.le_refl _) ((m_s o).symm) (by decide) (by rw [Nat.zero_or]; exact hU1) _ _ _ hP hD hS (lv_sub hl [2, 3, 4, 1, 0] rfl)
          · skip
            refine lv_aload_n hx hb dX10_slice_53 rfl (lv_at hl 0 rfl) ?_
            refine va_get (C := RX10) (T := TX10) (N := 33) (ci := 10) hx hb hts iX10_slice_10 hown hK.1 hP 0 rfl rfl 31 (Nat.le_of_ble_eq_true rfl) (hts _ mX10_slice_63) (fun _ h9 => h9) rfl dX10_slice_54 ?_
            refine lv_iload_n hx hb dX10_slice_57 rfl (lv_at hl 3 rfl) ?_
            refine lv_iload_n hx hb dX10_slice_58 rfl (lv_at hl 3 rfl) ?_
            refine lv_aload_n hx hb dX10_slice_59 rfl (lv_at hl 0 rfl) ?_
            refine va_get (C := RX10) (T := TX10) (N := 33) (ci := 10) hx hb hts iX10_slice_10 hown hK.1 hP 0 rfl rfl 15 (Nat.le_of_ble_eq_true rfl) (hts _ mX10_slice_44) (fun _ h9 => h9) rfl dX10_slice_60 ?_
            refine lv_iload_n hx hb dX10_slice_63 rfl (lv_at hl 2 rfl) ?_
            refine k_iald hx hb hK.1 hP 12 0 rfl rfl (by omega) (by decide) dX10_slice_64 ?_
            refine k_topN hos ?_
            refine k_cmp_ne (tgt := 72) hx hb dX10_slice_65 (by decide) (by omega) (by omega) (fun heo => ?_) (fun heo => ?_)
            · skip
              refine lv_iconst (v := nI 0) hx hb dX10_slice_72 (by decide) ?_
              refine k_zast hx hb hK.1 hP hD hS 18 1 rfl rfl (by decide) (by omega) (by decide) dX10_slice_73 (fun H locs hP hD hS => ?_)
              have hP : va_P G vwCl [oB (ma 0) 10 [.ref (ma 1), .int (nI (N 0)), .int (nI (N 3)), .int (nI (N 1)), .int (nI (M 0)), .ref (ma 2), .ref (ma 3), .ref (ma 4), .ref (ma 5), .ref (ma 6), .ref (ma 7), .ref (ma 8), .ref (ma 9), .ref (ma 10), .ref (ma 11), .ref (ma 12), .ref (ma 13), .int (nI sc1), .int (nI oc1), .int (nI ic1), .int (bI (r_on (N 0) (l1, sc1, oc1, ic1, tr1, vr1, ou1, os1))), .ref (ma 14), .ref (ma 15), .int (nI (M 4)), .int (nI (M 5)), .int (nI (M 6)), .int (nI (M 7)), .int (nI (M 8)), .ref (ma 16), .ref (ma 17), .int (nI (M 9)), .ref (ma 18), .int (nI (M 10))], aI cI (ma 1) 7 rf, aI cI (ma 2) 96 T, aI cI (ma 3) 96 nw2, aI cI (ma 4) 100 X, aI cI (ma 5) 24 (F 27), aI cI (ma 6) 48 (F 17), aI cI (ma 7) 72 (F 18), aI cI (ma 8) 12 (F 19), aI cZ (ma 9) 12 B, aI cI (ma 10) 300 tr1, aI cI (ma 11) 6 ou1, aI cI (ma 12) 6 os1, aI cI (ma 13) 8 vr1, aI cI (ma 14) 12 (E 5), aI cZ (ma 15) 12 (E 6), aI cI (ma 16) 2400 (E 7), aJ cJ (ma 17) 2400 L, aI cZ (ma 18) 300 (upd hg m (nI 0))] H := hP
              have hD : va_D jA [oB (ma 0) 10 [.ref (ma 1), .int (nI (N 0)), .int (nI (N 3)), .int (nI (N 1)), .int (nI (M 0)), .ref (ma 2), .ref (ma 3), .ref (ma 4), .ref (ma 5), .ref (ma 6), .ref (ma 7), .ref (ma 8), .ref (ma 9), .ref (ma 10), .ref (ma 11), .ref (ma 12), .ref (ma 13), .int (nI sc1), .int (nI oc1), .int (nI ic1), .int (bI (r_on (N 0) (l1, sc1, oc1, ic1, tr1, vr1, ou1, os1))), .ref (ma 14), .ref (ma 15), .int (nI (M 4)), .int (nI (M 5)), .int (nI (M 6)), .int (nI (M 7)), .int (nI (M 8)), .ref (ma 16), .ref (ma 17), .int (nI (M 9)), .ref (ma 18), .int (nI (M 10))], aI cI (ma 1) 7 rf, aI cI (ma 2) 96 T, aI cI (ma 3) 96 nw2, aI cI (ma 4) 100 X, aI cI (ma 5) 24 (F 27), aI cI (ma 6) 48 (F 17), aI cI (ma 7) 72 (F 18), aI cI (ma 8) 12 (F 19), aI cZ (ma 9) 12 B, aI cI (ma 10) 300 tr1, aI cI (ma 11) 6 ou1, aI cI (ma 12) 6 os1, aI cI (ma 13) 8 vr1, aI cI (ma 14) 12 (E 5), aI cZ (ma 15) 12 (E 6), aI cI (ma 16) 2400 (E 7), aJ cJ (ma 17) 2400 L, aI cZ (ma 18) 300 (upd hg m (nI 0))] := hD
              refine lv_iinc (v := nI (m + 1)) (lv' := [(3, .int (nI (m + 1))), (0, .ref (ma 0)), (1, .int (nI t)), (2, .int (nI j))]) hx hb dX10_slice_74 hl (k := 3) rfl (nI_add m 1) (by decide) rfl (fun ls hl => ?_)
              refine lv_goto (tgt := 45) hx hb dX10_slice_77 (by decide) ?_
              exact ih45 (m + 1) (upd hg m (nI 0)) (by omega) (by omega) (fun i hi => by by_cases z : i = m; rw [z, upd_s, if_neg heo]; rw [upd_n z]; exact hhg i (by omega)) _ _ _ hP hD hS (lv_sub hl [1, 2, 3, 0] rfl)
            · skip
              refine lv_iconst (v := nI 1) hx hb dX10_slice_68 (by decide) ?_
              refine lv_goto (tgt := 73) hx hb dX10_slice_69 (by decide) ?_
              refine k_zast hx hb hK.1 hP hD hS 18 1 rfl rfl (by decide) (by omega) (by decide) dX10_slice_73 (fun H locs hP hD hS => ?_)
              have hP : va_P G vwCl [oB (ma 0) 10 [.ref (ma 1), .int (nI (N 0)), .int (nI (N 3)), .int (nI (N 1)), .int (nI (M 0)), .ref (ma 2), .ref (ma 3), .ref (ma 4), .ref (ma 5), .ref (ma 6), .ref (ma 7), .ref (ma 8), .ref (ma 9), .ref (ma 10), .ref (ma 11), .ref (ma 12), .ref (ma 13), .int (nI sc1), .int (nI oc1), .int (nI ic1), .int (bI (r_on (N 0) (l1, sc1, oc1, ic1, tr1, vr1, ou1, os1))), .ref (ma 14), .ref (ma 15), .int (nI (M 4)), .int (nI (M 5)), .int (nI (M 6)), .int (nI (M 7)), .int (nI (M 8)), .ref (ma 16), .ref (ma 17), .int (nI (M 9)), .ref (ma 18), .int (nI (M 10))], aI cI (ma 1) 7 rf, aI cI (ma 2) 96 T, aI cI (ma 3) 96 nw2, aI cI (ma 4) 100 X, aI cI (ma 5) 24 (F 27), aI cI (ma 6) 48 (F 17), aI cI (ma 7) 72 (F 18), aI cI (ma 8) 12 (F 19), aI cZ (ma 9) 12 B, aI cI (ma 10) 300 tr1, aI cI (ma 11) 6 ou1, aI cI (ma 12) 6 os1, aI cI (ma 13) 8 vr1, aI cI (ma 14) 12 (E 5), aI cZ (ma 15) 12 (E 6), aI cI (ma 16) 2400 (E 7), aJ cJ (ma 17) 2400 L, aI cZ (ma 18) 300 (upd hg m (nI 1))] H := hP
              have hD : va_D jA [oB (ma 0) 10 [.ref (ma 1), .int (nI (N 0)), .int (nI (N 3)), .int (nI (N 1)), .int (nI (M 0)), .ref (ma 2), .ref (ma 3), .ref (ma 4), .ref (ma 5), .ref (ma 6), .ref (ma 7), .ref (ma 8), .ref (ma 9), .ref (ma 10), .ref (ma 11), .ref (ma 12), .ref (ma 13), .int (nI sc1), .int (nI oc1), .int (nI ic1), .int (bI (r_on (N 0) (l1, sc1, oc1, ic1, tr1, vr1, ou1, os1))), .ref (ma 14), .ref (ma 15), .int (nI (M 4)), .int (nI (M 5)), .int (nI (M 6)), .int (nI (M 7)), .int (nI (M 8)), .ref (ma 16), .ref (ma 17), .int (nI (M 9)), .ref (ma 18), .int (nI (M 10))], aI cI (ma 1) 7 rf, aI cI (ma 2) 96 T, aI cI (ma 3) 96 nw2, aI cI (ma 4) 100 X, aI cI (ma 5) 24 (F 27), aI cI (ma 6) 48 (F 17), aI cI (ma 7) 72 (F 18), aI cI (ma 8) 12 (F 19), aI cZ (ma 9) 12 B, aI cI (ma 10) 300 tr1, aI cI (ma 11) 6 ou1, aI cI (ma 12) 6 os1, aI cI (ma 13) 8 vr1, aI cI (ma 14) 12 (E 5), aI cZ (ma 15) 12 (E 6), aI cI (ma 16) 2400 (E 7), aJ cJ (ma 17) 2400 L, aI cZ (ma 18) 300 (upd hg m (nI 1))] := hD
              refine lv_iinc (v := nI (m + 1)) (lv' := [(3, .int (nI (m + 1))), (0, .ref (ma 0)), (1, .int (nI t)), (2, .int (nI j))]) hx hb dX10_slice_74 hl (k := 3) rfl (nI_add m 1) (by decide) rfl (fun ls hl => ?_)
              refine lv_goto (tgt := 45) hx hb dX10_slice_77 (by decide) ?_
              exact ih45 (m + 1) (upd hg m (nI 1)) (by omega) (by omega) (fun i hi => by by_cases z : i = m; rw [z, upd_s, if_pos heo]; rw [upd_n z]; exact hhg i (by omega)) _ _ _ hP hD hS (lv_sub hl [1, 2, 3, 0] rfl)
      exact L45 (sc1 + 1) 0 (E 8) (by omega) (by omega) (fun i hi => absurd hi (Nat.not_lt_zero i)) _ _ _ hP hD hS (lv_sub hl [1, 2, 3, 0] rfl)
    · skip
      refine k_if_ne_f (tgt := 43) hx hb dX10_slice_34 (by decide) (by decide) ?_
      refine lv_aload_n hx hb dX10_slice_37 rfl (lv_at hl 0 rfl) ?_
      refine lv_iconst (v := (-1)) hx hb dX10_slice_38 (by decide) ?_
      have hc : cIx (N 3) (RUNP N F (tn (nI t))).2.2.1 (nI t) k = (-1) := cIx_k (by rw [htt, ← hoce]; exact inR_f (by omega) hnk)
      refine Ki.callV (wr := [aI cI (ma 2) 96 T, aI cI (ma 3) 96 nw2, aI cI (ma 4) 100 X, aI cI (ma 5) 24 (F 27), aI cI (ma 6) 48 (F 17), aI cI (ma 7) 72 (F 18), aI cI (ma 8) 12 (F 19), aI cZ (ma 9) 12 B, aI cI (ma 10) 300 tr1, aI cI (ma 11) 6 ou1, aI cI (ma 12) 6 os1, aI cI (ma 13) 8 vr1, aI cI (ma 14) 12 (E 5), aI cZ (ma 15) 12 (E 6), aI cI (ma 16) 2400 (E 7), aJ cJ (ma 17) 2400 L, aI cZ (ma 18) 300 (E 8)]) (rest := []) (CX10_refuse jl G cI cZ cJ ma N F rf T X B (fN [M 0, sc1, oc1, ic1, M 4, M 5, M 6, M 7, M 8, M 9, M 10]) (bI (r_on (N 0) (l1, sc1, oc1, ic1, tr1, vr1, ou1, os1))) (fF [nw2, tr1, ou1, os1, vr1, E 5, E 6, E 7, E 8]) L hLA hMR (-1) 1 (by decide) (by decide)) cx hP hD hS hl [0, 1] [2, 3, 4, 5, 6, 7, 8, 9, 10, 11, 12, 13, 14, 15, 16, 17, 18] (ci := 10) (q0 := 0) gX10_slice_X10_refuse hdX10_refuse rfl rfl rfl ⟨Nat.le_of_ble_eq_true rfl, Nat.le_of_ble_eq_true rfl⟩ rfl rfl (by decide) (by decide) (by decide) dX10_slice_39 rfl rfl (Nat.le_of_ble_eq_true rfl) ⟨Nat.le_of_ble_eq_true rfl, Nat.le_of_ble_eq_true rfl⟩ (fun rr9 u H locs hwr hP hD hS => ?_)
      have hP : va_P G vwCl [aI cI (ma 2) 96 T, aI cI (ma 3) 96 nw2, aI cI (ma 4) 100 X, aI cI (ma 5) 24 (F 27), aI cI (ma 6) 48 (F 17), aI cI (ma 7) 72 (F 18), aI cI (ma 8) 12 (F 19), aI cZ (ma 9) 12 B, aI cI (ma 10) 300 tr1, aI cI (ma 11) 6 ou1, aI cI (ma 12) 6 os1, aI cI (ma 13) 8 vr1, aI cI (ma 14) 12 (E 5), aI cZ (ma 15) 12 (E 6), aI cI (ma 16) 2400 (E 7), aJ cJ (ma 17) 2400 L, aI cZ (ma 18) 300 (E 8), oB (ma 0) 10 [.ref (ma 1), .int (nI (N 0)), .int (nI (N 3)), .int (nI (N 1)), .int (nI (M 0)), .ref (ma 2), .ref (ma 3), .ref (ma 4), .ref (ma 5), .ref (ma 6), .ref (ma 7), .ref (ma 8), .ref (ma 9), .ref (ma 10), .ref (ma 11), .ref (ma 12), .ref (ma 13), .int (nI sc1), .int (nI oc1), .int (nI ic1), .int (bI (r_on (N 0) (l1, sc1, oc1, ic1, tr1, vr1, ou1, os1))), .ref (ma 14), .ref (ma 15), .int (nI (M 4)), .int (nI (M 5)), .int (nI (M 6)), .int (nI (M 7)), .int (nI (M 8)), .ref (ma 16), .ref (ma 17), .int (nI (M 9)), .ref (ma 18), .int (nI (M 10))], aI cI (ma 1) 7 (upd rf 1 (rf 1 + nI 1))] H := hP
      have hD : va_D jA [aI cI (ma 2) 96 T, aI cI (ma 3) 96 nw2, aI cI (ma 4) 100 X, aI cI (ma 5) 24 (F 27), aI cI (ma 6) 48 (F 17), aI cI (ma 7) 72 (F 18), aI cI (ma 8) 12 (F 19), aI cZ (ma 9) 12 B, aI cI (ma 10) 300 tr1, aI cI (ma 11) 6 ou1, aI cI (ma 12) 6 os1, aI cI (ma 13) 8 vr1, aI cI (ma 14) 12 (E 5), aI cZ (ma 15) 12 (E 6), aI cI (ma 16) 2400 (E 7), aJ cJ (ma 17) 2400 L, aI cZ (ma 18) 300 (E 8), oB (ma 0) 10 [.ref (ma 1), .int (nI (N 0)), .int (nI (N 3)), .int (nI (N 1)), .int (nI (M 0)), .ref (ma 2), .ref (ma 3), .ref (ma 4), .ref (ma 5), .ref (ma 6), .ref (ma 7), .ref (ma 8), .ref (ma 9), .ref (ma 10), .ref (ma 11), .ref (ma 12), .ref (ma 13), .int (nI sc1), .int (nI oc1), .int (nI ic1), .int (bI (r_on (N 0) (l1, sc1, oc1, ic1, tr1, vr1, ou1, os1))), .ref (ma 14), .ref (ma 15), .int (nI (M 4)), .int (nI (M 5)), .int (nI (M 6)), .int (nI (M 7)), .int (nI (M 8)), .ref (ma 16), .ref (ma 17), .int (nI (M 9)), .ref (ma 18), .int (nI (M 10))], aI cI (ma 1) 7 (upd rf 1 (rf 1 + nI 1))] := hD
      obtain ⟨hP, hD⟩ := k_sub (w' := [oB (ma 0) 10 [.ref (ma 1), .int (nI (N 0)), .int (nI (N 3)), .int (nI (N 1)), .int (nI (M 0)), .ref (ma 2), .ref (ma 3), .ref (ma 4), .ref (ma 5), .ref (ma 6), .ref (ma 7), .ref (ma 8), .ref (ma 9), .ref (ma 10), .ref (ma 11), .ref (ma 12), .ref (ma 13), .int (nI sc1), .int (nI oc1), .int (nI ic1), .int (bI (r_on (N 0) (l1, sc1, oc1, ic1, tr1, vr1, ou1, os1))), .ref (ma 14), .ref (ma 15), .int (nI (M 4)), .int (nI (M 5)), .int (nI (M 6)), .int (nI (M 7)), .int (nI (M 8)), .ref (ma 16), .ref (ma 17), .int (nI (M 9)), .ref (ma 18), .int (nI (M 10))], aI cI (ma 1) 7 (upd rf 1 (rf 1 + nI 1)), aI cI (ma 2) 96 T, aI cI (ma 3) 96 nw2, aI cI (ma 4) 100 X, aI cI (ma 5) 24 (F 27), aI cI (ma 6) 48 (F 17), aI cI (ma 7) 72 (F 18), aI cI (ma 8) 12 (F 19), aI cZ (ma 9) 12 B, aI cI (ma 10) 300 tr1, aI cI (ma 11) 6 ou1, aI cI (ma 12) 6 os1, aI cI (ma 13) 8 vr1, aI cI (ma 14) 12 (E 5), aI cZ (ma 15) 12 (E 6), aI cI (ma 16) 2400 (E 7), aJ cJ (ma 17) 2400 L, aI cZ (ma 18) 300 (E 8)]) hP hD [17, 18, 0, 1, 2, 3, 4, 5, 6, 7, 8, 9, 10, 11, 12, 13, 14, 15, 16] rfl (by decide)
      exact hret _ _ _ _ _ (upd rf 1 (rf 1 + nI 1), (fN [M 0, sc1, oc1, ic1, M 4, M 5, M 6, M 7, M 8, M 9, M 10]), bI (r_on (N 0) (l1, sc1, oc1, ic1, tr1, vr1, ou1, os1)), (fF [nw2, tr1, ou1, os1, vr1, E 5, E 6, E 7, E 8]), L) dX10_slice_42 (⟨by rw [hwr]; exact (rA_c hc (by decide)).symm, (rfU_c hc (by decide) (by decide) (by decide)).symm⟩) hP hD hS
  · skip
    refine k_if_ne_f (tgt := 14) hx hb dX10_slice_5 (by decide) (by decide) ?_
    refine lv_aload_n hx hb dX10_slice_8 rfl (lv_at hl 0 rfl) ?_
    refine lv_iconst (v := (-1)) hx hb dX10_slice_9 (by decide) ?_
    have hc : cIx (N 3) (RUNP N F (tn p)).2.2.1 p k = (-1) := cIx_p (inR_f (by omega) hno)
    refine Ki.callV (wr := [aI cI (ma 2) 96 T, aI cI (ma 3) 96 (E 0), aI cI (ma 4) 100 X, aI cI (ma 5) 24 (F 27), aI cI (ma 6) 48 (F 17), aI cI (ma 7) 72 (F 18), aI cI (ma 8) 12 (F 19), aI cZ (ma 9) 12 B, aI cI (ma 10) 300 (E 1), aI cI (ma 11) 6 (E 2), aI cI (ma 12) 6 (E 3), aI cI (ma 13) 8 (E 4), aI cI (ma 14) 12 (E 5), aI cZ (ma 15) 12 (E 6), aI cI (ma 16) 2400 (E 7), aJ cJ (ma 17) 2400 L, aI cZ (ma 18) 300 (E 8)]) (rest := []) (CX10_refuse jl G cI cZ cJ ma N F rf T X B M C E L hLA hMR (-1) 1 (by decide) (by decide)) cx hP hD hS hl [18, 0] [1, 2, 3, 4, 5, 6, 7, 8, 9, 10, 11, 12, 13, 14, 15, 16, 17] (ci := 10) (q0 := 0) gX10_slice_X10_refuse hdX10_refuse rfl rfl rfl ⟨Nat.le_of_ble_eq_true rfl, Nat.le_of_ble_eq_true rfl⟩ rfl rfl (by decide) (by decide) (by decide) dX10_slice_10 rfl rfl (Nat.le_of_ble_eq_true rfl) ⟨Nat.le_of_ble_eq_true rfl, Nat.le_of_ble_eq_true rfl⟩ (fun rr9 u H locs hwr hP hD hS => ?_)
    have hP : va_P G vwCl [aI cI (ma 2) 96 T, aI cI (ma 3) 96 (E 0), aI cI (ma 4) 100 X, aI cI (ma 5) 24 (F 27), aI cI (ma 6) 48 (F 17), aI cI (ma 7) 72 (F 18), aI cI (ma 8) 12 (F 19), aI cZ (ma 9) 12 B, aI cI (ma 10) 300 (E 1), aI cI (ma 11) 6 (E 2), aI cI (ma 12) 6 (E 3), aI cI (ma 13) 8 (E 4), aI cI (ma 14) 12 (E 5), aI cZ (ma 15) 12 (E 6), aI cI (ma 16) 2400 (E 7), aJ cJ (ma 17) 2400 L, aI cZ (ma 18) 300 (E 8), oB (ma 0) 10 [.ref (ma 1), .int (nI (N 0)), .int (nI (N 3)), .int (nI (N 1)), .int (nI (M 0)), .ref (ma 2), .ref (ma 3), .ref (ma 4), .ref (ma 5), .ref (ma 6), .ref (ma 7), .ref (ma 8), .ref (ma 9), .ref (ma 10), .ref (ma 11), .ref (ma 12), .ref (ma 13), .int (nI (M 1)), .int (nI (M 2)), .int (nI (M 3)), .int C, .ref (ma 14), .ref (ma 15), .int (nI (M 4)), .int (nI (M 5)), .int (nI (M 6)), .int (nI (M 7)), .int (nI (M 8)), .ref (ma 16), .ref (ma 17), .int (nI (M 9)), .ref (ma 18), .int (nI (M 10))], aI cI (ma 1) 7 (upd rf 1 (rf 1 + nI 1))] H := hP
    have hD : va_D jA [aI cI (ma 2) 96 T, aI cI (ma 3) 96 (E 0), aI cI (ma 4) 100 X, aI cI (ma 5) 24 (F 27), aI cI (ma 6) 48 (F 17), aI cI (ma 7) 72 (F 18), aI cI (ma 8) 12 (F 19), aI cZ (ma 9) 12 B, aI cI (ma 10) 300 (E 1), aI cI (ma 11) 6 (E 2), aI cI (ma 12) 6 (E 3), aI cI (ma 13) 8 (E 4), aI cI (ma 14) 12 (E 5), aI cZ (ma 15) 12 (E 6), aI cI (ma 16) 2400 (E 7), aJ cJ (ma 17) 2400 L, aI cZ (ma 18) 300 (E 8), oB (ma 0) 10 [.ref (ma 1), .int (nI (N 0)), .int (nI (N 3)), .int (nI (N 1)), .int (nI (M 0)), .ref (ma 2), .ref (ma 3), .ref (ma 4), .ref (ma 5), .ref (ma 6), .ref (ma 7), .ref (ma 8), .ref (ma 9), .ref (ma 10), .ref (ma 11), .ref (ma 12), .ref (ma 13), .int (nI (M 1)), .int (nI (M 2)), .int (nI (M 3)), .int C, .ref (ma 14), .ref (ma 15), .int (nI (M 4)), .int (nI (M 5)), .int (nI (M 6)), .int (nI (M 7)), .int (nI (M 8)), .ref (ma 16), .ref (ma 17), .int (nI (M 9)), .ref (ma 18), .int (nI (M 10))], aI cI (ma 1) 7 (upd rf 1 (rf 1 + nI 1))] := hD
    obtain ⟨hP, hD⟩ := k_sub (w' := [oB (ma 0) 10 [.ref (ma 1), .int (nI (N 0)), .int (nI (N 3)), .int (nI (N 1)), .int (nI (M 0)), .ref (ma 2), .ref (ma 3), .ref (ma 4), .ref (ma 5), .ref (ma 6), .ref (ma 7), .ref (ma 8), .ref (ma 9), .ref (ma 10), .ref (ma 11), .ref (ma 12), .ref (ma 13), .int (nI (M 1)), .int (nI (M 2)), .int (nI (M 3)), .int C, .ref (ma 14), .ref (ma 15), .int (nI (M 4)), .int (nI (M 5)), .int (nI (M 6)), .int (nI (M 7)), .int (nI (M 8)), .ref (ma 16), .ref (ma 17), .int (nI (M 9)), .ref (ma 18), .int (nI (M 10))], aI cI (ma 1) 7 (upd rf 1 (rf 1 + nI 1)), aI cI (ma 2) 96 T, aI cI (ma 3) 96 (E 0), aI cI (ma 4) 100 X, aI cI (ma 5) 24 (F 27), aI cI (ma 6) 48 (F 17), aI cI (ma 7) 72 (F 18), aI cI (ma 8) 12 (F 19), aI cZ (ma 9) 12 B, aI cI (ma 10) 300 (E 1), aI cI (ma 11) 6 (E 2), aI cI (ma 12) 6 (E 3), aI cI (ma 13) 8 (E 4), aI cI (ma 14) 12 (E 5), aI cZ (ma 15) 12 (E 6), aI cI (ma 16) 2400 (E 7), aJ cJ (ma 17) 2400 L, aI cZ (ma 18) 300 (E 8)]) hP hD [17, 18, 0, 1, 2, 3, 4, 5, 6, 7, 8, 9, 10, 11, 12, 13, 14, 15, 16] rfl (by decide)
    exact hret _ _ _ _ _ (upd rf 1 (rf 1 + nI 1), M, C, E, L) dX10_slice_13 (⟨by rw [hwr]; exact (rA_c hc (by decide)).symm, (rfU_c hc (by decide) (by decide) (by decide)).symm⟩) hP hD hS
