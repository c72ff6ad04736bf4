set_option maxHeartbeats 4000000 in
set_option maxRecDepth 100000 in
theorem c_X0_checkIndex_ok (l : Launch) (x : Int32) (n : Nat) (h : sa_in x n) : sa_Ok l yX0_checkIndex wsX0_checkIndex ({ frames := 6, cells := 0, slots := 0, locals := 90 }) (fun _ => True) [.int (x), .int (nI n)] := by
  refine Met.ofW (cc := cX0_checkIndex) (maxL := 2) (ret := none) (by decide) rfl ?_
  intro p e s m args below meth c s₁ B9 hml hv
  obtain ⟨rfl, -⟩ := hv
  have hx := B9.exec
  have hb := B9.bytes
  have hr := B9.returns
  have hlk := B9.notSynchronized
  have hts := atoms_spec (ws := wsX0_checkIndex) B9.pre
  have hown : s.vm.findClass RX0 = some m.cls := findClass_of_methodNamed B9.named
  have S : CallFix p m c cX0_checkIndex 2 s _ wsX0_checkIndex RX0 := ⟨hx, hb, hml, hown, hts⟩
  have hl := lv_entry ([.int (x), .int (nI n)]) (n := 2) (Nat.le_of_ble_eq_true rfl)
  rw [lg_entry_eq]
  generalize (lg_sl ([.int (x), .int (nI n)]) ++ List.replicate (2 - (lg_sl ([.int (x), .int (nI n)])).length) Slot.unset).toArray = ls at hl ⊢
  have hl : lv_has ls 2 [(0, .int (x)), (1, .int (nI n))] := hl
  refine lv_iload_n hx hb dX0_checkIndex_0 rfl (lv_at hl 0 rfl) ?_
  refine lv_if_lt (tgt := 9) hx hb dX0_checkIndex_1 (by decide) (fun c9 => absurd c9 h.1) (fun _ => ?_)
  refine lv_iload_n hx hb dX0_checkIndex_4 rfl (lv_at hl 0 rfl) ?_
  refine lv_iload_n hx hb dX0_checkIndex_5 rfl (lv_at hl 1 rfl) ?_
  refine lv_icmp_lt (tgt := 19) hx hb dX0_checkIndex_6 (by decide) (fun _ => ?_) (fun c9 => absurd h.2 c9)
  exact W.vret hx hb hr (fun t9 ht _ => ⟨rfl, trivial, ht⟩) (fun _ h => nomatch h) dX0_checkIndex_19

set_option maxHeartbeats 4000000 in
set_option maxRecDepth 100000 in
theorem c_X0_checkIndex_ex (l : Launch) (lo : Nat) (hst : l.stackTraces = false) (x : Int32) (n : Nat) (h : ¬ sa_in x n) : sa_Ex l yX0_checkIndex wsX0_checkIndex ({ frames := 6, cells := 1, slots := 6, locals := 90 }) (sa_Pt lo) [.int (x), .int (nI n)] (fun E => E = sa_E1) := by
  refine vx_ofW (cc := cX0_checkIndex) (maxL := 2) (ret := none) (by decide) rfl ?_
  intro p e s m args below meth c s₁ B9 hml htab hv
  obtain ⟨rfl, hT⟩ := hv
  obtain ⟨hU, hN, ⟨b1, hs1⟩, ⟨b2, hs2⟩, ⟨b3, hs3⟩, hc1, hc2, hc3, hd1, hd2, hd3⟩ := id hT
  have hx := B9.exec
  have hb := B9.bytes
  have hr := B9.returns
  have hlk := B9.notSynchronized
  have hts := atoms_spec (ws := wsX0_checkIndex) B9.pre
  have hown : s.vm.findClass RX0 = some m.cls := findClass_of_methodNamed B9.named
  have S : CallFix p m c cX0_checkIndex 2 s _ wsX0_checkIndex RX0 := ⟨hx, hb, hml, hown, hts⟩
  have hl := lv_entry ([.int (x), .int (nI n)]) (n := 2) (Nat.le_of_ble_eq_true rfl)
  rw [lg_entry_eq]
  generalize (lg_sl ([.int (x), .int (nI n)]) ++ List.replicate (2 - (lg_sl ([.int (x), .int (nI n)])).length) Slot.unset).toArray = ls at hl ⊢
  have hl : lv_has ls 2 [(0, .int (x)), (1, .int (nI n))] := hl
  refine lv_iload_n hx hb dX0_checkIndex_0 rfl (lv_at hl 0 rfl) ?_
  refine lv_if_lt (tgt := 9) hx hb dX0_checkIndex_1 (by decide) (fun c_1 => ?_) (fun c_1 => ?_)
  · skip
    exact sa_throwS (own := RX0) (cls := sa_E1) (text := sa_T1) (names := ["java/lang/RuntimeException", "java/lang/Exception"]) (ik := 139) (is := 141) (ic := 143) (mc := 1) (ms := 6) (A := fun q => lo ≤ q) hx hb hst hown (by decide +kernel) (by decide +kernel) (hts (.classLink RX0 139 sa_E1) (by decide +kernel)) (hts (.initialized sa_E1) (by decide +kernel)) hs1
      (vx_hat (B := [.castable sa_E1 sa_E1, .declares (Bundle.initS "java/lang/RuntimeException"), .declares (Bundle.initS "java/lang/Exception"), .declares (Bundle.initS Bundle.tN)]) (fun w hw => hts w (by unfold wsX0_checkIndex; exact List.mem_cons_of_mem _ (List.mem_append_right _ hw))) (by decide +kernel) (vx_c (va_Nw.use rfl hc1) (vx_c (va_Nw.use rfl hd1) (vx_c (va_Nw.use rfl hd2) (vx_c (va_Nw.use rfl hd3) vx_n))))) (by decide +kernel) hU hN va_S.rf (hl.1.trans hml.symm) dX0_checkIndex_9 dX0_checkIndex_12 dX0_checkIndex_13 dX0_checkIndex_15 dX0_checkIndex_18 (fun x hx => (htab x hx).elim) (Nat.le_of_ble_eq_true rfl) (Nat.le_of_ble_eq_true rfl) (Nat.le_of_ble_eq_true rfl) (Nat.le_of_ble_eq_true rfl) hlk (fun t _ hz hq => ⟨rfl, hz, hq⟩) (fun _ h => nomatch h) (Nat.le_refl _) (Nat.le_refl _)
  · skip
    refine lv_iload_n hx hb dX0_checkIndex_4 rfl (lv_at hl 0 rfl) ?_
    refine lv_iload_n hx hb dX0_checkIndex_5 rfl (lv_at hl 1 rfl) ?_
    refine lv_icmp_lt (tgt := 19) hx hb dX0_checkIndex_6 (by decide) (fun c_6 => ?_) (fun c_6 => ?_)
    · skip
      exact (h (by simp [sa_in, c_1, c_6])).elim
    · skip
      exact sa_throwS (own := RX0) (cls := sa_E1) (text := sa_T1) (names := ["java/lang/RuntimeException", "java/lang/Exception"]) (ik := 139) (is := 141) (ic := 143) (mc := 1) (ms := 6) (A := fun q => lo ≤ q) hx hb hst hown (by decide +kernel) (by decide +kernel) (hts (.classLink RX0 139 sa_E1) (by decide +kernel)) (hts (.initialized sa_E1) (by decide +kernel)) hs1
        (vx_hat (B := [.castable sa_E1 sa_E1, .declares (Bundle.initS "java/lang/RuntimeException"), .declares (Bundle.initS "java/lang/Exception"), .declares (Bundle.initS Bundle.tN)]) (fun w hw => hts w (by unfold wsX0_checkIndex; exact List.mem_cons_of_mem _ (List.mem_append_right _ hw))) (by decide +kernel) (vx_c (va_Nw.use rfl hc1) (vx_c (va_Nw.use rfl hd1) (vx_c (va_Nw.use rfl hd2) (vx_c (va_Nw.use rfl hd3) vx_n))))) (by decide +kernel) hU hN va_S.rf (hl.1.trans hml.symm) dX0_checkIndex_9 dX0_checkIndex_12 dX0_checkIndex_13 dX0_checkIndex_15 dX0_checkIndex_18 (fun x hx => (htab x hx).elim) (Nat.le_of_ble_eq_true rfl) (Nat.le_of_ble_eq_true rfl) (Nat.le_of_ble_eq_true rfl) (Nat.le_of_ble_eq_true rfl) hlk (fun t _ hz hq => ⟨rfl, hz, hq⟩) (fun _ h => nomatch h) (Nat.le_refl _) (Nat.le_refl _)

set_option maxHeartbeats 4000000 in
set_option maxRecDepth 100000 in
theorem c_X0_checkArgument_ok (l : Launch) (x : Int32) (h : ¬ x = 0) : sa_Ok l yX0_checkArgument wsX0_checkArgument ({ frames := 6, cells := 0, slots := 0, locals := 90 }) (fun _ => True) [.int (x)] := by
  refine Met.ofW (cc := cX0_checkArgument) (maxL := 1) (ret := none) (by decide) rfl ?_
  intro p e s m args below meth c s₁ B9 hml hv
  obtain ⟨rfl, -⟩ := hv
  have hx := B9.exec
  have hb := B9.bytes
  have hr := B9.returns
  have hlk := B9.notSynchronized
  have hts := atoms_spec (ws := wsX0_checkArgument) B9.pre
  have hown : s.vm.findClass RX0 = some m.cls := findClass_of_methodNamed B9.named
  have S : CallFix p m c cX0_checkArgument 1 s _ wsX0_checkArgument RX0 := ⟨hx, hb, hml, hown, hts⟩
  have hl := lv_entry ([.int (x)]) (n := 1) (Nat.le_of_ble_eq_true rfl)
  rw [lg_entry_eq]
  generalize (lg_sl ([.int (x)]) ++ List.replicate (1 - (lg_sl ([.int (x)])).length) Slot.unset).toArray = ls at hl ⊢
  have hl : lv_has ls 1 [(0, .int (x))] := hl
  refine lv_iload_n hx hb dX0_checkArgument_0 rfl (lv_at hl 0 rfl) ?_
  refine lv_if_ne (tgt := 14) hx hb dX0_checkArgument_1 (by decide) (fun _ => ?_) (fun c9 => absurd c9 h)
  exact W.vret hx hb hr (fun t9 ht _ => ⟨rfl, trivial, ht⟩) (fun _ h => nomatch h) dX0_checkArgument_14

set_option maxHeartbeats 4000000 in
set_option maxRecDepth 100000 in
theorem c_X0_checkArgument_ex (l : Launch) (lo : Nat) (hst : l.stackTraces = false) (x : Int32) (h : x = 0) : sa_Ex l yX0_checkArgument wsX0_checkArgument ({ frames := 6, cells := 1, slots := 6, locals := 90 }) (sa_Pt lo) [.int (x)] (fun E => E = sa_E2) := by
  refine vx_ofW (cc := cX0_checkArgument) (maxL := 1) (ret := none) (by decide) rfl ?_
  intro p e s m args below meth c s₁ B9 hml htab hv
  obtain ⟨rfl, hT⟩ := hv
  obtain ⟨hU, hN, ⟨b1, hs1⟩, ⟨b2, hs2⟩, ⟨b3, hs3⟩, hc1, hc2, hc3, hd1, hd2, hd3⟩ := id hT
  have hx := B9.exec
  have hb := B9.bytes
  have hr := B9.returns
  have hlk := B9.notSynchronized
  have hts := atoms_spec (ws := wsX0_checkArgument) B9.pre
  have hown : s.vm.findClass RX0 = some m.cls := findClass_of_methodNamed B9.named
  have S : CallFix p m c cX0_checkArgument 1 s _ wsX0_checkArgument RX0 := ⟨hx, hb, hml, hown, hts⟩
  have hl := lv_entry ([.int (x)]) (n := 1) (Nat.le_of_ble_eq_true rfl)
  rw [lg_entry_eq]
  generalize (lg_sl ([.int (x)]) ++ List.replicate (1 - (lg_sl ([.int (x)])).length) Slot.unset).toArray = ls at hl ⊢
  have hl : lv_has ls 1 [(0, .int (x))] := hl
  refine lv_iload_n hx hb dX0_checkArgument_0 rfl (lv_at hl 0 rfl) ?_
  refine lv_if_ne (tgt := 14) hx hb dX0_checkArgument_1 (by decide) (fun c9 => absurd h c9) (fun _ => ?_)
  exact sa_throwS (own := RX0) (cls := sa_E2) (text := sa_T2) (names := ["java/lang/RuntimeException", "java/lang/Exception"]) (ik := 146) (is := 148) (ic := 150) (mc := 1) (ms := 6) (A := fun q => lo ≤ q) hx hb hst hown (by decide +kernel) (by decide +kernel) (hts (.classLink RX0 146 sa_E2) (by decide +kernel)) (hts (.initialized sa_E2) (by decide +kernel)) hs2
    (vx_hat (B := [.castable sa_E2 sa_E2, .declares (Bundle.initS "java/lang/RuntimeException"), .declares (Bundle.initS "java/lang/Exception"), .declares (Bundle.initS Bundle.tN)]) (fun w hw => hts w (by unfold wsX0_checkArgument; exact List.mem_cons_of_mem _ (List.mem_append_right _ hw))) (by decide +kernel) (vx_c (va_Nw.use rfl hc2) (vx_c (va_Nw.use rfl hd1) (vx_c (va_Nw.use rfl hd2) (vx_c (va_Nw.use rfl hd3) vx_n))))) (by decide +kernel) hU hN va_S.rf (hl.1.trans hml.symm) dX0_checkArgument_4 dX0_checkArgument_7 dX0_checkArgument_8 dX0_checkArgument_10 dX0_checkArgument_13 (fun x hx => (htab x hx).elim) (Nat.le_of_ble_eq_true rfl) (Nat.le_of_ble_eq_true rfl) (Nat.le_of_ble_eq_true rfl) (Nat.le_of_ble_eq_true rfl) hlk (fun t _ hz hq => ⟨rfl, hz, hq⟩) (fun _ h => nomatch h) (Nat.le_refl _) (Nat.le_refl _)

set_option maxHeartbeats 4000000 in
set_option maxRecDepth 100000 in
theorem c_X0_checkState_ok (l : Launch) (x : Int32) (h : ¬ x = 0) : sa_Ok l yX0_checkState wsX0_checkState ({ frames := 6, cells := 0, slots := 0, locals := 90 }) (fun _ => True) [.int (x)] := by
  refine Met.ofW (cc := cX0_checkState) (maxL := 1) (ret := none) (by decide) rfl ?_
  intro p e s m args below meth c s₁ B9 hml hv
  obtain ⟨rfl, -⟩ := hv
  have hx := B9.exec
  have hb := B9.bytes
  have hr := B9.returns
  have hlk := B9.notSynchronized
  have hts := atoms_spec (ws := wsX0_checkState) B9.pre
  have hown : s.vm.findClass RX0 = some m.cls := findClass_of_methodNamed B9.named
  have S : CallFix p m c cX0_checkState 1 s _ wsX0_checkState RX0 := ⟨hx, hb, hml, hown, hts⟩
  have hl := lv_entry ([.int (x)]) (n := 1) (Nat.le_of_ble_eq_true rfl)
  rw [lg_entry_eq]
  generalize (lg_sl ([.int (x)]) ++ List.replicate (1 - (lg_sl ([.int (x)])).length) Slot.unset).toArray = ls at hl ⊢
  have hl : lv_has ls 1 [(0, .int (x))] := hl
  refine lv_iload_n hx hb dX0_checkState_0 rfl (lv_at hl 0 rfl) ?_
  refine lv_if_ne (tgt := 14) hx hb dX0_checkState_1 (by decide) (fun _ => ?_) (fun c9 => absurd c9 h)
  exact W.vret hx hb hr (fun t9 ht _ => ⟨rfl, trivial, ht⟩) (fun _ h => nomatch h) dX0_checkState_14

set_option maxHeartbeats 4000000 in
set_option maxRecDepth 100000 in
theorem c_X0_checkState_ex (l : Launch) (lo : Nat) (hst : l.stackTraces = false) (x : Int32) (h : x = 0) : sa_Ex l yX0_checkState wsX0_checkState ({ frames := 6, cells := 1, slots := 6, locals := 90 }) (sa_Pt lo) [.int (x)] (fun E => E = sa_E3) := by
  refine vx_ofW (cc := cX0_checkState) (maxL := 1) (ret := none) (by decide) rfl ?_
  intro p e s m args below meth c s₁ B9 hml htab hv
  obtain ⟨rfl, hT⟩ := hv
  obtain ⟨hU, hN, ⟨b1, hs1⟩, ⟨b2, hs2⟩, ⟨b3, hs3⟩, hc1, hc2, hc3, hd1, hd2, hd3⟩ := id hT
  have hx := B9.exec
  have hb := B9.bytes
  have hr := B9.returns
  have hlk := B9.notSynchronized
  have hts := atoms_spec (ws := wsX0_checkState) B9.pre
  have hown : s.vm.findClass RX0 = some m.cls := findClass_of_methodNamed B9.named
  have S : CallFix p m c cX0_checkState 1 s _ wsX0_checkState RX0 := ⟨hx, hb, hml, hown, hts⟩
  have hl := lv_entry ([.int (x)]) (n := 1) (Nat.le_of_ble_eq_true rfl)
  rw [lg_entry_eq]
  generalize (lg_sl ([.int (x)]) ++ List.replicate (1 - (lg_sl ([.int (x)])).length) Slot.unset).toArray = ls at hl ⊢
  have hl : lv_has ls 1 [(0, .int (x))] := hl
  refine lv_iload_n hx hb dX0_checkState_0 rfl (lv_at hl 0 rfl) ?_
  refine lv_if_ne (tgt := 14) hx hb dX0_checkState_1 (by decide) (fun c9 => absurd h c9) (fun _ => ?_)
  exact sa_throwS (own := RX0) (cls := sa_E3) (text := sa_T3) (names := ["java/lang/RuntimeException", "java/lang/Exception"]) (ik := 151) (is := 153) (ic := 155) (mc := 1) (ms := 6) (A := fun q => lo ≤ q) hx hb hst hown (by decide +kernel) (by decide +kernel) (hts (.classLink RX0 151 sa_E3) (by decide +kernel)) (hts (.initialized sa_E3) (by decide +kernel)) hs3
    (vx_hat (B := [.castable sa_E3 sa_E3, .declares (Bundle.initS "java/lang/RuntimeException"), .declares (Bundle.initS "java/lang/Exception"), .declares (Bundle.initS Bundle.tN)]) (fun w hw => hts w (by unfold wsX0_checkState; exact List.mem_cons_of_mem _ (List.mem_append_right _ hw))) (by decide +kernel) (vx_c (va_Nw.use rfl hc3) (vx_c (va_Nw.use rfl hd1) (vx_c (va_Nw.use rfl hd2) (vx_c (va_Nw.use rfl hd3) vx_n))))) (by decide +kernel) hU hN va_S.rf (hl.1.trans hml.symm) dX0_checkState_4 dX0_checkState_7 dX0_checkState_8 dX0_checkState_10 dX0_checkState_13 (fun x hx => (htab x hx).elim) (Nat.le_of_ble_eq_true rfl) (Nat.le_of_ble_eq_true rfl) (Nat.le_of_ble_eq_true rfl) (Nat.le_of_ble_eq_true rfl) hlk (fun t _ hz hq => ⟨rfl, hz, hq⟩) (fun _ h => nomatch h) (Nat.le_refl _) (Nat.le_refl _)

set_option maxHeartbeats 4000000 in
set_option maxRecDepth 100000 in
theorem c_X0_checkBreak_ok (l : Launch) (G : va_G) (cI cZ cL : ClassId) (a : Nat → Nat) (σ : sa_St) (hI : sa_I σ) (x : Int32) (h : sa_in x (σ.1 0)) : sa_Ok l yX0_checkBreak wsX0_checkBreak ({ frames := 7, cells := 0, slots := 0, locals := 111 }) (sa_Pw G cI cZ cL (sa_W0 cI cZ a σ)) [.ref (a 0), .int (x)] := by
  obtain ⟨hnb, hno, hns, hgr, hor, hbr, hai⟩ := id hI
  refine Met.ofW (cc := cX0_checkBreak) (maxL := 2) (ret := none) (by decide) rfl ?_
  intro p e s m args below meth c s₁ B9 hml hv
  obtain ⟨rfl, hP, hK⟩ := hv
  have hx := B9.exec
  have hb := B9.bytes
  have hr := B9.returns
  have hlk := B9.notSynchronized
  have hts := atoms_spec (ws := wsX0_checkBreak) B9.pre
  have hown : s.vm.findClass RX0 = some m.cls := findClass_of_methodNamed B9.named
  have S : CallFix p m c cX0_checkBreak 2 s _ wsX0_checkBreak RX0 := ⟨hx, hb, hml, hown, hts⟩
  have hin : ∀ w ∈ wsX00, w ∈ wsX0_checkBreak := by decide +kernel
  have hl := lv_entry ([.ref (a 0), .int (x)]) (n := 2) (Nat.le_of_ble_eq_true rfl)
  rw [lg_entry_eq]
  generalize (lg_sl ([.ref (a 0), .int (x)]) ++ List.replicate (2 - (lg_sl ([.ref (a 0), .int (x)])).length) Slot.unset).toArray = ls at hl ⊢
  have hl : lv_has ls 2 [(0, .ref (a 0)), (1, .int (x))] := hl
  refine lv_iload_n hx hb dX0_checkBreak_0 rfl (lv_at hl 1 rfl) ?_
  refine lv_aload_n hx hb dX0_checkBreak_1 rfl (lv_at hl 0 rfl) ?_
  refine sa_g0_breakCount S hin hK hP (by decide +kernel) dX0_checkBreak_2 ?_
  refine sa_kOkS (As := [.int (x), .int (nI (σ.1 0))]) (rest := []) S (c_X0_checkIndex_ok l x (σ.1 0) h) (va_cwS 2 hts gX0_checkBreak_X0_checkIndex rfl rfl rfl (by decide +kernel) ⟨Nat.le_of_ble_eq_true rfl, Nat.le_of_ble_eq_true rfl⟩) rfl hl.1 (Nat.le_of_ble_eq_true rfl) rfl dX0_checkBreak_5 ⟨Nat.zero_le _, Nat.zero_le _⟩ ?_
  exact W.vret hx hb hr (fun t9 ht _ => ⟨rfl, trivial, ht⟩) (fun _ h => nomatch h) dX0_checkBreak_8

set_option maxHeartbeats 4000000 in
set_option maxRecDepth 100000 in
theorem c_X0_checkBreak_ex (l : Launch) (lo : Nat) (hst : l.stackTraces = false) (G : va_G) (cI cZ cL : ClassId) (a : Nat → Nat) (σ : sa_St) (hI : sa_I σ) (x : Int32) (h : ¬ sa_in x (σ.1 0)) : sa_Ex l yX0_checkBreak wsX0_checkBreak ({ frames := 7, cells := 1, slots := 6, locals := 111 }) (sa_Px lo G cI cZ cL (sa_W0 cI cZ a σ)) [.ref (a 0), .int (x)] (fun E => E = sa_E1) := by
  obtain ⟨hnb, hno, hns, hgr, hor, hbr, hai⟩ := id hI
  refine vx_ofW (cc := cX0_checkBreak) (maxL := 2) (ret := none) (by decide) rfl ?_
  intro p e s m args below meth c s₁ B9 hml htab hv
  obtain ⟨rfl, ⟨hP, hK⟩, hT⟩ := hv
  have hx := B9.exec
  have hb := B9.bytes
  have hr := B9.returns
  have hlk := B9.notSynchronized
  have hts := atoms_spec (ws := wsX0_checkBreak) B9.pre
  have hown : s.vm.findClass RX0 = some m.cls := findClass_of_methodNamed B9.named
  have S : CallFix p m c cX0_checkBreak 2 s _ wsX0_checkBreak RX0 := ⟨hx, hb, hml, hown, hts⟩
  have hin : ∀ w ∈ wsX00, w ∈ wsX0_checkBreak := by decide +kernel
  have hl := lv_entry ([.ref (a 0), .int (x)]) (n := 2) (Nat.le_of_ble_eq_true rfl)
  rw [lg_entry_eq]
  generalize (lg_sl ([.ref (a 0), .int (x)]) ++ List.replicate (2 - (lg_sl ([.ref (a 0), .int (x)])).length) Slot.unset).toArray = ls at hl ⊢
  have hl : lv_has ls 2 [(0, .ref (a 0)), (1, .int (x))] := hl
  refine lv_iload_n hx hb dX0_checkBreak_0 rfl (lv_at hl 1 rfl) ?_
  refine lv_aload_n hx hb dX0_checkBreak_1 rfl (lv_at hl 0 rfl) ?_
  refine sa_g0_breakCount S hin hK hP (by decide +kernel) dX0_checkBreak_2 ?_
  exact sa_kExS (As := [.int (x), .int (nI (σ.1 0))]) (rest := []) S (c_X0_checkIndex_ex l lo hst x (σ.1 0) h) (va_cwS 2 hts gX0_checkBreak_X0_checkIndex rfl rfl rfl (by decide +kernel) ⟨Nat.le_of_ble_eq_true rfl, Nat.le_of_ble_eq_true rfl⟩) hT htab hlk (fun _ h => h) rfl hl.1 (Nat.le_of_ble_eq_true rfl) rfl dX0_checkBreak_5 ⟨Nat.le_refl _, Nat.le_refl _⟩

set_option maxHeartbeats 4000000 in
set_option maxRecDepth 100000 in
theorem c_X0_checkOrder_ok (l : Launch) (G : va_G) (cI cZ cL : ClassId) (a : Nat → Nat) (σ : sa_St) (hI : sa_I σ) (x : Int32) (h : sa_in x (σ.1 1)) : sa_Ok l yX0_checkOrder wsX0_checkOrder ({ frames := 7, cells := 0, slots := 0, locals := 111 }) (sa_Pw G cI cZ cL (sa_W0 cI cZ a σ)) [.ref (a 0), .int (x)] := by
  obtain ⟨hnb, hno, hns, hgr, hor, hbr, hai⟩ := id hI
  refine Met.ofW (cc := cX0_checkOrder) (maxL := 2) (ret := none) (by decide) rfl ?_
  intro p e s m args below meth c s₁ B9 hml hv
  obtain ⟨rfl, hP, hK⟩ := hv
  have hx := B9.exec
  have hb := B9.bytes
  have hr := B9.returns
  have hlk := B9.notSynchronized
  have hts := atoms_spec (ws := wsX0_checkOrder) B9.pre
  have hown : s.vm.findClass RX0 = some m.cls := findClass_of_methodNamed B9.named
  have S : CallFix p m c cX0_checkOrder 2 s _ wsX0_checkOrder RX0 := ⟨hx, hb, hml, hown, hts⟩
  have hin : ∀ w ∈ wsX00, w ∈ wsX0_checkOrder := by decide +kernel
  have hl := lv_entry ([.ref (a 0), .int (x)]) (n := 2) (Nat.le_of_ble_eq_true rfl)
  rw [lg_entry_eq]
  generalize (lg_sl ([.ref (a 0), .int (x)]) ++ List.replicate (2 - (lg_sl ([.ref (a 0), .int (x)])).length) Slot.unset).toArray = ls at hl ⊢
  have hl : lv_has ls 2 [(0, .ref (a 0)), (1, .int (x))] := hl
  refine lv_iload_n hx hb dX0_checkOrder_0 rfl (lv_at hl 1 rfl) ?_
  refine lv_aload_n hx hb dX0_checkOrder_1 rfl (lv_at hl 0 rfl) ?_
  refine sa_g0_orderCount S hin hK hP (by decide +kernel) dX0_checkOrder_2 ?_
  refine sa_kOkS (As := [.int (x), .int (nI (σ.1 1))]) (rest := []) S (c_X0_checkIndex_ok l x (σ.1 1) h) (va_cwS 2 hts gX0_checkOrder_X0_checkIndex rfl rfl rfl (by decide +kernel) ⟨Nat.le_of_ble_eq_true rfl, Nat.le_of_ble_eq_true rfl⟩) rfl hl.1 (Nat.le_of_ble_eq_true rfl) rfl dX0_checkOrder_5 ⟨Nat.zero_le _, Nat.zero_le _⟩ ?_
  exact W.vret hx hb hr (fun t9 ht _ => ⟨rfl, trivial, ht⟩) (fun _ h => nomatch h) dX0_checkOrder_8

set_option maxHeartbeats 4000000 in
set_option maxRecDepth 100000 in
theorem c_X0_checkOrder_ex (l : Launch) (lo : Nat) (hst : l.stackTraces = false) (G : va_G) (cI cZ cL : ClassId) (a : Nat → Nat) (σ : sa_St) (hI : sa_I σ) (x : Int32) (h : ¬ sa_in x (σ.1 1)) : sa_Ex l yX0_checkOrder wsX0_checkOrder ({ frames := 7, cells := 1, slots := 6, locals := 111 }) (sa_Px lo G cI cZ cL (sa_W0 cI cZ a σ)) [.ref (a 0), .int (x)] (fun E => E = sa_E1) := by
  obtain ⟨hnb, hno, hns, hgr, hor, hbr, hai⟩ := id hI
  refine vx_ofW (cc := cX0_checkOrder) (maxL := 2) (ret := none) (by decide) rfl ?_
  intro p e s m args below meth c s₁ B9 hml htab hv
  obtain ⟨rfl, ⟨hP, hK⟩, hT⟩ := hv
  have hx := B9.exec
  have hb := B9.bytes
  have hr := B9.returns
  have hlk := B9.notSynchronized
  have hts := atoms_spec (ws := wsX0_checkOrder) B9.pre
  have hown : s.vm.findClass RX0 = some m.cls := findClass_of_methodNamed B9.named
  have S : CallFix p m c cX0_checkOrder 2 s _ wsX0_checkOrder RX0 := ⟨hx, hb, hml, hown, hts⟩
  have hin : ∀ w ∈ wsX00, w ∈ wsX0_checkOrder := by decide +kernel
  have hl := lv_entry ([.ref (a 0), .int (x)]) (n := 2) (Nat.le_of_ble_eq_true rfl)
  rw [lg_entry_eq]
  generalize (lg_sl ([.ref (a 0), .int (x)]) ++ List.replicate (2 - (lg_sl ([.ref (a 0), .int (x)])).length) Slot.unset).toArray = ls at hl ⊢
  have hl : lv_has ls 2 [(0, .ref (a 0)), (1, .int (x))] := hl
  refine lv_iload_n hx hb dX0_checkOrder_0 rfl (lv_at hl 1 rfl) ?_
  refine lv_aload_n hx hb dX0_checkOrder_1 rfl (lv_at hl 0 rfl) ?_
  refine sa_g0_orderCount S hin hK hP (by decide +kernel) dX0_checkOrder_2 ?_
  exact sa_kExS (As := [.int (x), .int (nI (σ.1 1))]) (rest := []) S (c_X0_checkIndex_ex l lo hst x (σ.1 1) h) (va_cwS 2 hts gX0_checkOrder_X0_checkIndex rfl rfl rfl (by decide +kernel) ⟨Nat.le_of_ble_eq_true rfl, Nat.le_of_ble_eq_true rfl⟩) hT htab hlk (fun _ h => h) rfl hl.1 (Nat.le_of_ble_eq_true rfl) rfl dX0_checkOrder_5 ⟨Nat.le_refl _, Nat.le_refl _⟩

set_option maxHeartbeats 4000000 in
set_option maxRecDepth 100000 in
theorem c_X0_checkSpot_ok (l : Launch) (G : va_G) (cI cZ cL : ClassId) (a : Nat → Nat) (σ : sa_St) (hI : sa_I σ) (x : Int32) (h : sa_in x (σ.1 2)) : sa_Ok l yX0_checkSpot wsX0_checkSpot ({ frames := 7, cells := 0, slots := 0, locals := 111 }) (sa_Pw G cI cZ cL (sa_W0 cI cZ a σ)) [.ref (a 0), .int (x)] := by
  obtain ⟨hnb, hno, hns, hgr, hor, hbr, hai⟩ := id hI
  refine Met.ofW (cc := cX0_checkSpot) (maxL := 2) (ret := none) (by decide) rfl ?_
  intro p e s m args below meth c s₁ B9 hml hv
  obtain ⟨rfl, hP, hK⟩ := hv
  have hx := B9.exec
  have hb := B9.bytes
  have hr := B9.returns
  have hlk := B9.notSynchronized
  have hts := atoms_spec (ws := wsX0_checkSpot) B9.pre
  have hown : s.vm.findClass RX0 = some m.cls := findClass_of_methodNamed B9.named
  have S : CallFix p m c cX0_checkSpot 2 s _ wsX0_checkSpot RX0 := ⟨hx, hb, hml, hown, hts⟩
  have hin : ∀ w ∈ wsX00, w ∈ wsX0_checkSpot := by decide +kernel
  have hl := lv_entry ([.ref (a 0), .int (x)]) (n := 2) (Nat.le_of_ble_eq_true rfl)
  rw [lg_entry_eq]
  generalize (lg_sl ([.ref (a 0), .int (x)]) ++ List.replicate (2 - (lg_sl ([.ref (a 0), .int (x)])).length) Slot.unset).toArray = ls at hl ⊢
  have hl : lv_has ls 2 [(0, .ref (a 0)), (1, .int (x))] := hl
  refine lv_iload_n hx hb dX0_checkSpot_0 rfl (lv_at hl 1 rfl) ?_
  refine lv_aload_n hx hb dX0_checkSpot_1 rfl (lv_at hl 0 rfl) ?_
  refine sa_g0_spotCount S hin hK hP (by decide +kernel) dX0_checkSpot_2 ?_
  refine sa_kOkS (As := [.int (x), .int (nI (σ.1 2))]) (rest := []) S (c_X0_checkIndex_ok l x (σ.1 2) h) (va_cwS 2 hts gX0_checkSpot_X0_checkIndex rfl rfl rfl (by decide +kernel) ⟨Nat.le_of_ble_eq_true rfl, Nat.le_of_ble_eq_true rfl⟩) rfl hl.1 (Nat.le_of_ble_eq_true rfl) rfl dX0_checkSpot_5 ⟨Nat.zero_le _, Nat.zero_le _⟩ ?_
  exact W.vret hx hb hr (fun t9 ht _ => ⟨rfl, trivial, ht⟩) (fun _ h => nomatch h) dX0_checkSpot_8

set_option maxHeartbeats 4000000 in
set_option maxRecDepth 100000 in
theorem c_X0_checkSpot_ex (l : Launch) (lo : Nat) (hst : l.stackTraces = false) (G : va_G) (cI cZ cL : ClassId) (a : Nat → Nat) (σ : sa_St) (hI : sa_I σ) (x : Int32) (h : ¬ sa_in x (σ.1 2)) : sa_Ex l yX0_checkSpot wsX0_checkSpot ({ frames := 7, cells := 1, slots := 6, locals := 111 }) (sa_Px lo G cI cZ cL (sa_W0 cI cZ a σ)) [.ref (a 0), .int (x)] (fun E => E = sa_E1) := by
  obtain ⟨hnb, hno, hns, hgr, hor, hbr, hai⟩ := id hI
  refine vx_ofW (cc := cX0_checkSpot) (maxL := 2) (ret := none) (by decide) rfl ?_
  intro p e s m args below meth c s₁ B9 hml htab hv
  obtain ⟨rfl, ⟨hP, hK⟩, hT⟩ := hv
  have hx := B9.exec
  have hb := B9.bytes
  have hr := B9.returns
  have hlk := B9.notSynchronized
  have hts := atoms_spec (ws := wsX0_checkSpot) B9.pre
  have hown : s.vm.findClass RX0 = some m.cls := findClass_of_methodNamed B9.named
  have S : CallFix p m c cX0_checkSpot 2 s _ wsX0_checkSpot RX0 := ⟨hx, hb, hml, hown, hts⟩
  have hin : ∀ w ∈ wsX00, w ∈ wsX0_checkSpot := by decide +kernel
  have hl := lv_entry ([.ref (a 0), .int (x)]) (n := 2) (Nat.le_of_ble_eq_true rfl)
  rw [lg_entry_eq]
  generalize (lg_sl ([.ref (a 0), .int (x)]) ++ List.replicate (2 - (lg_sl ([.ref (a 0), .int (x)])).length) Slot.unset).toArray = ls at hl ⊢
  have hl : lv_has ls 2 [(0, .ref (a 0)), (1, .int (x))] := hl
  refine lv_iload_n hx hb dX0_checkSpot_0 rfl (lv_at hl 1 rfl) ?_
  refine lv_aload_n hx hb dX0_checkSpot_1 rfl (lv_at hl 0 rfl) ?_
  refine sa_g0_spotCount S hin hK hP (by decide +kernel) dX0_checkSpot_2 ?_
  exact sa_kExS (As := [.int (x), .int (nI (σ.1 2))]) (rest := []) S (c_X0_checkIndex_ex l lo hst x (σ.1 2) h) (va_cwS 2 hts gX0_checkSpot_X0_checkIndex rfl rfl rfl (by decide +kernel) ⟨Nat.le_of_ble_eq_true rfl, Nat.le_of_ble_eq_true rfl⟩) hT htab hlk (fun _ h => h) rfl hl.1 (Nat.le_of_ble_eq_true rfl) rfl dX0_checkSpot_5 ⟨Nat.le_refl _, Nat.le_refl _⟩
