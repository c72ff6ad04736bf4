set_option maxHeartbeats 4000000 in
set_option maxRecDepth 100000 in
theorem c_X0_addSpot (l : Launch) (G : va_G) (cI cZ cL : ClassId) (a : Nat → Nat) (σ : sa_St) (hI : sa_I σ) (hJ : sa_J a) (hs : σ.1 2 < 150) (o at' fr : Int32) (hfr : fr = 0 ∨ fr = 1) : sa_Wr l yX0_addSpot wsX0_addSpot ({ frames := 0, cells := 0, slots := 0, locals := 0 }) G cI cZ cL (sa_W0 cI cZ a σ) (sa_W0 cI cZ a (sa_add σ o at' fr)) (sa_A a) [.ref (a 0), .int (o), .int (at'), .int (fr)] (nI (σ.1 2)) := by
  obtain ⟨hnb, hno, hns, hgr, hor, hbr, hai⟩ := id hI
  refine Met.ofW (cc := cX0_addSpot) (maxL := 5) (ret := (some .int)) (by decide) rfl ?_
  intro p e s m args below meth c s₁ B9 hml hv
  obtain ⟨rfl, hP, hK⟩ := hv
  have hx := B9.exec
  have hb := B9.bytes
  have hr := B9.returns
  have hlk := B9.notSynchronized
  have hts := atoms_spec (ws := wsX0_addSpot) B9.pre
  have hown : s.vm.findClass RX0 = some m.cls := findClass_of_methodNamed B9.named
  have S : CallFix p m c cX0_addSpot 5 s _ wsX0_addSpot RX0 := ⟨hx, hb, hml, hown, hts⟩
  have hin : ∀ w ∈ wsX00, w ∈ wsX0_addSpot := by decide +kernel
  have hS : va_S (sa_A a) s.heap s.heap [] := va_S.rf
  have hl := lv_entry ([.ref (a 0), .int (o), .int (at'), .int (fr)]) (n := 5) (Nat.le_of_ble_eq_true rfl)
  rw [lg_entry_eq]
  generalize (lg_sl ([.ref (a 0), .int (o), .int (at'), .int (fr)]) ++ List.replicate (5 - (lg_sl ([.ref (a 0), .int (o), .int (at'), .int (fr)])).length) Slot.unset).toArray = ls at hl ⊢
  have hl : lv_has ls 5 [(0, .ref (a 0)), (1, .int (o)), (2, .int (at')), (3, .int (fr))] := hl
  refine lv_aload_n hx hb dX0_addSpot_0 rfl (lv_at hl 0 rfl) ?_
  refine sa_g0_spotCount S hin hK hP (by decide +kernel) dX0_addSpot_1 ?_
  refine lv_istore (lv' := [(4, .int (nI (σ.1 2))), (0, .ref (a 0)), (1, .int (o)), (2, .int (at')), (3, .int (fr))]) hx hb dX0_addSpot_4 hl (by decide) rfl (fun ls hl => ?_)
  refine lv_aload_n hx hb dX0_addSpot_6 rfl (lv_at hl 1 rfl) ?_
  refine sa_g0_spotOrder S hin hK hP (by decide +kernel) dX0_addSpot_7 ?_
  refine lv_iload hx hb dX0_addSpot_10 (lv_at hl 0 rfl) ?_
  refine lv_iload_n hx hb dX0_addSpot_12 rfl (lv_at hl 2 rfl) ?_
  refine sa_stk (ws' := (sa_W0 cI cZ a (sa_f σ 12 (upd (σ.2 12) (σ.1 2) o)))) 12 S hK hP (sa_D0 hJ) hS rfl (by omega) (by decide) rfl dX0_addSpot_13 (fun H locs hP hS => ?_)
  refine lv_aload_n hx hb dX0_addSpot_14 rfl (lv_at hl 1 rfl) ?_
  refine sa_g0_spotBreak S hin hK hP (by decide +kernel) dX0_addSpot_15 ?_
  refine lv_iload hx hb dX0_addSpot_18 (lv_at hl 0 rfl) ?_
  refine lv_iload_n hx hb dX0_addSpot_20 rfl (lv_at hl 3 rfl) ?_
  refine sa_stk (ws' := (sa_W0 cI cZ a (sa_f (sa_f σ 12 (upd (σ.2 12) (σ.1 2) o)) 13 (upd (σ.2 13) (σ.1 2) at')))) 13 S hK hP (sa_D0 hJ) hS rfl (by omega) (by decide) rfl dX0_addSpot_21 (fun H locs hP hS => ?_)
  refine lv_aload_n hx hb dX0_addSpot_22 rfl (lv_at hl 1 rfl) ?_
  refine sa_g0_spotState S hin hK hP (by decide +kernel) dX0_addSpot_23 ?_
  refine lv_iload hx hb dX0_addSpot_26 (lv_at hl 0 rfl) ?_
  refine lv_iconst (v := 0) hx hb dX0_addSpot_28 (by decide) ?_
  refine sa_stk (ws' := (sa_W0 cI cZ a (sa_f (sa_f (sa_f σ 12 (upd (σ.2 12) (σ.1 2) o)) 13 (upd (σ.2 13) (σ.1 2) at')) 14 (upd (σ.2 14) (σ.1 2) 0)))) 14 S hK hP (sa_D0 hJ) hS rfl (by omega) (by decide) rfl dX0_addSpot_29 (fun H locs hP hS => ?_)
  refine lv_aload_n hx hb dX0_addSpot_30 rfl (lv_at hl 1 rfl) ?_
  refine sa_g0_spotFree S hin hK hP (by decide +kernel) dX0_addSpot_31 ?_
  refine lv_iload hx hb dX0_addSpot_34 (lv_at hl 0 rfl) ?_
  refine lv_iload_n hx hb dX0_addSpot_36 rfl (lv_at hl 4 rfl) ?_
  refine sa_stzk (ws' := (sa_W0 cI cZ a (sa_f (sa_f (sa_f (sa_f σ 12 (upd (σ.2 12) (σ.1 2) o)) 13 (upd (σ.2 13) (σ.1 2) at')) 14 (upd (σ.2 14) (σ.1 2) 0)) 15 (upd (σ.2 15) (σ.1 2) fr)))) 15 S hK hP (sa_D0 hJ) hS rfl (by omega) (by decide) (sa_nrb hfr) rfl dX0_addSpot_37 (fun H locs hP hS => ?_)
  refine lv_aload_n hx hb dX0_addSpot_38 rfl (lv_at hl 1 rfl) ?_
  refine lv_dup hx hb dX0_addSpot_39 rfl ?_
  refine sa_g0_spotCount S hin hK hP (by decide +kernel) dX0_addSpot_40 ?_
  show W p l e _ s m _ below meth c _ _ _ _ _ (F0 m 43 ls [.int (nI (σ.1 2)), .ref (a 0)])
  refine lv_iconst (v := 1) hx hb dX0_addSpot_43 (by decide) ?_
  refine sa_iadd1 hx hb dX0_addSpot_44 ?_
  refine sa_p0_spotCount (v := σ.1 2 + 1) rfl S hin hK hP (sa_D0 hJ) hS (by decide +kernel) dX0_addSpot_45 (fun H locs hP hS => ?_)
  refine lv_iload hx hb dX0_addSpot_48 (lv_at hl 0 rfl) ?_
  exact W.iret (v := nI (σ.1 2)) hx hb hr (fun t9 ht _ => ⟨⟨_, (), rfl, rfl, by show va_P G vwCl (sa_W0 cI cZ a (sa_add σ o at' fr)) t9.heap; rw [ht]; exact hP⟩, hS.F ht⟩) hS.2.2 dX0_addSpot_50

set_option maxHeartbeats 4000000 in
set_option maxRecDepth 100000 in
theorem c_X0_addBreak_ok (l : Launch) (G : va_G) (cI cZ cL : ClassId) (a : Nat → Nat) (σ : sa_St) (hI : sa_I σ) (x : Int32) (hJ : sa_J a) (h1 : sa_w x 15 600) (h2 : nI (σ.1 0) < 24) : sa_Wr l yX0_addBreak wsX0_addBreak ({ frames := 7, cells := 0, slots := 0, locals := 110 }) G cI cZ cL (sa_W0 cI cZ a σ) (sa_W0 cI cZ a (sa_n (sa_f σ 1 (upd (σ.2 1) (σ.1 0) x)) 0 (σ.1 0 + 1))) (sa_A a) [.ref (a 0), .int (x)] (nI (σ.1 0)) := by
  obtain ⟨hnb, hno, hns, hgr, hor, hbr, hai⟩ := id hI
  refine Met.ofW (cc := cX0_addBreak) (maxL := 3) (ret := (some .int)) (by decide) rfl ?_
  intro p e s m args below meth c s₁ B9 hml hv
  obtain ⟨rfl, hP, hK⟩ := hv
  have hn9 : σ.1 0 < 24 := sa_ltN (by omega) (by decide) h2
  have hx := B9.exec
  have hb := B9.bytes
  have hr := B9.returns
  have hlk := B9.notSynchronized
  have hts := atoms_spec (ws := wsX0_addBreak) B9.pre
  have hown : s.vm.findClass RX0 = some m.cls := findClass_of_methodNamed B9.named
  have S : CallFix p m c cX0_addBreak 3 s _ wsX0_addBreak RX0 := ⟨hx, hb, hml, hown, hts⟩
  have hin : ∀ w ∈ wsX00, w ∈ wsX0_addBreak := by decide +kernel
  have hS : va_S (sa_A a) s.heap s.heap [] := va_S.rf
  have hl := lv_entry ([.ref (a 0), .int (x)]) (n := 3) (Nat.le_of_ble_eq_true rfl)
  rw [lg_entry_eq]
  generalize (lg_sl ([.ref (a 0), .int (x)]) ++ List.replicate (3 - (lg_sl ([.ref (a 0), .int (x)])).length) Slot.unset).toArray = ls at hl ⊢
  have hl : lv_has ls 3 [(0, .ref (a 0)), (1, .int (x))] := hl
  refine lv_iload_n hx hb dX0_addBreak_0 rfl (lv_at hl 1 rfl) ?_
  refine lv_bipush (v := 15) hx hb dX0_addBreak_1 (by decide) ?_
  refine lv_sipush (v := 600) hx hb dX0_addBreak_3 (by decide) ?_
  refine sa_kRs (As := [.int (x), .int (15), .int (600)]) (rest := []) S (c_X0_isWithin l x 15 600) (va_cwS 3 hts gX0_addBreak_X0_isWithin rfl rfl rfl (by decide +kernel) ⟨Nat.le_of_ble_eq_true rfl, Nat.le_of_ble_eq_true rfl⟩) rfl hl.1 (Nat.le_of_ble_eq_true rfl) rfl dX0_addBreak_6 ⟨Nat.zero_le _, Nat.zero_le _⟩ ?_
  refine sa_kOkS (As := [.int (sa_b (sa_w x 15 600))]) (rest := []) S (c_X0_checkArgument_ok l (sa_b (sa_w x 15 600)) (by rw [sa_bt (h1)]; decide)) (va_cwS 1 hts gX0_addBreak_X0_checkArgument rfl rfl rfl (by decide +kernel) ⟨Nat.le_of_ble_eq_true rfl, Nat.le_of_ble_eq_true rfl⟩) rfl hl.1 (Nat.le_of_ble_eq_true rfl) rfl dX0_addBreak_9 ⟨Nat.zero_le _, Nat.zero_le _⟩ ?_
  refine lv_aload_n hx hb dX0_addBreak_12 rfl (lv_at hl 0 rfl) ?_
  refine sa_g0_breakCount S hin hK hP (by decide +kernel) dX0_addBreak_13 ?_
  refine lv_bipush (v := 24) hx hb dX0_addBreak_16 (by decide) ?_
  refine lv_icmp_ge (tgt := 25) hx hb dX0_addBreak_18 (by decide) (fun c_18 => ?_) (fun c_18 => ?_)
  · skip
    have c_18 := Int32.not_lt.mpr c_18
    refine lv_iconst (v := 0) hx hb dX0_addBreak_25 (by decide) ?_
    exact absurd h2 (fun z9 => c_18 z9)
  · skip
    have c_18 := Int32.not_le.mp c_18
    refine lv_iconst (v := 1) hx hb dX0_addBreak_21 (by decide) ?_
    refine lv_goto (tgt := 26) hx hb dX0_addBreak_22 (by decide) ?_
    refine sa_kOkS (As := [.int (1)]) (rest := []) S (c_X0_checkState_ok l 1 (by decide)) (va_cwS 1 hts gX0_addBreak_X0_checkState rfl rfl rfl (by decide +kernel) ⟨Nat.le_of_ble_eq_true rfl, Nat.le_of_ble_eq_true rfl⟩) rfl hl.1 (Nat.le_of_ble_eq_true rfl) rfl dX0_addBreak_26 ⟨Nat.zero_le _, Nat.zero_le _⟩ ?_
    refine lv_aload_n hx hb dX0_addBreak_29 rfl (lv_at hl 0 rfl) ?_
    refine sa_g0_breakCount S hin hK hP (by decide +kernel) dX0_addBreak_30 ?_
    refine lv_istore_n (lv' := [(2, .int (nI (σ.1 0))), (0, .ref (a 0)), (1, .int (x))]) hx hb dX0_addBreak_33 rfl hl (by decide) rfl (fun ls hl => ?_)
    refine lv_aload_n hx hb dX0_addBreak_34 rfl (lv_at hl 1 rfl) ?_
    refine sa_g0_breakSeconds S hin hK hP (by decide +kernel) dX0_addBreak_35 ?_
    refine lv_iload_n hx hb dX0_addBreak_38 rfl (lv_at hl 0 rfl) ?_
    refine lv_iload_n hx hb dX0_addBreak_39 rfl (lv_at hl 2 rfl) ?_
    refine sa_stk (ws' := (sa_W0 cI cZ a (sa_f σ 1 (upd (σ.2 1) (σ.1 0) x)))) 1 S hK hP (sa_D0 hJ) hS rfl (by omega) (by decide) rfl dX0_addBreak_40 (fun H locs hP hS => ?_)
    refine lv_aload_n hx hb dX0_addBreak_41 rfl (lv_at hl 1 rfl) ?_
    refine lv_dup hx hb dX0_addBreak_42 rfl ?_
    refine sa_g0_breakCount S hin hK hP (by decide +kernel) dX0_addBreak_43 ?_
    show W p l e _ s m _ below meth c _ _ _ _ _ (F0 m 46 ls [.int (nI (σ.1 0)), .ref (a 0)])
    refine lv_iconst (v := 1) hx hb dX0_addBreak_46 (by decide) ?_
    refine sa_iadd1 hx hb dX0_addBreak_47 ?_
    refine sa_p0_breakCount (v := σ.1 0 + 1) rfl S hin hK hP (sa_D0 hJ) hS (by decide +kernel) dX0_addBreak_48 (fun H locs hP hS => ?_)
    refine lv_iload_n hx hb dX0_addBreak_51 rfl (lv_at hl 0 rfl) ?_
    exact W.iret (v := nI (σ.1 0)) hx hb hr (fun t9 ht _ => ⟨⟨_, (), rfl, rfl, by show va_P G vwCl (sa_W0 cI cZ a (sa_n (sa_f σ 1 (upd (σ.2 1) (σ.1 0) x)) 0 (σ.1 0 + 1))) t9.heap; rw [ht]; exact hP⟩, hS.F ht⟩) hS.2.2 dX0_addBreak_52

set_option maxHeartbeats 4000000 in
set_option maxRecDepth 100000 in
theorem c_X0_addBreak_ex (l : Launch) (lo : Nat) (hst : l.stackTraces = false) (G : va_G) (cI cZ cL : ClassId) (a : Nat → Nat) (σ : sa_St) (hI : sa_I σ) (x : Int32) (hne : ¬ (sp_addBreak σ x).1 = 0) : sa_Ex l yX0_addBreak wsX0_addBreak ({ frames := 7, cells := 1, slots := 6, locals := 110 }) (sa_Px lo G cI cZ cL (sa_W0 cI cZ a σ)) [.ref (a 0), .int (x)] (fun E => ((sp_addBreak σ x).1, E) ∈ [((1 : Nat), sa_E2), ((2 : Nat), sa_E3)]) := by
  obtain ⟨hnb, hno, hns, hgr, hor, hbr, hai⟩ := id hI
  refine vx_ofW (cc := cX0_addBreak) (maxL := 3) (ret := (some .int)) (by decide) rfl ?_
  intro p e s m args below meth c s₁ B9 hml htab hv
  obtain ⟨rfl, ⟨hP, hK⟩, hT⟩ := hv
  have hx := B9.exec
  have hb := B9.bytes
  have hr := B9.returns
  have hlk := B9.notSynchronized
  have hts := atoms_spec (ws := wsX0_addBreak) B9.pre
  have hown : s.vm.findClass RX0 = some m.cls := findClass_of_methodNamed B9.named
  have S : CallFix p m c cX0_addBreak 3 s _ wsX0_addBreak RX0 := ⟨hx, hb, hml, hown, hts⟩
  have hin : ∀ w ∈ wsX00, w ∈ wsX0_addBreak := by decide +kernel
  have hl := lv_entry ([.ref (a 0), .int (x)]) (n := 3) (Nat.le_of_ble_eq_true rfl)
  rw [lg_entry_eq]
  generalize (lg_sl ([.ref (a 0), .int (x)]) ++ List.replicate (3 - (lg_sl ([.ref (a 0), .int (x)])).length) Slot.unset).toArray = ls at hl ⊢
  have hl : lv_has ls 3 [(0, .ref (a 0)), (1, .int (x))] := hl
  refine lv_iload_n hx hb dX0_addBreak_0 rfl (lv_at hl 1 rfl) ?_
  refine lv_bipush (v := 15) hx hb dX0_addBreak_1 (by decide) ?_
  refine lv_sipush (v := 600) hx hb dX0_addBreak_3 (by decide) ?_
  refine sa_kRs (As := [.int (x), .int (15), .int (600)]) (rest := []) S (c_X0_isWithin l x 15 600) (va_cwS 3 hts gX0_addBreak_X0_isWithin rfl rfl rfl (by decide +kernel) ⟨Nat.le_of_ble_eq_true rfl, Nat.le_of_ble_eq_true rfl⟩) rfl hl.1 (Nat.le_of_ble_eq_true rfl) rfl dX0_addBreak_6 ⟨Nat.zero_le _, Nat.zero_le _⟩ ?_
  by_cases k_9 : sa_w x 15 600
  · skip
    refine sa_kOkS (As := [.int (sa_b (sa_w x 15 600))]) (rest := []) S (c_X0_checkArgument_ok l (sa_b (sa_w x 15 600)) (by rw [sa_bt k_9]; decide)) (va_cwS 1 hts gX0_addBreak_X0_checkArgument rfl rfl rfl (by decide +kernel) ⟨Nat.le_of_ble_eq_true rfl, Nat.le_of_ble_eq_true rfl⟩) rfl hl.1 (Nat.le_of_ble_eq_true rfl) rfl dX0_addBreak_9 ⟨Nat.zero_le _, Nat.zero_le _⟩ ?_
    refine lv_aload_n hx hb dX0_addBreak_12 rfl (lv_at hl 0 rfl) ?_
    refine sa_g0_breakCount S hin hK hP (by decide +kernel) dX0_addBreak_13 ?_
    refine lv_bipush (v := 24) hx hb dX0_addBreak_16 (by decide) ?_
    refine lv_icmp_ge (tgt := 25) hx hb dX0_addBreak_18 (by decide) (fun c_18 => ?_) (fun c_18 => ?_)
    · skip
      have c_18 := Int32.not_lt.mpr c_18
      refine lv_iconst (v := 0) hx hb dX0_addBreak_25 (by decide) ?_
      exact sa_kExS (As := [.int (0)]) (rest := []) S (c_X0_checkState_ex l lo hst 0 rfl) (va_cwS 1 hts gX0_addBreak_X0_checkState rfl rfl rfl (by decide +kernel) ⟨Nat.le_of_ble_eq_true rfl, Nat.le_of_ble_eq_true rfl⟩) hT htab hlk (fun E hE => by subst hE; rw [show sp_addBreak σ x = (2, 0, σ) from sa_go2 k_9 (fun z9 => c_18 z9)]; show ((2 : Nat), sa_E3) ∈ _; decide) rfl hl.1 (Nat.le_of_ble_eq_true rfl) rfl dX0_addBreak_26 ⟨Nat.le_refl _, Nat.le_refl _⟩
    · skip
      have c_18 := Int32.not_le.mp c_18
      refine lv_iconst (v := 1) hx hb dX0_addBreak_21 (by decide) ?_
      refine lv_goto (tgt := 26) hx hb dX0_addBreak_22 (by decide) ?_
      exact (hne (congrArg Prod.fst (show sp_addBreak σ x = (0, _) from sa_go0 k_9 c_18 trivial))).elim
  · skip
    exact sa_kExS (As := [.int (sa_b (sa_w x 15 600))]) (rest := []) S (c_X0_checkArgument_ex l lo hst (sa_b (sa_w x 15 600)) (sa_bf k_9)) (va_cwS 1 hts gX0_addBreak_X0_checkArgument rfl rfl rfl (by decide +kernel) ⟨Nat.le_of_ble_eq_true rfl, Nat.le_of_ble_eq_true rfl⟩) hT htab hlk (fun E hE => by subst hE; rw [show sp_addBreak σ x = (1, 0, σ) from sa_go1 (fun z9 => k_9 z9)]; show ((1 : Nat), sa_E2) ∈ _; decide) rfl hl.1 (Nat.le_of_ble_eq_true rfl) rfl dX0_addBreak_9 ⟨Nat.le_refl _, Nat.le_refl _⟩

set_option maxHeartbeats 4000000 in
set_option maxRecDepth 100000 in
theorem c_X0_rate_ok (l : Launch) (G : va_G) (cI cZ cL : ClassId) (a : Nat → Nat) (σ : sa_St) (hI : sa_I σ) (at' g v : Int32) (hJ : sa_J a) (h1 : sa_iB σ at') (h2 : sa_w g 0 2 ∧ sa_w v 0 100000) : sa_Wr l yX0_rate wsX0_rate ({ frames := 8, cells := 0, slots := 0, locals := 132 }) G cI cZ cL (sa_W0 cI cZ a σ) (sa_W0 cI cZ a (sa_f σ 3 (upd (σ.2 3) (at' * 3 + g).toNatClampNeg v))) (sa_A a) [.ref (a 0), .int (at'), .int (g), .int (v)] (σ.2 3 (at' * 3 + g).toNatClampNeg) := by
  obtain ⟨hnb, hno, hns, hgr, hor, hbr, hai⟩ := id hI
  refine Met.ofW (cc := cX0_rate) (maxL := 6) (ret := (some .int)) (by decide) rfl ?_
  intro p e s m args below meth c s₁ B9 hml hv
  obtain ⟨rfl, hP, hK⟩ := hv
  have hat : vp_in at' (σ.1 0) := sa_inv (by omega) h1
  have hcl : vp_in (at' * 3 + g) 72 := sa_cell (sa_vm hat hnb) (sa_inv (by decide) ⟨Int32.not_lt.mpr h2.1.1, Int32.lt_of_le_of_lt h2.1.2 (by decide)⟩)
  have hx := B9.exec
  have hb := B9.bytes
  have hr := B9.returns
  have hlk := B9.notSynchronized
  have hts := atoms_spec (ws := wsX0_rate) B9.pre
  have hown : s.vm.findClass RX0 = some m.cls := findClass_of_methodNamed B9.named
  have S : CallFix p m c cX0_rate 6 s _ wsX0_rate RX0 := ⟨hx, hb, hml, hown, hts⟩
  have hin : ∀ w ∈ wsX00, w ∈ wsX0_rate := by decide +kernel
  have hS : va_S (sa_A a) s.heap s.heap [] := va_S.rf
  have hl := lv_entry ([.ref (a 0), .int (at'), .int (g), .int (v)]) (n := 6) (Nat.le_of_ble_eq_true rfl)
  rw [lg_entry_eq]
  generalize (lg_sl ([.ref (a 0), .int (at'), .int (g), .int (v)]) ++ List.replicate (6 - (lg_sl ([.ref (a 0), .int (at'), .int (g), .int (v)])).length) Slot.unset).toArray = ls at hl ⊢
  have hl : lv_has ls 6 [(0, .ref (a 0)), (1, .int (at')), (2, .int (g)), (3, .int (v))] := hl
  refine lv_aload_n hx hb dX0_rate_0 rfl (lv_at hl 0 rfl) ?_
  refine lv_iload_n hx hb dX0_rate_1 rfl (lv_at hl 1 rfl) ?_
  refine sa_kOkV (As := [.int (at')]) (rest := []) S (c_X0_checkBreak_ok l G cI cZ cL a σ hI at' h1) (cwV 1 hts gX0_rate_X0_checkBreak rfl rfl rfl (by decide +kernel) ⟨Nat.le_of_ble_eq_true rfl, Nat.le_of_ble_eq_true rfl⟩) hP hK (ci := 0) rfl rfl rfl hl.1 (Nat.le_of_ble_eq_true rfl) rfl dX0_rate_2 ⟨Nat.zero_le _, Nat.zero_le _⟩ ?_
  refine lv_iload_n hx hb dX0_rate_5 rfl (lv_at hl 2 rfl) ?_
  refine sa_kRs (As := [.int (g)]) (rest := []) S (c_X0_isGroup l g) (va_cwS 1 hts gX0_rate_X0_isGroup rfl rfl rfl (by decide +kernel) ⟨Nat.le_of_ble_eq_true rfl, Nat.le_of_ble_eq_true rfl⟩) rfl hl.1 (Nat.le_of_ble_eq_true rfl) rfl dX0_rate_6 ⟨Nat.zero_le _, Nat.zero_le _⟩ ?_
  refine lv_if_eq (tgt := 26) hx hb dX0_rate_9 (by decide) (fun c_9 => ?_) (fun c_9 => ?_)
  · skip
    have c_9 := sa_b0 c_9
    refine lv_iconst (v := 0) hx hb dX0_rate_26 (by decide) ?_
    exact absurd h2 (fun z9 => c_9 z9.1)
  · skip
    have c_9 := sa_b1 c_9
    refine lv_iload_n hx hb dX0_rate_12 rfl (lv_at hl 3 rfl) ?_
    refine lv_iconst (v := 0) hx hb dX0_rate_13 (by decide) ?_
    refine lv_ldc (v := 100000) hx hb hown (hts (.constant RX0 79 (100000)) (by decide +kernel)) dX0_rate_14 ?_
    refine sa_kRs (As := [.int (v), .int (0), .int (100000)]) (rest := []) S (c_X0_isWithin l v 0 100000) (va_cwS 3 hts gX0_rate_X0_isWithin rfl rfl rfl (by decide +kernel) ⟨Nat.le_of_ble_eq_true rfl, Nat.le_of_ble_eq_true rfl⟩) rfl hl.1 (Nat.le_of_ble_eq_true rfl) rfl dX0_rate_16 ⟨Nat.zero_le _, Nat.zero_le _⟩ ?_
    refine lv_if_eq (tgt := 26) hx hb dX0_rate_19 (by decide) (fun c_19 => ?_) (fun c_19 => ?_)
    · skip
      have c_19 := sa_b0 c_19
      refine lv_iconst (v := 0) hx hb dX0_rate_26 (by decide) ?_
      exact absurd h2 (fun z9 => c_19 z9.2)
    · skip
      have c_19 := sa_b1 c_19
      refine lv_iconst (v := 1) hx hb dX0_rate_22 (by decide) ?_
      refine lv_goto (tgt := 27) hx hb dX0_rate_23 (by decide) ?_
      refine sa_kOkS (As := [.int (1)]) (rest := []) S (c_X0_checkArgument_ok l 1 (by decide)) (va_cwS 1 hts gX0_rate_X0_checkArgument rfl rfl rfl (by decide +kernel) ⟨Nat.le_of_ble_eq_true rfl, Nat.le_of_ble_eq_true rfl⟩) rfl hl.1 (Nat.le_of_ble_eq_true rfl) rfl dX0_rate_27 ⟨Nat.zero_le _, Nat.zero_le _⟩ ?_
      refine lv_iload_n hx hb dX0_rate_30 rfl (lv_at hl 1 rfl) ?_
      refine lv_iload_n hx hb dX0_rate_31 rfl (lv_at hl 2 rfl) ?_
      refine sa_kRs (As := [.int (at'), .int (g)]) (rest := []) S (c_X0_ratingCell l at' g) (va_cwS 2 hts gX0_rate_X0_ratingCell rfl rfl rfl (by decide +kernel) ⟨Nat.le_of_ble_eq_true rfl, Nat.le_of_ble_eq_true rfl⟩) rfl hl.1 (Nat.le_of_ble_eq_true rfl) rfl dX0_rate_32 ⟨Nat.zero_le _, Nat.zero_le _⟩ ?_
      refine lv_istore (lv' := [(4, .int (at' * 3 + g)), (0, .ref (a 0)), (1, .int (at')), (2, .int (g)), (3, .int (v))]) hx hb dX0_rate_35 hl (by decide) rfl (fun ls hl => ?_)
      refine lv_aload_n hx hb dX0_rate_37 rfl (lv_at hl 1 rfl) ?_
      refine sa_g0_ratings S hin hK hP (by decide +kernel) dX0_rate_38 ?_
      refine lv_iload hx hb dX0_rate_41 (lv_at hl 0 rfl) ?_
      refine sa_ld 3 S hK hP rfl hcl dX0_rate_43 ?_
      refine lv_istore (lv' := [(5, .int (σ.2 3 (at' * 3 + g).toNatClampNeg)), (4, .int (at' * 3 + g)), (0, .ref (a 0)), (1, .int (at')), (2, .int (g)), (3, .int (v))]) hx hb dX0_rate_44 hl (by decide) rfl (fun ls hl => ?_)
      refine lv_aload_n hx hb dX0_rate_46 rfl (lv_at hl 2 rfl) ?_
      refine sa_g0_ratings S hin hK hP (by decide +kernel) dX0_rate_47 ?_
      refine lv_iload hx hb dX0_rate_50 (lv_at hl 1 rfl) ?_
      refine lv_iload_n hx hb dX0_rate_52 rfl (lv_at hl 5 rfl) ?_
      refine sa_st (ws' := (sa_W0 cI cZ a (sa_f σ 3 (upd (σ.2 3) (at' * 3 + g).toNatClampNeg v)))) 3 S hK hP (sa_D0 hJ) hS rfl hcl rfl dX0_rate_53 (fun H locs hP hS => ?_)
      refine lv_iload hx hb dX0_rate_54 (lv_at hl 0 rfl) ?_
      exact W.iret (v := σ.2 3 (at' * 3 + g).toNatClampNeg) hx hb hr (fun t9 ht _ => ⟨⟨_, (), rfl, rfl, by show va_P G vwCl (sa_W0 cI cZ a (sa_f σ 3 (upd (σ.2 3) (at' * 3 + g).toNatClampNeg v))) t9.heap; rw [ht]; exact hP⟩, hS.F ht⟩) hS.2.2 dX0_rate_56

set_option maxHeartbeats 4000000 in
set_option maxRecDepth 100000 in
theorem c_X0_rate_ex (l : Launch) (lo : Nat) (hst : l.stackTraces = false) (G : va_G) (cI cZ cL : ClassId) (a : Nat → Nat) (σ : sa_St) (hI : sa_I σ) (at' g v : Int32) (hne : ¬ (sp_rate σ at' g v).1 = 0) : sa_Ex l yX0_rate wsX0_rate ({ frames := 8, cells := 1, slots := 6, locals := 132 }) (sa_Px lo G cI cZ cL (sa_W0 cI cZ a σ)) [.ref (a 0), .int (at'), .int (g), .int (v)] (fun E => ((sp_rate σ at' g v).1, E) ∈ [((1 : Nat), sa_E1), ((2 : Nat), sa_E2)]) := by
  obtain ⟨hnb, hno, hns, hgr, hor, hbr, hai⟩ := id hI
  refine vx_ofW (cc := cX0_rate) (maxL := 6) (ret := (some .int)) (by decide) rfl ?_
  intro p e s m args below meth c s₁ B9 hml htab hv
  obtain ⟨rfl, ⟨hP, hK⟩, hT⟩ := hv
  have hx := B9.exec
  have hb := B9.bytes
  have hr := B9.returns
  have hlk := B9.notSynchronized
  have hts := atoms_spec (ws := wsX0_rate) B9.pre
  have hown : s.vm.findClass RX0 = some m.cls := findClass_of_methodNamed B9.named
  have S : CallFix p m c cX0_rate 6 s _ wsX0_rate RX0 := ⟨hx, hb, hml, hown, hts⟩
  have hl := lv_entry ([.ref (a 0), .int (at'), .int (g), .int (v)]) (n := 6) (Nat.le_of_ble_eq_true rfl)
  rw [lg_entry_eq]
  generalize (lg_sl ([.ref (a 0), .int (at'), .int (g), .int (v)]) ++ List.replicate (6 - (lg_sl ([.ref (a 0), .int (at'), .int (g), .int (v)])).length) Slot.unset).toArray = ls at hl ⊢
  have hl : lv_has ls 6 [(0, .ref (a 0)), (1, .int (at')), (2, .int (g)), (3, .int (v))] := hl
  refine lv_aload_n hx hb dX0_rate_0 rfl (lv_at hl 0 rfl) ?_
  refine lv_iload_n hx hb dX0_rate_1 rfl (lv_at hl 1 rfl) ?_
  by_cases k_2 : sa_in at' (σ.1 0)
  · skip
    have hat : vp_in at' (σ.1 0) := sa_inv (by omega) k_2
    refine sa_kOkV (As := [.int (at')]) (rest := []) S (c_X0_checkBreak_ok l G cI cZ cL a σ hI at' k_2) (cwV 1 hts gX0_rate_X0_checkBreak rfl rfl rfl (by decide +kernel) ⟨Nat.le_of_ble_eq_true rfl, Nat.le_of_ble_eq_true rfl⟩) hP hK (ci := 0) rfl rfl rfl hl.1 (Nat.le_of_ble_eq_true rfl) rfl dX0_rate_2 ⟨Nat.zero_le _, Nat.zero_le _⟩ ?_
    refine lv_iload_n hx hb dX0_rate_5 rfl (lv_at hl 2 rfl) ?_
    refine sa_kRs (As := [.int (g)]) (rest := []) S (c_X0_isGroup l g) (va_cwS 1 hts gX0_rate_X0_isGroup rfl rfl rfl (by decide +kernel) ⟨Nat.le_of_ble_eq_true rfl, Nat.le_of_ble_eq_true rfl⟩) rfl hl.1 (Nat.le_of_ble_eq_true rfl) rfl dX0_rate_6 ⟨Nat.zero_le _, Nat.zero_le _⟩ ?_
    refine lv_if_eq (tgt := 26) hx hb dX0_rate_9 (by decide) (fun c_9 => ?_) (fun c_9 => ?_)
    · skip
      have c_9 := sa_b0 c_9
      refine lv_iconst (v := 0) hx hb dX0_rate_26 (by decide) ?_
      exact sa_kExS (As := [.int (0)]) (rest := []) S (c_X0_checkArgument_ex l lo hst 0 rfl) (va_cwS 1 hts gX0_rate_X0_checkArgument rfl rfl rfl (by decide +kernel) ⟨Nat.le_of_ble_eq_true rfl, Nat.le_of_ble_eq_true rfl⟩) hT htab hlk (fun E hE => by subst hE; rw [show sp_rate σ at' g v = (2, 0, σ) from sa_go2 k_2 (fun z9 => c_9 z9.1)]; show ((2 : Nat), sa_E2) ∈ _; decide) rfl hl.1 (Nat.le_of_ble_eq_true rfl) rfl dX0_rate_27 ⟨Nat.le_refl _, Nat.le_refl _⟩
    · skip
      have c_9 := sa_b1 c_9
      refine lv_iload_n hx hb dX0_rate_12 rfl (lv_at hl 3 rfl) ?_
      refine lv_iconst (v := 0) hx hb dX0_rate_13 (by decide) ?_
      refine lv_ldc (v := 100000) hx hb hown (hts (.constant RX0 79 (100000)) (by decide +kernel)) dX0_rate_14 ?_
      refine sa_kRs (As := [.int (v), .int (0), .int (100000)]) (rest := []) S (c_X0_isWithin l v 0 100000) (va_cwS 3 hts gX0_rate_X0_isWithin rfl rfl rfl (by decide +kernel) ⟨Nat.le_of_ble_eq_true rfl, Nat.le_of_ble_eq_true rfl⟩) rfl hl.1 (Nat.le_of_ble_eq_true rfl) rfl dX0_rate_16 ⟨Nat.zero_le _, Nat.zero_le _⟩ ?_
      refine lv_if_eq (tgt := 26) hx hb dX0_rate_19 (by decide) (fun c_19 => ?_) (fun c_19 => ?_)
      · skip
        have c_19 := sa_b0 c_19
        refine lv_iconst (v := 0) hx hb dX0_rate_26 (by decide) ?_
        exact sa_kExS (As := [.int (0)]) (rest := []) S (c_X0_checkArgument_ex l lo hst 0 rfl) (va_cwS 1 hts gX0_rate_X0_checkArgument rfl rfl rfl (by decide +kernel) ⟨Nat.le_of_ble_eq_true rfl, Nat.le_of_ble_eq_true rfl⟩) hT htab hlk (fun E hE => by subst hE; rw [show sp_rate σ at' g v = (2, 0, σ) from sa_go2 k_2 (fun z9 => c_19 z9.2)]; show ((2 : Nat), sa_E2) ∈ _; decide) rfl hl.1 (Nat.le_of_ble_eq_true rfl) rfl dX0_rate_27 ⟨Nat.le_refl _, Nat.le_refl _⟩
      · skip
        have c_19 := sa_b1 c_19
        refine lv_iconst (v := 1) hx hb dX0_rate_22 (by decide) ?_
        refine lv_goto (tgt := 27) hx hb dX0_rate_23 (by decide) ?_
        exact (hne (congrArg Prod.fst (show sp_rate σ at' g v = (0, _) from sa_go0 k_2 ⟨c_9, c_19⟩ trivial))).elim
  · exact sa_kExV (As := [.int (at')]) (rest := []) S (c_X0_checkBreak_ex l lo hst G cI cZ cL a σ hI at' k_2) (cwV 1 hts gX0_rate_X0_checkBreak rfl rfl rfl (by decide +kernel) ⟨Nat.le_of_ble_eq_true rfl, Nat.le_of_ble_eq_true rfl⟩) hP hK hT (ci := 0) rfl rfl htab hlk (fun E hE => by subst hE; rw [show sp_rate σ at' g v = (1, 0, σ) from sa_go1 (fun z9 => k_2 z9)]; show ((1 : Nat), sa_E1) ∈ _; decide) rfl hl.1 (Nat.le_of_ble_eq_true rfl) rfl dX0_rate_2 ⟨Nat.le_refl _, Nat.le_refl _⟩

set_option maxHeartbeats 4000000 in
set_option maxRecDepth 100000 in
theorem c_X0_air_ok (l : Launch) (G : va_G) (cI cZ cL : ClassId) (a : Nat → Nat) (σ : sa_St) (hI : sa_I σ) (at' : Int32) (hJ : sa_J a) (h1 : sa_iB σ at') (h2 : σ.2 2 at'.toNatClampNeg = 0) : sa_Wr l yX0_air wsX0_air ({ frames := 8, cells := 0, slots := 0, locals := 132 }) G cI cZ cL (sa_W0 cI cZ a σ) (sa_W0 cI cZ a (sa_f (sa_f σ 2 (upd (σ.2 2) at'.toNatClampNeg 1)) 14 (sa_air σ at' (σ.1 2)).1)) (sa_A a) [.ref (a 0), .int (at')] ((sa_air σ at' (σ.1 2)).2) := by
  obtain ⟨hnb, hno, hns, hgr, hor, hbr, hai⟩ := id hI
  refine Met.ofW (cc := cX0_air) (maxL := 4) (ret := (some .int)) (by decide) rfl ?_
  intro p e s m args below meth c s₁ B9 hml hv
  obtain ⟨rfl, hP, hK⟩ := hv
  have hat : vp_in at' (σ.1 0) := sa_inv (by omega) h1
  have hx := B9.exec
  have hb := B9.bytes
  have hr := B9.returns
  have hlk := B9.notSynchronized
  have hts := atoms_spec (ws := wsX0_air) B9.pre
  have hown : s.vm.findClass RX0 = some m.cls := findClass_of_methodNamed B9.named
  have S : CallFix p m c cX0_air 4 s _ wsX0_air RX0 := ⟨hx, hb, hml, hown, hts⟩
  have hin : ∀ w ∈ wsX00, w ∈ wsX0_air := by decide +kernel
  have hS : va_S (sa_A a) s.heap s.heap [] := va_S.rf
  have hl := lv_entry ([.ref (a 0), .int (at')]) (n := 4) (Nat.le_of_ble_eq_true rfl)
  rw [lg_entry_eq]
  generalize (lg_sl ([.ref (a 0), .int (at')]) ++ List.replicate (4 - (lg_sl ([.ref (a 0), .int (at')])).length) Slot.unset).toArray = ls at hl ⊢
  have hl : lv_has ls 4 [(0, .ref (a 0)), (1, .int (at'))] := hl
  refine lv_aload_n hx hb dX0_air_0 rfl (lv_at hl 0 rfl) ?_
  refine lv_iload_n hx hb dX0_air_1 rfl (lv_at hl 1 rfl) ?_
  refine sa_kOkV (As := [.int (at')]) (rest := []) S (c_X0_checkBreak_ok l G cI cZ cL a σ hI at' h1) (cwV 1 hts gX0_air_X0_checkBreak rfl rfl rfl (by decide +kernel) ⟨Nat.le_of_ble_eq_true rfl, Nat.le_of_ble_eq_true rfl⟩) hP hK (ci := 0) rfl rfl rfl hl.1 (Nat.le_of_ble_eq_true rfl) rfl dX0_air_2 ⟨Nat.zero_le _, Nat.zero_le _⟩ ?_
  refine lv_aload_n hx hb dX0_air_5 rfl (lv_at hl 0 rfl) ?_
  refine sa_g0_breakAired S hin hK hP (by decide +kernel) dX0_air_6 ?_
  refine lv_iload_n hx hb dX0_air_9 rfl (lv_at hl 1 rfl) ?_
  refine sa_ldz 2 S hK hP rfl (sa_vm hat (by omega)) dX0_air_10 ?_
  refine lv_if_ne (tgt := 18) hx hb dX0_air_11 (by decide) (fun c_11 => ?_) (fun c_11 => ?_)
  · skip
    refine lv_iconst (v := 0) hx hb dX0_air_18 (by decide) ?_
    exact absurd h2 (fun z9 => c_11 z9)
  · skip
    refine lv_iconst (v := 1) hx hb dX0_air_14 (by decide) ?_
    refine lv_goto (tgt := 19) hx hb dX0_air_15 (by decide) ?_
    refine sa_kOkS (As := [.int (1)]) (rest := []) S (c_X0_checkState_ok l 1 (by decide)) (va_cwS 1 hts gX0_air_X0_checkState rfl rfl rfl (by decide +kernel) ⟨Nat.le_of_ble_eq_true rfl, Nat.le_of_ble_eq_true rfl⟩) rfl hl.1 (Nat.le_of_ble_eq_true rfl) rfl dX0_air_19 ⟨Nat.zero_le _, Nat.zero_le _⟩ ?_
    refine lv_aload_n hx hb dX0_air_22 rfl (lv_at hl 0 rfl) ?_
    refine sa_g0_breakAired S hin hK hP (by decide +kernel) dX0_air_23 ?_
    refine lv_iload_n hx hb dX0_air_26 rfl (lv_at hl 1 rfl) ?_
    refine lv_iconst (v := 1) hx hb dX0_air_27 (by decide) ?_
    refine sa_stz (ws' := (sa_W0 cI cZ a (sa_f σ 2 (upd (σ.2 2) at'.toNatClampNeg 1)))) 2 S hK hP (sa_D0 hJ) hS rfl (sa_vm hat (by omega)) (by decide) rfl dX0_air_28 (fun H locs hP hS => ?_)
    refine lv_iconst (v := 0) hx hb dX0_air_29 (by decide) ?_
    refine lv_istore_n (lv' := [(2, .int (0)), (0, .ref (a 0)), (1, .int (at'))]) hx hb dX0_air_30 rfl hl (by decide) rfl (fun ls hl => ?_)
    refine lv_iconst (v := 0) hx hb dX0_air_31 (by decide) ?_
    refine lv_istore_n (lv' := [(3, .int (0)), (2, .int (0)), (0, .ref (a 0)), (1, .int (at'))]) hx hb dX0_air_32 rfl hl (by decide) rfl (fun ls hl => ?_)
    have loop : ∀ (n k : Nat), k + n = σ.1 2 → ∀ (x1 : Int32), x1 = (sa_air σ at' k).2 →  ∀ (H : Heap) (locs : List Loc), va_P G vwCl (sa_W0 cI cZ a (sa_f (sa_f σ 2 (upd (σ.2 2) at'.toNatClampNeg 1)) 14 (sa_air σ at' k).1)) H → va_S (sa_A a) s.heap H locs → ∀ ls : Array Slot, lv_has ls 4 [(3, .int (nI k)), (2, .int (x1)), (0, .ref (a 0)), (1, .int (at'))] → W p l e (headSpec wsX0_air ({ frames := 8, cells := 0, slots := 0, locals := 132 })).room s m ([Value.ref (a 0), Value.int (at')] : List Value).toArray below meth c H locs 0 0 (MQ below (va_Qi (fun z (_ : Unit) => z = (sa_air σ at' (σ.1 2)).2) (fun _ t => va_P G vwCl (sa_W0 cI cZ a (sa_f (sa_f σ 2 (upd (σ.2 2) at'.toNatClampNeg 1)) 14 (sa_air σ at' (σ.1 2)).1)) t.heap) (sa_A a)) ([Value.ref (a 0), Value.int (at')] : List Value).toArray s 0 0 (sa_A a)) (F0 m 33 ls []) := by
      intro n
      induction n with
      | zero =>
        intro k hk x1 hx1  H locs hP hS ls hl
        have hk2 : k = σ.1 2 := by omega
        subst hk2
        refine lv_iload_n hx hb dX0_air_33 rfl (lv_at hl 0 rfl) ?_
        refine lv_aload_n hx hb dX0_air_34 rfl (lv_at hl 2 rfl) ?_
        refine sa_g0_spotCount S hin hK hP (by decide +kernel) dX0_air_35 ?_
        show W p l e _ s m _ below meth c _ _ _ _ _ (F0 m 38 ls [.int (nI (σ.1 2)), .int (nI (σ.1 2))])
        refine lv_icmp_ge (tgt := 76) hx hb dX0_air_38 (by decide) (fun _ => ?_) (fun c9 => absurd (nI_le (Nat.le_refl _) (by omega)) c9)
        refine lv_iload_n hx hb dX0_air_76 rfl (lv_at hl 1 rfl) ?_
        exact W.iret (v := x1) hx hb hr (fun t9 ht _ => ⟨⟨_, (), rfl, hx1, by show va_P G vwCl (sa_W0 cI cZ a (sa_f (sa_f σ 2 (upd (σ.2 2) at'.toNatClampNeg 1)) 14 (sa_air σ at' (σ.1 2)).1)) t9.heap; rw [ht]; exact hP⟩, hS.F ht⟩) hS.2.2 dX0_air_77
      | succ n ih =>
        intro k hk x1 hx1  H locs hP hS ls hl
        have hkn : k < σ.1 2 := by omega
        refine lv_iload_n hx hb dX0_air_33 rfl (lv_at hl 0 rfl) ?_
        refine lv_aload_n hx hb dX0_air_34 rfl (lv_at hl 2 rfl) ?_
        refine sa_g0_spotCount S hin hK hP (by decide +kernel) dX0_air_35 ?_
        show W p l e _ s m _ below meth c _ _ _ _ _ (F0 m 38 ls [.int (nI (σ.1 2)), .int (nI k)])
        refine lv_icmp_ge (tgt := 76) hx hb dX0_air_38 (by decide) (fun c9 => absurd c9 (nI_ge (by omega) (by omega))) (fun _ => ?_)
        refine lv_aload_n hx hb dX0_air_41 rfl (lv_at hl 2 rfl) ?_
        refine sa_g0_spotBreak S hin hK hP (by decide +kernel) dX0_air_42 ?_
        refine lv_iload_n hx hb dX0_air_45 rfl (lv_at hl 0 rfl) ?_
        refine sa_ldk 13 S hK hP rfl (by omega) (by decide) dX0_air_46 ?_
        show W p l e _ s m _ below meth c _ _ _ _ _ (F0 m 47 ls [.int (σ.2 13 k)])
        refine lv_iload_n hx hb dX0_air_47 rfl (lv_at hl 3 rfl) ?_
        refine lv_icmp_ne (tgt := 70) hx hb dX0_air_48 (by decide) (fun c_48 => ?_) (fun c_48 => ?_)
        · skip
          refine lv_iinc (v := nI (k + 1)) (lv' := [(3, .int (nI (k + 1))), (2, .int (x1)), (0, .ref (a 0)), (1, .int (at'))]) hx hb dX0_air_70 hl (k := 0) rfl (nI_1 k) (by decide) rfl (fun ls hl => ?_)
          refine lv_goto (tgt := 33) hx hb dX0_air_73 (by decide) ?_
          exact ih (k + 1) (by omega) x1 (by rw [hx1]; simp [sa_air, c_48]) _ _ (by have e9 : (sa_air σ at' (k + 1)).1 = (sa_air σ at' k).1 := (by simp [sa_air, c_48]); rw [e9]; exact hP) hS ls (lv_sub hl [0, 1, 2, 3] rfl)
        · skip
          refine lv_aload_n hx hb dX0_air_51 rfl (lv_at hl 2 rfl) ?_
          refine sa_g0_spotState S hin hK hP (by decide +kernel) dX0_air_52 ?_
          refine lv_iload_n hx hb dX0_air_55 rfl (lv_at hl 0 rfl) ?_
          refine sa_ldk 14 S hK hP rfl (by omega) (by decide) dX0_air_56 ?_
          show W p l e _ s m _ below meth c _ _ _ _ _ (F0 m 57 ls [.int ((sa_air σ at' k).1 k)])
          refine lv_if_ne (tgt := 70) hx hb dX0_air_57 (by decide) (fun c_57 => ?_) (fun c_57 => ?_)
          · skip
            refine lv_iinc (v := nI (k + 1)) (lv' := [(3, .int (nI (k + 1))), (2, .int (x1)), (0, .ref (a 0)), (1, .int (at'))]) hx hb dX0_air_70 hl (k := 0) rfl (nI_1 k) (by decide) rfl (fun ls hl => ?_)
            refine lv_goto (tgt := 33) hx hb dX0_air_73 (by decide) ?_
            exact ih (k + 1) (by omega) x1 (by rw [hx1]; simp [sa_air, c_48, c_57]) _ _ (by have e9 : (sa_air σ at' (k + 1)).1 = (sa_air σ at' k).1 := (by simp [sa_air, c_48, c_57]); rw [e9]; exact hP) hS ls (lv_sub hl [0, 1, 2, 3] rfl)
          · skip
            refine lv_aload_n hx hb dX0_air_60 rfl (lv_at hl 2 rfl) ?_
            refine sa_g0_spotState S hin hK hP (by decide +kernel) dX0_air_61 ?_
            refine lv_iload_n hx hb dX0_air_64 rfl (lv_at hl 0 rfl) ?_
            refine lv_iconst (v := 1) hx hb dX0_air_65 (by decide) ?_
            refine sa_stk (ws' := (sa_W0 cI cZ a (sa_f (sa_f (sa_f σ 2 (upd (σ.2 2) at'.toNatClampNeg 1)) 14 (sa_air σ at' k).1) 14 (upd ((sa_air σ at' k).1) k 1)))) 14 S hK hP (sa_D0 hJ) hS rfl (by omega) (by decide) rfl dX0_air_66 (fun H locs hP hS => ?_)
            refine lv_iinc (v := (x1) + 1) (lv' := [(2, .int ((x1) + 1)), (3, .int (nI k)), (0, .ref (a 0)), (1, .int (at'))]) hx hb dX0_air_67 hl (k := 1) rfl rfl (by decide) rfl (fun ls hl => ?_)
            refine lv_iinc (v := nI (k + 1)) (lv' := [(3, .int (nI (k + 1))), (2, .int ((x1) + 1)), (0, .ref (a 0)), (1, .int (at'))]) hx hb dX0_air_70 hl (k := 1) rfl (nI_1 k) (by decide) rfl (fun ls hl => ?_)
            refine lv_goto (tgt := 33) hx hb dX0_air_73 (by decide) ?_
            exact ih (k + 1) (by omega) ((x1) + 1) (by rw [hx1]; simp [sa_air, c_48, c_57]) _ _ (by have e9 : (sa_air σ at' (k + 1)).1 = (upd ((sa_air σ at' k).1) k 1) := (by simp [sa_air, c_48, c_57]); rw [e9]; exact hP) hS ls (lv_sub hl [0, 1, 2, 3] rfl)
    exact loop (σ.1 2) 0 (Nat.zero_add _) 0 rfl _ _ hP hS ls (lv_sub hl [0, 1, 2, 3] rfl)

set_option maxHeartbeats 4000000 in
set_option maxRecDepth 100000 in
theorem c_X0_air_ex (l : Launch) (lo : Nat) (hst : l.stackTraces = false) (G : va_G) (cI cZ cL : ClassId) (a : Nat → Nat) (σ : sa_St) (hI : sa_I σ) (at' : Int32) (hne : ¬ (sp_air σ at').1 = 0) : sa_Ex l yX0_air wsX0_air ({ frames := 8, cells := 1, slots := 6, locals := 132 }) (sa_Px lo G cI cZ cL (sa_W0 cI cZ a σ)) [.ref (a 0), .int (at')] (fun E => ((sp_air σ at').1, E) ∈ [((1 : Nat), sa_E1), ((2 : Nat), sa_E3)]) := by
  obtain ⟨hnb, hno, hns, hgr, hor, hbr, hai⟩ := id hI
  refine vx_ofW (cc := cX0_air) (maxL := 4) (ret := (some .int)) (by decide) rfl ?_
  intro p e s m args below meth c s₁ B9 hml htab hv
  obtain ⟨rfl, ⟨hP, hK⟩, hT⟩ := hv
  have hx := B9.exec
  have hb := B9.bytes
  have hr := B9.returns
  have hlk := B9.notSynchronized
  have hts := atoms_spec (ws := wsX0_air) B9.pre
  have hown : s.vm.findClass RX0 = some m.cls := findClass_of_methodNamed B9.named
  have S : CallFix p m c cX0_air 4 s _ wsX0_air RX0 := ⟨hx, hb, hml, hown, hts⟩
  have hin : ∀ w ∈ wsX00, w ∈ wsX0_air := by decide +kernel
  have hl := lv_entry ([.ref (a 0), .int (at')]) (n := 4) (Nat.le_of_ble_eq_true rfl)
  rw [lg_entry_eq]
  generalize (lg_sl ([.ref (a 0), .int (at')]) ++ List.replicate (4 - (lg_sl ([.ref (a 0), .int (at')])).length) Slot.unset).toArray = ls at hl ⊢
  have hl : lv_has ls 4 [(0, .ref (a 0)), (1, .int (at'))] := hl
  refine lv_aload_n hx hb dX0_air_0 rfl (lv_at hl 0 rfl) ?_
  refine lv_iload_n hx hb dX0_air_1 rfl (lv_at hl 1 rfl) ?_
  by_cases k_2 : sa_in at' (σ.1 0)
  · skip
    have hat : vp_in at' (σ.1 0) := sa_inv (by omega) k_2
    refine sa_kOkV (As := [.int (at')]) (rest := []) S (c_X0_checkBreak_ok l G cI cZ cL a σ hI at' k_2) (cwV 1 hts gX0_air_X0_checkBreak rfl rfl rfl (by decide +kernel) ⟨Nat.le_of_ble_eq_true rfl, Nat.le_of_ble_eq_true rfl⟩) hP hK (ci := 0) rfl rfl rfl hl.1 (Nat.le_of_ble_eq_true rfl) rfl dX0_air_2 ⟨Nat.zero_le _, Nat.zero_le _⟩ ?_
    refine lv_aload_n hx hb dX0_air_5 rfl (lv_at hl 0 rfl) ?_
    refine sa_g0_breakAired S hin hK hP (by decide +kernel) dX0_air_6 ?_
    refine lv_iload_n hx hb dX0_air_9 rfl (lv_at hl 1 rfl) ?_
    refine sa_ldz 2 S hK hP rfl (sa_vm hat (by omega)) dX0_air_10 ?_
    refine lv_if_ne (tgt := 18) hx hb dX0_air_11 (by decide) (fun c_11 => ?_) (fun c_11 => ?_)
    · skip
      refine lv_iconst (v := 0) hx hb dX0_air_18 (by decide) ?_
      exact sa_kExS (As := [.int (0)]) (rest := []) S (c_X0_checkState_ex l lo hst 0 rfl) (va_cwS 1 hts gX0_air_X0_checkState rfl rfl rfl (by decide +kernel) ⟨Nat.le_of_ble_eq_true rfl, Nat.le_of_ble_eq_true rfl⟩) hT htab hlk (fun E hE => by subst hE; rw [show sp_air σ at' = (2, 0, σ) from sa_go2 k_2 (fun z9 => c_11 z9)]; show ((2 : Nat), sa_E3) ∈ _; decide) rfl hl.1 (Nat.le_of_ble_eq_true rfl) rfl dX0_air_19 ⟨Nat.le_refl _, Nat.le_refl _⟩
    · skip
      refine lv_iconst (v := 1) hx hb dX0_air_14 (by decide) ?_
      refine lv_goto (tgt := 19) hx hb dX0_air_15 (by decide) ?_
      exact (hne (congrArg Prod.fst (show sp_air σ at' = (0, _) from sa_go0 k_2 c_11 trivial))).elim
  · exact sa_kExV (As := [.int (at')]) (rest := []) S (c_X0_checkBreak_ex l lo hst G cI cZ cL a σ hI at' k_2) (cwV 1 hts gX0_air_X0_checkBreak rfl rfl rfl (by decide +kernel) ⟨Nat.le_of_ble_eq_true rfl, Nat.le_of_ble_eq_true rfl⟩) hP hK hT (ci := 0) rfl rfl htab hlk (fun E hE => by subst hE; rw [show sp_air σ at' = (1, 0, σ) from sa_go1 (fun z9 => k_2 z9)]; show ((1 : Nat), sa_E1) ∈ _; decide) rfl hl.1 (Nat.le_of_ble_eq_true rfl) rfl dX0_air_2 ⟨Nat.le_refl _, Nat.le_refl _⟩

set_option maxHeartbeats 4000000 in
set_option maxRecDepth 100000 in
theorem c_X0_breaks_ok (l : Launch) (G : va_G) (cI cZ cL : ClassId) (a : Nat → Nat) (σ : sa_St) (hI : sa_I σ)  : sa_Rd l yX0_breaks wsX0_breaks ({ frames := 0, cells := 0, slots := 0, locals := 0 }) G cI cZ cL (sa_W0 cI cZ a σ) [.ref (a 0)] (nI (σ.1 0)) := by
  obtain ⟨hnb, hno, hns, hgr, hor, hbr, hai⟩ := id hI
  refine Met.ofW (cc := cX0_breaks) (maxL := 1) (ret := (some .int)) (by decide) rfl ?_
  intro p e s m args below meth c s₁ B9 hml hv
  obtain ⟨rfl, hP, hK⟩ := hv
  have hx := B9.exec
  have hb := B9.bytes
  have hr := B9.returns
  have hlk := B9.notSynchronized
  have hts := atoms_spec (ws := wsX0_breaks) B9.pre
  have hown : s.vm.findClass RX0 = some m.cls := findClass_of_methodNamed B9.named
  have S : CallFix p m c cX0_breaks 1 s _ wsX0_breaks RX0 := ⟨hx, hb, hml, hown, hts⟩
  have hin : ∀ w ∈ wsX00, w ∈ wsX0_breaks := by decide +kernel
  have hl := lv_entry ([.ref (a 0)]) (n := 1) (Nat.le_of_ble_eq_true rfl)
  rw [lg_entry_eq]
  generalize (lg_sl ([.ref (a 0)]) ++ List.replicate (1 - (lg_sl ([.ref (a 0)])).length) Slot.unset).toArray = ls at hl ⊢
  have hl : lv_has ls 1 [(0, .ref (a 0))] := hl
  refine lv_aload_n hx hb dX0_breaks_0 rfl (lv_at hl 0 rfl) ?_
  refine sa_g0_breakCount S hin hK hP (by decide +kernel) dX0_breaks_1 ?_
  exact W.iret (v := nI (σ.1 0)) hx hb hr (fun t9 ht _ => ⟨_, rfl, rfl, ht⟩) (fun _ h => nomatch h) dX0_breaks_4

set_option maxHeartbeats 4000000 in
set_option maxRecDepth 100000 in
theorem c_X0_isAired_ok (l : Launch) (G : va_G) (cI cZ cL : ClassId) (a : Nat → Nat) (σ : sa_St) (hI : sa_I σ) (at' : Int32) (h1 : sa_iB σ at') : sa_Rd l yX0_isAired wsX0_isAired ({ frames := 8, cells := 0, slots := 0, locals := 132 }) G cI cZ cL (sa_W0 cI cZ a σ) [.ref (a 0), .int (at')] (σ.2 2 at'.toNatClampNeg) := by
  obtain ⟨hnb, hno, hns, hgr, hor, hbr, hai⟩ := id hI
  refine Met.ofW (cc := cX0_isAired) (maxL := 2) (ret := (some .boolean)) (by decide) rfl ?_
  intro p e s m args below meth c s₁ B9 hml hv
  obtain ⟨rfl, hP, hK⟩ := hv
  have hat : vp_in at' (σ.1 0) := sa_inv (by omega) h1
  have hx := B9.exec
  have hb := B9.bytes
  have hr := B9.returns
  have hlk := B9.notSynchronized
  have hts := atoms_spec (ws := wsX0_isAired) B9.pre
  have hown : s.vm.findClass RX0 = some m.cls := findClass_of_methodNamed B9.named
  have S : CallFix p m c cX0_isAired 2 s _ wsX0_isAired RX0 := ⟨hx, hb, hml, hown, hts⟩
  have hin : ∀ w ∈ wsX00, w ∈ wsX0_isAired := by decide +kernel
  have hl := lv_entry ([.ref (a 0), .int (at')]) (n := 2) (Nat.le_of_ble_eq_true rfl)
  rw [lg_entry_eq]
  generalize (lg_sl ([.ref (a 0), .int (at')]) ++ List.replicate (2 - (lg_sl ([.ref (a 0), .int (at')])).length) Slot.unset).toArray = ls at hl ⊢
  have hl : lv_has ls 2 [(0, .ref (a 0)), (1, .int (at'))] := hl
  refine lv_aload_n hx hb dX0_isAired_0 rfl (lv_at hl 0 rfl) ?_
  refine lv_iload_n hx hb dX0_isAired_1 rfl (lv_at hl 1 rfl) ?_
  refine sa_kOkV (As := [.int (at')]) (rest := []) S (c_X0_checkBreak_ok l G cI cZ cL a σ hI at' h1) (cwV 1 hts gX0_isAired_X0_checkBreak rfl rfl rfl (by decide +kernel) ⟨Nat.le_of_ble_eq_true rfl, Nat.le_of_ble_eq_true rfl⟩) hP hK (ci := 0) rfl rfl rfl hl.1 (Nat.le_of_ble_eq_true rfl) rfl dX0_isAired_2 ⟨Nat.zero_le _, Nat.zero_le _⟩ ?_
  refine lv_aload_n hx hb dX0_isAired_5 rfl (lv_at hl 0 rfl) ?_
  refine sa_g0_breakAired S hin hK hP (by decide +kernel) dX0_isAired_6 ?_
  refine lv_iload_n hx hb dX0_isAired_9 rfl (lv_at hl 1 rfl) ?_
  refine sa_ldz 2 S hK hP rfl (sa_vm hat (by omega)) dX0_isAired_10 ?_
  exact W.zret (v := σ.2 2 at'.toNatClampNeg) (ty := .boolean) hx hb hr (sa_nar01 (hai _)) (fun t9 ht _ => ⟨_, rfl, rfl, ht⟩) (fun _ h => nomatch h) dX0_isAired_11

set_option maxHeartbeats 4000000 in
set_option maxRecDepth 100000 in
theorem c_X0_isAired_ex (l : Launch) (lo : Nat) (hst : l.stackTraces = false) (G : va_G) (cI cZ cL : ClassId) (a : Nat → Nat) (σ : sa_St) (hI : sa_I σ) (at' : Int32) (hne : ¬ (sp_isAired σ at').1 = 0) : sa_Ex l yX0_isAired wsX0_isAired ({ frames := 8, cells := 1, slots := 6, locals := 132 }) (sa_Px lo G cI cZ cL (sa_W0 cI cZ a σ)) [.ref (a 0), .int (at')] (fun E => ((sp_isAired σ at').1, E) ∈ [((1 : Nat), sa_E1)]) := by
  obtain ⟨hnb, hno, hns, hgr, hor, hbr, hai⟩ := id hI
  refine vx_ofW (cc := cX0_isAired) (maxL := 2) (ret := (some .boolean)) (by decide) rfl ?_
  intro p e s m args below meth c s₁ B9 hml htab hv
  obtain ⟨rfl, ⟨hP, hK⟩, hT⟩ := hv
  have hx := B9.exec
  have hb := B9.bytes
  have hr := B9.returns
  have hlk := B9.notSynchronized
  have hts := atoms_spec (ws := wsX0_isAired) B9.pre
  have hown : s.vm.findClass RX0 = some m.cls := findClass_of_methodNamed B9.named
  have S : CallFix p m c cX0_isAired 2 s _ wsX0_isAired RX0 := ⟨hx, hb, hml, hown, hts⟩
  have hl := lv_entry ([.ref (a 0), .int (at')]) (n := 2) (Nat.le_of_ble_eq_true rfl)
  rw [lg_entry_eq]
  generalize (lg_sl ([.ref (a 0), .int (at')]) ++ List.replicate (2 - (lg_sl ([.ref (a 0), .int (at')])).length) Slot.unset).toArray = ls at hl ⊢
  have hl : lv_has ls 2 [(0, .ref (a 0)), (1, .int (at'))] := hl
  refine lv_aload_n hx hb dX0_isAired_0 rfl (lv_at hl 0 rfl) ?_
  refine lv_iload_n hx hb dX0_isAired_1 rfl (lv_at hl 1 rfl) ?_
  by_cases k_2 : sa_in at' (σ.1 0)
  · skip
    have hat : vp_in at' (σ.1 0) := sa_inv (by omega) k_2
    exact (hne (congrArg Prod.fst (show sp_isAired σ at' = (0, _) from sa_go0 k_2 trivial trivial))).elim
  · exact sa_kExV (As := [.int (at')]) (rest := []) S (c_X0_checkBreak_ex l lo hst G cI cZ cL a σ hI at' k_2) (cwV 1 hts gX0_isAired_X0_checkBreak rfl rfl rfl (by decide +kernel) ⟨Nat.le_of_ble_eq_true rfl, Nat.le_of_ble_eq_true rfl⟩) hP hK hT (ci := 0) rfl rfl htab hlk (fun E hE => by subst hE; rw [show sp_isAired σ at' = (1, 0, σ) from sa_go1 (fun z9 => k_2 z9)]; show ((1 : Nat), sa_E1) ∈ _; decide) rfl hl.1 (Nat.le_of_ble_eq_true rfl) rfl dX0_isAired_2 ⟨Nat.le_refl _, Nat.le_refl _⟩

set_option maxHeartbeats 4000000 in
set_option maxRecDepth 100000 in
theorem c_X0_room_ok (l : Launch) (G : va_G) (cI cZ cL : ClassId) (a : Nat → Nat) (σ : sa_St) (hI : sa_I σ) (at' : Int32) (h1 : sa_iB σ at') : sa_Rd l yX0_room wsX0_room ({ frames := 8, cells := 0, slots := 0, locals := 132 }) G cI cZ cL (sa_W0 cI cZ a σ) [.ref (a 0), .int (at')] (sa_room σ at' (-1) (σ.1 2)) := by
  obtain ⟨hnb, hno, hns, hgr, hor, hbr, hai⟩ := id hI
  refine Met.ofW (cc := cX0_room) (maxL := 2) (ret := (some .int)) (by decide) rfl ?_
  intro p e s m args below meth c s₁ B9 hml hv
  obtain ⟨rfl, hP, hK⟩ := hv
  have hat : vp_in at' (σ.1 0) := sa_inv (by omega) h1
  have hx := B9.exec
  have hb := B9.bytes
  have hr := B9.returns
  have hlk := B9.notSynchronized
  have hts := atoms_spec (ws := wsX0_room) B9.pre
  have hown : s.vm.findClass RX0 = some m.cls := findClass_of_methodNamed B9.named
  have S : CallFix p m c cX0_room 2 s _ wsX0_room RX0 := ⟨hx, hb, hml, hown, hts⟩
  have hl := lv_entry ([.ref (a 0), .int (at')]) (n := 2) (Nat.le_of_ble_eq_true rfl)
  rw [lg_entry_eq]
  generalize (lg_sl ([.ref (a 0), .int (at')]) ++ List.replicate (2 - (lg_sl ([.ref (a 0), .int (at')])).length) Slot.unset).toArray = ls at hl ⊢
  have hl : lv_has ls 2 [(0, .ref (a 0)), (1, .int (at'))] := hl
  refine lv_aload_n hx hb dX0_room_0 rfl (lv_at hl 0 rfl) ?_
  refine lv_iload_n hx hb dX0_room_1 rfl (lv_at hl 1 rfl) ?_
  refine sa_kOkV (As := [.int (at')]) (rest := []) S (c_X0_checkBreak_ok l G cI cZ cL a σ hI at' h1) (cwV 1 hts gX0_room_X0_checkBreak rfl rfl rfl (by decide +kernel) ⟨Nat.le_of_ble_eq_true rfl, Nat.le_of_ble_eq_true rfl⟩) hP hK (ci := 0) rfl rfl rfl hl.1 (Nat.le_of_ble_eq_true rfl) rfl dX0_room_2 ⟨Nat.zero_le _, Nat.zero_le _⟩ ?_
  refine lv_aload_n hx hb dX0_room_5 rfl (lv_at hl 0 rfl) ?_
  refine lv_iload_n hx hb dX0_room_6 rfl (lv_at hl 1 rfl) ?_
  refine sa_kRd (As := [.int (at')]) (rest := []) S (c_X0_secondsLeft l G cI cZ cL a σ hI at' hat) (cwV 1 hts gX0_room_X0_secondsLeft rfl rfl rfl (by decide +kernel) ⟨Nat.le_of_ble_eq_true rfl, Nat.le_of_ble_eq_true rfl⟩) hP hK (ci := 0) rfl rfl rfl hl.1 (Nat.le_of_ble_eq_true rfl) rfl dX0_room_7 ⟨Nat.zero_le _, Nat.zero_le _⟩ ?_
  exact W.iret (v := sa_room σ at' (-1) (σ.1 2)) hx hb hr (fun t9 ht _ => ⟨_, rfl, rfl, ht⟩) (fun _ h => nomatch h) dX0_room_10

set_option maxHeartbeats 4000000 in
set_option maxRecDepth 100000 in
theorem c_X0_room_ex (l : Launch) (lo : Nat) (hst : l.stackTraces = false) (G : va_G) (cI cZ cL : ClassId) (a : Nat → Nat) (σ : sa_St) (hI : sa_I σ) (at' : Int32) (hne : ¬ (sp_room σ at').1 = 0) : sa_Ex l yX0_room wsX0_room ({ frames := 8, cells := 1, slots := 6, locals := 132 }) (sa_Px lo G cI cZ cL (sa_W0 cI cZ a σ)) [.ref (a 0), .int (at')] (fun E => ((sp_room σ at').1, E) ∈ [((1 : Nat), sa_E1)]) := by
  obtain ⟨hnb, hno, hns, hgr, hor, hbr, hai⟩ := id hI
  refine vx_ofW (cc := cX0_room) (maxL := 2) (ret := (some .int)) (by decide) rfl ?_
  intro p e s m args below meth c s₁ B9 hml htab hv
  obtain ⟨rfl, ⟨hP, hK⟩, hT⟩ := hv
  have hx := B9.exec
  have hb := B9.bytes
  have hr := B9.returns
  have hlk := B9.notSynchronized
  have hts := atoms_spec (ws := wsX0_room) B9.pre
  have hown : s.vm.findClass RX0 = some m.cls := findClass_of_methodNamed B9.named
  have S : CallFix p m c cX0_room 2 s _ wsX0_room RX0 := ⟨hx, hb, hml, hown, hts⟩
  have hl := lv_entry ([.ref (a 0), .int (at')]) (n := 2) (Nat.le_of_ble_eq_true rfl)
  rw [lg_entry_eq]
  generalize (lg_sl ([.ref (a 0), .int (at')]) ++ List.replicate (2 - (lg_sl ([.ref (a 0), .int (at')])).length) Slot.unset).toArray = ls at hl ⊢
  have hl : lv_has ls 2 [(0, .ref (a 0)), (1, .int (at'))] := hl
  refine lv_aload_n hx hb dX0_room_0 rfl (lv_at hl 0 rfl) ?_
  refine lv_iload_n hx hb dX0_room_1 rfl (lv_at hl 1 rfl) ?_
  by_cases k_2 : sa_in at' (σ.1 0)
  · skip
    have hat : vp_in at' (σ.1 0) := sa_inv (by omega) k_2
    exact (hne (congrArg Prod.fst (show sp_room σ at' = (0, _) from sa_go0 k_2 trivial trivial))).elim
  · exact sa_kExV (As := [.int (at')]) (rest := []) S (c_X0_checkBreak_ex l lo hst G cI cZ cL a σ hI at' k_2) (cwV 1 hts gX0_room_X0_checkBreak rfl rfl rfl (by decide +kernel) ⟨Nat.le_of_ble_eq_true rfl, Nat.le_of_ble_eq_true rfl⟩) hP hK hT (ci := 0) rfl rfl htab hlk (fun E hE => by subst hE; rw [show sp_room σ at' = (1, 0, σ) from sa_go1 (fun z9 => k_2 z9)]; show ((1 : Nat), sa_E1) ∈ _; decide) rfl hl.1 (Nat.le_of_ble_eq_true rfl) rfl dX0_room_2 ⟨Nat.le_refl _, Nat.le_refl _⟩

set_option maxHeartbeats 4000000 in
set_option maxRecDepth 100000 in
theorem c_X0_rating_ok (l : Launch) (G : va_G) (cI cZ cL : ClassId) (a : Nat → Nat) (σ : sa_St) (hI : sa_I σ) (at' g : Int32) (h1 : sa_iB σ at') (h2 : sa_w g 0 2) : sa_Rd l yX0_rating wsX0_rating ({ frames := 8, cells := 0, slots := 0, locals := 132 }) G cI cZ cL (sa_W0 cI cZ a σ) [.ref (a 0), .int (at'), .int (g)] (σ.2 3 (at' * 3 + g).toNatClampNeg) := by
  obtain ⟨hnb, hno, hns, hgr, hor, hbr, hai⟩ := id hI
  refine Met.ofW (cc := cX0_rating) (maxL := 3) (ret := (some .int)) (by decide) rfl ?_
  intro p e s m args below meth c s₁ B9 hml hv
  obtain ⟨rfl, hP, hK⟩ := hv
  have hat : vp_in at' (σ.1 0) := sa_inv (by omega) h1
  have hcl : vp_in (at' * 3 + g) 72 := sa_cell (sa_vm hat hnb) (sa_inv (by decide) ⟨Int32.not_lt.mpr h2.1, Int32.lt_of_le_of_lt h2.2 (by decide)⟩)
  have hx := B9.exec
  have hb := B9.bytes
  have hr := B9.returns
  have hlk := B9.notSynchronized
  have hts := atoms_spec (ws := wsX0_rating) B9.pre
  have hown : s.vm.findClass RX0 = some m.cls := findClass_of_methodNamed B9.named
  have S : CallFix p m c cX0_rating 3 s _ wsX0_rating RX0 := ⟨hx, hb, hml, hown, hts⟩
  have hin : ∀ w ∈ wsX00, w ∈ wsX0_rating := by decide +kernel
  have hl := lv_entry ([.ref (a 0), .int (at'), .int (g)]) (n := 3) (Nat.le_of_ble_eq_true rfl)
  rw [lg_entry_eq]
  generalize (lg_sl ([.ref (a 0), .int (at'), .int (g)]) ++ List.replicate (3 - (lg_sl ([.ref (a 0), .int (at'), .int (g)])).length) Slot.unset).toArray = ls at hl ⊢
  have hl : lv_has ls 3 [(0, .ref (a 0)), (1, .int (at')), (2, .int (g))] := hl
  refine lv_aload_n hx hb dX0_rating_0 rfl (lv_at hl 0 rfl) ?_
  refine lv_iload_n hx hb dX0_rating_1 rfl (lv_at hl 1 rfl) ?_
  refine sa_kOkV (As := [.int (at')]) (rest := []) S (c_X0_checkBreak_ok l G cI cZ cL a σ hI at' h1) (cwV 1 hts gX0_rating_X0_checkBreak rfl rfl rfl (by decide +kernel) ⟨Nat.le_of_ble_eq_true rfl, Nat.le_of_ble_eq_true rfl⟩) hP hK (ci := 0) rfl rfl rfl hl.1 (Nat.le_of_ble_eq_true rfl) rfl dX0_rating_2 ⟨Nat.zero_le _, Nat.zero_le _⟩ ?_
  refine lv_iload_n hx hb dX0_rating_5 rfl (lv_at hl 2 rfl) ?_
  refine sa_kRs (As := [.int (g)]) (rest := []) S (c_X0_isGroup l g) (va_cwS 1 hts gX0_rating_X0_isGroup rfl rfl rfl (by decide +kernel) ⟨Nat.le_of_ble_eq_true rfl, Nat.le_of_ble_eq_true rfl⟩) rfl hl.1 (Nat.le_of_ble_eq_true rfl) rfl dX0_rating_6 ⟨Nat.zero_le _, Nat.zero_le _⟩ ?_
  refine sa_kOkS (As := [.int (sa_b (sa_w g 0 2))]) (rest := []) S (c_X0_checkArgument_ok l (sa_b (sa_w g 0 2)) (by rw [sa_bt (h2)]; decide)) (va_cwS 1 hts gX0_rating_X0_checkArgument rfl rfl rfl (by decide +kernel) ⟨Nat.le_of_ble_eq_true rfl, Nat.le_of_ble_eq_true rfl⟩) rfl hl.1 (Nat.le_of_ble_eq_true rfl) rfl dX0_rating_9 ⟨Nat.zero_le _, Nat.zero_le _⟩ ?_
  refine lv_aload_n hx hb dX0_rating_12 rfl (lv_at hl 0 rfl) ?_
  refine sa_g0_ratings S hin hK hP (by decide +kernel) dX0_rating_13 ?_
  refine lv_iload_n hx hb dX0_rating_16 rfl (lv_at hl 1 rfl) ?_
  refine lv_iload_n hx hb dX0_rating_17 rfl (lv_at hl 2 rfl) ?_
  refine sa_kRs (As := [.int (at'), .int (g)]) (rest := [.ref (a 3)]) S (c_X0_ratingCell l at' g) (va_cwS 2 hts gX0_rating_X0_ratingCell rfl rfl rfl (by decide +kernel) ⟨Nat.le_of_ble_eq_true rfl, Nat.le_of_ble_eq_true rfl⟩) rfl hl.1 (Nat.le_of_ble_eq_true rfl) rfl dX0_rating_18 ⟨Nat.zero_le _, Nat.zero_le _⟩ ?_
  refine sa_ld 3 S hK hP rfl hcl dX0_rating_21 ?_
  exact W.iret (v := σ.2 3 (at' * 3 + g).toNatClampNeg) hx hb hr (fun t9 ht _ => ⟨_, rfl, rfl, ht⟩) (fun _ h => nomatch h) dX0_rating_22

set_option maxHeartbeats 4000000 in
set_option maxRecDepth 100000 in
theorem c_X0_rating_ex (l : Launch) (lo : Nat) (hst : l.stackTraces = false) (G : va_G) (cI cZ cL : ClassId) (a : Nat → Nat) (σ : sa_St) (hI : sa_I σ) (at' g : Int32) (hne : ¬ (sp_rating σ at' g).1 = 0) : sa_Ex l yX0_rating wsX0_rating ({ frames := 8, cells := 1, slots := 6, locals := 132 }) (sa_Px lo G cI cZ cL (sa_W0 cI cZ a σ)) [.ref (a 0), .int (at'), .int (g)] (fun E => ((sp_rating σ at' g).1, E) ∈ [((1 : Nat), sa_E1), ((2 : Nat), sa_E2)]) := by
  obtain ⟨hnb, hno, hns, hgr, hor, hbr, hai⟩ := id hI
  refine vx_ofW (cc := cX0_rating) (maxL := 3) (ret := (some .int)) (by decide) rfl ?_
  intro p e s m args below meth c s₁ B9 hml htab hv
  obtain ⟨rfl, ⟨hP, hK⟩, hT⟩ := hv
  have hx := B9.exec
  have hb := B9.bytes
  have hr := B9.returns
  have hlk := B9.notSynchronized
  have hts := atoms_spec (ws := wsX0_rating) B9.pre
  have hown : s.vm.findClass RX0 = some m.cls := findClass_of_methodNamed B9.named
  have S : CallFix p m c cX0_rating 3 s _ wsX0_rating RX0 := ⟨hx, hb, hml, hown, hts⟩
  have hl := lv_entry ([.ref (a 0), .int (at'), .int (g)]) (n := 3) (Nat.le_of_ble_eq_true rfl)
  rw [lg_entry_eq]
  generalize (lg_sl ([.ref (a 0), .int (at'), .int (g)]) ++ List.replicate (3 - (lg_sl ([.ref (a 0), .int (at'), .int (g)])).length) Slot.unset).toArray = ls at hl ⊢
  have hl : lv_has ls 3 [(0, .ref (a 0)), (1, .int (at')), (2, .int (g))] := hl
  refine lv_aload_n hx hb dX0_rating_0 rfl (lv_at hl 0 rfl) ?_
  refine lv_iload_n hx hb dX0_rating_1 rfl (lv_at hl 1 rfl) ?_
  by_cases k_2 : sa_in at' (σ.1 0)
  · skip
    have hat : vp_in at' (σ.1 0) := sa_inv (by omega) k_2
    refine sa_kOkV (As := [.int (at')]) (rest := []) S (c_X0_checkBreak_ok l G cI cZ cL a σ hI at' k_2) (cwV 1 hts gX0_rating_X0_checkBreak rfl rfl rfl (by decide +kernel) ⟨Nat.le_of_ble_eq_true rfl, Nat.le_of_ble_eq_true rfl⟩) hP hK (ci := 0) rfl rfl rfl hl.1 (Nat.le_of_ble_eq_true rfl) rfl dX0_rating_2 ⟨Nat.zero_le _, Nat.zero_le _⟩ ?_
    refine lv_iload_n hx hb dX0_rating_5 rfl (lv_at hl 2 rfl) ?_
    refine sa_kRs (As := [.int (g)]) (rest := []) S (c_X0_isGroup l g) (va_cwS 1 hts gX0_rating_X0_isGroup rfl rfl rfl (by decide +kernel) ⟨Nat.le_of_ble_eq_true rfl, Nat.le_of_ble_eq_true rfl⟩) rfl hl.1 (Nat.le_of_ble_eq_true rfl) rfl dX0_rating_6 ⟨Nat.zero_le _, Nat.zero_le _⟩ ?_
    by_cases k_9 : sa_w g 0 2
    · skip
      exact (hne (congrArg Prod.fst (show sp_rating σ at' g = (0, _) from sa_go0 k_2 k_9 trivial))).elim
    · skip
      exact sa_kExS (As := [.int (sa_b (sa_w g 0 2))]) (rest := []) S (c_X0_checkArgument_ex l lo hst (sa_b (sa_w g 0 2)) (sa_bf k_9)) (va_cwS 1 hts gX0_rating_X0_checkArgument rfl rfl rfl (by decide +kernel) ⟨Nat.le_of_ble_eq_true rfl, Nat.le_of_ble_eq_true rfl⟩) hT htab hlk (fun E hE => by subst hE; rw [show sp_rating σ at' g = (2, 0, σ) from sa_go2 k_2 (fun z9 => k_9 z9)]; show ((2 : Nat), sa_E2) ∈ _; decide) rfl hl.1 (Nat.le_of_ble_eq_true rfl) rfl dX0_rating_9 ⟨Nat.le_refl _, Nat.le_refl _⟩
  · exact sa_kExV (As := [.int (at')]) (rest := []) S (c_X0_checkBreak_ex l lo hst G cI cZ cL a σ hI at' k_2) (cwV 1 hts gX0_rating_X0_checkBreak rfl rfl rfl (by decide +kernel) ⟨Nat.le_of_ble_eq_true rfl, Nat.le_of_ble_eq_true rfl⟩) hP hK hT (ci := 0) rfl rfl htab hlk (fun E hE => by subst hE; rw [show sp_rating σ at' g = (1, 0, σ) from sa_go1 (fun z9 => k_2 z9)]; show ((1 : Nat), sa_E1) ∈ _; decide) rfl hl.1 (Nat.le_of_ble_eq_true rfl) rfl dX0_rating_2 ⟨Nat.le_refl _, Nat.le_refl _⟩

set_option maxHeartbeats 4000000 in
set_option maxRecDepth 100000 in
theorem c_X0_addOrder_ok (l : Launch) (G : va_G) (cI cZ cL : ClassId) (a : Nat → Nat) (σ : sa_St) (hI : sa_I σ) (x1 x2 x3 x4 x5 x6 x7 : Int32) (hJ : sa_J a) (h1 : sa_w x1 0 9 ∧ sa_w x2 0 7 ∧ sa_w x3 0 2 ∧ (x4 = 15 ∨ x4 = 30 ∨ x4 = 60) ∧ sa_w x5 0 1000000 ∧ sa_w x6 0 1000000 ∧ sa_w x7 0 100000) (h2 : nI (σ.1 1) < 20) : sa_Wr l yX0_addOrder wsX0_addOrder ({ frames := 7, cells := 0, slots := 0, locals := 110 }) G cI cZ cL (sa_W0 cI cZ a σ) (sa_W0 cI cZ a (sa_ord σ x1 x2 x3 x4 x5 x6 x7)) (sa_A a) [.ref (a 0), .int (x1), .int (x2), .int (x3), .int (x4), .int (x5), .int (x6), .int (x7)] (nI (σ.1 1)) := by
  obtain ⟨hnb, hno, hns, hgr, hor, hbr, hai⟩ := id hI
  refine Met.ofW (cc := cX0_addOrder) (maxL := 9) (ret := (some .int)) (by decide) rfl ?_
  intro p e s m args below meth c s₁ B9 hml hv
  obtain ⟨rfl, hP, hK⟩ := hv
  have hn9 : σ.1 1 < 20 := sa_ltN (by omega) (by decide) h2
  have hx := B9.exec
  have hb := B9.bytes
  have hr := B9.returns
  have hlk := B9.notSynchronized
  have hts := atoms_spec (ws := wsX0_addOrder) B9.pre
  have hown : s.vm.findClass RX0 = some m.cls := findClass_of_methodNamed B9.named
  have S : CallFix p m c cX0_addOrder 9 s _ wsX0_addOrder RX0 := ⟨hx, hb, hml, hown, hts⟩
  have hin : ∀ w ∈ wsX00, w ∈ wsX0_addOrder := by decide +kernel
  have hS : va_S (sa_A a) s.heap s.heap [] := va_S.rf
  have hl := lv_entry ([.ref (a 0), .int (x1), .int (x2), .int (x3), .int (x4), .int (x5), .int (x6), .int (x7)]) (n := 9) (Nat.le_of_ble_eq_true rfl)
  rw [lg_entry_eq]
  generalize (lg_sl ([.ref (a 0), .int (x1), .int (x2), .int (x3), .int (x4), .int (x5), .int (x6), .int (x7)]) ++ List.replicate (9 - (lg_sl ([.ref (a 0), .int (x1), .int (x2), .int (x3), .int (x4), .int (x5), .int (x6), .int (x7)])).length) Slot.unset).toArray = ls at hl ⊢
  have hl : lv_has ls 9 [(0, .ref (a 0)), (1, .int (x1)), (2, .int (x2)), (3, .int (x3)), (4, .int (x4)), (5, .int (x5)), (6, .int (x6)), (7, .int (x7))] := hl
  refine lv_iload_n hx hb dX0_addOrder_0 rfl (lv_at hl 1 rfl) ?_
  refine sa_kRs (As := [.int (x1)]) (rest := []) S (c_X0_isAdvertiser l x1) (va_cwS 1 hts gX0_addOrder_X0_isAdvertiser rfl rfl rfl (by decide +kernel) ⟨Nat.le_of_ble_eq_true rfl, Nat.le_of_ble_eq_true rfl⟩) rfl hl.1 (Nat.le_of_ble_eq_true rfl) rfl dX0_addOrder_1 ⟨Nat.zero_le _, Nat.zero_le _⟩ ?_
  refine sa_kOkS (As := [.int (sa_b (sa_w x1 0 9))]) (rest := []) S (c_X0_checkArgument_ok l (sa_b (sa_w x1 0 9)) (by rw [sa_bt (h1.1)]; decide)) (va_cwS 1 hts gX0_addOrder_X0_checkArgument rfl rfl rfl (by decide +kernel) ⟨Nat.le_of_ble_eq_true rfl, Nat.le_of_ble_eq_true rfl⟩) rfl hl.1 (Nat.le_of_ble_eq_true rfl) rfl dX0_addOrder_4 ⟨Nat.zero_le _, Nat.zero_le _⟩ ?_
  refine lv_iload_n hx hb dX0_addOrder_7 rfl (lv_at hl 2 rfl) ?_
  refine lv_iconst (v := 0) hx hb dX0_addOrder_8 (by decide) ?_
  refine lv_bipush (v := 7) hx hb dX0_addOrder_9 (by decide) ?_
  refine sa_kRs (As := [.int (x2), .int (0), .int (7)]) (rest := []) S (c_X0_isWithin l x2 0 7) (va_cwS 3 hts gX0_addOrder_X0_isWithin rfl rfl rfl (by decide +kernel) ⟨Nat.le_of_ble_eq_true rfl, Nat.le_of_ble_eq_true rfl⟩) rfl hl.1 (Nat.le_of_ble_eq_true rfl) rfl dX0_addOrder_11 ⟨Nat.zero_le _, Nat.zero_le _⟩ ?_
  refine sa_kOkS (As := [.int (sa_b (sa_w x2 0 7))]) (rest := []) S (c_X0_checkArgument_ok l (sa_b (sa_w x2 0 7)) (by rw [sa_bt (h1.2.1)]; decide)) (va_cwS 1 hts gX0_addOrder_X0_checkArgument rfl rfl rfl (by decide +kernel) ⟨Nat.le_of_ble_eq_true rfl, Nat.le_of_ble_eq_true rfl⟩) rfl hl.1 (Nat.le_of_ble_eq_true rfl) rfl dX0_addOrder_14 ⟨Nat.zero_le _, Nat.zero_le _⟩ ?_
  refine lv_iload_n hx hb dX0_addOrder_17 rfl (lv_at hl 3 rfl) ?_
  refine sa_kRs (As := [.int (x3)]) (rest := []) S (c_X0_isGroup l x3) (va_cwS 1 hts gX0_addOrder_X0_isGroup rfl rfl rfl (by decide +kernel) ⟨Nat.le_of_ble_eq_true rfl, Nat.le_of_ble_eq_true rfl⟩) rfl hl.1 (Nat.le_of_ble_eq_true rfl) rfl dX0_addOrder_18 ⟨Nat.zero_le _, Nat.zero_le _⟩ ?_
  refine sa_kOkS (As := [.int (sa_b (sa_w x3 0 2))]) (rest := []) S (c_X0_checkArgument_ok l (sa_b (sa_w x3 0 2)) (by rw [sa_bt (h1.2.2.1)]; decide)) (va_cwS 1 hts gX0_addOrder_X0_checkArgument rfl rfl rfl (by decide +kernel) ⟨Nat.le_of_ble_eq_true rfl, Nat.le_of_ble_eq_true rfl⟩) rfl hl.1 (Nat.le_of_ble_eq_true rfl) rfl dX0_addOrder_21 ⟨Nat.zero_le _, Nat.zero_le _⟩ ?_
  refine lv_iload hx hb dX0_addOrder_24 (lv_at hl 4 rfl) ?_
  refine sa_kRs (As := [.int (x4)]) (rest := []) S (c_X0_isSpotLength l x4) (va_cwS 1 hts gX0_addOrder_X0_isSpotLength rfl rfl rfl (by decide +kernel) ⟨Nat.le_of_ble_eq_true rfl, Nat.le_of_ble_eq_true rfl⟩) rfl hl.1 (Nat.le_of_ble_eq_true rfl) rfl dX0_addOrder_26 ⟨Nat.zero_le _, Nat.zero_le _⟩ ?_
  refine sa_kOkS (As := [.int (sa_b (x4 = 15 ∨ x4 = 30 ∨ x4 = 60))]) (rest := []) S (c_X0_checkArgument_ok l (sa_b (x4 = 15 ∨ x4 = 30 ∨ x4 = 60)) (by rw [sa_bt (h1.2.2.2.1)]; decide)) (va_cwS 1 hts gX0_addOrder_X0_checkArgument rfl rfl rfl (by decide +kernel) ⟨Nat.le_of_ble_eq_true rfl, Nat.le_of_ble_eq_true rfl⟩) rfl hl.1 (Nat.le_of_ble_eq_true rfl) rfl dX0_addOrder_29 ⟨Nat.zero_le _, Nat.zero_le _⟩ ?_
  refine lv_iload hx hb dX0_addOrder_32 (lv_at hl 5 rfl) ?_
  refine lv_iconst (v := 0) hx hb dX0_addOrder_34 (by decide) ?_
  refine lv_ldc (v := 1000000) hx hb hown (hts (.constant RX0 97 (1000000)) (by decide +kernel)) dX0_addOrder_35 ?_
  refine sa_kRs (As := [.int (x5), .int (0), .int (1000000)]) (rest := []) S (c_X0_isWithin l x5 0 1000000) (va_cwS 3 hts gX0_addOrder_X0_isWithin rfl rfl rfl (by decide +kernel) ⟨Nat.le_of_ble_eq_true rfl, Nat.le_of_ble_eq_true rfl⟩) rfl hl.1 (Nat.le_of_ble_eq_true rfl) rfl dX0_addOrder_37 ⟨Nat.zero_le _, Nat.zero_le _⟩ ?_
  refine sa_kOkS (As := [.int (sa_b (sa_w x5 0 1000000))]) (rest := []) S (c_X0_checkArgument_ok l (sa_b (sa_w x5 0 1000000)) (by rw [sa_bt (h1.2.2.2.2.1)]; decide)) (va_cwS 1 hts gX0_addOrder_X0_checkArgument rfl rfl rfl (by decide +kernel) ⟨Nat.le_of_ble_eq_true rfl, Nat.le_of_ble_eq_true rfl⟩) rfl hl.1 (Nat.le_of_ble_eq_true rfl) rfl dX0_addOrder_40 ⟨Nat.zero_le _, Nat.zero_le _⟩ ?_
  refine lv_iload hx hb dX0_addOrder_43 (lv_at hl 6 rfl) ?_
  refine lv_iconst (v := 0) hx hb dX0_addOrder_45 (by decide) ?_
  refine lv_ldc (v := 1000000) hx hb hown (hts (.constant RX0 97 (1000000)) (by decide +kernel)) dX0_addOrder_46 ?_
  refine sa_kRs (As := [.int (x6), .int (0), .int (1000000)]) (rest := []) S (c_X0_isWithin l x6 0 1000000) (va_cwS 3 hts gX0_addOrder_X0_isWithin rfl rfl rfl (by decide +kernel) ⟨Nat.le_of_ble_eq_true rfl, Nat.le_of_ble_eq_true rfl⟩) rfl hl.1 (Nat.le_of_ble_eq_true rfl) rfl dX0_addOrder_48 ⟨Nat.zero_le _, Nat.zero_le _⟩ ?_
  refine sa_kOkS (As := [.int (sa_b (sa_w x6 0 1000000))]) (rest := []) S (c_X0_checkArgument_ok l (sa_b (sa_w x6 0 1000000)) (by rw [sa_bt (h1.2.2.2.2.2.1)]; decide)) (va_cwS 1 hts gX0_addOrder_X0_checkArgument rfl rfl rfl (by decide +kernel) ⟨Nat.le_of_ble_eq_true rfl, Nat.le_of_ble_eq_true rfl⟩) rfl hl.1 (Nat.le_of_ble_eq_true rfl) rfl dX0_addOrder_51 ⟨Nat.zero_le _, Nat.zero_le _⟩ ?_
  refine lv_iload hx hb dX0_addOrder_54 (lv_at hl 7 rfl) ?_
  refine lv_iconst (v := 0) hx hb dX0_addOrder_56 (by decide) ?_
  refine lv_ldc (v := 100000) hx hb hown (hts (.constant RX0 79 (100000)) (by decide +kernel)) dX0_addOrder_57 ?_
  refine sa_kRs (As := [.int (x7), .int (0), .int (100000)]) (rest := []) S (c_X0_isWithin l x7 0 100000) (va_cwS 3 hts gX0_addOrder_X0_isWithin rfl rfl rfl (by decide +kernel) ⟨Nat.le_of_ble_eq_true rfl, Nat.le_of_ble_eq_true rfl⟩) rfl hl.1 (Nat.le_of_ble_eq_true rfl) rfl dX0_addOrder_59 ⟨Nat.zero_le _, Nat.zero_le _⟩ ?_
  refine sa_kOkS (As := [.int (sa_b (sa_w x7 0 100000))]) (rest := []) S (c_X0_checkArgument_ok l (sa_b (sa_w x7 0 100000)) (by rw [sa_bt (h1.2.2.2.2.2.2)]; decide)) (va_cwS 1 hts gX0_addOrder_X0_checkArgument rfl rfl rfl (by decide +kernel) ⟨Nat.le_of_ble_eq_true rfl, Nat.le_of_ble_eq_true rfl⟩) rfl hl.1 (Nat.le_of_ble_eq_true rfl) rfl dX0_addOrder_62 ⟨Nat.zero_le _, Nat.zero_le _⟩ ?_
  refine lv_aload_n hx hb dX0_addOrder_65 rfl (lv_at hl 0 rfl) ?_
  refine sa_g0_orderCount S hin hK hP (by decide +kernel) dX0_addOrder_66 ?_
  refine lv_bipush (v := 20) hx hb dX0_addOrder_69 (by decide) ?_
  refine lv_icmp_ge (tgt := 78) hx hb dX0_addOrder_71 (by decide) (fun c_71 => ?_) (fun c_71 => ?_)
  · skip
    have c_71 := Int32.not_lt.mpr c_71
    refine lv_iconst (v := 0) hx hb dX0_addOrder_78 (by decide) ?_
    exact absurd h2 (fun z9 => c_71 z9)
  · skip
    have c_71 := Int32.not_le.mp c_71
    refine lv_iconst (v := 1) hx hb dX0_addOrder_74 (by decide) ?_
    refine lv_goto (tgt := 79) hx hb dX0_addOrder_75 (by decide) ?_
    refine sa_kOkS (As := [.int (1)]) (rest := []) S (c_X0_checkState_ok l 1 (by decide)) (va_cwS 1 hts gX0_addOrder_X0_checkState rfl rfl rfl (by decide +kernel) ⟨Nat.le_of_ble_eq_true rfl, Nat.le_of_ble_eq_true rfl⟩) rfl hl.1 (Nat.le_of_ble_eq_true rfl) rfl dX0_addOrder_79 ⟨Nat.zero_le _, Nat.zero_le _⟩ ?_
    refine lv_aload_n hx hb dX0_addOrder_82 rfl (lv_at hl 0 rfl) ?_
    refine sa_g0_orderCount S hin hK hP (by decide +kernel) dX0_addOrder_83 ?_
    refine lv_istore (lv' := [(8, .int (nI (σ.1 1))), (0, .ref (a 0)), (1, .int (x1)), (2, .int (x2)), (3, .int (x3)), (4, .int (x4)), (5, .int (x5)), (6, .int (x6)), (7, .int (x7))]) hx hb dX0_addOrder_86 hl (by decide) rfl (fun ls hl => ?_)
    refine lv_aload_n hx hb dX0_addOrder_88 rfl (lv_at hl 1 rfl) ?_
    refine sa_g0_orderAdvertiser S hin hK hP (by decide +kernel) dX0_addOrder_89 ?_
    refine lv_iload hx hb dX0_addOrder_92 (lv_at hl 0 rfl) ?_
    refine lv_iload_n hx hb dX0_addOrder_94 rfl (lv_at hl 2 rfl) ?_
    refine sa_stk (ws' := (sa_W0 cI cZ a (sa_f σ 4 (upd (σ.2 4) (σ.1 1) x1)))) 4 S hK hP (sa_D0 hJ) hS rfl (by omega) (by decide) rfl dX0_addOrder_95 (fun H locs hP hS => ?_)
    refine lv_aload_n hx hb dX0_addOrder_96 rfl (lv_at hl 1 rfl) ?_
    refine sa_g0_orderCategory S hin hK hP (by decide +kernel) dX0_addOrder_97 ?_
    refine lv_iload hx hb dX0_addOrder_100 (lv_at hl 0 rfl) ?_
    refine lv_iload_n hx hb dX0_addOrder_102 rfl (lv_at hl 3 rfl) ?_
    refine sa_stk (ws' := (sa_W0 cI cZ a (sa_f (sa_f σ 4 (upd (σ.2 4) (σ.1 1) x1)) 5 (upd (σ.2 5) (σ.1 1) x2)))) 5 S hK hP (sa_D0 hJ) hS rfl (by omega) (by decide) rfl dX0_addOrder_103 (fun H locs hP hS => ?_)
    refine lv_aload_n hx hb dX0_addOrder_104 rfl (lv_at hl 1 rfl) ?_
    refine sa_g0_orderGroup S hin hK hP (by decide +kernel) dX0_addOrder_105 ?_
    refine lv_iload hx hb dX0_addOrder_108 (lv_at hl 0 rfl) ?_
    refine lv_iload_n hx hb dX0_addOrder_110 rfl (lv_at hl 4 rfl) ?_
    refine sa_stk (ws' := (sa_W0 cI cZ a (sa_f (sa_f (sa_f σ 4 (upd (σ.2 4) (σ.1 1) x1)) 5 (upd (σ.2 5) (σ.1 1) x2)) 6 (upd (σ.2 6) (σ.1 1) x3)))) 6 S hK hP (sa_D0 hJ) hS rfl (by omega) (by decide) rfl dX0_addOrder_111 (fun H locs hP hS => ?_)
    refine lv_aload_n hx hb dX0_addOrder_112 rfl (lv_at hl 1 rfl) ?_
    refine sa_g0_orderSeconds S hin hK hP (by decide +kernel) dX0_addOrder_113 ?_
    refine lv_iload hx hb dX0_addOrder_116 (lv_at hl 0 rfl) ?_
    refine lv_iload hx hb dX0_addOrder_118 (lv_at hl 5 rfl) ?_
    refine sa_stk (ws' := (sa_W0 cI cZ a (sa_f (sa_f (sa_f (sa_f σ 4 (upd (σ.2 4) (σ.1 1) x1)) 5 (upd (σ.2 5) (σ.1 1) x2)) 6 (upd (σ.2 6) (σ.1 1) x3)) 7 (upd (σ.2 7) (σ.1 1) x4)))) 7 S hK hP (sa_D0 hJ) hS rfl (by omega) (by decide) rfl dX0_addOrder_120 (fun H locs hP hS => ?_)
    refine lv_aload_n hx hb dX0_addOrder_121 rfl (lv_at hl 1 rfl) ?_
    refine sa_g0_orderPrice S hin hK hP (by decide +kernel) dX0_addOrder_122 ?_
    refine lv_iload hx hb dX0_addOrder_125 (lv_at hl 0 rfl) ?_
    refine lv_iload hx hb dX0_addOrder_127 (lv_at hl 6 rfl) ?_
    refine sa_stk (ws' := (sa_W0 cI cZ a (sa_f (sa_f (sa_f (sa_f (sa_f σ 4 (upd (σ.2 4) (σ.1 1) x1)) 5 (upd (σ.2 5) (σ.1 1) x2)) 6 (upd (σ.2 6) (σ.1 1) x3)) 7 (upd (σ.2 7) (σ.1 1) x4)) 8 (upd (σ.2 8) (σ.1 1) x5)))) 8 S hK hP (sa_D0 hJ) hS rfl (by omega) (by decide) rfl dX0_addOrder_129 (fun H locs hP hS => ?_)
    refine lv_aload_n hx hb dX0_addOrder_130 rfl (lv_at hl 1 rfl) ?_
    refine sa_g0_orderPromise S hin hK hP (by decide +kernel) dX0_addOrder_131 ?_
    refine lv_iload hx hb dX0_addOrder_134 (lv_at hl 0 rfl) ?_
    refine lv_iload hx hb dX0_addOrder_136 (lv_at hl 7 rfl) ?_
    refine sa_stk (ws' := (sa_W0 cI cZ a (sa_f (sa_f (sa_f (sa_f (sa_f (sa_f σ 4 (upd (σ.2 4) (σ.1 1) x1)) 5 (upd (σ.2 5) (σ.1 1) x2)) 6 (upd (σ.2 6) (σ.1 1) x3)) 7 (upd (σ.2 7) (σ.1 1) x4)) 8 (upd (σ.2 8) (σ.1 1) x5)) 9 (upd (σ.2 9) (σ.1 1) x6)))) 9 S hK hP (sa_D0 hJ) hS rfl (by omega) (by decide) rfl dX0_addOrder_138 (fun H locs hP hS => ?_)
    refine lv_aload_n hx hb dX0_addOrder_139 rfl (lv_at hl 1 rfl) ?_
    refine sa_g0_orderFloor S hin hK hP (by decide +kernel) dX0_addOrder_140 ?_
    refine lv_iload hx hb dX0_addOrder_143 (lv_at hl 0 rfl) ?_
    refine lv_iload hx hb dX0_addOrder_145 (lv_at hl 8 rfl) ?_
    refine sa_stk (ws' := (sa_W0 cI cZ a (sa_f (sa_f (sa_f (sa_f (sa_f (sa_f (sa_f σ 4 (upd (σ.2 4) (σ.1 1) x1)) 5 (upd (σ.2 5) (σ.1 1) x2)) 6 (upd (σ.2 6) (σ.1 1) x3)) 7 (upd (σ.2 7) (σ.1 1) x4)) 8 (upd (σ.2 8) (σ.1 1) x5)) 9 (upd (σ.2 9) (σ.1 1) x6)) 10 (upd (σ.2 10) (σ.1 1) x7)))) 10 S hK hP (sa_D0 hJ) hS rfl (by omega) (by decide) rfl dX0_addOrder_147 (fun H locs hP hS => ?_)
    refine lv_aload_n hx hb dX0_addOrder_148 rfl (lv_at hl 1 rfl) ?_
    refine lv_dup hx hb dX0_addOrder_149 rfl ?_
    refine sa_g0_orderCount S hin hK hP (by decide +kernel) dX0_addOrder_150 ?_
    show W p l e _ s m _ below meth c _ _ _ _ _ (F0 m 153 ls [.int (nI (σ.1 1)), .ref (a 0)])
    refine lv_iconst (v := 1) hx hb dX0_addOrder_153 (by decide) ?_
    refine sa_iadd1 hx hb dX0_addOrder_154 ?_
    refine sa_p0_orderCount (v := σ.1 1 + 1) rfl S hin hK hP (sa_D0 hJ) hS (by decide +kernel) dX0_addOrder_155 (fun H locs hP hS => ?_)
    refine lv_iload hx hb dX0_addOrder_158 (lv_at hl 0 rfl) ?_
    exact W.iret (v := nI (σ.1 1)) hx hb hr (fun t9 ht _ => ⟨⟨_, (), rfl, rfl, by show va_P G vwCl (sa_W0 cI cZ a (sa_ord σ x1 x2 x3 x4 x5 x6 x7)) t9.heap; rw [ht]; exact hP⟩, hS.F ht⟩) hS.2.2 dX0_addOrder_160

set_option maxHeartbeats 4000000 in
set_option maxRecDepth 100000 in
theorem c_X0_addOrder_ex (l : Launch) (lo : Nat) (hst : l.stackTraces = false) (G : va_G) (cI cZ cL : ClassId) (a : Nat → Nat) (σ : sa_St) (hI : sa_I σ) (x1 x2 x3 x4 x5 x6 x7 : Int32) (hne : ¬ (sp_addOrder σ x1 x2 x3 x4 x5 x6 x7).1 = 0) : sa_Ex l yX0_addOrder wsX0_addOrder ({ frames := 7, cells := 1, slots := 6, locals := 110 }) (sa_Px lo G cI cZ cL (sa_W0 cI cZ a σ)) [.ref (a 0), .int (x1), .int (x2), .int (x3), .int (x4), .int (x5), .int (x6), .int (x7)] (fun E => ((sp_addOrder σ x1 x2 x3 x4 x5 x6 x7).1, E) ∈ [((1 : Nat), sa_E2), ((2 : Nat), sa_E3)]) := by
  obtain ⟨hnb, hno, hns, hgr, hor, hbr, hai⟩ := id hI
  refine vx_ofW (cc := cX0_addOrder) (maxL := 9) (ret := (some .int)) (by decide) rfl ?_
  intro p e s m args below meth c s₁ B9 hml htab hv
  obtain ⟨rfl, ⟨hP, hK⟩, hT⟩ := hv
  have hx := B9.exec
  have hb := B9.bytes
  have hr := B9.returns
  have hlk := B9.notSynchronized
  have hts := atoms_spec (ws := wsX0_addOrder) B9.pre
  have hown : s.vm.findClass RX0 = some m.cls := findClass_of_methodNamed B9.named
  have S : CallFix p m c cX0_addOrder 9 s _ wsX0_addOrder RX0 := ⟨hx, hb, hml, hown, hts⟩
  have hin : ∀ w ∈ wsX00, w ∈ wsX0_addOrder := by decide +kernel
  have hl := lv_entry ([.ref (a 0), .int (x1), .int (x2), .int (x3), .int (x4), .int (x5), .int (x6), .int (x7)]) (n := 9) (Nat.le_of_ble_eq_true rfl)
  rw [lg_entry_eq]
  generalize (lg_sl ([.ref (a 0), .int (x1), .int (x2), .int (x3), .int (x4), .int (x5), .int (x6), .int (x7)]) ++ List.replicate (9 - (lg_sl ([.ref (a 0), .int (x1), .int (x2), .int (x3), .int (x4), .int (x5), .int (x6), .int (x7)])).length) Slot.unset).toArray = ls at hl ⊢
  have hl : lv_has ls 9 [(0, .ref (a 0)), (1, .int (x1)), (2, .int (x2)), (3, .int (x3)), (4, .int (x4)), (5, .int (x5)), (6, .int (x6)), (7, .int (x7))] := hl
  refine lv_iload_n hx hb dX0_addOrder_0 rfl (lv_at hl 1 rfl) ?_
  refine sa_kRs (As := [.int (x1)]) (rest := []) S (c_X0_isAdvertiser l x1) (va_cwS 1 hts gX0_addOrder_X0_isAdvertiser rfl rfl rfl (by decide +kernel) ⟨Nat.le_of_ble_eq_true rfl, Nat.le_of_ble_eq_true rfl⟩) rfl hl.1 (Nat.le_of_ble_eq_true rfl) rfl dX0_addOrder_1 ⟨Nat.zero_le _, Nat.zero_le _⟩ ?_
  by_cases k_4 : sa_w x1 0 9
  · skip
    refine sa_kOkS (As := [.int (sa_b (sa_w x1 0 9))]) (rest := []) S (c_X0_checkArgument_ok l (sa_b (sa_w x1 0 9)) (by rw [sa_bt k_4]; decide)) (va_cwS 1 hts gX0_addOrder_X0_checkArgument rfl rfl rfl (by decide +kernel) ⟨Nat.le_of_ble_eq_true rfl, Nat.le_of_ble_eq_true rfl⟩) rfl hl.1 (Nat.le_of_ble_eq_true rfl) rfl dX0_addOrder_4 ⟨Nat.zero_le _, Nat.zero_le _⟩ ?_
    refine lv_iload_n hx hb dX0_addOrder_7 rfl (lv_at hl 2 rfl) ?_
    refine lv_iconst (v := 0) hx hb dX0_addOrder_8 (by decide) ?_
    refine lv_bipush (v := 7) hx hb dX0_addOrder_9 (by decide) ?_
    refine sa_kRs (As := [.int (x2), .int (0), .int (7)]) (rest := []) S (c_X0_isWithin l x2 0 7) (va_cwS 3 hts gX0_addOrder_X0_isWithin rfl rfl rfl (by decide +kernel) ⟨Nat.le_of_ble_eq_true rfl, Nat.le_of_ble_eq_true rfl⟩) rfl hl.1 (Nat.le_of_ble_eq_true rfl) rfl dX0_addOrder_11 ⟨Nat.zero_le _, Nat.zero_le _⟩ ?_
    by_cases k_14 : sa_w x2 0 7
    · skip
      refine sa_kOkS (As := [.int (sa_b (sa_w x2 0 7))]) (rest := []) S (c_X0_checkArgument_ok l (sa_b (sa_w x2 0 7)) (by rw [sa_bt k_14]; decide)) (va_cwS 1 hts gX0_addOrder_X0_checkArgument rfl rfl rfl (by decide +kernel) ⟨Nat.le_of_ble_eq_true rfl, Nat.le_of_ble_eq_true rfl⟩) rfl hl.1 (Nat.le_of_ble_eq_true rfl) rfl dX0_addOrder_14 ⟨Nat.zero_le _, Nat.zero_le _⟩ ?_
      refine lv_iload_n hx hb dX0_addOrder_17 rfl (lv_at hl 3 rfl) ?_
      refine sa_kRs (As := [.int (x3)]) (rest := []) S (c_X0_isGroup l x3) (va_cwS 1 hts gX0_addOrder_X0_isGroup rfl rfl rfl (by decide +kernel) ⟨Nat.le_of_ble_eq_true rfl, Nat.le_of_ble_eq_true rfl⟩) rfl hl.1 (Nat.le_of_ble_eq_true rfl) rfl dX0_addOrder_18 ⟨Nat.zero_le _, Nat.zero_le _⟩ ?_
      by_cases k_21 : sa_w x3 0 2
      · skip
        refine sa_kOkS (As := [.int (sa_b (sa_w x3 0 2))]) (rest := []) S (c_X0_checkArgument_ok l (sa_b (sa_w x3 0 2)) (by rw [sa_bt k_21]; decide)) (va_cwS 1 hts gX0_addOrder_X0_checkArgument rfl rfl rfl (by decide +kernel) ⟨Nat.le_of_ble_eq_true rfl, Nat.le_of_ble_eq_true rfl⟩) rfl hl.1 (Nat.le_of_ble_eq_true rfl) rfl dX0_addOrder_21 ⟨Nat.zero_le _, Nat.zero_le _⟩ ?_
        refine lv_iload hx hb dX0_addOrder_24 (lv_at hl 4 rfl) ?_
        refine sa_kRs (As := [.int (x4)]) (rest := []) S (c_X0_isSpotLength l x4) (va_cwS 1 hts gX0_addOrder_X0_isSpotLength rfl rfl rfl (by decide +kernel) ⟨Nat.le_of_ble_eq_true rfl, Nat.le_of_ble_eq_true rfl⟩) rfl hl.1 (Nat.le_of_ble_eq_true rfl) rfl dX0_addOrder_26 ⟨Nat.zero_le _, Nat.zero_le _⟩ ?_
        by_cases k_29 : x4 = 15 ∨ x4 = 30 ∨ x4 = 60
        · skip
          refine sa_kOkS (As := [.int (sa_b (x4 = 15 ∨ x4 = 30 ∨ x4 = 60))]) (rest := []) S (c_X0_checkArgument_ok l (sa_b (x4 = 15 ∨ x4 = 30 ∨ x4 = 60)) (by rw [sa_bt k_29]; decide)) (va_cwS 1 hts gX0_addOrder_X0_checkArgument rfl rfl rfl (by decide +kernel) ⟨Nat.le_of_ble_eq_true rfl, Nat.le_of_ble_eq_true rfl⟩) rfl hl.1 (Nat.le_of_ble_eq_true rfl) rfl dX0_addOrder_29 ⟨Nat.zero_le _, Nat.zero_le _⟩ ?_
          refine lv_iload hx hb dX0_addOrder_32 (lv_at hl 5 rfl) ?_
          refine lv_iconst (v := 0) hx hb dX0_addOrder_34 (by decide) ?_
          refine lv_ldc (v := 1000000) hx hb hown (hts (.constant RX0 97 (1000000)) (by decide +kernel)) dX0_addOrder_35 ?_
          refine sa_kRs (As := [.int (x5), .int (0), .int (1000000)]) (rest := []) S (c_X0_isWithin l x5 0 1000000) (va_cwS 3 hts gX0_addOrder_X0_isWithin rfl rfl rfl (by decide +kernel) ⟨Nat.le_of_ble_eq_true rfl, Nat.le_of_ble_eq_true rfl⟩) rfl hl.1 (Nat.le_of_ble_eq_true rfl) rfl dX0_addOrder_37 ⟨Nat.zero_le _, Nat.zero_le _⟩ ?_
          by_cases k_40 : sa_w x5 0 1000000
          · skip
            refine sa_kOkS (As := [.int (sa_b (sa_w x5 0 1000000))]) (rest := []) S (c_X0_checkArgument_ok l (sa_b (sa_w x5 0 1000000)) (by rw [sa_bt k_40]; decide)) (va_cwS 1 hts gX0_addOrder_X0_checkArgument rfl rfl rfl (by decide +kernel) ⟨Nat.le_of_ble_eq_true rfl, Nat.le_of_ble_eq_true rfl⟩) rfl hl.1 (Nat.le_of_ble_eq_true rfl) rfl dX0_addOrder_40 ⟨Nat.zero_le _, Nat.zero_le _⟩ ?_
            refine lv_iload hx hb dX0_addOrder_43 (lv_at hl 6 rfl) ?_
            refine lv_iconst (v := 0) hx hb dX0_addOrder_45 (by decide) ?_
            refine lv_ldc (v := 1000000) hx hb hown (hts (.constant RX0 97 (1000000)) (by decide +kernel)) dX0_addOrder_46 ?_
            refine sa_kRs (As := [.int (x6), .int (0), .int (1000000)]) (rest := []) S (c_X0_isWithin l x6 0 1000000) (va_cwS 3 hts gX0_addOrder_X0_isWithin rfl rfl rfl (by decide +kernel) ⟨Nat.le_of_ble_eq_true rfl, Nat.le_of_ble_eq_true rfl⟩) rfl hl.1 (Nat.le_of_ble_eq_true rfl) rfl dX0_addOrder_48 ⟨Nat.zero_le _, Nat.zero_le _⟩ ?_
            by_cases k_51 : sa_w x6 0 1000000
            · skip
              refine sa_kOkS (As := [.int (sa_b (sa_w x6 0 1000000))]) (rest := []) S (c_X0_checkArgument_ok l (sa_b (sa_w x6 0 1000000)) (by rw [sa_bt k_51]; decide)) (va_cwS 1 hts gX0_addOrder_X0_checkArgument rfl rfl rfl (by decide +kernel) ⟨Nat.le_of_ble_eq_true rfl, Nat.le_of_ble_eq_true rfl⟩) rfl hl.1 (Nat.le_of_ble_eq_true rfl) rfl dX0_addOrder_51 ⟨Nat.zero_le _, Nat.zero_le _⟩ ?_
              refine lv_iload hx hb dX0_addOrder_54 (lv_at hl 7 rfl) ?_
              refine lv_iconst (v := 0) hx hb dX0_addOrder_56 (by decide) ?_
              refine lv_ldc (v := 100000) hx hb hown (hts (.constant RX0 79 (100000)) (by decide +kernel)) dX0_addOrder_57 ?_
              refine sa_kRs (As := [.int (x7), .int (0), .int (100000)]) (rest := []) S (c_X0_isWithin l x7 0 100000) (va_cwS 3 hts gX0_addOrder_X0_isWithin rfl rfl rfl (by decide +kernel) ⟨Nat.le_of_ble_eq_true rfl, Nat.le_of_ble_eq_true rfl⟩) rfl hl.1 (Nat.le_of_ble_eq_true rfl) rfl dX0_addOrder_59 ⟨Nat.zero_le _, Nat.zero_le _⟩ ?_
              by_cases k_62 : sa_w x7 0 100000
              · skip
                refine sa_kOkS (As := [.int (sa_b (sa_w x7 0 100000))]) (rest := []) S (c_X0_checkArgument_ok l (sa_b (sa_w x7 0 100000)) (by rw [sa_bt k_62]; decide)) (va_cwS 1 hts gX0_addOrder_X0_checkArgument rfl rfl rfl (by decide +kernel) ⟨Nat.le_of_ble_eq_true rfl, Nat.le_of_ble_eq_true rfl⟩) rfl hl.1 (Nat.le_of_ble_eq_true rfl) rfl dX0_addOrder_62 ⟨Nat.zero_le _, Nat.zero_le _⟩ ?_
                refine lv_aload_n hx hb dX0_addOrder_65 rfl (lv_at hl 0 rfl) ?_
                refine sa_g0_orderCount S hin hK hP (by decide +kernel) dX0_addOrder_66 ?_
                refine lv_bipush (v := 20) hx hb dX0_addOrder_69 (by decide) ?_
                refine lv_icmp_ge (tgt := 78) hx hb dX0_addOrder_71 (by decide) (fun c_71 => ?_) (fun c_71 => ?_)
                · skip
                  have c_71 := Int32.not_lt.mpr c_71
                  refine lv_iconst (v := 0) hx hb dX0_addOrder_78 (by decide) ?_
                  exact sa_kExS (As := [.int (0)]) (rest := []) S (c_X0_checkState_ex l lo hst 0 rfl) (va_cwS 1 hts gX0_addOrder_X0_checkState rfl rfl rfl (by decide +kernel) ⟨Nat.le_of_ble_eq_true rfl, Nat.le_of_ble_eq_true rfl⟩) hT htab hlk (fun E hE => by subst hE; rw [show sp_addOrder σ x1 x2 x3 x4 x5 x6 x7 = (2, 0, σ) from sa_go2 ⟨k_4, k_14, k_21, (by simp [k_4, k_14, k_21, k_29, k_40, k_51, k_62, c_71]), k_40, k_51, k_62⟩ (fun z9 => c_71 z9)]; show ((2 : Nat), sa_E3) ∈ _; decide) rfl hl.1 (Nat.le_of_ble_eq_true rfl) rfl dX0_addOrder_79 ⟨Nat.le_refl _, Nat.le_refl _⟩
                · skip
                  have c_71 := Int32.not_le.mp c_71
                  refine lv_iconst (v := 1) hx hb dX0_addOrder_74 (by decide) ?_
                  refine lv_goto (tgt := 79) hx hb dX0_addOrder_75 (by decide) ?_
                  exact (hne (congrArg Prod.fst (show sp_addOrder σ x1 x2 x3 x4 x5 x6 x7 = (0, _) from sa_go0 ⟨k_4, k_14, k_21, (by simp [k_4, k_14, k_21, k_29, k_40, k_51, k_62, c_71]), k_40, k_51, k_62⟩ c_71 trivial))).elim
              · skip
                exact sa_kExS (As := [.int (sa_b (sa_w x7 0 100000))]) (rest := []) S (c_X0_checkArgument_ex l lo hst (sa_b (sa_w x7 0 100000)) (sa_bf k_62)) (va_cwS 1 hts gX0_addOrder_X0_checkArgument rfl rfl rfl (by decide +kernel) ⟨Nat.le_of_ble_eq_true rfl, Nat.le_of_ble_eq_true rfl⟩) hT htab hlk (fun E hE => by subst hE; rw [show sp_addOrder σ x1 x2 x3 x4 x5 x6 x7 = (1, 0, σ) from sa_go1 (fun z9 => k_62 z9.2.2.2.2.2.2)]; show ((1 : Nat), sa_E2) ∈ _; decide) rfl hl.1 (Nat.le_of_ble_eq_true rfl) rfl dX0_addOrder_62 ⟨Nat.le_refl _, Nat.le_refl _⟩
            · skip
              exact sa_kExS (As := [.int (sa_b (sa_w x6 0 1000000))]) (rest := []) S (c_X0_checkArgument_ex l lo hst (sa_b (sa_w x6 0 1000000)) (sa_bf k_51)) (va_cwS 1 hts gX0_addOrder_X0_checkArgument rfl rfl rfl (by decide +kernel) ⟨Nat.le_of_ble_eq_true rfl, Nat.le_of_ble_eq_true rfl⟩) hT htab hlk (fun E hE => by subst hE; rw [show sp_addOrder σ x1 x2 x3 x4 x5 x6 x7 = (1, 0, σ) from sa_go1 (fun z9 => k_51 z9.2.2.2.2.2.1)]; show ((1 : Nat), sa_E2) ∈ _; decide) rfl hl.1 (Nat.le_of_ble_eq_true rfl) rfl dX0_addOrder_51 ⟨Nat.le_refl _, Nat.le_refl _⟩
          · skip
            exact sa_kExS (As := [.int (sa_b (sa_w x5 0 1000000))]) (rest := []) S (c_X0_checkArgument_ex l lo hst (sa_b (sa_w x5 0 1000000)) (sa_bf k_40)) (va_cwS 1 hts gX0_addOrder_X0_checkArgument rfl rfl rfl (by decide +kernel) ⟨Nat.le_of_ble_eq_true rfl, Nat.le_of_ble_eq_true rfl⟩) hT htab hlk (fun E hE => by subst hE; rw [show sp_addOrder σ x1 x2 x3 x4 x5 x6 x7 = (1, 0, σ) from sa_go1 (fun z9 => k_40 z9.2.2.2.2.1)]; show ((1 : Nat), sa_E2) ∈ _; decide) rfl hl.1 (Nat.le_of_ble_eq_true rfl) rfl dX0_addOrder_40 ⟨Nat.le_refl _, Nat.le_refl _⟩
        · skip
          exact sa_kExS (As := [.int (sa_b (x4 = 15 ∨ x4 = 30 ∨ x4 = 60))]) (rest := []) S (c_X0_checkArgument_ex l lo hst (sa_b (x4 = 15 ∨ x4 = 30 ∨ x4 = 60)) (sa_bf k_29)) (va_cwS 1 hts gX0_addOrder_X0_checkArgument rfl rfl rfl (by decide +kernel) ⟨Nat.le_of_ble_eq_true rfl, Nat.le_of_ble_eq_true rfl⟩) hT htab hlk (fun E hE => by subst hE; rw [show sp_addOrder σ x1 x2 x3 x4 x5 x6 x7 = (1, 0, σ) from sa_go1 (by intro z9; simp [k_4, k_14, k_21, k_29] at z9)]; show ((1 : Nat), sa_E2) ∈ _; decide) rfl hl.1 (Nat.le_of_ble_eq_true rfl) rfl dX0_addOrder_29 ⟨Nat.le_refl _, Nat.le_refl _⟩
      · skip
        exact sa_kExS (As := [.int (sa_b (sa_w x3 0 2))]) (rest := []) S (c_X0_checkArgument_ex l lo hst (sa_b (sa_w x3 0 2)) (sa_bf k_21)) (va_cwS 1 hts gX0_addOrder_X0_checkArgument rfl rfl rfl (by decide +kernel) ⟨Nat.le_of_ble_eq_true rfl, Nat.le_of_ble_eq_true rfl⟩) hT htab hlk (fun E hE => by subst hE; rw [show sp_addOrder σ x1 x2 x3 x4 x5 x6 x7 = (1, 0, σ) from sa_go1 (fun z9 => k_21 z9.2.2.1)]; show ((1 : Nat), sa_E2) ∈ _; decide) rfl hl.1 (Nat.le_of_ble_eq_true rfl) rfl dX0_addOrder_21 ⟨Nat.le_refl _, Nat.le_refl _⟩
    · skip
      exact sa_kExS (As := [.int (sa_b (sa_w x2 0 7))]) (rest := []) S (c_X0_checkArgument_ex l lo hst (sa_b (sa_w x2 0 7)) (sa_bf k_14)) (va_cwS 1 hts gX0_addOrder_X0_checkArgument rfl rfl rfl (by decide +kernel) ⟨Nat.le_of_ble_eq_true rfl, Nat.le_of_ble_eq_true rfl⟩) hT htab hlk (fun E hE => by subst hE; rw [show sp_addOrder σ x1 x2 x3 x4 x5 x6 x7 = (1, 0, σ) from sa_go1 (fun z9 => k_14 z9.2.1)]; show ((1 : Nat), sa_E2) ∈ _; decide) rfl hl.1 (Nat.le_of_ble_eq_true rfl) rfl dX0_addOrder_14 ⟨Nat.le_refl _, Nat.le_refl _⟩
  · skip
    exact sa_kExS (As := [.int (sa_b (sa_w x1 0 9))]) (rest := []) S (c_X0_checkArgument_ex l lo hst (sa_b (sa_w x1 0 9)) (sa_bf k_4)) (va_cwS 1 hts gX0_addOrder_X0_checkArgument rfl rfl rfl (by decide +kernel) ⟨Nat.le_of_ble_eq_true rfl, Nat.le_of_ble_eq_true rfl⟩) hT htab hlk (fun E hE => by subst hE; rw [show sp_addOrder σ x1 x2 x3 x4 x5 x6 x7 = (1, 0, σ) from sa_go1 (fun z9 => k_4 z9.1)]; show ((1 : Nat), sa_E2) ∈ _; decide) rfl hl.1 (Nat.le_of_ble_eq_true rfl) rfl dX0_addOrder_4 ⟨Nat.le_refl _, Nat.le_refl _⟩

set_option maxHeartbeats 4000000 in
set_option maxRecDepth 100000 in
theorem c_X0_close_ok (l : Launch) (G : va_G) (cI cZ cL : ClassId) (a : Nat → Nat) (σ : sa_St) (hI : sa_I σ) (o : Int32) (hJ : sa_J a) (h1 : sa_iO σ o) (h2 : σ.2 11 o.toNatClampNeg = 0) : sa_Wr l yX0_close wsX0_close ({ frames := 8, cells := 0, slots := 0, locals := 132 }) G cI cZ cL (sa_W0 cI cZ a σ) (sa_W0 cI cZ a (sa_clo σ o)) (sa_A a) [.ref (a 0), .int (o)] (sa_owes (sa_clo σ o) o) := by
  obtain ⟨hnb, hno, hns, hgr, hor, hbr, hai⟩ := id hI
  refine Met.ofW (cc := cX0_close) (maxL := 3) (ret := (some .int)) (by decide) rfl ?_
  intro p e s m args below meth c s₁ B9 hml hv
  obtain ⟨rfl, hP, hK⟩ := hv
  have ho : vp_in o (σ.1 1) := sa_inv (by omega) h1
  have hx := B9.exec
  have hb := B9.bytes
  have hr := B9.returns
  have hlk := B9.notSynchronized
  have hts := atoms_spec (ws := wsX0_close) B9.pre
  have hown : s.vm.findClass RX0 = some m.cls := findClass_of_methodNamed B9.named
  have S : CallFix p m c cX0_close 3 s _ wsX0_close RX0 := ⟨hx, hb, hml, hown, hts⟩
  have hin : ∀ w ∈ wsX00, w ∈ wsX0_close := by decide +kernel
  have hS : va_S (sa_A a) s.heap s.heap [] := va_S.rf
  have hl := lv_entry ([.ref (a 0), .int (o)]) (n := 3) (Nat.le_of_ble_eq_true rfl)
  rw [lg_entry_eq]
  generalize (lg_sl ([.ref (a 0), .int (o)]) ++ List.replicate (3 - (lg_sl ([.ref (a 0), .int (o)])).length) Slot.unset).toArray = ls at hl ⊢
  have hl : lv_has ls 3 [(0, .ref (a 0)), (1, .int (o))] := hl
  refine lv_aload_n hx hb dX0_close_0 rfl (lv_at hl 0 rfl) ?_
  refine lv_iload_n hx hb dX0_close_1 rfl (lv_at hl 1 rfl) ?_
  refine sa_kOkV (As := [.int (o)]) (rest := []) S (c_X0_checkOrder_ok l G cI cZ cL a σ hI o h1) (cwV 1 hts gX0_close_X0_checkOrder rfl rfl rfl (by decide +kernel) ⟨Nat.le_of_ble_eq_true rfl, Nat.le_of_ble_eq_true rfl⟩) hP hK (ci := 0) rfl rfl rfl hl.1 (Nat.le_of_ble_eq_true rfl) rfl dX0_close_2 ⟨Nat.zero_le _, Nat.zero_le _⟩ ?_
  refine lv_aload_n hx hb dX0_close_5 rfl (lv_at hl 0 rfl) ?_
  refine sa_g0_orderClosed S hin hK hP (by decide +kernel) dX0_close_6 ?_
  refine lv_iload_n hx hb dX0_close_9 rfl (lv_at hl 1 rfl) ?_
  refine sa_ldz 11 S hK hP rfl (sa_vm ho (by omega)) dX0_close_10 ?_
  refine lv_if_ne (tgt := 18) hx hb dX0_close_11 (by decide) (fun c_11 => ?_) (fun c_11 => ?_)
  · skip
    refine lv_iconst (v := 0) hx hb dX0_close_18 (by decide) ?_
    exact absurd h2 (fun z9 => c_11 z9)
  · skip
    refine lv_iconst (v := 1) hx hb dX0_close_14 (by decide) ?_
    refine lv_goto (tgt := 19) hx hb dX0_close_15 (by decide) ?_
    refine sa_kOkS (As := [.int (1)]) (rest := []) S (c_X0_checkState_ok l 1 (by decide)) (va_cwS 1 hts gX0_close_X0_checkState rfl rfl rfl (by decide +kernel) ⟨Nat.le_of_ble_eq_true rfl, Nat.le_of_ble_eq_true rfl⟩) rfl hl.1 (Nat.le_of_ble_eq_true rfl) rfl dX0_close_19 ⟨Nat.zero_le _, Nat.zero_le _⟩ ?_
    refine lv_aload_n hx hb dX0_close_22 rfl (lv_at hl 0 rfl) ?_
    refine sa_g0_orderClosed S hin hK hP (by decide +kernel) dX0_close_23 ?_
    refine lv_iload_n hx hb dX0_close_26 rfl (lv_at hl 1 rfl) ?_
    refine lv_iconst (v := 1) hx hb dX0_close_27 (by decide) ?_
    refine sa_stz (ws' := (sa_W0 cI cZ a (sa_f σ 11 (upd (σ.2 11) o.toNatClampNeg 1)))) 11 S hK hP (sa_D0 hJ) hS rfl (sa_vm ho (by omega)) (by decide) rfl dX0_close_28 (fun H locs hP hS => ?_)
    refine lv_iconst (v := 0) hx hb dX0_close_29 (by decide) ?_
    refine lv_istore_n (lv' := [(2, .int (0)), (0, .ref (a 0)), (1, .int (o))]) hx hb dX0_close_30 rfl hl (by decide) rfl (fun ls hl => ?_)
    have loop : ∀ (n k : Nat), k + n = σ.1 2 →   ∀ (H : Heap) (locs : List Loc), va_P G vwCl (sa_W0 cI cZ a (sa_f (sa_f σ 11 (upd (σ.2 11) o.toNatClampNeg 1)) 14 (sa_cls σ o k))) H → va_S (sa_A a) s.heap H locs → ∀ ls : Array Slot, lv_has ls 3 [(2, .int (nI k)), (0, .ref (a 0)), (1, .int (o))] → W p l e (headSpec wsX0_close ({ frames := 8, cells := 0, slots := 0, locals := 132 })).room s m ([Value.ref (a 0), Value.int (o)] : List Value).toArray below meth c H locs 0 0 (MQ below (va_Qi (fun z (_ : Unit) => z = sa_owes (sa_clo σ o) o) (fun _ t => va_P G vwCl (sa_W0 cI cZ a (sa_clo σ o)) t.heap) (sa_A a)) ([Value.ref (a 0), Value.int (o)] : List Value).toArray s 0 0 (sa_A a)) (F0 m 31 ls []) := by
      intro n
      induction n with
      | zero =>
        intro k hk   H locs hP hS ls hl
        have hk2 : k = σ.1 2 := by omega
        subst hk2
        refine lv_iload_n hx hb dX0_close_31 rfl (lv_at hl 0 rfl) ?_
        refine lv_aload_n hx hb dX0_close_32 rfl (lv_at hl 1 rfl) ?_
        refine sa_g0_spotCount S hin hK hP (by decide +kernel) dX0_close_33 ?_
        show W p l e _ s m _ below meth c _ _ _ _ _ (F0 m 36 ls [.int (nI (σ.1 2)), .int (nI (σ.1 2))])
        refine lv_icmp_ge (tgt := 71) hx hb dX0_close_36 (by decide) (fun _ => ?_) (fun c9 => absurd (nI_le (Nat.le_refl _) (by omega)) c9)
        have hI : sa_I (sa_clo σ o) := sa_I_clo hI
        refine lv_aload_n hx hb dX0_close_71 rfl (lv_at hl 1 rfl) ?_
        refine lv_iload_n hx hb dX0_close_72 rfl (lv_at hl 2 rfl) ?_
        refine sa_kRd (As := [.int (o)]) (rest := []) S (c_X0_owedTo l G cI cZ cL a (sa_clo σ o) hI o ho) (cwV 1 hts gX0_close_X0_owedTo rfl rfl rfl (by decide +kernel) ⟨Nat.le_of_ble_eq_true rfl, Nat.le_of_ble_eq_true rfl⟩) hP hK (ci := 0) rfl rfl rfl hl.1 (Nat.le_of_ble_eq_true rfl) rfl dX0_close_73 ⟨Nat.zero_le _, Nat.zero_le _⟩ ?_
        exact W.iret (v := sa_owes (sa_clo σ o) o) hx hb hr (fun t9 ht _ => ⟨⟨_, (), rfl, rfl, by show va_P G vwCl (sa_W0 cI cZ a (sa_clo σ o)) t9.heap; rw [ht]; exact hP⟩, hS.F ht⟩) hS.2.2 dX0_close_76
      | succ n ih =>
        intro k hk   H locs hP hS ls hl
        have hkn : k < σ.1 2 := by omega
        refine lv_iload_n hx hb dX0_close_31 rfl (lv_at hl 0 rfl) ?_
        refine lv_aload_n hx hb dX0_close_32 rfl (lv_at hl 1 rfl) ?_
        refine sa_g0_spotCount S hin hK hP (by decide +kernel) dX0_close_33 ?_
        show W p l e _ s m _ below meth c _ _ _ _ _ (F0 m 36 ls [.int (nI (σ.1 2)), .int (nI k)])
        refine lv_icmp_ge (tgt := 71) hx hb dX0_close_36 (by decide) (fun c9 => absurd c9 (nI_ge (by omega) (by omega))) (fun _ => ?_)
        refine lv_aload_n hx hb dX0_close_39 rfl (lv_at hl 1 rfl) ?_
        refine sa_g0_spotOrder S hin hK hP (by decide +kernel) dX0_close_40 ?_
        refine lv_iload_n hx hb dX0_close_43 rfl (lv_at hl 0 rfl) ?_
        refine sa_ldk 12 S hK hP rfl (by omega) (by decide) dX0_close_44 ?_
        show W p l e _ s m _ below meth c _ _ _ _ _ (F0 m 45 ls [.int (σ.2 12 k)])
        refine lv_iload_n hx hb dX0_close_45 rfl (lv_at hl 2 rfl) ?_
        refine lv_icmp_ne (tgt := 65) hx hb dX0_close_46 (by decide) (fun c_46 => ?_) (fun c_46 => ?_)
        · skip
          refine lv_iinc (v := nI (k + 1)) (lv' := [(2, .int (nI (k + 1))), (0, .ref (a 0)), (1, .int (o))]) hx hb dX0_close_65 hl (k := 0) rfl (nI_1 k) (by decide) rfl (fun ls hl => ?_)
          refine lv_goto (tgt := 31) hx hb dX0_close_68 (by decide) ?_
          exact ih (k + 1) (by omega)  _ _ (by have e9 : sa_cls σ o (k + 1) = (sa_cls σ o k) := (by simp [sa_cls, c_46]); rw [e9]; exact hP) hS ls (lv_sub hl [0, 1, 2] rfl)
        · skip
          refine lv_aload_n hx hb dX0_close_49 rfl (lv_at hl 1 rfl) ?_
          refine sa_g0_spotState S hin hK hP (by decide +kernel) dX0_close_50 ?_
          refine lv_iload_n hx hb dX0_close_53 rfl (lv_at hl 0 rfl) ?_
          refine sa_ldk 14 S hK hP rfl (by omega) (by decide) dX0_close_54 ?_
          show W p l e _ s m _ below meth c _ _ _ _ _ (F0 m 55 ls [.int ((sa_cls σ o k) k)])
          refine lv_if_ne (tgt := 65) hx hb dX0_close_55 (by decide) (fun c_55 => ?_) (fun c_55 => ?_)
          · skip
            refine lv_iinc (v := nI (k + 1)) (lv' := [(2, .int (nI (k + 1))), (0, .ref (a 0)), (1, .int (o))]) hx hb dX0_close_65 hl (k := 0) rfl (nI_1 k) (by decide) rfl (fun ls hl => ?_)
            refine lv_goto (tgt := 31) hx hb dX0_close_68 (by decide) ?_
            exact ih (k + 1) (by omega)  _ _ (by have e9 : sa_cls σ o (k + 1) = (sa_cls σ o k) := (by simp [sa_cls, c_46, c_55]); rw [e9]; exact hP) hS ls (lv_sub hl [0, 1, 2] rfl)
          · skip
            refine lv_aload_n hx hb dX0_close_58 rfl (lv_at hl 1 rfl) ?_
            refine sa_g0_spotState S hin hK hP (by decide +kernel) dX0_close_59 ?_
            refine lv_iload_n hx hb dX0_close_62 rfl (lv_at hl 0 rfl) ?_
            refine lv_iconst (v := 3) hx hb dX0_close_63 (by decide) ?_
            refine sa_stk (ws' := (sa_W0 cI cZ a (sa_f (sa_f (sa_f σ 11 (upd (σ.2 11) o.toNatClampNeg 1)) 14 (sa_cls σ o k)) 14 (upd ((sa_cls σ o k)) k 3)))) 14 S hK hP (sa_D0 hJ) hS rfl (by omega) (by decide) rfl dX0_close_64 (fun H locs hP hS => ?_)
            refine lv_iinc (v := nI (k + 1)) (lv' := [(2, .int (nI (k + 1))), (0, .ref (a 0)), (1, .int (o))]) hx hb dX0_close_65 hl (k := 0) rfl (nI_1 k) (by decide) rfl (fun ls hl => ?_)
            refine lv_goto (tgt := 31) hx hb dX0_close_68 (by decide) ?_
            exact ih (k + 1) (by omega)  _ _ (by have e9 : sa_cls σ o (k + 1) = (upd ((sa_cls σ o k)) k 3) := (by simp [sa_cls, c_46, c_55]); rw [e9]; exact hP) hS ls (lv_sub hl [0, 1, 2] rfl)
    exact loop (σ.1 2) 0 (Nat.zero_add _)  _ _ hP hS ls (lv_sub hl [0, 1, 2] rfl)

set_option maxHeartbeats 4000000 in
set_option maxRecDepth 100000 in
theorem c_X0_close_ex (l : Launch) (lo : Nat) (hst : l.stackTraces = false) (G : va_G) (cI cZ cL : ClassId) (a : Nat → Nat) (σ : sa_St) (hI : sa_I σ) (o : Int32) (hne : ¬ (sp_close σ o).1 = 0) : sa_Ex l yX0_close wsX0_close ({ frames := 8, cells := 1, slots := 6, locals := 132 }) (sa_Px lo G cI cZ cL (sa_W0 cI cZ a σ)) [.ref (a 0), .int (o)] (fun E => ((sp_close σ o).1, E) ∈ [((1 : Nat), sa_E1), ((2 : Nat), sa_E3)]) := by
  obtain ⟨hnb, hno, hns, hgr, hor, hbr, hai⟩ := id hI
  refine vx_ofW (cc := cX0_close) (maxL := 3) (ret := (some .int)) (by decide) rfl ?_
  intro p e s m args below meth c s₁ B9 hml htab hv
  obtain ⟨rfl, ⟨hP, hK⟩, hT⟩ := hv
  have hx := B9.exec
  have hb := B9.bytes
  have hr := B9.returns
  have hlk := B9.notSynchronized
  have hts := atoms_spec (ws := wsX0_close) B9.pre
  have hown : s.vm.findClass RX0 = some m.cls := findClass_of_methodNamed B9.named
  have S : CallFix p m c cX0_close 3 s _ wsX0_close RX0 := ⟨hx, hb, hml, hown, hts⟩
  have hin : ∀ w ∈ wsX00, w ∈ wsX0_close := by decide +kernel
  have hl := lv_entry ([.ref (a 0), .int (o)]) (n := 3) (Nat.le_of_ble_eq_true rfl)
  rw [lg_entry_eq]
  generalize (lg_sl ([.ref (a 0), .int (o)]) ++ List.replicate (3 - (lg_sl ([.ref (a 0), .int (o)])).length) Slot.unset).toArray = ls at hl ⊢
  have hl : lv_has ls 3 [(0, .ref (a 0)), (1, .int (o))] := hl
  refine lv_aload_n hx hb dX0_close_0 rfl (lv_at hl 0 rfl) ?_
  refine lv_iload_n hx hb dX0_close_1 rfl (lv_at hl 1 rfl) ?_
  by_cases k_2 : sa_in o (σ.1 1)
  · skip
    have ho : vp_in o (σ.1 1) := sa_inv (by omega) k_2
    refine sa_kOkV (As := [.int (o)]) (rest := []) S (c_X0_checkOrder_ok l G cI cZ cL a σ hI o k_2) (cwV 1 hts gX0_close_X0_checkOrder rfl rfl rfl (by decide +kernel) ⟨Nat.le_of_ble_eq_true rfl, Nat.le_of_ble_eq_true rfl⟩) hP hK (ci := 0) rfl rfl rfl hl.1 (Nat.le_of_ble_eq_true rfl) rfl dX0_close_2 ⟨Nat.zero_le _, Nat.zero_le _⟩ ?_
    refine lv_aload_n hx hb dX0_close_5 rfl (lv_at hl 0 rfl) ?_
    refine sa_g0_orderClosed S hin hK hP (by decide +kernel) dX0_close_6 ?_
    refine lv_iload_n hx hb dX0_close_9 rfl (lv_at hl 1 rfl) ?_
    refine sa_ldz 11 S hK hP rfl (sa_vm ho (by omega)) dX0_close_10 ?_
    refine lv_if_ne (tgt := 18) hx hb dX0_close_11 (by decide) (fun c_11 => ?_) (fun c_11 => ?_)
    · skip
      refine lv_iconst (v := 0) hx hb dX0_close_18 (by decide) ?_
      exact sa_kExS (As := [.int (0)]) (rest := []) S (c_X0_checkState_ex l lo hst 0 rfl) (va_cwS 1 hts gX0_close_X0_checkState rfl rfl rfl (by decide +kernel) ⟨Nat.le_of_ble_eq_true rfl, Nat.le_of_ble_eq_true rfl⟩) hT htab hlk (fun E hE => by subst hE; rw [show sp_close σ o = (2, 0, σ) from sa_go2 k_2 (fun z9 => c_11 z9)]; show ((2 : Nat), sa_E3) ∈ _; decide) rfl hl.1 (Nat.le_of_ble_eq_true rfl) rfl dX0_close_19 ⟨Nat.le_refl _, Nat.le_refl _⟩
    · skip
      refine lv_iconst (v := 1) hx hb dX0_close_14 (by decide) ?_
      refine lv_goto (tgt := 19) hx hb dX0_close_15 (by decide) ?_
      exact (hne (congrArg Prod.fst (show sp_close σ o = (0, _) from sa_go0 k_2 c_11 trivial))).elim
  · exact sa_kExV (As := [.int (o)]) (rest := []) S (c_X0_checkOrder_ex l lo hst G cI cZ cL a σ hI o k_2) (cwV 1 hts gX0_close_X0_checkOrder rfl rfl rfl (by decide +kernel) ⟨Nat.le_of_ble_eq_true rfl, Nat.le_of_ble_eq_true rfl⟩) hP hK hT (ci := 0) rfl rfl htab hlk (fun E hE => by subst hE; rw [show sp_close σ o = (1, 0, σ) from sa_go1 (fun z9 => k_2 z9)]; show ((1 : Nat), sa_E1) ∈ _; decide) rfl hl.1 (Nat.le_of_ble_eq_true rfl) rfl dX0_close_2 ⟨Nat.le_refl _, Nat.le_refl _⟩

set_option maxHeartbeats 4000000 in
set_option maxRecDepth 100000 in
theorem c_X0_orders_ok (l : Launch) (G : va_G) (cI cZ cL : ClassId) (a : Nat → Nat) (σ : sa_St) (hI : sa_I σ)  : sa_Rd l yX0_orders wsX0_orders ({ frames := 0, cells := 0, slots := 0, locals := 0 }) G cI cZ cL (sa_W0 cI cZ a σ) [.ref (a 0)] (nI (σ.1 1)) := by
  obtain ⟨hnb, hno, hns, hgr, hor, hbr, hai⟩ := id hI
  refine Met.ofW (cc := cX0_orders) (maxL := 1) (ret := (some .int)) (by decide) rfl ?_
  intro p e s m args below meth c s₁ B9 hml hv
  obtain ⟨rfl, hP, hK⟩ := hv
  have hx := B9.exec
  have hb := B9.bytes
  have hr := B9.returns
  have hlk := B9.notSynchronized
  have hts := atoms_spec (ws := wsX0_orders) B9.pre
  have hown : s.vm.findClass RX0 = some m.cls := findClass_of_methodNamed B9.named
  have S : CallFix p m c cX0_orders 1 s _ wsX0_orders RX0 := ⟨hx, hb, hml, hown, hts⟩
  have hin : ∀ w ∈ wsX00, w ∈ wsX0_orders := by decide +kernel
  have hl := lv_entry ([.ref (a 0)]) (n := 1) (Nat.le_of_ble_eq_true rfl)
  rw [lg_entry_eq]
  generalize (lg_sl ([.ref (a 0)]) ++ List.replicate (1 - (lg_sl ([.ref (a 0)])).length) Slot.unset).toArray = ls at hl ⊢
  have hl : lv_has ls 1 [(0, .ref (a 0))] := hl
  refine lv_aload_n hx hb dX0_orders_0 rfl (lv_at hl 0 rfl) ?_
  refine sa_g0_orderCount S hin hK hP (by decide +kernel) dX0_orders_1 ?_
  exact W.iret (v := nI (σ.1 1)) hx hb hr (fun t9 ht _ => ⟨_, rfl, rfl, ht⟩) (fun _ h => nomatch h) dX0_orders_4

set_option maxHeartbeats 4000000 in
set_option maxRecDepth 100000 in
theorem c_X0_whyNot_ok (l : Launch) (G : va_G) (cI cZ cL : ClassId) (a : Nat → Nat) (σ : sa_St) (hI : sa_I σ) (o at' : Int32) (h1 : sa_iO σ o ∧ sa_iB σ at') : sa_Rd l yX0_whyNot wsX0_whyNot ({ frames := 8, cells := 0, slots := 0, locals := 132 }) G cI cZ cL (sa_W0 cI cZ a σ) [.ref (a 0), .int (o), .int (at')] (sa_why σ o at' (-1)) := by
  obtain ⟨hnb, hno, hns, hgr, hor, hbr, hai⟩ := id hI
  refine Met.ofW (cc := cX0_whyNot) (maxL := 3) (ret := (some .int)) (by decide) rfl ?_
  intro p e s m args below meth c s₁ B9 hml hv
  obtain ⟨rfl, hP, hK⟩ := hv
  have ho : vp_in o (σ.1 1) := sa_inv (by omega) h1.1
  have hat : vp_in at' (σ.1 0) := sa_inv (by omega) h1.2
  have hx := B9.exec
  have hb := B9.bytes
  have hr := B9.returns
  have hlk := B9.notSynchronized
  have hts := atoms_spec (ws := wsX0_whyNot) B9.pre
  have hown : s.vm.findClass RX0 = some m.cls := findClass_of_methodNamed B9.named
  have S : CallFix p m c cX0_whyNot 3 s _ wsX0_whyNot RX0 := ⟨hx, hb, hml, hown, hts⟩
  have hl := lv_entry ([.ref (a 0), .int (o), .int (at')]) (n := 3) (Nat.le_of_ble_eq_true rfl)
  rw [lg_entry_eq]
  generalize (lg_sl ([.ref (a 0), .int (o), .int (at')]) ++ List.replicate (3 - (lg_sl ([.ref (a 0), .int (o), .int (at')])).length) Slot.unset).toArray = ls at hl ⊢
  have hl : lv_has ls 3 [(0, .ref (a 0)), (1, .int (o)), (2, .int (at'))] := hl
  refine lv_aload_n hx hb dX0_whyNot_0 rfl (lv_at hl 0 rfl) ?_
  refine lv_iload_n hx hb dX0_whyNot_1 rfl (lv_at hl 1 rfl) ?_
  refine sa_kOkV (As := [.int (o)]) (rest := []) S (c_X0_checkOrder_ok l G cI cZ cL a σ hI o h1.1) (cwV 1 hts gX0_whyNot_X0_checkOrder rfl rfl rfl (by decide +kernel) ⟨Nat.le_of_ble_eq_true rfl, Nat.le_of_ble_eq_true rfl⟩) hP hK (ci := 0) rfl rfl rfl hl.1 (Nat.le_of_ble_eq_true rfl) rfl dX0_whyNot_2 ⟨Nat.zero_le _, Nat.zero_le _⟩ ?_
  refine lv_aload_n hx hb dX0_whyNot_5 rfl (lv_at hl 0 rfl) ?_
  refine lv_iload_n hx hb dX0_whyNot_6 rfl (lv_at hl 2 rfl) ?_
  refine sa_kOkV (As := [.int (at')]) (rest := []) S (c_X0_checkBreak_ok l G cI cZ cL a σ hI at' h1.2) (cwV 1 hts gX0_whyNot_X0_checkBreak rfl rfl rfl (by decide +kernel) ⟨Nat.le_of_ble_eq_true rfl, Nat.le_of_ble_eq_true rfl⟩) hP hK (ci := 0) rfl rfl rfl hl.1 (Nat.le_of_ble_eq_true rfl) rfl dX0_whyNot_7 ⟨Nat.zero_le _, Nat.zero_le _⟩ ?_
  refine lv_aload_n hx hb dX0_whyNot_10 rfl (lv_at hl 0 rfl) ?_
  refine lv_iload_n hx hb dX0_whyNot_11 rfl (lv_at hl 1 rfl) ?_
  refine lv_iload_n hx hb dX0_whyNot_12 rfl (lv_at hl 2 rfl) ?_
  refine sa_kRd (As := [.int (o), .int (at')]) (rest := []) S (c_X0_obstacle l G cI cZ cL a σ hI o at' ho hat) (cwV 2 hts gX0_whyNot_X0_obstacle rfl rfl rfl (by decide +kernel) ⟨Nat.le_of_ble_eq_true rfl, Nat.le_of_ble_eq_true rfl⟩) hP hK (ci := 0) rfl rfl rfl hl.1 (Nat.le_of_ble_eq_true rfl) rfl dX0_whyNot_13 ⟨Nat.zero_le _, Nat.zero_le _⟩ ?_
  exact W.iret (v := sa_why σ o at' (-1)) hx hb hr (fun t9 ht _ => ⟨_, rfl, rfl, ht⟩) (fun _ h => nomatch h) dX0_whyNot_16

set_option maxHeartbeats 4000000 in
set_option maxRecDepth 100000 in
theorem c_X0_whyNot_ex (l : Launch) (lo : Nat) (hst : l.stackTraces = false) (G : va_G) (cI cZ cL : ClassId) (a : Nat → Nat) (σ : sa_St) (hI : sa_I σ) (o at' : Int32) (hne : ¬ (sp_whyNot σ o at').1 = 0) : sa_Ex l yX0_whyNot wsX0_whyNot ({ frames := 8, cells := 1, slots := 6, locals := 132 }) (sa_Px lo G cI cZ cL (sa_W0 cI cZ a σ)) [.ref (a 0), .int (o), .int (at')] (fun E => ((sp_whyNot σ o at').1, E) ∈ [((1 : Nat), sa_E1)]) := by
  obtain ⟨hnb, hno, hns, hgr, hor, hbr, hai⟩ := id hI
  refine vx_ofW (cc := cX0_whyNot) (maxL := 3) (ret := (some .int)) (by decide) rfl ?_
  intro p e s m args below meth c s₁ B9 hml htab hv
  obtain ⟨rfl, ⟨hP, hK⟩, hT⟩ := hv
  have hx := B9.exec
  have hb := B9.bytes
  have hr := B9.returns
  have hlk := B9.notSynchronized
  have hts := atoms_spec (ws := wsX0_whyNot) B9.pre
  have hown : s.vm.findClass RX0 = some m.cls := findClass_of_methodNamed B9.named
  have S : CallFix p m c cX0_whyNot 3 s _ wsX0_whyNot RX0 := ⟨hx, hb, hml, hown, hts⟩
  have hl := lv_entry ([.ref (a 0), .int (o), .int (at')]) (n := 3) (Nat.le_of_ble_eq_true rfl)
  rw [lg_entry_eq]
  generalize (lg_sl ([.ref (a 0), .int (o), .int (at')]) ++ List.replicate (3 - (lg_sl ([.ref (a 0), .int (o), .int (at')])).length) Slot.unset).toArray = ls at hl ⊢
  have hl : lv_has ls 3 [(0, .ref (a 0)), (1, .int (o)), (2, .int (at'))] := hl
  refine lv_aload_n hx hb dX0_whyNot_0 rfl (lv_at hl 0 rfl) ?_
  refine lv_iload_n hx hb dX0_whyNot_1 rfl (lv_at hl 1 rfl) ?_
  by_cases k_2 : sa_in o (σ.1 1)
  · skip
    have ho : vp_in o (σ.1 1) := sa_inv (by omega) k_2
    refine sa_kOkV (As := [.int (o)]) (rest := []) S (c_X0_checkOrder_ok l G cI cZ cL a σ hI o k_2) (cwV 1 hts gX0_whyNot_X0_checkOrder rfl rfl rfl (by decide +kernel) ⟨Nat.le_of_ble_eq_true rfl, Nat.le_of_ble_eq_true rfl⟩) hP hK (ci := 0) rfl rfl rfl hl.1 (Nat.le_of_ble_eq_true rfl) rfl dX0_whyNot_2 ⟨Nat.zero_le _, Nat.zero_le _⟩ ?_
    refine lv_aload_n hx hb dX0_whyNot_5 rfl (lv_at hl 0 rfl) ?_
    refine lv_iload_n hx hb dX0_whyNot_6 rfl (lv_at hl 2 rfl) ?_
    by_cases k_7 : sa_in at' (σ.1 0)
    · skip
      have hat : vp_in at' (σ.1 0) := sa_inv (by omega) k_7
      exact (hne (congrArg Prod.fst (show sp_whyNot σ o at' = (0, _) from sa_go0 ⟨k_2, k_7⟩ trivial trivial))).elim
    · exact sa_kExV (As := [.int (at')]) (rest := []) S (c_X0_checkBreak_ex l lo hst G cI cZ cL a σ hI at' k_7) (cwV 1 hts gX0_whyNot_X0_checkBreak rfl rfl rfl (by decide +kernel) ⟨Nat.le_of_ble_eq_true rfl, Nat.le_of_ble_eq_true rfl⟩) hP hK hT (ci := 0) rfl rfl htab hlk (fun E hE => by subst hE; rw [show sp_whyNot σ o at' = (1, 0, σ) from sa_go1 (fun z9 => k_7 z9.2)]; show ((1 : Nat), sa_E1) ∈ _; decide) rfl hl.1 (Nat.le_of_ble_eq_true rfl) rfl dX0_whyNot_7 ⟨Nat.le_refl _, Nat.le_refl _⟩
  · exact sa_kExV (As := [.int (o)]) (rest := []) S (c_X0_checkOrder_ex l lo hst G cI cZ cL a σ hI o k_2) (cwV 1 hts gX0_whyNot_X0_checkOrder rfl rfl rfl (by decide +kernel) ⟨Nat.le_of_ble_eq_true rfl, Nat.le_of_ble_eq_true rfl⟩) hP hK hT (ci := 0) rfl rfl htab hlk (fun E hE => by subst hE; rw [show sp_whyNot σ o at' = (1, 0, σ) from sa_go1 (fun z9 => k_2 z9.1)]; show ((1 : Nat), sa_E1) ∈ _; decide) rfl hl.1 (Nat.le_of_ble_eq_true rfl) rfl dX0_whyNot_2 ⟨Nat.le_refl _, Nat.le_refl _⟩

set_option maxHeartbeats 4000000 in
set_option maxRecDepth 100000 in
theorem c_X0_place_ok (l : Launch) (G : va_G) (cI cZ cL : ClassId) (a : Nat → Nat) (σ : sa_St) (hI : sa_I σ) (o at' : Int32) (hJ : sa_J a) (h1 : sa_iO σ o ∧ sa_iB σ at') (h2 : σ.2 11 o.toNatClampNeg = 0 ∧ nI (σ.1 2) < 150 ∧ sa_why σ o at' (-1) = 0) : sa_Wr l yX0_place wsX0_place ({ frames := 8, cells := 0, slots := 0, locals := 132 }) G cI cZ cL (sa_W0 cI cZ a σ) (sa_W0 cI cZ a (sa_add σ o at' 0)) (sa_A a) [.ref (a 0), .int (o), .int (at')] (nI (σ.1 2)) := by
  obtain ⟨hnb, hno, hns, hgr, hor, hbr, hai⟩ := id hI
  refine Met.ofW (cc := cX0_place) (maxL := 3) (ret := (some .int)) (by decide) rfl ?_
  intro p e s m args below meth c s₁ B9 hml hv
  obtain ⟨rfl, hP, hK⟩ := hv
  have ho : vp_in o (σ.1 1) := sa_inv (by omega) h1.1
  have hat : vp_in at' (σ.1 0) := sa_inv (by omega) h1.2
  have hs9 : σ.1 2 < 150 := sa_ltN (by omega) (by decide) h2.2.1
  have hx := B9.exec
  have hb := B9.bytes
  have hr := B9.returns
  have hlk := B9.notSynchronized
  have hts := atoms_spec (ws := wsX0_place) B9.pre
  have hown : s.vm.findClass RX0 = some m.cls := findClass_of_methodNamed B9.named
  have S : CallFix p m c cX0_place 3 s _ wsX0_place RX0 := ⟨hx, hb, hml, hown, hts⟩
  have hin : ∀ w ∈ wsX00, w ∈ wsX0_place := by decide +kernel
  have hS : va_S (sa_A a) s.heap s.heap [] := va_S.rf
  have hl := lv_entry ([.ref (a 0), .int (o), .int (at')]) (n := 3) (Nat.le_of_ble_eq_true rfl)
  rw [lg_entry_eq]
  generalize (lg_sl ([.ref (a 0), .int (o), .int (at')]) ++ List.replicate (3 - (lg_sl ([.ref (a 0), .int (o), .int (at')])).length) Slot.unset).toArray = ls at hl ⊢
  have hl : lv_has ls 3 [(0, .ref (a 0)), (1, .int (o)), (2, .int (at'))] := hl
  refine lv_aload_n hx hb dX0_place_0 rfl (lv_at hl 0 rfl) ?_
  refine lv_iload_n hx hb dX0_place_1 rfl (lv_at hl 1 rfl) ?_
  refine sa_kOkV (As := [.int (o)]) (rest := []) S (c_X0_checkOrder_ok l G cI cZ cL a σ hI o h1.1) (cwV 1 hts gX0_place_X0_checkOrder rfl rfl rfl (by decide +kernel) ⟨Nat.le_of_ble_eq_true rfl, Nat.le_of_ble_eq_true rfl⟩) hP hK (ci := 0) rfl rfl rfl hl.1 (Nat.le_of_ble_eq_true rfl) rfl dX0_place_2 ⟨Nat.zero_le _, Nat.zero_le _⟩ ?_
  refine lv_aload_n hx hb dX0_place_5 rfl (lv_at hl 0 rfl) ?_
  refine lv_iload_n hx hb dX0_place_6 rfl (lv_at hl 2 rfl) ?_
  refine sa_kOkV (As := [.int (at')]) (rest := []) S (c_X0_checkBreak_ok l G cI cZ cL a σ hI at' h1.2) (cwV 1 hts gX0_place_X0_checkBreak rfl rfl rfl (by decide +kernel) ⟨Nat.le_of_ble_eq_true rfl, Nat.le_of_ble_eq_true rfl⟩) hP hK (ci := 0) rfl rfl rfl hl.1 (Nat.le_of_ble_eq_true rfl) rfl dX0_place_7 ⟨Nat.zero_le _, Nat.zero_le _⟩ ?_
  refine lv_aload_n hx hb dX0_place_10 rfl (lv_at hl 0 rfl) ?_
  refine sa_g0_orderClosed S hin hK hP (by decide +kernel) dX0_place_11 ?_
  refine lv_iload_n hx hb dX0_place_14 rfl (lv_at hl 1 rfl) ?_
  refine sa_ldz 11 S hK hP rfl (sa_vm ho (by omega)) dX0_place_15 ?_
  refine lv_if_ne (tgt := 23) hx hb dX0_place_16 (by decide) (fun c_16 => ?_) (fun c_16 => ?_)
  · skip
    refine lv_iconst (v := 0) hx hb dX0_place_23 (by decide) ?_
    exact absurd h2 (fun z9 => c_16 z9.1)
  · skip
    refine lv_iconst (v := 1) hx hb dX0_place_19 (by decide) ?_
    refine lv_goto (tgt := 24) hx hb dX0_place_20 (by decide) ?_
    refine sa_kOkS (As := [.int (1)]) (rest := []) S (c_X0_checkState_ok l 1 (by decide)) (va_cwS 1 hts gX0_place_X0_checkState rfl rfl rfl (by decide +kernel) ⟨Nat.le_of_ble_eq_true rfl, Nat.le_of_ble_eq_true rfl⟩) rfl hl.1 (Nat.le_of_ble_eq_true rfl) rfl dX0_place_24 ⟨Nat.zero_le _, Nat.zero_le _⟩ ?_
    refine lv_aload_n hx hb dX0_place_27 rfl (lv_at hl 0 rfl) ?_
    refine lv_iload_n hx hb dX0_place_28 rfl (lv_at hl 1 rfl) ?_
    refine lv_iload_n hx hb dX0_place_29 rfl (lv_at hl 2 rfl) ?_
    refine sa_kRd (As := [.int (o), .int (at')]) (rest := []) S (c_X0_obstacle l G cI cZ cL a σ hI o at' ho hat) (cwV 2 hts gX0_place_X0_obstacle rfl rfl rfl (by decide +kernel) ⟨Nat.le_of_ble_eq_true rfl, Nat.le_of_ble_eq_true rfl⟩) hP hK (ci := 0) rfl rfl rfl hl.1 (Nat.le_of_ble_eq_true rfl) rfl dX0_place_30 ⟨Nat.zero_le _, Nat.zero_le _⟩ ?_
    refine lv_if_ne (tgt := 40) hx hb dX0_place_33 (by decide) (fun c_33 => ?_) (fun c_33 => ?_)
    · skip
      refine lv_iconst (v := 0) hx hb dX0_place_40 (by decide) ?_
      exact absurd h2 (fun z9 => c_33 z9.2.2)
    · skip
      refine lv_iconst (v := 1) hx hb dX0_place_36 (by decide) ?_
      refine lv_goto (tgt := 41) hx hb dX0_place_37 (by decide) ?_
      refine sa_kOkS (As := [.int (1)]) (rest := []) S (c_X0_checkState_ok l 1 (by decide)) (va_cwS 1 hts gX0_place_X0_checkState rfl rfl rfl (by decide +kernel) ⟨Nat.le_of_ble_eq_true rfl, Nat.le_of_ble_eq_true rfl⟩) rfl hl.1 (Nat.le_of_ble_eq_true rfl) rfl dX0_place_41 ⟨Nat.zero_le _, Nat.zero_le _⟩ ?_
      refine lv_aload_n hx hb dX0_place_44 rfl (lv_at hl 0 rfl) ?_
      refine sa_g0_spotCount S hin hK hP (by decide +kernel) dX0_place_45 ?_
      refine lv_sipush (v := 150) hx hb dX0_place_48 (by decide) ?_
      refine lv_icmp_ge (tgt := 58) hx hb dX0_place_51 (by decide) (fun c_51 => ?_) (fun c_51 => ?_)
      · skip
        have c_51 := Int32.not_lt.mpr c_51
        refine lv_iconst (v := 0) hx hb dX0_place_58 (by decide) ?_
        exact absurd h2 (fun z9 => c_51 z9.2.1)
      · skip
        have c_51 := Int32.not_le.mp c_51
        refine lv_iconst (v := 1) hx hb dX0_place_54 (by decide) ?_
        refine lv_goto (tgt := 59) hx hb dX0_place_55 (by decide) ?_
        refine sa_kOkS (As := [.int (1)]) (rest := []) S (c_X0_checkState_ok l 1 (by decide)) (va_cwS 1 hts gX0_place_X0_checkState rfl rfl rfl (by decide +kernel) ⟨Nat.le_of_ble_eq_true rfl, Nat.le_of_ble_eq_true rfl⟩) rfl hl.1 (Nat.le_of_ble_eq_true rfl) rfl dX0_place_59 ⟨Nat.zero_le _, Nat.zero_le _⟩ ?_
        refine lv_aload_n hx hb dX0_place_62 rfl (lv_at hl 0 rfl) ?_
        refine lv_iload_n hx hb dX0_place_63 rfl (lv_at hl 1 rfl) ?_
        refine lv_iload_n hx hb dX0_place_64 rfl (lv_at hl 2 rfl) ?_
        refine lv_iconst (v := 0) hx hb dX0_place_65 (by decide) ?_
        refine sa_kWr (wd' := sa_W0 cI cZ a (sa_add σ o at' 0)) (As := [.int (o), .int (at'), .int (0)]) (rest := []) S (c_X0_addSpot l G cI cZ cL a σ hI hJ hs9 o at' 0 (Or.inl rfl)) (cwV 3 hts gX0_place_X0_addSpot rfl rfl rfl (by decide +kernel) ⟨Nat.le_of_ble_eq_true rfl, Nat.le_of_ble_eq_true rfl⟩) hP hK hS (fun _ h => h) (ci := 0) rfl rfl rfl hl.1 (Nat.le_of_ble_eq_true rfl) rfl dX0_place_66 ⟨Nat.zero_le _, Nat.zero_le _⟩ (fun H locs hP hS _ _ => ?_)
        exact W.iret (v := nI (σ.1 2)) hx hb hr (fun t9 ht _ => ⟨⟨_, (), rfl, rfl, by show va_P G vwCl (sa_W0 cI cZ a (sa_add σ o at' 0)) t9.heap; rw [ht]; exact hP⟩, hS.F ht⟩) hS.2.2 dX0_place_69

set_option maxHeartbeats 4000000 in
set_option maxRecDepth 100000 in
theorem c_X0_place_ex (l : Launch) (lo : Nat) (hst : l.stackTraces = false) (G : va_G) (cI cZ cL : ClassId) (a : Nat → Nat) (σ : sa_St) (hI : sa_I σ) (o at' : Int32) (hne : ¬ (sp_place σ o at').1 = 0) : sa_Ex l yX0_place wsX0_place ({ frames := 8, cells := 1, slots := 6, locals := 132 }) (sa_Px lo G cI cZ cL (sa_W0 cI cZ a σ)) [.ref (a 0), .int (o), .int (at')] (fun E => ((sp_place σ o at').1, E) ∈ [((1 : Nat), sa_E1), ((2 : Nat), sa_E3)]) := by
  obtain ⟨hnb, hno, hns, hgr, hor, hbr, hai⟩ := id hI
  refine vx_ofW (cc := cX0_place) (maxL := 3) (ret := (some .int)) (by decide) rfl ?_
  intro p e s m args below meth c s₁ B9 hml htab hv
  obtain ⟨rfl, ⟨hP, hK⟩, hT⟩ := hv
  have hx := B9.exec
  have hb := B9.bytes
  have hr := B9.returns
  have hlk := B9.notSynchronized
  have hts := atoms_spec (ws := wsX0_place) B9.pre
  have hown : s.vm.findClass RX0 = some m.cls := findClass_of_methodNamed B9.named
  have S : CallFix p m c cX0_place 3 s _ wsX0_place RX0 := ⟨hx, hb, hml, hown, hts⟩
  have hin : ∀ w ∈ wsX00, w ∈ wsX0_place := by decide +kernel
  have hl := lv_entry ([.ref (a 0), .int (o), .int (at')]) (n := 3) (Nat.le_of_ble_eq_true rfl)
  rw [lg_entry_eq]
  generalize (lg_sl ([.ref (a 0), .int (o), .int (at')]) ++ List.replicate (3 - (lg_sl ([.ref (a 0), .int (o), .int (at')])).length) Slot.unset).toArray = ls at hl ⊢
  have hl : lv_has ls 3 [(0, .ref (a 0)), (1, .int (o)), (2, .int (at'))] := hl
  refine lv_aload_n hx hb dX0_place_0 rfl (lv_at hl 0 rfl) ?_
  refine lv_iload_n hx hb dX0_place_1 rfl (lv_at hl 1 rfl) ?_
  by_cases k_2 : sa_in o (σ.1 1)
  · skip
    have ho : vp_in o (σ.1 1) := sa_inv (by omega) k_2
    refine sa_kOkV (As := [.int (o)]) (rest := []) S (c_X0_checkOrder_ok l G cI cZ cL a σ hI o k_2) (cwV 1 hts gX0_place_X0_checkOrder rfl rfl rfl (by decide +kernel) ⟨Nat.le_of_ble_eq_true rfl, Nat.le_of_ble_eq_true rfl⟩) hP hK (ci := 0) rfl rfl rfl hl.1 (Nat.le_of_ble_eq_true rfl) rfl dX0_place_2 ⟨Nat.zero_le _, Nat.zero_le _⟩ ?_
    refine lv_aload_n hx hb dX0_place_5 rfl (lv_at hl 0 rfl) ?_
    refine lv_iload_n hx hb dX0_place_6 rfl (lv_at hl 2 rfl) ?_
    by_cases k_7 : sa_in at' (σ.1 0)
    · skip
      have hat : vp_in at' (σ.1 0) := sa_inv (by omega) k_7
      refine sa_kOkV (As := [.int (at')]) (rest := []) S (c_X0_checkBreak_ok l G cI cZ cL a σ hI at' k_7) (cwV 1 hts gX0_place_X0_checkBreak rfl rfl rfl (by decide +kernel) ⟨Nat.le_of_ble_eq_true rfl, Nat.le_of_ble_eq_true rfl⟩) hP hK (ci := 0) rfl rfl rfl hl.1 (Nat.le_of_ble_eq_true rfl) rfl dX0_place_7 ⟨Nat.zero_le _, Nat.zero_le _⟩ ?_
      refine lv_aload_n hx hb dX0_place_10 rfl (lv_at hl 0 rfl) ?_
      refine sa_g0_orderClosed S hin hK hP (by decide +kernel) dX0_place_11 ?_
      refine lv_iload_n hx hb dX0_place_14 rfl (lv_at hl 1 rfl) ?_
      refine sa_ldz 11 S hK hP rfl (sa_vm ho (by omega)) dX0_place_15 ?_
      refine lv_if_ne (tgt := 23) hx hb dX0_place_16 (by decide) (fun c_16 => ?_) (fun c_16 => ?_)
      · skip
        refine lv_iconst (v := 0) hx hb dX0_place_23 (by decide) ?_
        exact sa_kExS (As := [.int (0)]) (rest := []) S (c_X0_checkState_ex l lo hst 0 rfl) (va_cwS 1 hts gX0_place_X0_checkState rfl rfl rfl (by decide +kernel) ⟨Nat.le_of_ble_eq_true rfl, Nat.le_of_ble_eq_true rfl⟩) hT htab hlk (fun E hE => by subst hE; rw [show sp_place σ o at' = (2, 0, σ) from sa_go2 ⟨k_2, k_7⟩ (fun z9 => c_16 z9.1)]; show ((2 : Nat), sa_E3) ∈ _; decide) rfl hl.1 (Nat.le_of_ble_eq_true rfl) rfl dX0_place_24 ⟨Nat.le_refl _, Nat.le_refl _⟩
      · skip
        refine lv_iconst (v := 1) hx hb dX0_place_19 (by decide) ?_
        refine lv_goto (tgt := 24) hx hb dX0_place_20 (by decide) ?_
        refine sa_kOkS (As := [.int (1)]) (rest := []) S (c_X0_checkState_ok l 1 (by decide)) (va_cwS 1 hts gX0_place_X0_checkState rfl rfl rfl (by decide +kernel) ⟨Nat.le_of_ble_eq_true rfl, Nat.le_of_ble_eq_true rfl⟩) rfl hl.1 (Nat.le_of_ble_eq_true rfl) rfl dX0_place_24 ⟨Nat.zero_le _, Nat.zero_le _⟩ ?_
        refine lv_aload_n hx hb dX0_place_27 rfl (lv_at hl 0 rfl) ?_
        refine lv_iload_n hx hb dX0_place_28 rfl (lv_at hl 1 rfl) ?_
        refine lv_iload_n hx hb dX0_place_29 rfl (lv_at hl 2 rfl) ?_
        refine sa_kRd (As := [.int (o), .int (at')]) (rest := []) S (c_X0_obstacle l G cI cZ cL a σ hI o at' ho hat) (cwV 2 hts gX0_place_X0_obstacle rfl rfl rfl (by decide +kernel) ⟨Nat.le_of_ble_eq_true rfl, Nat.le_of_ble_eq_true rfl⟩) hP hK (ci := 0) rfl rfl rfl hl.1 (Nat.le_of_ble_eq_true rfl) rfl dX0_place_30 ⟨Nat.zero_le _, Nat.zero_le _⟩ ?_
        refine lv_if_ne (tgt := 40) hx hb dX0_place_33 (by decide) (fun c_33 => ?_) (fun c_33 => ?_)
        · skip
          refine lv_iconst (v := 0) hx hb dX0_place_40 (by decide) ?_
          exact sa_kExS (As := [.int (0)]) (rest := []) S (c_X0_checkState_ex l lo hst 0 rfl) (va_cwS 1 hts gX0_place_X0_checkState rfl rfl rfl (by decide +kernel) ⟨Nat.le_of_ble_eq_true rfl, Nat.le_of_ble_eq_true rfl⟩) hT htab hlk (fun E hE => by subst hE; rw [show sp_place σ o at' = (2, 0, σ) from sa_go2 ⟨k_2, k_7⟩ (fun z9 => c_33 z9.2.2)]; show ((2 : Nat), sa_E3) ∈ _; decide) rfl hl.1 (Nat.le_of_ble_eq_true rfl) rfl dX0_place_41 ⟨Nat.le_refl _, Nat.le_refl _⟩
        · skip
          refine lv_iconst (v := 1) hx hb dX0_place_36 (by decide) ?_
          refine lv_goto (tgt := 41) hx hb dX0_place_37 (by decide) ?_
          refine sa_kOkS (As := [.int (1)]) (rest := []) S (c_X0_checkState_ok l 1 (by decide)) (va_cwS 1 hts gX0_place_X0_checkState rfl rfl rfl (by decide +kernel) ⟨Nat.le_of_ble_eq_true rfl, Nat.le_of_ble_eq_true rfl⟩) rfl hl.1 (Nat.le_of_ble_eq_true rfl) rfl dX0_place_41 ⟨Nat.zero_le _, Nat.zero_le _⟩ ?_
          refine lv_aload_n hx hb dX0_place_44 rfl (lv_at hl 0 rfl) ?_
          refine sa_g0_spotCount S hin hK hP (by decide +kernel) dX0_place_45 ?_
          refine lv_sipush (v := 150) hx hb dX0_place_48 (by decide) ?_
          refine lv_icmp_ge (tgt := 58) hx hb dX0_place_51 (by decide) (fun c_51 => ?_) (fun c_51 => ?_)
          · skip
            have c_51 := Int32.not_lt.mpr c_51
            refine lv_iconst (v := 0) hx hb dX0_place_58 (by decide) ?_
            exact sa_kExS (As := [.int (0)]) (rest := []) S (c_X0_checkState_ex l lo hst 0 rfl) (va_cwS 1 hts gX0_place_X0_checkState rfl rfl rfl (by decide +kernel) ⟨Nat.le_of_ble_eq_true rfl, Nat.le_of_ble_eq_true rfl⟩) hT htab hlk (fun E hE => by subst hE; rw [show sp_place σ o at' = (2, 0, σ) from sa_go2 ⟨k_2, k_7⟩ (fun z9 => c_51 z9.2.1)]; show ((2 : Nat), sa_E3) ∈ _; decide) rfl hl.1 (Nat.le_of_ble_eq_true rfl) rfl dX0_place_59 ⟨Nat.le_refl _, Nat.le_refl _⟩
          · skip
            have c_51 := Int32.not_le.mp c_51
            refine lv_iconst (v := 1) hx hb dX0_place_54 (by decide) ?_
            refine lv_goto (tgt := 59) hx hb dX0_place_55 (by decide) ?_
            exact (hne (congrArg Prod.fst (show sp_place σ o at' = (0, _) from sa_go0 ⟨k_2, k_7⟩ ⟨c_16, c_51, c_33⟩ trivial))).elim
    · exact sa_kExV (As := [.int (at')]) (rest := []) S (c_X0_checkBreak_ex l lo hst G cI cZ cL a σ hI at' k_7) (cwV 1 hts gX0_place_X0_checkBreak rfl rfl rfl (by decide +kernel) ⟨Nat.le_of_ble_eq_true rfl, Nat.le_of_ble_eq_true rfl⟩) hP hK hT (ci := 0) rfl rfl htab hlk (fun E hE => by subst hE; rw [show sp_place σ o at' = (1, 0, σ) from sa_go1 (fun z9 => k_7 z9.2)]; show ((1 : Nat), sa_E1) ∈ _; decide) rfl hl.1 (Nat.le_of_ble_eq_true rfl) rfl dX0_place_7 ⟨Nat.le_refl _, Nat.le_refl _⟩
  · exact sa_kExV (As := [.int (o)]) (rest := []) S (c_X0_checkOrder_ex l lo hst G cI cZ cL a σ hI o k_2) (cwV 1 hts gX0_place_X0_checkOrder rfl rfl rfl (by decide +kernel) ⟨Nat.le_of_ble_eq_true rfl, Nat.le_of_ble_eq_true rfl⟩) hP hK hT (ci := 0) rfl rfl htab hlk (fun E hE => by subst hE; rw [show sp_place σ o at' = (1, 0, σ) from sa_go1 (fun z9 => k_2 z9.1)]; show ((1 : Nat), sa_E1) ∈ _; decide) rfl hl.1 (Nat.le_of_ble_eq_true rfl) rfl dX0_place_2 ⟨Nat.le_refl _, Nat.le_refl _⟩

set_option maxHeartbeats 4000000 in
set_option maxRecDepth 100000 in
theorem c_X0_give_ok (l : Launch) (G : va_G) (cI cZ cL : ClassId) (a : Nat → Nat) (σ : sa_St) (hI : sa_I σ) (o at' : Int32) (hJ : sa_J a) (h1 : sa_iO σ o ∧ sa_iB σ at') (h2 : 0 < sa_left σ o ∧ nI (σ.1 2) < 150 ∧ sa_why σ o at' (-1) = 0) : sa_Wr l yX0_give wsX0_give ({ frames := 8, cells := 0, slots := 0, locals := 132 }) G cI cZ cL (sa_W0 cI cZ a σ) (sa_W0 cI cZ a (sa_add σ o at' 1)) (sa_A a) [.ref (a 0), .int (o), .int (at')] (nI (σ.1 2)) := by
  obtain ⟨hnb, hno, hns, hgr, hor, hbr, hai⟩ := id hI
  refine Met.ofW (cc := cX0_give) (maxL := 3) (ret := (some .int)) (by decide) rfl ?_
  intro p e s m args below meth c s₁ B9 hml hv
  obtain ⟨rfl, hP, hK⟩ := hv
  have ho : vp_in o (σ.1 1) := sa_inv (by omega) h1.1
  have hat : vp_in at' (σ.1 0) := sa_inv (by omega) h1.2
  have hs9 : σ.1 2 < 150 := sa_ltN (by omega) (by decide) h2.2.1
  have hx := B9.exec
  have hb := B9.bytes
  have hr := B9.returns
  have hlk := B9.notSynchronized
  have hts := atoms_spec (ws := wsX0_give) B9.pre
  have hown : s.vm.findClass RX0 = some m.cls := findClass_of_methodNamed B9.named
  have S : CallFix p m c cX0_give 3 s _ wsX0_give RX0 := ⟨hx, hb, hml, hown, hts⟩
  have hin : ∀ w ∈ wsX00, w ∈ wsX0_give := by decide +kernel
  have hS : va_S (sa_A a) s.heap s.heap [] := va_S.rf
  have hl := lv_entry ([.ref (a 0), .int (o), .int (at')]) (n := 3) (Nat.le_of_ble_eq_true rfl)
  rw [lg_entry_eq]
  generalize (lg_sl ([.ref (a 0), .int (o), .int (at')]) ++ List.replicate (3 - (lg_sl ([.ref (a 0), .int (o), .int (at')])).length) Slot.unset).toArray = ls at hl ⊢
  have hl : lv_has ls 3 [(0, .ref (a 0)), (1, .int (o)), (2, .int (at'))] := hl
  refine lv_aload_n hx hb dX0_give_0 rfl (lv_at hl 0 rfl) ?_
  refine lv_iload_n hx hb dX0_give_1 rfl (lv_at hl 1 rfl) ?_
  refine sa_kOkV (As := [.int (o)]) (rest := []) S (c_X0_checkOrder_ok l G cI cZ cL a σ hI o h1.1) (cwV 1 hts gX0_give_X0_checkOrder rfl rfl rfl (by decide +kernel) ⟨Nat.le_of_ble_eq_true rfl, Nat.le_of_ble_eq_true rfl⟩) hP hK (ci := 0) rfl rfl rfl hl.1 (Nat.le_of_ble_eq_true rfl) rfl dX0_give_2 ⟨Nat.zero_le _, Nat.zero_le _⟩ ?_
  refine lv_aload_n hx hb dX0_give_5 rfl (lv_at hl 0 rfl) ?_
  refine lv_iload_n hx hb dX0_give_6 rfl (lv_at hl 2 rfl) ?_
  refine sa_kOkV (As := [.int (at')]) (rest := []) S (c_X0_checkBreak_ok l G cI cZ cL a σ hI at' h1.2) (cwV 1 hts gX0_give_X0_checkBreak rfl rfl rfl (by decide +kernel) ⟨Nat.le_of_ble_eq_true rfl, Nat.le_of_ble_eq_true rfl⟩) hP hK (ci := 0) rfl rfl rfl hl.1 (Nat.le_of_ble_eq_true rfl) rfl dX0_give_7 ⟨Nat.zero_le _, Nat.zero_le _⟩ ?_
  refine lv_aload_n hx hb dX0_give_10 rfl (lv_at hl 0 rfl) ?_
  refine lv_iload_n hx hb dX0_give_11 rfl (lv_at hl 1 rfl) ?_
  refine sa_kRd (As := [.int (o)]) (rest := []) S (c_X0_restOf l G cI cZ cL a σ hI o ho) (cwV 1 hts gX0_give_X0_restOf rfl rfl rfl (by decide +kernel) ⟨Nat.le_of_ble_eq_true rfl, Nat.le_of_ble_eq_true rfl⟩) hP hK (ci := 0) rfl rfl rfl hl.1 (Nat.le_of_ble_eq_true rfl) rfl dX0_give_12 ⟨Nat.zero_le _, Nat.zero_le _⟩ ?_
  refine lv_if_le (tgt := 22) hx hb dX0_give_15 (by decide) (fun c_15 => ?_) (fun c_15 => ?_)
  · skip
    have c_15 := Int32.not_lt.mpr c_15
    refine lv_iconst (v := 0) hx hb dX0_give_22 (by decide) ?_
    exact absurd h2 (fun z9 => c_15 z9.1)
  · skip
    have c_15 := Int32.not_le.mp c_15
    refine lv_iconst (v := 1) hx hb dX0_give_18 (by decide) ?_
    refine lv_goto (tgt := 23) hx hb dX0_give_19 (by decide) ?_
    refine sa_kOkS (As := [.int (1)]) (rest := []) S (c_X0_checkState_ok l 1 (by decide)) (va_cwS 1 hts gX0_give_X0_checkState rfl rfl rfl (by decide +kernel) ⟨Nat.le_of_ble_eq_true rfl, Nat.le_of_ble_eq_true rfl⟩) rfl hl.1 (Nat.le_of_ble_eq_true rfl) rfl dX0_give_23 ⟨Nat.zero_le _, Nat.zero_le _⟩ ?_
    refine lv_aload_n hx hb dX0_give_26 rfl (lv_at hl 0 rfl) ?_
    refine lv_iload_n hx hb dX0_give_27 rfl (lv_at hl 1 rfl) ?_
    refine lv_iload_n hx hb dX0_give_28 rfl (lv_at hl 2 rfl) ?_
    refine sa_kRd (As := [.int (o), .int (at')]) (rest := []) S (c_X0_obstacle l G cI cZ cL a σ hI o at' ho hat) (cwV 2 hts gX0_give_X0_obstacle rfl rfl rfl (by decide +kernel) ⟨Nat.le_of_ble_eq_true rfl, Nat.le_of_ble_eq_true rfl⟩) hP hK (ci := 0) rfl rfl rfl hl.1 (Nat.le_of_ble_eq_true rfl) rfl dX0_give_29 ⟨Nat.zero_le _, Nat.zero_le _⟩ ?_
    refine lv_if_ne (tgt := 39) hx hb dX0_give_32 (by decide) (fun c_32 => ?_) (fun c_32 => ?_)
    · skip
      refine lv_iconst (v := 0) hx hb dX0_give_39 (by decide) ?_
      exact absurd h2 (fun z9 => c_32 z9.2.2)
    · skip
      refine lv_iconst (v := 1) hx hb dX0_give_35 (by decide) ?_
      refine lv_goto (tgt := 40) hx hb dX0_give_36 (by decide) ?_
      refine sa_kOkS (As := [.int (1)]) (rest := []) S (c_X0_checkState_ok l 1 (by decide)) (va_cwS 1 hts gX0_give_X0_checkState rfl rfl rfl (by decide +kernel) ⟨Nat.le_of_ble_eq_true rfl, Nat.le_of_ble_eq_true rfl⟩) rfl hl.1 (Nat.le_of_ble_eq_true rfl) rfl dX0_give_40 ⟨Nat.zero_le _, Nat.zero_le _⟩ ?_
      refine lv_aload_n hx hb dX0_give_43 rfl (lv_at hl 0 rfl) ?_
      refine sa_g0_spotCount S hin hK hP (by decide +kernel) dX0_give_44 ?_
      refine lv_sipush (v := 150) hx hb dX0_give_47 (by decide) ?_
      refine lv_icmp_ge (tgt := 57) hx hb dX0_give_50 (by decide) (fun c_50 => ?_) (fun c_50 => ?_)
      · skip
        have c_50 := Int32.not_lt.mpr c_50
        refine lv_iconst (v := 0) hx hb dX0_give_57 (by decide) ?_
        exact absurd h2 (fun z9 => c_50 z9.2.1)
      · skip
        have c_50 := Int32.not_le.mp c_50
        refine lv_iconst (v := 1) hx hb dX0_give_53 (by decide) ?_
        refine lv_goto (tgt := 58) hx hb dX0_give_54 (by decide) ?_
        refine sa_kOkS (As := [.int (1)]) (rest := []) S (c_X0_checkState_ok l 1 (by decide)) (va_cwS 1 hts gX0_give_X0_checkState rfl rfl rfl (by decide +kernel) ⟨Nat.le_of_ble_eq_true rfl, Nat.le_of_ble_eq_true rfl⟩) rfl hl.1 (Nat.le_of_ble_eq_true rfl) rfl dX0_give_58 ⟨Nat.zero_le _, Nat.zero_le _⟩ ?_
        refine lv_aload_n hx hb dX0_give_61 rfl (lv_at hl 0 rfl) ?_
        refine lv_iload_n hx hb dX0_give_62 rfl (lv_at hl 1 rfl) ?_
        refine lv_iload_n hx hb dX0_give_63 rfl (lv_at hl 2 rfl) ?_
        refine lv_iconst (v := 1) hx hb dX0_give_64 (by decide) ?_
        refine sa_kWr (wd' := sa_W0 cI cZ a (sa_add σ o at' 1)) (As := [.int (o), .int (at'), .int (1)]) (rest := []) S (c_X0_addSpot l G cI cZ cL a σ hI hJ hs9 o at' 1 (Or.inr rfl)) (cwV 3 hts gX0_give_X0_addSpot rfl rfl rfl (by decide +kernel) ⟨Nat.le_of_ble_eq_true rfl, Nat.le_of_ble_eq_true rfl⟩) hP hK hS (fun _ h => h) (ci := 0) rfl rfl rfl hl.1 (Nat.le_of_ble_eq_true rfl) rfl dX0_give_65 ⟨Nat.zero_le _, Nat.zero_le _⟩ (fun H locs hP hS _ _ => ?_)
        exact W.iret (v := nI (σ.1 2)) hx hb hr (fun t9 ht _ => ⟨⟨_, (), rfl, rfl, by show va_P G vwCl (sa_W0 cI cZ a (sa_add σ o at' 1)) t9.heap; rw [ht]; exact hP⟩, hS.F ht⟩) hS.2.2 dX0_give_68

set_option maxHeartbeats 4000000 in
set_option maxRecDepth 100000 in
theorem c_X0_give_ex (l : Launch) (lo : Nat) (hst : l.stackTraces = false) (G : va_G) (cI cZ cL : ClassId) (a : Nat → Nat) (σ : sa_St) (hI : sa_I σ) (o at' : Int32) (hne : ¬ (sp_give σ o at').1 = 0) : sa_Ex l yX0_give wsX0_give ({ frames := 8, cells := 1, slots := 6, locals := 132 }) (sa_Px lo G cI cZ cL (sa_W0 cI cZ a σ)) [.ref (a 0), .int (o), .int (at')] (fun E => ((sp_give σ o at').1, E) ∈ [((1 : Nat), sa_E1), ((2 : Nat), sa_E3)]) := by
  obtain ⟨hnb, hno, hns, hgr, hor, hbr, hai⟩ := id hI
  refine vx_ofW (cc := cX0_give) (maxL := 3) (ret := (some .int)) (by decide) rfl ?_
  intro p e s m args below meth c s₁ B9 hml htab hv
  obtain ⟨rfl, ⟨hP, hK⟩, hT⟩ := hv
  have hx := B9.exec
  have hb := B9.bytes
  have hr := B9.returns
  have hlk := B9.notSynchronized
  have hts := atoms_spec (ws := wsX0_give) B9.pre
  have hown : s.vm.findClass RX0 = some m.cls := findClass_of_methodNamed B9.named
  have S : CallFix p m c cX0_give 3 s _ wsX0_give RX0 := ⟨hx, hb, hml, hown, hts⟩
  have hin : ∀ w ∈ wsX00, w ∈ wsX0_give := by decide +kernel
  have hl := lv_entry ([.ref (a 0), .int (o), .int (at')]) (n := 3) (Nat.le_of_ble_eq_true rfl)
  rw [lg_entry_eq]
  generalize (lg_sl ([.ref (a 0), .int (o), .int (at')]) ++ List.replicate (3 - (lg_sl ([.ref (a 0), .int (o), .int (at')])).length) Slot.unset).toArray = ls at hl ⊢
  have hl : lv_has ls 3 [(0, .ref (a 0)), (1, .int (o)), (2, .int (at'))] := hl
  refine lv_aload_n hx hb dX0_give_0 rfl (lv_at hl 0 rfl) ?_
  refine lv_iload_n hx hb dX0_give_1 rfl (lv_at hl 1 rfl) ?_
  by_cases k_2 : sa_in o (σ.1 1)
  · skip
    have ho : vp_in o (σ.1 1) := sa_inv (by omega) k_2
    refine sa_kOkV (As := [.int (o)]) (rest := []) S (c_X0_checkOrder_ok l G cI cZ cL a σ hI o k_2) (cwV 1 hts gX0_give_X0_checkOrder rfl rfl rfl (by decide +kernel) ⟨Nat.le_of_ble_eq_true rfl, Nat.le_of_ble_eq_true rfl⟩) hP hK (ci := 0) rfl rfl rfl hl.1 (Nat.le_of_ble_eq_true rfl) rfl dX0_give_2 ⟨Nat.zero_le _, Nat.zero_le _⟩ ?_
    refine lv_aload_n hx hb dX0_give_5 rfl (lv_at hl 0 rfl) ?_
    refine lv_iload_n hx hb dX0_give_6 rfl (lv_at hl 2 rfl) ?_
    by_cases k_7 : sa_in at' (σ.1 0)
    · skip
      have hat : vp_in at' (σ.1 0) := sa_inv (by omega) k_7
      refine sa_kOkV (As := [.int (at')]) (rest := []) S (c_X0_checkBreak_ok l G cI cZ cL a σ hI at' k_7) (cwV 1 hts gX0_give_X0_checkBreak rfl rfl rfl (by decide +kernel) ⟨Nat.le_of_ble_eq_true rfl, Nat.le_of_ble_eq_true rfl⟩) hP hK (ci := 0) rfl rfl rfl hl.1 (Nat.le_of_ble_eq_true rfl) rfl dX0_give_7 ⟨Nat.zero_le _, Nat.zero_le _⟩ ?_
      refine lv_aload_n hx hb dX0_give_10 rfl (lv_at hl 0 rfl) ?_
      refine lv_iload_n hx hb dX0_give_11 rfl (lv_at hl 1 rfl) ?_
      refine sa_kRd (As := [.int (o)]) (rest := []) S (c_X0_restOf l G cI cZ cL a σ hI o ho) (cwV 1 hts gX0_give_X0_restOf rfl rfl rfl (by decide +kernel) ⟨Nat.le_of_ble_eq_true rfl, Nat.le_of_ble_eq_true rfl⟩) hP hK (ci := 0) rfl rfl rfl hl.1 (Nat.le_of_ble_eq_true rfl) rfl dX0_give_12 ⟨Nat.zero_le _, Nat.zero_le _⟩ ?_
      refine lv_if_le (tgt := 22) hx hb dX0_give_15 (by decide) (fun c_15 => ?_) (fun c_15 => ?_)
      · skip
        have c_15 := Int32.not_lt.mpr c_15
        refine lv_iconst (v := 0) hx hb dX0_give_22 (by decide) ?_
        exact sa_kExS (As := [.int (0)]) (rest := []) S (c_X0_checkState_ex l lo hst 0 rfl) (va_cwS 1 hts gX0_give_X0_checkState rfl rfl rfl (by decide +kernel) ⟨Nat.le_of_ble_eq_true rfl, Nat.le_of_ble_eq_true rfl⟩) hT htab hlk (fun E hE => by subst hE; rw [show sp_give σ o at' = (2, 0, σ) from sa_go2 ⟨k_2, k_7⟩ (fun z9 => c_15 z9.1)]; show ((2 : Nat), sa_E3) ∈ _; decide) rfl hl.1 (Nat.le_of_ble_eq_true rfl) rfl dX0_give_23 ⟨Nat.le_refl _, Nat.le_refl _⟩
      · skip
        have c_15 := Int32.not_le.mp c_15
        refine lv_iconst (v := 1) hx hb dX0_give_18 (by decide) ?_
        refine lv_goto (tgt := 23) hx hb dX0_give_19 (by decide) ?_
        refine sa_kOkS (As := [.int (1)]) (rest := []) S (c_X0_checkState_ok l 1 (by decide)) (va_cwS 1 hts gX0_give_X0_checkState rfl rfl rfl (by decide +kernel) ⟨Nat.le_of_ble_eq_true rfl, Nat.le_of_ble_eq_true rfl⟩) rfl hl.1 (Nat.le_of_ble_eq_true rfl) rfl dX0_give_23 ⟨Nat.zero_le _, Nat.zero_le _⟩ ?_
        refine lv_aload_n hx hb dX0_give_26 rfl (lv_at hl 0 rfl) ?_
        refine lv_iload_n hx hb dX0_give_27 rfl (lv_at hl 1 rfl) ?_
        refine lv_iload_n hx hb dX0_give_28 rfl (lv_at hl 2 rfl) ?_
        refine sa_kRd (As := [.int (o), .int (at')]) (rest := []) S (c_X0_obstacle l G cI cZ cL a σ hI o at' ho hat) (cwV 2 hts gX0_give_X0_obstacle rfl rfl rfl (by decide +kernel) ⟨Nat.le_of_ble_eq_true rfl, Nat.le_of_ble_eq_true rfl⟩) hP hK (ci := 0) rfl rfl rfl hl.1 (Nat.le_of_ble_eq_true rfl) rfl dX0_give_29 ⟨Nat.zero_le _, Nat.zero_le _⟩ ?_
        refine lv_if_ne (tgt := 39) hx hb dX0_give_32 (by decide) (fun c_32 => ?_) (fun c_32 => ?_)
        · skip
          refine lv_iconst (v := 0) hx hb dX0_give_39 (by decide) ?_
          exact sa_kExS (As := [.int (0)]) (rest := []) S (c_X0_checkState_ex l lo hst 0 rfl) (va_cwS 1 hts gX0_give_X0_checkState rfl rfl rfl (by decide +kernel) ⟨Nat.le_of_ble_eq_true rfl, Nat.le_of_ble_eq_true rfl⟩) hT htab hlk (fun E hE => by subst hE; rw [show sp_give σ o at' = (2, 0, σ) from sa_go2 ⟨k_2, k_7⟩ (fun z9 => c_32 z9.2.2)]; show ((2 : Nat), sa_E3) ∈ _; decide) rfl hl.1 (Nat.le_of_ble_eq_true rfl) rfl dX0_give_40 ⟨Nat.le_refl _, Nat.le_refl _⟩
        · skip
          refine lv_iconst (v := 1) hx hb dX0_give_35 (by decide) ?_
          refine lv_goto (tgt := 40) hx hb dX0_give_36 (by decide) ?_
          refine sa_kOkS (As := [.int (1)]) (rest := []) S (c_X0_checkState_ok l 1 (by decide)) (va_cwS 1 hts gX0_give_X0_checkState rfl rfl rfl (by decide +kernel) ⟨Nat.le_of_ble_eq_true rfl, Nat.le_of_ble_eq_true rfl⟩) rfl hl.1 (Nat.le_of_ble_eq_true rfl) rfl dX0_give_40 ⟨Nat.zero_le _, Nat.zero_le _⟩ ?_
          refine lv_aload_n hx hb dX0_give_43 rfl (lv_at hl 0 rfl) ?_
          refine sa_g0_spotCount S hin hK hP (by decide +kernel) dX0_give_44 ?_
          refine lv_sipush (v := 150) hx hb dX0_give_47 (by decide) ?_
          refine lv_icmp_ge (tgt := 57) hx hb dX0_give_50 (by decide) (fun c_50 => ?_) (fun c_50 => ?_)
          · skip
            have c_50 := Int32.not_lt.mpr c_50
            refine lv_iconst (v := 0) hx hb dX0_give_57 (by decide) ?_
            exact sa_kExS (As := [.int (0)]) (rest := []) S (c_X0_checkState_ex l lo hst 0 rfl) (va_cwS 1 hts gX0_give_X0_checkState rfl rfl rfl (by decide +kernel) ⟨Nat.le_of_ble_eq_true rfl, Nat.le_of_ble_eq_true rfl⟩) hT htab hlk (fun E hE => by subst hE; rw [show sp_give σ o at' = (2, 0, σ) from sa_go2 ⟨k_2, k_7⟩ (fun z9 => c_50 z9.2.1)]; show ((2 : Nat), sa_E3) ∈ _; decide) rfl hl.1 (Nat.le_of_ble_eq_true rfl) rfl dX0_give_58 ⟨Nat.le_refl _, Nat.le_refl _⟩
          · skip
            have c_50 := Int32.not_le.mp c_50
            refine lv_iconst (v := 1) hx hb dX0_give_53 (by decide) ?_
            refine lv_goto (tgt := 58) hx hb dX0_give_54 (by decide) ?_
            exact (hne (congrArg Prod.fst (show sp_give σ o at' = (0, _) from sa_go0 ⟨k_2, k_7⟩ ⟨c_15, c_50, c_32⟩ trivial))).elim
    · exact sa_kExV (As := [.int (at')]) (rest := []) S (c_X0_checkBreak_ex l lo hst G cI cZ cL a σ hI at' k_7) (cwV 1 hts gX0_give_X0_checkBreak rfl rfl rfl (by decide +kernel) ⟨Nat.le_of_ble_eq_true rfl, Nat.le_of_ble_eq_true rfl⟩) hP hK hT (ci := 0) rfl rfl htab hlk (fun E hE => by subst hE; rw [show sp_give σ o at' = (1, 0, σ) from sa_go1 (fun z9 => k_7 z9.2)]; show ((1 : Nat), sa_E1) ∈ _; decide) rfl hl.1 (Nat.le_of_ble_eq_true rfl) rfl dX0_give_7 ⟨Nat.le_refl _, Nat.le_refl _⟩
  · exact sa_kExV (As := [.int (o)]) (rest := []) S (c_X0_checkOrder_ex l lo hst G cI cZ cL a σ hI o k_2) (cwV 1 hts gX0_give_X0_checkOrder rfl rfl rfl (by decide +kernel) ⟨Nat.le_of_ble_eq_true rfl, Nat.le_of_ble_eq_true rfl⟩) hP hK hT (ci := 0) rfl rfl htab hlk (fun E hE => by subst hE; rw [show sp_give σ o at' = (1, 0, σ) from sa_go1 (fun z9 => k_2 z9.1)]; show ((1 : Nat), sa_E1) ∈ _; decide) rfl hl.1 (Nat.le_of_ble_eq_true rfl) rfl dX0_give_2 ⟨Nat.le_refl _, Nat.le_refl _⟩

set_option maxHeartbeats 4000000 in
set_option maxRecDepth 100000 in
theorem c_X0_move_ok (l : Launch) (G : va_G) (cI cZ cL : ClassId) (a : Nat → Nat) (σ : sa_St) (hI : sa_I σ) (x at' : Int32) (hJ : sa_J a) (h1 : sa_iS σ x ∧ sa_iB σ at') (h2 : σ.2 14 x.toNatClampNeg = 0 ∧ (σ.2 13 x.toNatClampNeg = at' ∨ sa_why σ (σ.2 12 x.toNatClampNeg) at' x = 0)) : sa_Wr l yX0_move wsX0_move ({ frames := 8, cells := 0, slots := 0, locals := 132 }) G cI cZ cL (sa_W0 cI cZ a σ) (sa_W0 cI cZ a (sa_f σ 13 (upd (σ.2 13) x.toNatClampNeg at'))) (sa_A a) [.ref (a 0), .int (x), .int (at')] (σ.2 13 x.toNatClampNeg) := by
  obtain ⟨hnb, hno, hns, hgr, hor, hbr, hai⟩ := id hI
  refine Met.ofW (cc := cX0_move) (maxL := 4) (ret := (some .int)) (by decide) rfl ?_
  intro p e s m args below meth c s₁ B9 hml hv
  obtain ⟨rfl, hP, hK⟩ := hv
  have hsx : vp_in x (σ.1 2) := sa_inv (by omega) h1.1
  have hat : vp_in at' (σ.1 0) := sa_inv (by omega) h1.2
  have hx := B9.exec
  have hb := B9.bytes
  have hr := B9.returns
  have hlk := B9.notSynchronized
  have hts := atoms_spec (ws := wsX0_move) B9.pre
  have hown : s.vm.findClass RX0 = some m.cls := findClass_of_methodNamed B9.named
  have S : CallFix p m c cX0_move 4 s _ wsX0_move RX0 := ⟨hx, hb, hml, hown, hts⟩
  have hin : ∀ w ∈ wsX00, w ∈ wsX0_move := by decide +kernel
  have hS : va_S (sa_A a) s.heap s.heap [] := va_S.rf
  have hl := lv_entry ([.ref (a 0), .int (x), .int (at')]) (n := 4) (Nat.le_of_ble_eq_true rfl)
  rw [lg_entry_eq]
  generalize (lg_sl ([.ref (a 0), .int (x), .int (at')]) ++ List.replicate (4 - (lg_sl ([.ref (a 0), .int (x), .int (at')])).length) Slot.unset).toArray = ls at hl ⊢
  have hl : lv_has ls 4 [(0, .ref (a 0)), (1, .int (x)), (2, .int (at'))] := hl
  refine lv_aload_n hx hb dX0_move_0 rfl (lv_at hl 0 rfl) ?_
  refine lv_iload_n hx hb dX0_move_1 rfl (lv_at hl 1 rfl) ?_
  refine sa_kOkV (As := [.int (x)]) (rest := []) S (c_X0_checkSpot_ok l G cI cZ cL a σ hI x h1.1) (cwV 1 hts gX0_move_X0_checkSpot rfl rfl rfl (by decide +kernel) ⟨Nat.le_of_ble_eq_true rfl, Nat.le_of_ble_eq_true rfl⟩) hP hK (ci := 0) rfl rfl rfl hl.1 (Nat.le_of_ble_eq_true rfl) rfl dX0_move_2 ⟨Nat.zero_le _, Nat.zero_le _⟩ ?_
  refine lv_aload_n hx hb dX0_move_5 rfl (lv_at hl 0 rfl) ?_
  refine lv_iload_n hx hb dX0_move_6 rfl (lv_at hl 2 rfl) ?_
  refine sa_kOkV (As := [.int (at')]) (rest := []) S (c_X0_checkBreak_ok l G cI cZ cL a σ hI at' h1.2) (cwV 1 hts gX0_move_X0_checkBreak rfl rfl rfl (by decide +kernel) ⟨Nat.le_of_ble_eq_true rfl, Nat.le_of_ble_eq_true rfl⟩) hP hK (ci := 0) rfl rfl rfl hl.1 (Nat.le_of_ble_eq_true rfl) rfl dX0_move_7 ⟨Nat.zero_le _, Nat.zero_le _⟩ ?_
  refine lv_aload_n hx hb dX0_move_10 rfl (lv_at hl 0 rfl) ?_
  refine sa_g0_spotState S hin hK hP (by decide +kernel) dX0_move_11 ?_
  refine lv_iload_n hx hb dX0_move_14 rfl (lv_at hl 1 rfl) ?_
  refine sa_ld 14 S hK hP rfl (sa_vm hsx (by omega)) dX0_move_15 ?_
  refine lv_if_ne (tgt := 23) hx hb dX0_move_16 (by decide) (fun c_16 => ?_) (fun c_16 => ?_)
  · skip
    refine lv_iconst (v := 0) hx hb dX0_move_23 (by decide) ?_
    exact absurd h2 (fun z9 => c_16 z9.1)
  · skip
    refine lv_iconst (v := 1) hx hb dX0_move_19 (by decide) ?_
    refine lv_goto (tgt := 24) hx hb dX0_move_20 (by decide) ?_
    refine sa_kOkS (As := [.int (1)]) (rest := []) S (c_X0_checkState_ok l 1 (by decide)) (va_cwS 1 hts gX0_move_X0_checkState rfl rfl rfl (by decide +kernel) ⟨Nat.le_of_ble_eq_true rfl, Nat.le_of_ble_eq_true rfl⟩) rfl hl.1 (Nat.le_of_ble_eq_true rfl) rfl dX0_move_24 ⟨Nat.zero_le _, Nat.zero_le _⟩ ?_
    refine lv_aload_n hx hb dX0_move_27 rfl (lv_at hl 0 rfl) ?_
    refine sa_g0_spotBreak S hin hK hP (by decide +kernel) dX0_move_28 ?_
    refine lv_iload_n hx hb dX0_move_31 rfl (lv_at hl 1 rfl) ?_
    refine sa_ld 13 S hK hP rfl (sa_vm hsx (by omega)) dX0_move_32 ?_
    refine lv_istore_n (lv' := [(3, .int (σ.2 13 x.toNatClampNeg)), (0, .ref (a 0)), (1, .int (x)), (2, .int (at'))]) hx hb dX0_move_33 rfl hl (by decide) rfl (fun ls hl => ?_)
    refine lv_iload_n hx hb dX0_move_34 rfl (lv_at hl 3 rfl) ?_
    refine lv_iload_n hx hb dX0_move_35 rfl (lv_at hl 0 rfl) ?_
    refine lv_icmp_eq (tgt := 53) hx hb dX0_move_36 (by decide) (fun c_36 => ?_) (fun c_36 => ?_)
    · skip
      have c_36 := c_36.symm
      refine lv_iconst (v := 1) hx hb dX0_move_53 (by decide) ?_
      refine lv_goto (tgt := 58) hx hb dX0_move_54 (by decide) ?_
      refine sa_kOkS (As := [.int (1)]) (rest := []) S (c_X0_checkState_ok l 1 (by decide)) (va_cwS 1 hts gX0_move_X0_checkState rfl rfl rfl (by decide +kernel) ⟨Nat.le_of_ble_eq_true rfl, Nat.le_of_ble_eq_true rfl⟩) rfl hl.1 (Nat.le_of_ble_eq_true rfl) rfl dX0_move_58 ⟨Nat.zero_le _, Nat.zero_le _⟩ ?_
      refine lv_aload_n hx hb dX0_move_61 rfl (lv_at hl 1 rfl) ?_
      refine sa_g0_spotBreak S hin hK hP (by decide +kernel) dX0_move_62 ?_
      refine lv_iload_n hx hb dX0_move_65 rfl (lv_at hl 2 rfl) ?_
      refine lv_iload_n hx hb dX0_move_66 rfl (lv_at hl 3 rfl) ?_
      refine sa_st (ws' := (sa_W0 cI cZ a (sa_f σ 13 (upd (σ.2 13) x.toNatClampNeg at')))) 13 S hK hP (sa_D0 hJ) hS rfl (sa_vm hsx (by omega)) rfl dX0_move_67 (fun H locs hP hS => ?_)
      refine lv_iload_n hx hb dX0_move_68 rfl (lv_at hl 0 rfl) ?_
      exact W.iret (v := σ.2 13 x.toNatClampNeg) hx hb hr (fun t9 ht _ => ⟨⟨_, (), rfl, rfl, by show va_P G vwCl (sa_W0 cI cZ a (sa_f σ 13 (upd (σ.2 13) x.toNatClampNeg at'))) t9.heap; rw [ht]; exact hP⟩, hS.F ht⟩) hS.2.2 dX0_move_69
    · skip
      have c_36 := fun z9 => c_36 (Eq.symm z9)
      refine lv_aload_n hx hb dX0_move_39 rfl (lv_at hl 1 rfl) ?_
      refine lv_aload_n hx hb dX0_move_40 rfl (lv_at hl 1 rfl) ?_
      refine sa_g0_spotOrder S hin hK hP (by decide +kernel) dX0_move_41 ?_
      refine lv_iload_n hx hb dX0_move_44 rfl (lv_at hl 2 rfl) ?_
      refine sa_ld 12 S hK hP rfl (sa_vm hsx (by omega)) dX0_move_45 ?_
      refine lv_iload_n hx hb dX0_move_46 rfl (lv_at hl 3 rfl) ?_
      refine sa_kRd (As := [.int (σ.2 12 x.toNatClampNeg), .int (at')]) (rest := []) S (c_X0_obstacle l G cI cZ cL a σ hI (σ.2 12 x.toNatClampNeg) at' (hor _ (sa_lt hsx)) hat) (cwV 2 hts gX0_move_X0_obstacle rfl rfl rfl (by decide +kernel) ⟨Nat.le_of_ble_eq_true rfl, Nat.le_of_ble_eq_true rfl⟩) hP hK (ci := 0) rfl rfl rfl hl.1 (Nat.le_of_ble_eq_true rfl) rfl dX0_move_47 ⟨Nat.zero_le _, Nat.zero_le _⟩ ?_
      refine lv_if_ne (tgt := 57) hx hb dX0_move_50 (by decide) (fun c_50 => ?_) (fun c_50 => ?_)
      · skip
        rw [sa_why_mv hI c_36] at c_50
        refine lv_iconst (v := 0) hx hb dX0_move_57 (by decide) ?_
        exact absurd h2 (fun z9 => (fun q => Or.elim q c_36 c_50) z9.2)
      · skip
        rw [sa_why_mv hI c_36] at c_50
        refine lv_iconst (v := 1) hx hb dX0_move_53 (by decide) ?_
        refine lv_goto (tgt := 58) hx hb dX0_move_54 (by decide) ?_
        refine sa_kOkS (As := [.int (1)]) (rest := []) S (c_X0_checkState_ok l 1 (by decide)) (va_cwS 1 hts gX0_move_X0_checkState rfl rfl rfl (by decide +kernel) ⟨Nat.le_of_ble_eq_true rfl, Nat.le_of_ble_eq_true rfl⟩) rfl hl.1 (Nat.le_of_ble_eq_true rfl) rfl dX0_move_58 ⟨Nat.zero_le _, Nat.zero_le _⟩ ?_
        refine lv_aload_n hx hb dX0_move_61 rfl (lv_at hl 1 rfl) ?_
        refine sa_g0_spotBreak S hin hK hP (by decide +kernel) dX0_move_62 ?_
        refine lv_iload_n hx hb dX0_move_65 rfl (lv_at hl 2 rfl) ?_
        refine lv_iload_n hx hb dX0_move_66 rfl (lv_at hl 3 rfl) ?_
        refine sa_st (ws' := (sa_W0 cI cZ a (sa_f σ 13 (upd (σ.2 13) x.toNatClampNeg at')))) 13 S hK hP (sa_D0 hJ) hS rfl (sa_vm hsx (by omega)) rfl dX0_move_67 (fun H locs hP hS => ?_)
        refine lv_iload_n hx hb dX0_move_68 rfl (lv_at hl 0 rfl) ?_
        exact W.iret (v := σ.2 13 x.toNatClampNeg) hx hb hr (fun t9 ht _ => ⟨⟨_, (), rfl, rfl, by show va_P G vwCl (sa_W0 cI cZ a (sa_f σ 13 (upd (σ.2 13) x.toNatClampNeg at'))) t9.heap; rw [ht]; exact hP⟩, hS.F ht⟩) hS.2.2 dX0_move_69

set_option maxHeartbeats 4000000 in
set_option maxRecDepth 100000 in
theorem c_X0_move_ex (l : Launch) (lo : Nat) (hst : l.stackTraces = false) (G : va_G) (cI cZ cL : ClassId) (a : Nat → Nat) (σ : sa_St) (hI : sa_I σ) (x at' : Int32) (hne : ¬ (sp_move σ x at').1 = 0) : sa_Ex l yX0_move wsX0_move ({ frames := 8, cells := 1, slots := 6, locals := 132 }) (sa_Px lo G cI cZ cL (sa_W0 cI cZ a σ)) [.ref (a 0), .int (x), .int (at')] (fun E => ((sp_move σ x at').1, E) ∈ [((1 : Nat), sa_E1), ((2 : Nat), sa_E3)]) := by
  obtain ⟨hnb, hno, hns, hgr, hor, hbr, hai⟩ := id hI
  refine vx_ofW (cc := cX0_move) (maxL := 4) (ret := (some .int)) (by decide) rfl ?_
  intro p e s m args below meth c s₁ B9 hml htab hv
  obtain ⟨rfl, ⟨hP, hK⟩, hT⟩ := hv
  have hx := B9.exec
  have hb := B9.bytes
  have hr := B9.returns
  have hlk := B9.notSynchronized
  have hts := atoms_spec (ws := wsX0_move) B9.pre
  have hown : s.vm.findClass RX0 = some m.cls := findClass_of_methodNamed B9.named
  have S : CallFix p m c cX0_move 4 s _ wsX0_move RX0 := ⟨hx, hb, hml, hown, hts⟩
  have hin : ∀ w ∈ wsX00, w ∈ wsX0_move := by decide +kernel
  have hl := lv_entry ([.ref (a 0), .int (x), .int (at')]) (n := 4) (Nat.le_of_ble_eq_true rfl)
  rw [lg_entry_eq]
  generalize (lg_sl ([.ref (a 0), .int (x), .int (at')]) ++ List.replicate (4 - (lg_sl ([.ref (a 0), .int (x), .int (at')])).length) Slot.unset).toArray = ls at hl ⊢
  have hl : lv_has ls 4 [(0, .ref (a 0)), (1, .int (x)), (2, .int (at'))] := hl
  refine lv_aload_n hx hb dX0_move_0 rfl (lv_at hl 0 rfl) ?_
  refine lv_iload_n hx hb dX0_move_1 rfl (lv_at hl 1 rfl) ?_
  by_cases k_2 : sa_in x (σ.1 2)
  · skip
    have hsx : vp_in x (σ.1 2) := sa_inv (by omega) k_2
    refine sa_kOkV (As := [.int (x)]) (rest := []) S (c_X0_checkSpot_ok l G cI cZ cL a σ hI x k_2) (cwV 1 hts gX0_move_X0_checkSpot rfl rfl rfl (by decide +kernel) ⟨Nat.le_of_ble_eq_true rfl, Nat.le_of_ble_eq_true rfl⟩) hP hK (ci := 0) rfl rfl rfl hl.1 (Nat.le_of_ble_eq_true rfl) rfl dX0_move_2 ⟨Nat.zero_le _, Nat.zero_le _⟩ ?_
    refine lv_aload_n hx hb dX0_move_5 rfl (lv_at hl 0 rfl) ?_
    refine lv_iload_n hx hb dX0_move_6 rfl (lv_at hl 2 rfl) ?_
    by_cases k_7 : sa_in at' (σ.1 0)
    · skip
      have hat : vp_in at' (σ.1 0) := sa_inv (by omega) k_7
      refine sa_kOkV (As := [.int (at')]) (rest := []) S (c_X0_checkBreak_ok l G cI cZ cL a σ hI at' k_7) (cwV 1 hts gX0_move_X0_checkBreak rfl rfl rfl (by decide +kernel) ⟨Nat.le_of_ble_eq_true rfl, Nat.le_of_ble_eq_true rfl⟩) hP hK (ci := 0) rfl rfl rfl hl.1 (Nat.le_of_ble_eq_true rfl) rfl dX0_move_7 ⟨Nat.zero_le _, Nat.zero_le _⟩ ?_
      refine lv_aload_n hx hb dX0_move_10 rfl (lv_at hl 0 rfl) ?_
      refine sa_g0_spotState S hin hK hP (by decide +kernel) dX0_move_11 ?_
      refine lv_iload_n hx hb dX0_move_14 rfl (lv_at hl 1 rfl) ?_
      refine sa_ld 14 S hK hP rfl (sa_vm hsx (by omega)) dX0_move_15 ?_
      refine lv_if_ne (tgt := 23) hx hb dX0_move_16 (by decide) (fun c_16 => ?_) (fun c_16 => ?_)
      · skip
        refine lv_iconst (v := 0) hx hb dX0_move_23 (by decide) ?_
        exact sa_kExS (As := [.int (0)]) (rest := []) S (c_X0_checkState_ex l lo hst 0 rfl) (va_cwS 1 hts gX0_move_X0_checkState rfl rfl rfl (by decide +kernel) ⟨Nat.le_of_ble_eq_true rfl, Nat.le_of_ble_eq_true rfl⟩) hT htab hlk (fun E hE => by subst hE; rw [show sp_move σ x at' = (2, 0, σ) from sa_go2 ⟨k_2, k_7⟩ (fun z9 => c_16 z9.1)]; show ((2 : Nat), sa_E3) ∈ _; decide) rfl hl.1 (Nat.le_of_ble_eq_true rfl) rfl dX0_move_24 ⟨Nat.le_refl _, Nat.le_refl _⟩
      · skip
        refine lv_iconst (v := 1) hx hb dX0_move_19 (by decide) ?_
        refine lv_goto (tgt := 24) hx hb dX0_move_20 (by decide) ?_
        refine sa_kOkS (As := [.int (1)]) (rest := []) S (c_X0_checkState_ok l 1 (by decide)) (va_cwS 1 hts gX0_move_X0_checkState rfl rfl rfl (by decide +kernel) ⟨Nat.le_of_ble_eq_true rfl, Nat.le_of_ble_eq_true rfl⟩) rfl hl.1 (Nat.le_of_ble_eq_true rfl) rfl dX0_move_24 ⟨Nat.zero_le _, Nat.zero_le _⟩ ?_
        refine lv_aload_n hx hb dX0_move_27 rfl (lv_at hl 0 rfl) ?_
        refine sa_g0_spotBreak S hin hK hP (by decide +kernel) dX0_move_28 ?_
        refine lv_iload_n hx hb dX0_move_31 rfl (lv_at hl 1 rfl) ?_
        refine sa_ld 13 S hK hP rfl (sa_vm hsx (by omega)) dX0_move_32 ?_
        refine lv_istore_n (lv' := [(3, .int (σ.2 13 x.toNatClampNeg)), (0, .ref (a 0)), (1, .int (x)), (2, .int (at'))]) hx hb dX0_move_33 rfl hl (by decide) rfl (fun ls hl => ?_)
        refine lv_iload_n hx hb dX0_move_34 rfl (lv_at hl 3 rfl) ?_
        refine lv_iload_n hx hb dX0_move_35 rfl (lv_at hl 0 rfl) ?_
        refine lv_icmp_eq (tgt := 53) hx hb dX0_move_36 (by decide) (fun c_36 => ?_) (fun c_36 => ?_)
        · skip
          have c_36 := c_36.symm
          refine lv_iconst (v := 1) hx hb dX0_move_53 (by decide) ?_
          refine lv_goto (tgt := 58) hx hb dX0_move_54 (by decide) ?_
          exact (hne (congrArg Prod.fst (show sp_move σ x at' = (0, _) from sa_go0 ⟨k_2, k_7⟩ ⟨c_16, (Or.inl c_36)⟩ trivial))).elim
        · skip
          have c_36 := fun z9 => c_36 (Eq.symm z9)
          refine lv_aload_n hx hb dX0_move_39 rfl (lv_at hl 1 rfl) ?_
          refine lv_aload_n hx hb dX0_move_40 rfl (lv_at hl 1 rfl) ?_
          refine sa_g0_spotOrder S hin hK hP (by decide +kernel) dX0_move_41 ?_
          refine lv_iload_n hx hb dX0_move_44 rfl (lv_at hl 2 rfl) ?_
          refine sa_ld 12 S hK hP rfl (sa_vm hsx (by omega)) dX0_move_45 ?_
          refine lv_iload_n hx hb dX0_move_46 rfl (lv_at hl 3 rfl) ?_
          refine sa_kRd (As := [.int (σ.2 12 x.toNatClampNeg), .int (at')]) (rest := []) S (c_X0_obstacle l G cI cZ cL a σ hI (σ.2 12 x.toNatClampNeg) at' (hor _ (sa_lt hsx)) hat) (cwV 2 hts gX0_move_X0_obstacle rfl rfl rfl (by decide +kernel) ⟨Nat.le_of_ble_eq_true rfl, Nat.le_of_ble_eq_true rfl⟩) hP hK (ci := 0) rfl rfl rfl hl.1 (Nat.le_of_ble_eq_true rfl) rfl dX0_move_47 ⟨Nat.zero_le _, Nat.zero_le _⟩ ?_
          refine lv_if_ne (tgt := 57) hx hb dX0_move_50 (by decide) (fun c_50 => ?_) (fun c_50 => ?_)
          · skip
            rw [sa_why_mv hI c_36] at c_50
            refine lv_iconst (v := 0) hx hb dX0_move_57 (by decide) ?_
            exact sa_kExS (As := [.int (0)]) (rest := []) S (c_X0_checkState_ex l lo hst 0 rfl) (va_cwS 1 hts gX0_move_X0_checkState rfl rfl rfl (by decide +kernel) ⟨Nat.le_of_ble_eq_true rfl, Nat.le_of_ble_eq_true rfl⟩) hT htab hlk (fun E hE => by subst hE; rw [show sp_move σ x at' = (2, 0, σ) from sa_go2 ⟨k_2, k_7⟩ (fun z9 => (fun q => Or.elim q c_36 c_50) z9.2)]; show ((2 : Nat), sa_E3) ∈ _; decide) rfl hl.1 (Nat.le_of_ble_eq_true rfl) rfl dX0_move_58 ⟨Nat.le_refl _, Nat.le_refl _⟩
          · skip
            rw [sa_why_mv hI c_36] at c_50
            refine lv_iconst (v := 1) hx hb dX0_move_53 (by decide) ?_
            refine lv_goto (tgt := 58) hx hb dX0_move_54 (by decide) ?_
            exact (hne (congrArg Prod.fst (show sp_move σ x at' = (0, _) from sa_go0 ⟨k_2, k_7⟩ ⟨c_16, (Or.inr (c_50))⟩ trivial))).elim
    · exact sa_kExV (As := [.int (at')]) (rest := []) S (c_X0_checkBreak_ex l lo hst G cI cZ cL a σ hI at' k_7) (cwV 1 hts gX0_move_X0_checkBreak rfl rfl rfl (by decide +kernel) ⟨Nat.le_of_ble_eq_true rfl, Nat.le_of_ble_eq_true rfl⟩) hP hK hT (ci := 0) rfl rfl htab hlk (fun E hE => by subst hE; rw [show sp_move σ x at' = (1, 0, σ) from sa_go1 (fun z9 => k_7 z9.2)]; show ((1 : Nat), sa_E1) ∈ _; decide) rfl hl.1 (Nat.le_of_ble_eq_true rfl) rfl dX0_move_7 ⟨Nat.le_refl _, Nat.le_refl _⟩
  · exact sa_kExV (As := [.int (x)]) (rest := []) S (c_X0_checkSpot_ex l lo hst G cI cZ cL a σ hI x k_2) (cwV 1 hts gX0_move_X0_checkSpot rfl rfl rfl (by decide +kernel) ⟨Nat.le_of_ble_eq_true rfl, Nat.le_of_ble_eq_true rfl⟩) hP hK hT (ci := 0) rfl rfl htab hlk (fun E hE => by subst hE; rw [show sp_move σ x at' = (1, 0, σ) from sa_go1 (fun z9 => k_2 z9.1)]; show ((1 : Nat), sa_E1) ∈ _; decide) rfl hl.1 (Nat.le_of_ble_eq_true rfl) rfl dX0_move_2 ⟨Nat.le_refl _, Nat.le_refl _⟩

set_option maxHeartbeats 4000000 in
set_option maxRecDepth 100000 in
theorem c_X0_miss_ok (l : Launch) (G : va_G) (cI cZ cL : ClassId) (a : Nat → Nat) (σ : sa_St) (hI : sa_I σ) (x : Int32) (hJ : sa_J a) (h1 : sa_iS σ x) (h2 : σ.2 14 x.toNatClampNeg = 0 ∨ σ.2 14 x.toNatClampNeg = 1) : sa_Wr l yX0_miss wsX0_miss ({ frames := 8, cells := 0, slots := 0, locals := 132 }) G cI cZ cL (sa_W0 cI cZ a σ) (sa_W0 cI cZ a (sa_f σ 14 (upd (σ.2 14) x.toNatClampNeg 2))) (sa_A a) [.ref (a 0), .int (x)] (sa_b (σ.2 14 x.toNatClampNeg = 1)) := by
  obtain ⟨hnb, hno, hns, hgr, hor, hbr, hai⟩ := id hI
  refine Met.ofW (cc := cX0_miss) (maxL := 3) (ret := (some .boolean)) (by decide) rfl ?_
  intro p e s m args below meth c s₁ B9 hml hv
  obtain ⟨rfl, hP, hK⟩ := hv
  have hsx : vp_in x (σ.1 2) := sa_inv (by omega) h1
  have hx := B9.exec
  have hb := B9.bytes
  have hr := B9.returns
  have hlk := B9.notSynchronized
  have hts := atoms_spec (ws := wsX0_miss) B9.pre
  have hown : s.vm.findClass RX0 = some m.cls := findClass_of_methodNamed B9.named
  have S : CallFix p m c cX0_miss 3 s _ wsX0_miss RX0 := ⟨hx, hb, hml, hown, hts⟩
  have hin : ∀ w ∈ wsX00, w ∈ wsX0_miss := by decide +kernel
  have hS : va_S (sa_A a) s.heap s.heap [] := va_S.rf
  have hl := lv_entry ([.ref (a 0), .int (x)]) (n := 3) (Nat.le_of_ble_eq_true rfl)
  rw [lg_entry_eq]
  generalize (lg_sl ([.ref (a 0), .int (x)]) ++ List.replicate (3 - (lg_sl ([.ref (a 0), .int (x)])).length) Slot.unset).toArray = ls at hl ⊢
  have hl : lv_has ls 3 [(0, .ref (a 0)), (1, .int (x))] := hl
  refine lv_aload_n hx hb dX0_miss_0 rfl (lv_at hl 0 rfl) ?_
  refine lv_iload_n hx hb dX0_miss_1 rfl (lv_at hl 1 rfl) ?_
  refine sa_kOkV (As := [.int (x)]) (rest := []) S (c_X0_checkSpot_ok l G cI cZ cL a σ hI x h1) (cwV 1 hts gX0_miss_X0_checkSpot rfl rfl rfl (by decide +kernel) ⟨Nat.le_of_ble_eq_true rfl, Nat.le_of_ble_eq_true rfl⟩) hP hK (ci := 0) rfl rfl rfl hl.1 (Nat.le_of_ble_eq_true rfl) rfl dX0_miss_2 ⟨Nat.zero_le _, Nat.zero_le _⟩ ?_
  refine lv_aload_n hx hb dX0_miss_5 rfl (lv_at hl 0 rfl) ?_
  refine lv_iload_n hx hb dX0_miss_6 rfl (lv_at hl 1 rfl) ?_
  refine sa_kRd (As := [.int (x)]) (rest := []) S (c_X0_isInBreak_x l G cI cZ cL a σ x (sa_vm hsx (by omega))) (cwV 1 hts gX0_miss_X0_isInBreak rfl rfl rfl (by decide +kernel) ⟨Nat.le_of_ble_eq_true rfl, Nat.le_of_ble_eq_true rfl⟩) hP hK (ci := 0) rfl rfl rfl hl.1 (Nat.le_of_ble_eq_true rfl) rfl dX0_miss_7 ⟨Nat.zero_le _, Nat.zero_le _⟩ ?_
  refine sa_kOkS (As := [.int (sa_b (σ.2 14 x.toNatClampNeg = 0 ∨ σ.2 14 x.toNatClampNeg = 1))]) (rest := []) S (c_X0_checkState_ok l (sa_b (σ.2 14 x.toNatClampNeg = 0 ∨ σ.2 14 x.toNatClampNeg = 1)) (by rw [sa_bt (h2)]; decide)) (va_cwS 1 hts gX0_miss_X0_checkState rfl rfl rfl (by decide +kernel) ⟨Nat.le_of_ble_eq_true rfl, Nat.le_of_ble_eq_true rfl⟩) rfl hl.1 (Nat.le_of_ble_eq_true rfl) rfl dX0_miss_10 ⟨Nat.zero_le _, Nat.zero_le _⟩ ?_
  refine lv_aload_n hx hb dX0_miss_13 rfl (lv_at hl 0 rfl) ?_
  refine sa_g0_spotState S hin hK hP (by decide +kernel) dX0_miss_14 ?_
  refine lv_iload_n hx hb dX0_miss_17 rfl (lv_at hl 1 rfl) ?_
  refine sa_ld 14 S hK hP rfl (sa_vm hsx (by omega)) dX0_miss_18 ?_
  refine lv_iconst (v := 1) hx hb dX0_miss_19 (by decide) ?_
  refine lv_icmp_ne (tgt := 27) hx hb dX0_miss_20 (by decide) (fun c_20 => ?_) (fun c_20 => ?_)
  · skip
    refine lv_iconst (v := 0) hx hb dX0_miss_27 (by decide) ?_
    refine lv_istore_n (lv' := [(2, .int (0)), (0, .ref (a 0)), (1, .int (x))]) hx hb dX0_miss_28 rfl hl (by decide) rfl (fun ls hl => ?_)
    refine lv_aload_n hx hb dX0_miss_29 rfl (lv_at hl 1 rfl) ?_
    refine sa_g0_spotState S hin hK hP (by decide +kernel) dX0_miss_30 ?_
    refine lv_iload_n hx hb dX0_miss_33 rfl (lv_at hl 2 rfl) ?_
    refine lv_iconst (v := 2) hx hb dX0_miss_34 (by decide) ?_
    refine sa_st (ws' := (sa_W0 cI cZ a (sa_f σ 14 (upd (σ.2 14) x.toNatClampNeg 2)))) 14 S hK hP (sa_D0 hJ) hS rfl (sa_vm hsx (by omega)) rfl dX0_miss_35 (fun H locs hP hS => ?_)
    refine lv_iload_n hx hb dX0_miss_36 rfl (lv_at hl 0 rfl) ?_
    exact W.zret (v := 0) (ty := .boolean) hx hb hr rfl (fun t9 ht _ => ⟨⟨_, (), rfl, (sa_bf (by simp [c_20])).symm, by show va_P G vwCl (sa_W0 cI cZ a (sa_f σ 14 (upd (σ.2 14) x.toNatClampNeg 2))) t9.heap; rw [ht]; exact hP⟩, hS.F ht⟩) hS.2.2 dX0_miss_37
  · skip
    refine lv_iconst (v := 1) hx hb dX0_miss_23 (by decide) ?_
    refine lv_goto (tgt := 28) hx hb dX0_miss_24 (by decide) ?_
    refine lv_istore_n (lv' := [(2, .int (1)), (0, .ref (a 0)), (1, .int (x))]) hx hb dX0_miss_28 rfl hl (by decide) rfl (fun ls hl => ?_)
    refine lv_aload_n hx hb dX0_miss_29 rfl (lv_at hl 1 rfl) ?_
    refine sa_g0_spotState S hin hK hP (by decide +kernel) dX0_miss_30 ?_
    refine lv_iload_n hx hb dX0_miss_33 rfl (lv_at hl 2 rfl) ?_
    refine lv_iconst (v := 2) hx hb dX0_miss_34 (by decide) ?_
    refine sa_st (ws' := (sa_W0 cI cZ a (sa_f σ 14 (upd (σ.2 14) x.toNatClampNeg 2)))) 14 S hK hP (sa_D0 hJ) hS rfl (sa_vm hsx (by omega)) rfl dX0_miss_35 (fun H locs hP hS => ?_)
    refine lv_iload_n hx hb dX0_miss_36 rfl (lv_at hl 0 rfl) ?_
    exact W.zret (v := 1) (ty := .boolean) hx hb hr rfl (fun t9 ht _ => ⟨⟨_, (), rfl, (sa_bt (by simp [c_20])).symm, by show va_P G vwCl (sa_W0 cI cZ a (sa_f σ 14 (upd (σ.2 14) x.toNatClampNeg 2))) t9.heap; rw [ht]; exact hP⟩, hS.F ht⟩) hS.2.2 dX0_miss_37

set_option maxHeartbeats 4000000 in
set_option maxRecDepth 100000 in
theorem c_X0_miss_ex (l : Launch) (lo : Nat) (hst : l.stackTraces = false) (G : va_G) (cI cZ cL : ClassId) (a : Nat → Nat) (σ : sa_St) (hI : sa_I σ) (x : Int32) (hne : ¬ (sp_miss σ x).1 = 0) : sa_Ex l yX0_miss wsX0_miss ({ frames := 8, cells := 1, slots := 6, locals := 132 }) (sa_Px lo G cI cZ cL (sa_W0 cI cZ a σ)) [.ref (a 0), .int (x)] (fun E => ((sp_miss σ x).1, E) ∈ [((1 : Nat), sa_E1), ((2 : Nat), sa_E3)]) := by
  obtain ⟨hnb, hno, hns, hgr, hor, hbr, hai⟩ := id hI
  refine vx_ofW (cc := cX0_miss) (maxL := 3) (ret := (some .boolean)) (by decide) rfl ?_
  intro p e s m args below meth c s₁ B9 hml htab hv
  obtain ⟨rfl, ⟨hP, hK⟩, hT⟩ := hv
  have hx := B9.exec
  have hb := B9.bytes
  have hr := B9.returns
  have hlk := B9.notSynchronized
  have hts := atoms_spec (ws := wsX0_miss) B9.pre
  have hown : s.vm.findClass RX0 = some m.cls := findClass_of_methodNamed B9.named
  have S : CallFix p m c cX0_miss 3 s _ wsX0_miss RX0 := ⟨hx, hb, hml, hown, hts⟩
  have hl := lv_entry ([.ref (a 0), .int (x)]) (n := 3) (Nat.le_of_ble_eq_true rfl)
  rw [lg_entry_eq]
  generalize (lg_sl ([.ref (a 0), .int (x)]) ++ List.replicate (3 - (lg_sl ([.ref (a 0), .int (x)])).length) Slot.unset).toArray = ls at hl ⊢
  have hl : lv_has ls 3 [(0, .ref (a 0)), (1, .int (x))] := hl
  refine lv_aload_n hx hb dX0_miss_0 rfl (lv_at hl 0 rfl) ?_
  refine lv_iload_n hx hb dX0_miss_1 rfl (lv_at hl 1 rfl) ?_
  by_cases k_2 : sa_in x (σ.1 2)
  · skip
    have hsx : vp_in x (σ.1 2) := sa_inv (by omega) k_2
    refine sa_kOkV (As := [.int (x)]) (rest := []) S (c_X0_checkSpot_ok l G cI cZ cL a σ hI x k_2) (cwV 1 hts gX0_miss_X0_checkSpot rfl rfl rfl (by decide +kernel) ⟨Nat.le_of_ble_eq_true rfl, Nat.le_of_ble_eq_true rfl⟩) hP hK (ci := 0) rfl rfl rfl hl.1 (Nat.le_of_ble_eq_true rfl) rfl dX0_miss_2 ⟨Nat.zero_le _, Nat.zero_le _⟩ ?_
    refine lv_aload_n hx hb dX0_miss_5 rfl (lv_at hl 0 rfl) ?_
    refine lv_iload_n hx hb dX0_miss_6 rfl (lv_at hl 1 rfl) ?_
    refine sa_kRd (As := [.int (x)]) (rest := []) S (c_X0_isInBreak_x l G cI cZ cL a σ x (sa_vm hsx (by omega))) (cwV 1 hts gX0_miss_X0_isInBreak rfl rfl rfl (by decide +kernel) ⟨Nat.le_of_ble_eq_true rfl, Nat.le_of_ble_eq_true rfl⟩) hP hK (ci := 0) rfl rfl rfl hl.1 (Nat.le_of_ble_eq_true rfl) rfl dX0_miss_7 ⟨Nat.zero_le _, Nat.zero_le _⟩ ?_
    by_cases k_10 : σ.2 14 x.toNatClampNeg = 0 ∨ σ.2 14 x.toNatClampNeg = 1
    · skip
      exact (hne (congrArg Prod.fst (show sp_miss σ x = (0, _) from sa_go0 k_2 k_10 trivial))).elim
    · skip
      exact sa_kExS (As := [.int (sa_b (σ.2 14 x.toNatClampNeg = 0 ∨ σ.2 14 x.toNatClampNeg = 1))]) (rest := []) S (c_X0_checkState_ex l lo hst (sa_b (σ.2 14 x.toNatClampNeg = 0 ∨ σ.2 14 x.toNatClampNeg = 1)) (sa_bf k_10)) (va_cwS 1 hts gX0_miss_X0_checkState rfl rfl rfl (by decide +kernel) ⟨Nat.le_of_ble_eq_true rfl, Nat.le_of_ble_eq_true rfl⟩) hT htab hlk (fun E hE => by subst hE; rw [show sp_miss σ x = (2, 0, σ) from sa_go2 k_2 (fun z9 => k_10 z9)]; show ((2 : Nat), sa_E3) ∈ _; decide) rfl hl.1 (Nat.le_of_ble_eq_true rfl) rfl dX0_miss_10 ⟨Nat.le_refl _, Nat.le_refl _⟩
  · exact sa_kExV (As := [.int (x)]) (rest := []) S (c_X0_checkSpot_ex l lo hst G cI cZ cL a σ hI x k_2) (cwV 1 hts gX0_miss_X0_checkSpot rfl rfl rfl (by decide +kernel) ⟨Nat.le_of_ble_eq_true rfl, Nat.le_of_ble_eq_true rfl⟩) hP hK hT (ci := 0) rfl rfl htab hlk (fun E hE => by subst hE; rw [show sp_miss σ x = (1, 0, σ) from sa_go1 (fun z9 => k_2 z9)]; show ((1 : Nat), sa_E1) ∈ _; decide) rfl hl.1 (Nat.le_of_ble_eq_true rfl) rfl dX0_miss_2 ⟨Nat.le_refl _, Nat.le_refl _⟩

set_option maxHeartbeats 4000000 in
set_option maxRecDepth 100000 in
theorem c_X0_drop_ok (l : Launch) (G : va_G) (cI cZ cL : ClassId) (a : Nat → Nat) (σ : sa_St) (hI : sa_I σ) (x : Int32) (hJ : sa_J a) (h1 : sa_iS σ x) (h2 : σ.2 14 x.toNatClampNeg = 0) : sa_Wv l yX0_drop wsX0_drop ({ frames := 8, cells := 0, slots := 0, locals := 132 }) G cI cZ cL (sa_W0 cI cZ a σ) (sa_W0 cI cZ a (sa_f σ 14 (upd (σ.2 14) x.toNatClampNeg 3))) (sa_A a) [.ref (a 0), .int (x)] := by
  obtain ⟨hnb, hno, hns, hgr, hor, hbr, hai⟩ := id hI
  refine Met.ofW (cc := cX0_drop) (maxL := 2) (ret := none) (by decide) rfl ?_
  intro p e s m args below meth c s₁ B9 hml hv
  obtain ⟨rfl, hP, hK⟩ := hv
  have hsx : vp_in x (σ.1 2) := sa_inv (by omega) h1
  have hx := B9.exec
  have hb := B9.bytes
  have hr := B9.returns
  have hlk := B9.notSynchronized
  have hts := atoms_spec (ws := wsX0_drop) B9.pre
  have hown : s.vm.findClass RX0 = some m.cls := findClass_of_methodNamed B9.named
  have S : CallFix p m c cX0_drop 2 s _ wsX0_drop RX0 := ⟨hx, hb, hml, hown, hts⟩
  have hin : ∀ w ∈ wsX00, w ∈ wsX0_drop := by decide +kernel
  have hS : va_S (sa_A a) s.heap s.heap [] := va_S.rf
  have hl := lv_entry ([.ref (a 0), .int (x)]) (n := 2) (Nat.le_of_ble_eq_true rfl)
  rw [lg_entry_eq]
  generalize (lg_sl ([.ref (a 0), .int (x)]) ++ List.replicate (2 - (lg_sl ([.ref (a 0), .int (x)])).length) Slot.unset).toArray = ls at hl ⊢
  have hl : lv_has ls 2 [(0, .ref (a 0)), (1, .int (x))] := hl
  refine lv_aload_n hx hb dX0_drop_0 rfl (lv_at hl 0 rfl) ?_
  refine lv_iload_n hx hb dX0_drop_1 rfl (lv_at hl 1 rfl) ?_
  refine sa_kOkV (As := [.int (x)]) (rest := []) S (c_X0_checkSpot_ok l G cI cZ cL a σ hI x h1) (cwV 1 hts gX0_drop_X0_checkSpot rfl rfl rfl (by decide +kernel) ⟨Nat.le_of_ble_eq_true rfl, Nat.le_of_ble_eq_true rfl⟩) hP hK (ci := 0) rfl rfl rfl hl.1 (Nat.le_of_ble_eq_true rfl) rfl dX0_drop_2 ⟨Nat.zero_le _, Nat.zero_le _⟩ ?_
  refine lv_aload_n hx hb dX0_drop_5 rfl (lv_at hl 0 rfl) ?_
  refine sa_g0_spotState S hin hK hP (by decide +kernel) dX0_drop_6 ?_
  refine lv_iload_n hx hb dX0_drop_9 rfl (lv_at hl 1 rfl) ?_
  refine sa_ld 14 S hK hP rfl (sa_vm hsx (by omega)) dX0_drop_10 ?_
  refine lv_if_ne (tgt := 18) hx hb dX0_drop_11 (by decide) (fun c_11 => ?_) (fun c_11 => ?_)
  · skip
    refine lv_iconst (v := 0) hx hb dX0_drop_18 (by decide) ?_
    exact absurd h2 (fun z9 => c_11 z9)
  · skip
    refine lv_iconst (v := 1) hx hb dX0_drop_14 (by decide) ?_
    refine lv_goto (tgt := 19) hx hb dX0_drop_15 (by decide) ?_
    refine sa_kOkS (As := [.int (1)]) (rest := []) S (c_X0_checkState_ok l 1 (by decide)) (va_cwS 1 hts gX0_drop_X0_checkState rfl rfl rfl (by decide +kernel) ⟨Nat.le_of_ble_eq_true rfl, Nat.le_of_ble_eq_true rfl⟩) rfl hl.1 (Nat.le_of_ble_eq_true rfl) rfl dX0_drop_19 ⟨Nat.zero_le _, Nat.zero_le _⟩ ?_
    refine lv_aload_n hx hb dX0_drop_22 rfl (lv_at hl 0 rfl) ?_
    refine sa_g0_spotState S hin hK hP (by decide +kernel) dX0_drop_23 ?_
    refine lv_iload_n hx hb dX0_drop_26 rfl (lv_at hl 1 rfl) ?_
    refine lv_iconst (v := 3) hx hb dX0_drop_27 (by decide) ?_
    refine sa_st (ws' := (sa_W0 cI cZ a (sa_f σ 14 (upd (σ.2 14) x.toNatClampNeg 3)))) 14 S hK hP (sa_D0 hJ) hS rfl (sa_vm hsx (by omega)) rfl dX0_drop_28 (fun H locs hP hS => ?_)
    exact W.vret hx hb hr (fun t9 ht _ => ⟨⟨(), rfl, trivial, by show va_P G vwCl (sa_W0 cI cZ a (sa_f σ 14 (upd (σ.2 14) x.toNatClampNeg 3))) t9.heap; rw [ht]; exact hP⟩, hS.F ht⟩) hS.2.2 dX0_drop_29

set_option maxHeartbeats 4000000 in
set_option maxRecDepth 100000 in
theorem c_X0_drop_ex (l : Launch) (lo : Nat) (hst : l.stackTraces = false) (G : va_G) (cI cZ cL : ClassId) (a : Nat → Nat) (σ : sa_St) (hI : sa_I σ) (x : Int32) (hne : ¬ (sp_drop σ x).1 = 0) : sa_Ex l yX0_drop wsX0_drop ({ frames := 8, cells := 1, slots := 6, locals := 132 }) (sa_Px lo G cI cZ cL (sa_W0 cI cZ a σ)) [.ref (a 0), .int (x)] (fun E => ((sp_drop σ x).1, E) ∈ [((1 : Nat), sa_E1), ((2 : Nat), sa_E3)]) := by
  obtain ⟨hnb, hno, hns, hgr, hor, hbr, hai⟩ := id hI
  refine vx_ofW (cc := cX0_drop) (maxL := 2) (ret := none) (by decide) rfl ?_
  intro p e s m args below meth c s₁ B9 hml htab hv
  obtain ⟨rfl, ⟨hP, hK⟩, hT⟩ := hv
  have hx := B9.exec
  have hb := B9.bytes
  have hr := B9.returns
  have hlk := B9.notSynchronized
  have hts := atoms_spec (ws := wsX0_drop) B9.pre
  have hown : s.vm.findClass RX0 = some m.cls := findClass_of_methodNamed B9.named
  have S : CallFix p m c cX0_drop 2 s _ wsX0_drop RX0 := ⟨hx, hb, hml, hown, hts⟩
  have hin : ∀ w ∈ wsX00, w ∈ wsX0_drop := by decide +kernel
  have hl := lv_entry ([.ref (a 0), .int (x)]) (n := 2) (Nat.le_of_ble_eq_true rfl)
  rw [lg_entry_eq]
  generalize (lg_sl ([.ref (a 0), .int (x)]) ++ List.replicate (2 - (lg_sl ([.ref (a 0), .int (x)])).length) Slot.unset).toArray = ls at hl ⊢
  have hl : lv_has ls 2 [(0, .ref (a 0)), (1, .int (x))] := hl
  refine lv_aload_n hx hb dX0_drop_0 rfl (lv_at hl 0 rfl) ?_
  refine lv_iload_n hx hb dX0_drop_1 rfl (lv_at hl 1 rfl) ?_
  by_cases k_2 : sa_in x (σ.1 2)
  · skip
    have hsx : vp_in x (σ.1 2) := sa_inv (by omega) k_2
    refine sa_kOkV (As := [.int (x)]) (rest := []) S (c_X0_checkSpot_ok l G cI cZ cL a σ hI x k_2) (cwV 1 hts gX0_drop_X0_checkSpot rfl rfl rfl (by decide +kernel) ⟨Nat.le_of_ble_eq_true rfl, Nat.le_of_ble_eq_true rfl⟩) hP hK (ci := 0) rfl rfl rfl hl.1 (Nat.le_of_ble_eq_true rfl) rfl dX0_drop_2 ⟨Nat.zero_le _, Nat.zero_le _⟩ ?_
    refine lv_aload_n hx hb dX0_drop_5 rfl (lv_at hl 0 rfl) ?_
    refine sa_g0_spotState S hin hK hP (by decide +kernel) dX0_drop_6 ?_
    refine lv_iload_n hx hb dX0_drop_9 rfl (lv_at hl 1 rfl) ?_
    refine sa_ld 14 S hK hP rfl (sa_vm hsx (by omega)) dX0_drop_10 ?_
    refine lv_if_ne (tgt := 18) hx hb dX0_drop_11 (by decide) (fun c_11 => ?_) (fun c_11 => ?_)
    · skip
      refine lv_iconst (v := 0) hx hb dX0_drop_18 (by decide) ?_
      exact sa_kExS (As := [.int (0)]) (rest := []) S (c_X0_checkState_ex l lo hst 0 rfl) (va_cwS 1 hts gX0_drop_X0_checkState rfl rfl rfl (by decide +kernel) ⟨Nat.le_of_ble_eq_true rfl, Nat.le_of_ble_eq_true rfl⟩) hT htab hlk (fun E hE => by subst hE; rw [show sp_drop σ x = (2, 0, σ) from sa_go2 k_2 (fun z9 => c_11 z9)]; show ((2 : Nat), sa_E3) ∈ _; decide) rfl hl.1 (Nat.le_of_ble_eq_true rfl) rfl dX0_drop_19 ⟨Nat.le_refl _, Nat.le_refl _⟩
    · skip
      refine lv_iconst (v := 1) hx hb dX0_drop_14 (by decide) ?_
      refine lv_goto (tgt := 19) hx hb dX0_drop_15 (by decide) ?_
      exact (hne (congrArg Prod.fst (show sp_drop σ x = (0, _) from sa_go0 k_2 c_11 trivial))).elim
  · exact sa_kExV (As := [.int (x)]) (rest := []) S (c_X0_checkSpot_ex l lo hst G cI cZ cL a σ hI x k_2) (cwV 1 hts gX0_drop_X0_checkSpot rfl rfl rfl (by decide +kernel) ⟨Nat.le_of_ble_eq_true rfl, Nat.le_of_ble_eq_true rfl⟩) hP hK hT (ci := 0) rfl rfl htab hlk (fun E hE => by subst hE; rw [show sp_drop σ x = (1, 0, σ) from sa_go1 (fun z9 => k_2 z9)]; show ((1 : Nat), sa_E1) ∈ _; decide) rfl hl.1 (Nat.le_of_ble_eq_true rfl) rfl dX0_drop_2 ⟨Nat.le_refl _, Nat.le_refl _⟩

set_option maxHeartbeats 4000000 in
set_option maxRecDepth 100000 in
theorem c_X0_spots_ok (l : Launch) (G : va_G) (cI cZ cL : ClassId) (a : Nat → Nat) (σ : sa_St) (hI : sa_I σ)  : sa_Rd l yX0_spots wsX0_spots ({ frames := 0, cells := 0, slots := 0, locals := 0 }) G cI cZ cL (sa_W0 cI cZ a σ) [.ref (a 0)] (nI (σ.1 2)) := by
  obtain ⟨hnb, hno, hns, hgr, hor, hbr, hai⟩ := id hI
  refine Met.ofW (cc := cX0_spots) (maxL := 1) (ret := (some .int)) (by decide) rfl ?_
  intro p e s m args below meth c s₁ B9 hml hv
  obtain ⟨rfl, hP, hK⟩ := hv
  have hx := B9.exec
  have hb := B9.bytes
  have hr := B9.returns
  have hlk := B9.notSynchronized
  have hts := atoms_spec (ws := wsX0_spots) B9.pre
  have hown : s.vm.findClass RX0 = some m.cls := findClass_of_methodNamed B9.named
  have S : CallFix p m c cX0_spots 1 s _ wsX0_spots RX0 := ⟨hx, hb, hml, hown, hts⟩
  have hin : ∀ w ∈ wsX00, w ∈ wsX0_spots := by decide +kernel
  have hl := lv_entry ([.ref (a 0)]) (n := 1) (Nat.le_of_ble_eq_true rfl)
  rw [lg_entry_eq]
  generalize (lg_sl ([.ref (a 0)]) ++ List.replicate (1 - (lg_sl ([.ref (a 0)])).length) Slot.unset).toArray = ls at hl ⊢
  have hl : lv_has ls 1 [(0, .ref (a 0))] := hl
  refine lv_aload_n hx hb dX0_spots_0 rfl (lv_at hl 0 rfl) ?_
  refine sa_g0_spotCount S hin hK hP (by decide +kernel) dX0_spots_1 ?_
  exact W.iret (v := nI (σ.1 2)) hx hb hr (fun t9 ht _ => ⟨_, rfl, rfl, ht⟩) (fun _ h => nomatch h) dX0_spots_4

set_option maxHeartbeats 4000000 in
set_option maxRecDepth 100000 in
theorem c_X0_stateOf_ok (l : Launch) (G : va_G) (cI cZ cL : ClassId) (a : Nat → Nat) (σ : sa_St) (hI : sa_I σ) (x : Int32) (h1 : sa_iS σ x) : sa_Rd l yX0_stateOf wsX0_stateOf ({ frames := 8, cells := 0, slots := 0, locals := 132 }) G cI cZ cL (sa_W0 cI cZ a σ) [.ref (a 0), .int (x)] (σ.2 14 x.toNatClampNeg) := by
  obtain ⟨hnb, hno, hns, hgr, hor, hbr, hai⟩ := id hI
  refine Met.ofW (cc := cX0_stateOf) (maxL := 2) (ret := (some .int)) (by decide) rfl ?_
  intro p e s m args below meth c s₁ B9 hml hv
  obtain ⟨rfl, hP, hK⟩ := hv
  have hsx : vp_in x (σ.1 2) := sa_inv (by omega) h1
  have hx := B9.exec
  have hb := B9.bytes
  have hr := B9.returns
  have hlk := B9.notSynchronized
  have hts := atoms_spec (ws := wsX0_stateOf) B9.pre
  have hown : s.vm.findClass RX0 = some m.cls := findClass_of_methodNamed B9.named
  have S : CallFix p m c cX0_stateOf 2 s _ wsX0_stateOf RX0 := ⟨hx, hb, hml, hown, hts⟩
  have hin : ∀ w ∈ wsX00, w ∈ wsX0_stateOf := by decide +kernel
  have hl := lv_entry ([.ref (a 0), .int (x)]) (n := 2) (Nat.le_of_ble_eq_true rfl)
  rw [lg_entry_eq]
  generalize (lg_sl ([.ref (a 0), .int (x)]) ++ List.replicate (2 - (lg_sl ([.ref (a 0), .int (x)])).length) Slot.unset).toArray = ls at hl ⊢
  have hl : lv_has ls 2 [(0, .ref (a 0)), (1, .int (x))] := hl
  refine lv_aload_n hx hb dX0_stateOf_0 rfl (lv_at hl 0 rfl) ?_
  refine lv_iload_n hx hb dX0_stateOf_1 rfl (lv_at hl 1 rfl) ?_
  refine sa_kOkV (As := [.int (x)]) (rest := []) S (c_X0_checkSpot_ok l G cI cZ cL a σ hI x h1) (cwV 1 hts gX0_stateOf_X0_checkSpot rfl rfl rfl (by decide +kernel) ⟨Nat.le_of_ble_eq_true rfl, Nat.le_of_ble_eq_true rfl⟩) hP hK (ci := 0) rfl rfl rfl hl.1 (Nat.le_of_ble_eq_true rfl) rfl dX0_stateOf_2 ⟨Nat.zero_le _, Nat.zero_le _⟩ ?_
  refine lv_aload_n hx hb dX0_stateOf_5 rfl (lv_at hl 0 rfl) ?_
  refine sa_g0_spotState S hin hK hP (by decide +kernel) dX0_stateOf_6 ?_
  refine lv_iload_n hx hb dX0_stateOf_9 rfl (lv_at hl 1 rfl) ?_
  refine sa_ld 14 S hK hP rfl (sa_vm hsx (by omega)) dX0_stateOf_10 ?_
  exact W.iret (v := σ.2 14 x.toNatClampNeg) hx hb hr (fun t9 ht _ => ⟨_, rfl, rfl, ht⟩) (fun _ h => nomatch h) dX0_stateOf_11

set_option maxHeartbeats 4000000 in
set_option maxRecDepth 100000 in
theorem c_X0_stateOf_ex (l : Launch) (lo : Nat) (hst : l.stackTraces = false) (G : va_G) (cI cZ cL : ClassId) (a : Nat → Nat) (σ : sa_St) (hI : sa_I σ) (x : Int32) (hne : ¬ (sp_stateOf σ x).1 = 0) : sa_Ex l yX0_stateOf wsX0_stateOf ({ frames := 8, cells := 1, slots := 6, locals := 132 }) (sa_Px lo G cI cZ cL (sa_W0 cI cZ a σ)) [.ref (a 0), .int (x)] (fun E => ((sp_stateOf σ x).1, E) ∈ [((1 : Nat), sa_E1)]) := by
  obtain ⟨hnb, hno, hns, hgr, hor, hbr, hai⟩ := id hI
  refine vx_ofW (cc := cX0_stateOf) (maxL := 2) (ret := (some .int)) (by decide) rfl ?_
  intro p e s m args below meth c s₁ B9 hml htab hv
  obtain ⟨rfl, ⟨hP, hK⟩, hT⟩ := hv
  have hx := B9.exec
  have hb := B9.bytes
  have hr := B9.returns
  have hlk := B9.notSynchronized
  have hts := atoms_spec (ws := wsX0_stateOf) B9.pre
  have hown : s.vm.findClass RX0 = some m.cls := findClass_of_methodNamed B9.named
  have S : CallFix p m c cX0_stateOf 2 s _ wsX0_stateOf RX0 := ⟨hx, hb, hml, hown, hts⟩
  have hl := lv_entry ([.ref (a 0), .int (x)]) (n := 2) (Nat.le_of_ble_eq_true rfl)
  rw [lg_entry_eq]
  generalize (lg_sl ([.ref (a 0), .int (x)]) ++ List.replicate (2 - (lg_sl ([.ref (a 0), .int (x)])).length) Slot.unset).toArray = ls at hl ⊢
  have hl : lv_has ls 2 [(0, .ref (a 0)), (1, .int (x))] := hl
  refine lv_aload_n hx hb dX0_stateOf_0 rfl (lv_at hl 0 rfl) ?_
  refine lv_iload_n hx hb dX0_stateOf_1 rfl (lv_at hl 1 rfl) ?_
  by_cases k_2 : sa_in x (σ.1 2)
  · skip
    have hsx : vp_in x (σ.1 2) := sa_inv (by omega) k_2
    exact (hne (congrArg Prod.fst (show sp_stateOf σ x = (0, _) from sa_go0 k_2 trivial trivial))).elim
  · exact sa_kExV (As := [.int (x)]) (rest := []) S (c_X0_checkSpot_ex l lo hst G cI cZ cL a σ hI x k_2) (cwV 1 hts gX0_stateOf_X0_checkSpot rfl rfl rfl (by decide +kernel) ⟨Nat.le_of_ble_eq_true rfl, Nat.le_of_ble_eq_true rfl⟩) hP hK hT (ci := 0) rfl rfl htab hlk (fun E hE => by subst hE; rw [show sp_stateOf σ x = (1, 0, σ) from sa_go1 (fun z9 => k_2 z9)]; show ((1 : Nat), sa_E1) ∈ _; decide) rfl hl.1 (Nat.le_of_ble_eq_true rfl) rfl dX0_stateOf_2 ⟨Nat.le_refl _, Nat.le_refl _⟩

set_option maxHeartbeats 4000000 in
set_option maxRecDepth 100000 in
theorem c_X0_breakOf_ok (l : Launch) (G : va_G) (cI cZ cL : ClassId) (a : Nat → Nat) (σ : sa_St) (hI : sa_I σ) (x : Int32) (h1 : sa_iS σ x) : sa_Rd l yX0_breakOf wsX0_breakOf ({ frames := 8, cells := 0, slots := 0, locals := 132 }) G cI cZ cL (sa_W0 cI cZ a σ) [.ref (a 0), .int (x)] (σ.2 13 x.toNatClampNeg) := by
  obtain ⟨hnb, hno, hns, hgr, hor, hbr, hai⟩ := id hI
  refine Met.ofW (cc := cX0_breakOf) (maxL := 2) (ret := (some .int)) (by decide) rfl ?_
  intro p e s m args below meth c s₁ B9 hml hv
  obtain ⟨rfl, hP, hK⟩ := hv
  have hsx : vp_in x (σ.1 2) := sa_inv (by omega) h1
  have hx := B9.exec
  have hb := B9.bytes
  have hr := B9.returns
  have hlk := B9.notSynchronized
  have hts := atoms_spec (ws := wsX0_breakOf) B9.pre
  have hown : s.vm.findClass RX0 = some m.cls := findClass_of_methodNamed B9.named
  have S : CallFix p m c cX0_breakOf 2 s _ wsX0_breakOf RX0 := ⟨hx, hb, hml, hown, hts⟩
  have hin : ∀ w ∈ wsX00, w ∈ wsX0_breakOf := by decide +kernel
  have hl := lv_entry ([.ref (a 0), .int (x)]) (n := 2) (Nat.le_of_ble_eq_true rfl)
  rw [lg_entry_eq]
  generalize (lg_sl ([.ref (a 0), .int (x)]) ++ List.replicate (2 - (lg_sl ([.ref (a 0), .int (x)])).length) Slot.unset).toArray = ls at hl ⊢
  have hl : lv_has ls 2 [(0, .ref (a 0)), (1, .int (x))] := hl
  refine lv_aload_n hx hb dX0_breakOf_0 rfl (lv_at hl 0 rfl) ?_
  refine lv_iload_n hx hb dX0_breakOf_1 rfl (lv_at hl 1 rfl) ?_
  refine sa_kOkV (As := [.int (x)]) (rest := []) S (c_X0_checkSpot_ok l G cI cZ cL a σ hI x h1) (cwV 1 hts gX0_breakOf_X0_checkSpot rfl rfl rfl (by decide +kernel) ⟨Nat.le_of_ble_eq_true rfl, Nat.le_of_ble_eq_true rfl⟩) hP hK (ci := 0) rfl rfl rfl hl.1 (Nat.le_of_ble_eq_true rfl) rfl dX0_breakOf_2 ⟨Nat.zero_le _, Nat.zero_le _⟩ ?_
  refine lv_aload_n hx hb dX0_breakOf_5 rfl (lv_at hl 0 rfl) ?_
  refine sa_g0_spotBreak S hin hK hP (by decide +kernel) dX0_breakOf_6 ?_
  refine lv_iload_n hx hb dX0_breakOf_9 rfl (lv_at hl 1 rfl) ?_
  refine sa_ld 13 S hK hP rfl (sa_vm hsx (by omega)) dX0_breakOf_10 ?_
  exact W.iret (v := σ.2 13 x.toNatClampNeg) hx hb hr (fun t9 ht _ => ⟨_, rfl, rfl, ht⟩) (fun _ h => nomatch h) dX0_breakOf_11

set_option maxHeartbeats 4000000 in
set_option maxRecDepth 100000 in
theorem c_X0_breakOf_ex (l : Launch) (lo : Nat) (hst : l.stackTraces = false) (G : va_G) (cI cZ cL : ClassId) (a : Nat → Nat) (σ : sa_St) (hI : sa_I σ) (x : Int32) (hne : ¬ (sp_breakOf σ x).1 = 0) : sa_Ex l yX0_breakOf wsX0_breakOf ({ frames := 8, cells := 1, slots := 6, locals := 132 }) (sa_Px lo G cI cZ cL (sa_W0 cI cZ a σ)) [.ref (a 0), .int (x)] (fun E => ((sp_breakOf σ x).1, E) ∈ [((1 : Nat), sa_E1)]) := by
  obtain ⟨hnb, hno, hns, hgr, hor, hbr, hai⟩ := id hI
  refine vx_ofW (cc := cX0_breakOf) (maxL := 2) (ret := (some .int)) (by decide) rfl ?_
  intro p e s m args below meth c s₁ B9 hml htab hv
  obtain ⟨rfl, ⟨hP, hK⟩, hT⟩ := hv
  have hx := B9.exec
  have hb := B9.bytes
  have hr := B9.returns
  have hlk := B9.notSynchronized
  have hts := atoms_spec (ws := wsX0_breakOf) B9.pre
  have hown : s.vm.findClass RX0 = some m.cls := findClass_of_methodNamed B9.named
  have S : CallFix p m c cX0_breakOf 2 s _ wsX0_breakOf RX0 := ⟨hx, hb, hml, hown, hts⟩
  have hl := lv_entry ([.ref (a 0), .int (x)]) (n := 2) (Nat.le_of_ble_eq_true rfl)
  rw [lg_entry_eq]
  generalize (lg_sl ([.ref (a 0), .int (x)]) ++ List.replicate (2 - (lg_sl ([.ref (a 0), .int (x)])).length) Slot.unset).toArray = ls at hl ⊢
  have hl : lv_has ls 2 [(0, .ref (a 0)), (1, .int (x))] := hl
  refine lv_aload_n hx hb dX0_breakOf_0 rfl (lv_at hl 0 rfl) ?_
  refine lv_iload_n hx hb dX0_breakOf_1 rfl (lv_at hl 1 rfl) ?_
  by_cases k_2 : sa_in x (σ.1 2)
  · skip
    have hsx : vp_in x (σ.1 2) := sa_inv (by omega) k_2
    exact (hne (congrArg Prod.fst (show sp_breakOf σ x = (0, _) from sa_go0 k_2 trivial trivial))).elim
  · exact sa_kExV (As := [.int (x)]) (rest := []) S (c_X0_checkSpot_ex l lo hst G cI cZ cL a σ hI x k_2) (cwV 1 hts gX0_breakOf_X0_checkSpot rfl rfl rfl (by decide +kernel) ⟨Nat.le_of_ble_eq_true rfl, Nat.le_of_ble_eq_true rfl⟩) hP hK hT (ci := 0) rfl rfl htab hlk (fun E hE => by subst hE; rw [show sp_breakOf σ x = (1, 0, σ) from sa_go1 (fun z9 => k_2 z9)]; show ((1 : Nat), sa_E1) ∈ _; decide) rfl hl.1 (Nat.le_of_ble_eq_true rfl) rfl dX0_breakOf_2 ⟨Nat.le_refl _, Nat.le_refl _⟩

set_option maxHeartbeats 4000000 in
set_option maxRecDepth 100000 in
theorem c_X0_delivered_ok (l : Launch) (G : va_G) (cI cZ cL : ClassId) (a : Nat → Nat) (σ : sa_St) (hI : sa_I σ) (o : Int32) (h1 : sa_iO σ o) : sa_Rd l yX0_delivered wsX0_delivered ({ frames := 8, cells := 0, slots := 0, locals := 132 }) G cI cZ cL (sa_W0 cI cZ a σ) [.ref (a 0), .int (o)] (sa_aud σ o 1) := by
  obtain ⟨hnb, hno, hns, hgr, hor, hbr, hai⟩ := id hI
  refine Met.ofW (cc := cX0_delivered) (maxL := 2) (ret := (some .int)) (by decide) rfl ?_
  intro p e s m args below meth c s₁ B9 hml hv
  obtain ⟨rfl, hP, hK⟩ := hv
  have ho : vp_in o (σ.1 1) := sa_inv (by omega) h1
  have hx := B9.exec
  have hb := B9.bytes
  have hr := B9.returns
  have hlk := B9.notSynchronized
  have hts := atoms_spec (ws := wsX0_delivered) B9.pre
  have hown : s.vm.findClass RX0 = some m.cls := findClass_of_methodNamed B9.named
  have S : CallFix p m c cX0_delivered 2 s _ wsX0_delivered RX0 := ⟨hx, hb, hml, hown, hts⟩
  have hl := lv_entry ([.ref (a 0), .int (o)]) (n := 2) (Nat.le_of_ble_eq_true rfl)
  rw [lg_entry_eq]
  generalize (lg_sl ([.ref (a 0), .int (o)]) ++ List.replicate (2 - (lg_sl ([.ref (a 0), .int (o)])).length) Slot.unset).toArray = ls at hl ⊢
  have hl : lv_has ls 2 [(0, .ref (a 0)), (1, .int (o))] := hl
  refine lv_aload_n hx hb dX0_delivered_0 rfl (lv_at hl 0 rfl) ?_
  refine lv_iload_n hx hb dX0_delivered_1 rfl (lv_at hl 1 rfl) ?_
  refine sa_kOkV (As := [.int (o)]) (rest := []) S (c_X0_checkOrder_ok l G cI cZ cL a σ hI o h1) (cwV 1 hts gX0_delivered_X0_checkOrder rfl rfl rfl (by decide +kernel) ⟨Nat.le_of_ble_eq_true rfl, Nat.le_of_ble_eq_true rfl⟩) hP hK (ci := 0) rfl rfl rfl hl.1 (Nat.le_of_ble_eq_true rfl) rfl dX0_delivered_2 ⟨Nat.zero_le _, Nat.zero_le _⟩ ?_
  refine lv_aload_n hx hb dX0_delivered_5 rfl (lv_at hl 0 rfl) ?_
  refine lv_iload_n hx hb dX0_delivered_6 rfl (lv_at hl 1 rfl) ?_
  refine lv_iconst (v := 1) hx hb dX0_delivered_7 (by decide) ?_
  refine sa_kRd (As := [.int (o), .int (1)]) (rest := []) S (c_X0_audience l G cI cZ cL a σ hI o 1 ho) (cwV 2 hts gX0_delivered_X0_audience rfl rfl rfl (by decide +kernel) ⟨Nat.le_of_ble_eq_true rfl, Nat.le_of_ble_eq_true rfl⟩) hP hK (ci := 0) rfl rfl rfl hl.1 (Nat.le_of_ble_eq_true rfl) rfl dX0_delivered_8 ⟨Nat.zero_le _, Nat.zero_le _⟩ ?_
  exact W.iret (v := sa_sum σ o 1 0 (σ.1 2)) hx hb hr (fun t9 ht _ => ⟨_, rfl, rfl, ht⟩) (fun _ h => nomatch h) dX0_delivered_11

set_option maxHeartbeats 4000000 in
set_option maxRecDepth 100000 in
theorem c_X0_delivered_ex (l : Launch) (lo : Nat) (hst : l.stackTraces = false) (G : va_G) (cI cZ cL : ClassId) (a : Nat → Nat) (σ : sa_St) (hI : sa_I σ) (o : Int32) (hne : ¬ (sp_delivered σ o).1 = 0) : sa_Ex l yX0_delivered wsX0_delivered ({ frames := 8, cells := 1, slots := 6, locals := 132 }) (sa_Px lo G cI cZ cL (sa_W0 cI cZ a σ)) [.ref (a 0), .int (o)] (fun E => ((sp_delivered σ o).1, E) ∈ [((1 : Nat), sa_E1)]) := by
  obtain ⟨hnb, hno, hns, hgr, hor, hbr, hai⟩ := id hI
  refine vx_ofW (cc := cX0_delivered) (maxL := 2) (ret := (some .int)) (by decide) rfl ?_
  intro p e s m args below meth c s₁ B9 hml htab hv
  obtain ⟨rfl, ⟨hP, hK⟩, hT⟩ := hv
  have hx := B9.exec
  have hb := B9.bytes
  have hr := B9.returns
  have hlk := B9.notSynchronized
  have hts := atoms_spec (ws := wsX0_delivered) B9.pre
  have hown : s.vm.findClass RX0 = some m.cls := findClass_of_methodNamed B9.named
  have S : CallFix p m c cX0_delivered 2 s _ wsX0_delivered RX0 := ⟨hx, hb, hml, hown, hts⟩
  have hl := lv_entry ([.ref (a 0), .int (o)]) (n := 2) (Nat.le_of_ble_eq_true rfl)
  rw [lg_entry_eq]
  generalize (lg_sl ([.ref (a 0), .int (o)]) ++ List.replicate (2 - (lg_sl ([.ref (a 0), .int (o)])).length) Slot.unset).toArray = ls at hl ⊢
  have hl : lv_has ls 2 [(0, .ref (a 0)), (1, .int (o))] := hl
  refine lv_aload_n hx hb dX0_delivered_0 rfl (lv_at hl 0 rfl) ?_
  refine lv_iload_n hx hb dX0_delivered_1 rfl (lv_at hl 1 rfl) ?_
  by_cases k_2 : sa_in o (σ.1 1)
  · skip
    have ho : vp_in o (σ.1 1) := sa_inv (by omega) k_2
    exact (hne (congrArg Prod.fst (show sp_delivered σ o = (0, _) from sa_go0 k_2 trivial trivial))).elim
  · exact sa_kExV (As := [.int (o)]) (rest := []) S (c_X0_checkOrder_ex l lo hst G cI cZ cL a σ hI o k_2) (cwV 1 hts gX0_delivered_X0_checkOrder rfl rfl rfl (by decide +kernel) ⟨Nat.le_of_ble_eq_true rfl, Nat.le_of_ble_eq_true rfl⟩) hP hK hT (ci := 0) rfl rfl htab hlk (fun E hE => by subst hE; rw [show sp_delivered σ o = (1, 0, σ) from sa_go1 (fun z9 => k_2 z9)]; show ((1 : Nat), sa_E1) ∈ _; decide) rfl hl.1 (Nat.le_of_ble_eq_true rfl) rfl dX0_delivered_2 ⟨Nat.le_refl _, Nat.le_refl _⟩

set_option maxHeartbeats 4000000 in
set_option maxRecDepth 100000 in
theorem c_X0_owed_ok (l : Launch) (G : va_G) (cI cZ cL : ClassId) (a : Nat → Nat) (σ : sa_St) (hI : sa_I σ) (o : Int32) (h1 : sa_iO σ o) : sa_Rd l yX0_owed wsX0_owed ({ frames := 8, cells := 0, slots := 0, locals := 132 }) G cI cZ cL (sa_W0 cI cZ a σ) [.ref (a 0), .int (o)] (sa_owes σ o) := by
  obtain ⟨hnb, hno, hns, hgr, hor, hbr, hai⟩ := id hI
  refine Met.ofW (cc := cX0_owed) (maxL := 2) (ret := (some .int)) (by decide) rfl ?_
  intro p e s m args below meth c s₁ B9 hml hv
  obtain ⟨rfl, hP, hK⟩ := hv
  have ho : vp_in o (σ.1 1) := sa_inv (by omega) h1
  have hx := B9.exec
  have hb := B9.bytes
  have hr := B9.returns
  have hlk := B9.notSynchronized
  have hts := atoms_spec (ws := wsX0_owed) B9.pre
  have hown : s.vm.findClass RX0 = some m.cls := findClass_of_methodNamed B9.named
  have S : CallFix p m c cX0_owed 2 s _ wsX0_owed RX0 := ⟨hx, hb, hml, hown, hts⟩
  have hl := lv_entry ([.ref (a 0), .int (o)]) (n := 2) (Nat.le_of_ble_eq_true rfl)
  rw [lg_entry_eq]
  generalize (lg_sl ([.ref (a 0), .int (o)]) ++ List.replicate (2 - (lg_sl ([.ref (a 0), .int (o)])).length) Slot.unset).toArray = ls at hl ⊢
  have hl : lv_has ls 2 [(0, .ref (a 0)), (1, .int (o))] := hl
  refine lv_aload_n hx hb dX0_owed_0 rfl (lv_at hl 0 rfl) ?_
  refine lv_iload_n hx hb dX0_owed_1 rfl (lv_at hl 1 rfl) ?_
  refine sa_kOkV (As := [.int (o)]) (rest := []) S (c_X0_checkOrder_ok l G cI cZ cL a σ hI o h1) (cwV 1 hts gX0_owed_X0_checkOrder rfl rfl rfl (by decide +kernel) ⟨Nat.le_of_ble_eq_true rfl, Nat.le_of_ble_eq_true rfl⟩) hP hK (ci := 0) rfl rfl rfl hl.1 (Nat.le_of_ble_eq_true rfl) rfl dX0_owed_2 ⟨Nat.zero_le _, Nat.zero_le _⟩ ?_
  refine lv_aload_n hx hb dX0_owed_5 rfl (lv_at hl 0 rfl) ?_
  refine lv_iload_n hx hb dX0_owed_6 rfl (lv_at hl 1 rfl) ?_
  refine sa_kRd (As := [.int (o)]) (rest := []) S (c_X0_owedTo l G cI cZ cL a σ hI o ho) (cwV 1 hts gX0_owed_X0_owedTo rfl rfl rfl (by decide +kernel) ⟨Nat.le_of_ble_eq_true rfl, Nat.le_of_ble_eq_true rfl⟩) hP hK (ci := 0) rfl rfl rfl hl.1 (Nat.le_of_ble_eq_true rfl) rfl dX0_owed_7 ⟨Nat.zero_le _, Nat.zero_le _⟩ ?_
  exact W.iret (v := sa_owes σ o) hx hb hr (fun t9 ht _ => ⟨_, rfl, rfl, ht⟩) (fun _ h => nomatch h) dX0_owed_10

set_option maxHeartbeats 4000000 in
set_option maxRecDepth 100000 in
theorem c_X0_owed_ex (l : Launch) (lo : Nat) (hst : l.stackTraces = false) (G : va_G) (cI cZ cL : ClassId) (a : Nat → Nat) (σ : sa_St) (hI : sa_I σ) (o : Int32) (hne : ¬ (sp_owed σ o).1 = 0) : sa_Ex l yX0_owed wsX0_owed ({ frames := 8, cells := 1, slots := 6, locals := 132 }) (sa_Px lo G cI cZ cL (sa_W0 cI cZ a σ)) [.ref (a 0), .int (o)] (fun E => ((sp_owed σ o).1, E) ∈ [((1 : Nat), sa_E1)]) := by
  obtain ⟨hnb, hno, hns, hgr, hor, hbr, hai⟩ := id hI
  refine vx_ofW (cc := cX0_owed) (maxL := 2) (ret := (some .int)) (by decide) rfl ?_
  intro p e s m args below meth c s₁ B9 hml htab hv
  obtain ⟨rfl, ⟨hP, hK⟩, hT⟩ := hv
  have hx := B9.exec
  have hb := B9.bytes
  have hr := B9.returns
  have hlk := B9.notSynchronized
  have hts := atoms_spec (ws := wsX0_owed) B9.pre
  have hown : s.vm.findClass RX0 = some m.cls := findClass_of_methodNamed B9.named
  have S : CallFix p m c cX0_owed 2 s _ wsX0_owed RX0 := ⟨hx, hb, hml, hown, hts⟩
  have hl := lv_entry ([.ref (a 0), .int (o)]) (n := 2) (Nat.le_of_ble_eq_true rfl)
  rw [lg_entry_eq]
  generalize (lg_sl ([.ref (a 0), .int (o)]) ++ List.replicate (2 - (lg_sl ([.ref (a 0), .int (o)])).length) Slot.unset).toArray = ls at hl ⊢
  have hl : lv_has ls 2 [(0, .ref (a 0)), (1, .int (o))] := hl
  refine lv_aload_n hx hb dX0_owed_0 rfl (lv_at hl 0 rfl) ?_
  refine lv_iload_n hx hb dX0_owed_1 rfl (lv_at hl 1 rfl) ?_
  by_cases k_2 : sa_in o (σ.1 1)
  · skip
    have ho : vp_in o (σ.1 1) := sa_inv (by omega) k_2
    exact (hne (congrArg Prod.fst (show sp_owed σ o = (0, _) from sa_go0 k_2 trivial trivial))).elim
  · exact sa_kExV (As := [.int (o)]) (rest := []) S (c_X0_checkOrder_ex l lo hst G cI cZ cL a σ hI o k_2) (cwV 1 hts gX0_owed_X0_checkOrder rfl rfl rfl (by decide +kernel) ⟨Nat.le_of_ble_eq_true rfl, Nat.le_of_ble_eq_true rfl⟩) hP hK hT (ci := 0) rfl rfl htab hlk (fun E hE => by subst hE; rw [show sp_owed σ o = (1, 0, σ) from sa_go1 (fun z9 => k_2 z9)]; show ((1 : Nat), sa_E1) ∈ _; decide) rfl hl.1 (Nat.le_of_ble_eq_true rfl) rfl dX0_owed_2 ⟨Nat.le_refl _, Nat.le_refl _⟩

set_option maxHeartbeats 4000000 in
set_option maxRecDepth 100000 in
theorem c_X0_rest_ok (l : Launch) (G : va_G) (cI cZ cL : ClassId) (a : Nat → Nat) (σ : sa_St) (hI : sa_I σ) (o : Int32) (h1 : sa_iO σ o) : sa_Rd l yX0_rest wsX0_rest ({ frames := 8, cells := 0, slots := 0, locals := 132 }) G cI cZ cL (sa_W0 cI cZ a σ) [.ref (a 0), .int (o)] (sa_left σ o) := by
  obtain ⟨hnb, hno, hns, hgr, hor, hbr, hai⟩ := id hI
  refine Met.ofW (cc := cX0_rest) (maxL := 2) (ret := (some .int)) (by decide) rfl ?_
  intro p e s m args below meth c s₁ B9 hml hv
  obtain ⟨rfl, hP, hK⟩ := hv
  have ho : vp_in o (σ.1 1) := sa_inv (by omega) h1
  have hx := B9.exec
  have hb := B9.bytes
  have hr := B9.returns
  have hlk := B9.notSynchronized
  have hts := atoms_spec (ws := wsX0_rest) B9.pre
  have hown : s.vm.findClass RX0 = some m.cls := findClass_of_methodNamed B9.named
  have S : CallFix p m c cX0_rest 2 s _ wsX0_rest RX0 := ⟨hx, hb, hml, hown, hts⟩
  have hl := lv_entry ([.ref (a 0), .int (o)]) (n := 2) (Nat.le_of_ble_eq_true rfl)
  rw [lg_entry_eq]
  generalize (lg_sl ([.ref (a 0), .int (o)]) ++ List.replicate (2 - (lg_sl ([.ref (a 0), .int (o)])).length) Slot.unset).toArray = ls at hl ⊢
  have hl : lv_has ls 2 [(0, .ref (a 0)), (1, .int (o))] := hl
  refine lv_aload_n hx hb dX0_rest_0 rfl (lv_at hl 0 rfl) ?_
  refine lv_iload_n hx hb dX0_rest_1 rfl (lv_at hl 1 rfl) ?_
  refine sa_kOkV (As := [.int (o)]) (rest := []) S (c_X0_checkOrder_ok l G cI cZ cL a σ hI o h1) (cwV 1 hts gX0_rest_X0_checkOrder rfl rfl rfl (by decide +kernel) ⟨Nat.le_of_ble_eq_true rfl, Nat.le_of_ble_eq_true rfl⟩) hP hK (ci := 0) rfl rfl rfl hl.1 (Nat.le_of_ble_eq_true rfl) rfl dX0_rest_2 ⟨Nat.zero_le _, Nat.zero_le _⟩ ?_
  refine lv_aload_n hx hb dX0_rest_5 rfl (lv_at hl 0 rfl) ?_
  refine lv_iload_n hx hb dX0_rest_6 rfl (lv_at hl 1 rfl) ?_
  refine sa_kRd (As := [.int (o)]) (rest := []) S (c_X0_restOf l G cI cZ cL a σ hI o ho) (cwV 1 hts gX0_rest_X0_restOf rfl rfl rfl (by decide +kernel) ⟨Nat.le_of_ble_eq_true rfl, Nat.le_of_ble_eq_true rfl⟩) hP hK (ci := 0) rfl rfl rfl hl.1 (Nat.le_of_ble_eq_true rfl) rfl dX0_rest_7 ⟨Nat.zero_le _, Nat.zero_le _⟩ ?_
  exact W.iret (v := sa_left σ o) hx hb hr (fun t9 ht _ => ⟨_, rfl, rfl, ht⟩) (fun _ h => nomatch h) dX0_rest_10

set_option maxHeartbeats 4000000 in
set_option maxRecDepth 100000 in
theorem c_X0_rest_ex (l : Launch) (lo : Nat) (hst : l.stackTraces = false) (G : va_G) (cI cZ cL : ClassId) (a : Nat → Nat) (σ : sa_St) (hI : sa_I σ) (o : Int32) (hne : ¬ (sp_rest σ o).1 = 0) : sa_Ex l yX0_rest wsX0_rest ({ frames := 8, cells := 1, slots := 6, locals := 132 }) (sa_Px lo G cI cZ cL (sa_W0 cI cZ a σ)) [.ref (a 0), .int (o)] (fun E => ((sp_rest σ o).1, E) ∈ [((1 : Nat), sa_E1)]) := by
  obtain ⟨hnb, hno, hns, hgr, hor, hbr, hai⟩ := id hI
  refine vx_ofW (cc := cX0_rest) (maxL := 2) (ret := (some .int)) (by decide) rfl ?_
  intro p e s m args below meth c s₁ B9 hml htab hv
  obtain ⟨rfl, ⟨hP, hK⟩, hT⟩ := hv
  have hx := B9.exec
  have hb := B9.bytes
  have hr := B9.returns
  have hlk := B9.notSynchronized
  have hts := atoms_spec (ws := wsX0_rest) B9.pre
  have hown : s.vm.findClass RX0 = some m.cls := findClass_of_methodNamed B9.named
  have S : CallFix p m c cX0_rest 2 s _ wsX0_rest RX0 := ⟨hx, hb, hml, hown, hts⟩
  have hl := lv_entry ([.ref (a 0), .int (o)]) (n := 2) (Nat.le_of_ble_eq_true rfl)
  rw [lg_entry_eq]
  generalize (lg_sl ([.ref (a 0), .int (o)]) ++ List.replicate (2 - (lg_sl ([.ref (a 0), .int (o)])).length) Slot.unset).toArray = ls at hl ⊢
  have hl : lv_has ls 2 [(0, .ref (a 0)), (1, .int (o))] := hl
  refine lv_aload_n hx hb dX0_rest_0 rfl (lv_at hl 0 rfl) ?_
  refine lv_iload_n hx hb dX0_rest_1 rfl (lv_at hl 1 rfl) ?_
  by_cases k_2 : sa_in o (σ.1 1)
  · skip
    have ho : vp_in o (σ.1 1) := sa_inv (by omega) k_2
    exact (hne (congrArg Prod.fst (show sp_rest σ o = (0, _) from sa_go0 k_2 trivial trivial))).elim
  · exact sa_kExV (As := [.int (o)]) (rest := []) S (c_X0_checkOrder_ex l lo hst G cI cZ cL a σ hI o k_2) (cwV 1 hts gX0_rest_X0_checkOrder rfl rfl rfl (by decide +kernel) ⟨Nat.le_of_ble_eq_true rfl, Nat.le_of_ble_eq_true rfl⟩) hP hK hT (ci := 0) rfl rfl htab hlk (fun E hE => by subst hE; rw [show sp_rest σ o = (1, 0, σ) from sa_go1 (fun z9 => k_2 z9)]; show ((1 : Nat), sa_E1) ∈ _; decide) rfl hl.1 (Nat.le_of_ble_eq_true rfl) rfl dX0_rest_2 ⟨Nat.le_refl _, Nat.le_refl _⟩

set_option maxHeartbeats 4000000 in
set_option maxRecDepth 100000 in
theorem c_X0_bill_ok (l : Launch) (G : va_G) (cI cZ cL : ClassId) (a : Nat → Nat) (σ : sa_St) (hI : sa_I σ) (o : Int32) (h1 : sa_iO σ o) : sa_Rd l yX0_bill wsX0_bill ({ frames := 8, cells := 0, slots := 0, locals := 132 }) G cI cZ cL (sa_W0 cI cZ a σ) [.ref (a 0), .int (o)] (sa_bil σ o (σ.1 2)) := by
  obtain ⟨hnb, hno, hns, hgr, hor, hbr, hai⟩ := id hI
  refine Met.ofW (cc := cX0_bill) (maxL := 2) (ret := (some .int)) (by decide) rfl ?_
  intro p e s m args below meth c s₁ B9 hml hv
  obtain ⟨rfl, hP, hK⟩ := hv
  have ho : vp_in o (σ.1 1) := sa_inv (by omega) h1
  have hx := B9.exec
  have hb := B9.bytes
  have hr := B9.returns
  have hlk := B9.notSynchronized
  have hts := atoms_spec (ws := wsX0_bill) B9.pre
  have hown : s.vm.findClass RX0 = some m.cls := findClass_of_methodNamed B9.named
  have S : CallFix p m c cX0_bill 2 s _ wsX0_bill RX0 := ⟨hx, hb, hml, hown, hts⟩
  have hl := lv_entry ([.ref (a 0), .int (o)]) (n := 2) (Nat.le_of_ble_eq_true rfl)
  rw [lg_entry_eq]
  generalize (lg_sl ([.ref (a 0), .int (o)]) ++ List.replicate (2 - (lg_sl ([.ref (a 0), .int (o)])).length) Slot.unset).toArray = ls at hl ⊢
  have hl : lv_has ls 2 [(0, .ref (a 0)), (1, .int (o))] := hl
  refine lv_aload_n hx hb dX0_bill_0 rfl (lv_at hl 0 rfl) ?_
  refine lv_iload_n hx hb dX0_bill_1 rfl (lv_at hl 1 rfl) ?_
  refine sa_kOkV (As := [.int (o)]) (rest := []) S (c_X0_checkOrder_ok l G cI cZ cL a σ hI o h1) (cwV 1 hts gX0_bill_X0_checkOrder rfl rfl rfl (by decide +kernel) ⟨Nat.le_of_ble_eq_true rfl, Nat.le_of_ble_eq_true rfl⟩) hP hK (ci := 0) rfl rfl rfl hl.1 (Nat.le_of_ble_eq_true rfl) rfl dX0_bill_2 ⟨Nat.zero_le _, Nat.zero_le _⟩ ?_
  refine lv_aload_n hx hb dX0_bill_5 rfl (lv_at hl 0 rfl) ?_
  refine lv_iload_n hx hb dX0_bill_6 rfl (lv_at hl 1 rfl) ?_
  refine sa_kRd (As := [.int (o)]) (rest := []) S (c_X0_billOf l G cI cZ cL a σ hI o ho) (cwV 1 hts gX0_bill_X0_billOf rfl rfl rfl (by decide +kernel) ⟨Nat.le_of_ble_eq_true rfl, Nat.le_of_ble_eq_true rfl⟩) hP hK (ci := 0) rfl rfl rfl hl.1 (Nat.le_of_ble_eq_true rfl) rfl dX0_bill_7 ⟨Nat.zero_le _, Nat.zero_le _⟩ ?_
  exact W.iret (v := sa_bil σ o (σ.1 2)) hx hb hr (fun t9 ht _ => ⟨_, rfl, rfl, ht⟩) (fun _ h => nomatch h) dX0_bill_10

set_option maxHeartbeats 4000000 in
set_option maxRecDepth 100000 in
theorem c_X0_bill_ex (l : Launch) (lo : Nat) (hst : l.stackTraces = false) (G : va_G) (cI cZ cL : ClassId) (a : Nat → Nat) (σ : sa_St) (hI : sa_I σ) (o : Int32) (hne : ¬ (sp_bill σ o).1 = 0) : sa_Ex l yX0_bill wsX0_bill ({ frames := 8, cells := 1, slots := 6, locals := 132 }) (sa_Px lo G cI cZ cL (sa_W0 cI cZ a σ)) [.ref (a 0), .int (o)] (fun E => ((sp_bill σ o).1, E) ∈ [((1 : Nat), sa_E1)]) := by
  obtain ⟨hnb, hno, hns, hgr, hor, hbr, hai⟩ := id hI
  refine vx_ofW (cc := cX0_bill) (maxL := 2) (ret := (some .int)) (by decide) rfl ?_
  intro p e s m args below meth c s₁ B9 hml htab hv
  obtain ⟨rfl, ⟨hP, hK⟩, hT⟩ := hv
  have hx := B9.exec
  have hb := B9.bytes
  have hr := B9.returns
  have hlk := B9.notSynchronized
  have hts := atoms_spec (ws := wsX0_bill) B9.pre
  have hown : s.vm.findClass RX0 = some m.cls := findClass_of_methodNamed B9.named
  have S : CallFix p m c cX0_bill 2 s _ wsX0_bill RX0 := ⟨hx, hb, hml, hown, hts⟩
  have hl := lv_entry ([.ref (a 0), .int (o)]) (n := 2) (Nat.le_of_ble_eq_true rfl)
  rw [lg_entry_eq]
  generalize (lg_sl ([.ref (a 0), .int (o)]) ++ List.replicate (2 - (lg_sl ([.ref (a 0), .int (o)])).length) Slot.unset).toArray = ls at hl ⊢
  have hl : lv_has ls 2 [(0, .ref (a 0)), (1, .int (o))] := hl
  refine lv_aload_n hx hb dX0_bill_0 rfl (lv_at hl 0 rfl) ?_
  refine lv_iload_n hx hb dX0_bill_1 rfl (lv_at hl 1 rfl) ?_
  by_cases k_2 : sa_in o (σ.1 1)
  · skip
    have ho : vp_in o (σ.1 1) := sa_inv (by omega) k_2
    exact (hne (congrArg Prod.fst (show sp_bill σ o = (0, _) from sa_go0 k_2 trivial trivial))).elim
  · exact sa_kExV (As := [.int (o)]) (rest := []) S (c_X0_checkOrder_ex l lo hst G cI cZ cL a σ hI o k_2) (cwV 1 hts gX0_bill_X0_checkOrder rfl rfl rfl (by decide +kernel) ⟨Nat.le_of_ble_eq_true rfl, Nat.le_of_ble_eq_true rfl⟩) hP hK hT (ci := 0) rfl rfl htab hlk (fun E hE => by subst hE; rw [show sp_bill σ o = (1, 0, σ) from sa_go1 (fun z9 => k_2 z9)]; show ((1 : Nat), sa_E1) ∈ _; decide) rfl hl.1 (Nat.le_of_ble_eq_true rfl) rfl dX0_bill_2 ⟨Nat.le_refl _, Nat.le_refl _⟩

set_option maxHeartbeats 4000000 in
set_option maxRecDepth 100000 in
theorem c_X0_billTo_ok (l : Launch) (G : va_G) (cI cZ cL : ClassId) (a : Nat → Nat) (σ : sa_St) (hI : sa_I σ) (x : Int32) (h1 : sa_w x 0 9) : sa_Rd l yX0_billTo wsX0_billTo ({ frames := 7, cells := 0, slots := 0, locals := 110 }) G cI cZ cL (sa_W0 cI cZ a σ) [.ref (a 0), .int (x)] (sa_bito σ x (σ.1 1)) := by
  obtain ⟨hnb, hno, hns, hgr, hor, hbr, hai⟩ := id hI
  refine Met.ofW (cc := cX0_billTo) (maxL := 4) (ret := (some .int)) (by decide) rfl ?_
  intro p e s m args below meth c s₁ B9 hml hv
  obtain ⟨rfl, hP, hK⟩ := hv
  have hx := B9.exec
  have hb := B9.bytes
  have hr := B9.returns
  have hlk := B9.notSynchronized
  have hts := atoms_spec (ws := wsX0_billTo) B9.pre
  have hown : s.vm.findClass RX0 = some m.cls := findClass_of_methodNamed B9.named
  have S : CallFix p m c cX0_billTo 4 s _ wsX0_billTo RX0 := ⟨hx, hb, hml, hown, hts⟩
  have hin : ∀ w ∈ wsX00, w ∈ wsX0_billTo := by decide +kernel
  have hl := lv_entry ([.ref (a 0), .int (x)]) (n := 4) (Nat.le_of_ble_eq_true rfl)
  rw [lg_entry_eq]
  generalize (lg_sl ([.ref (a 0), .int (x)]) ++ List.replicate (4 - (lg_sl ([.ref (a 0), .int (x)])).length) Slot.unset).toArray = ls at hl ⊢
  have hl : lv_has ls 4 [(0, .ref (a 0)), (1, .int (x))] := hl
  refine lv_iload_n hx hb dX0_billTo_0 rfl (lv_at hl 1 rfl) ?_
  refine sa_kRs (As := [.int (x)]) (rest := []) S (c_X0_isAdvertiser l x) (va_cwS 1 hts gX0_billTo_X0_isAdvertiser rfl rfl rfl (by decide +kernel) ⟨Nat.le_of_ble_eq_true rfl, Nat.le_of_ble_eq_true rfl⟩) rfl hl.1 (Nat.le_of_ble_eq_true rfl) rfl dX0_billTo_1 ⟨Nat.zero_le _, Nat.zero_le _⟩ ?_
  refine sa_kOkS (As := [.int (sa_b (sa_w x 0 9))]) (rest := []) S (c_X0_checkArgument_ok l (sa_b (sa_w x 0 9)) (by rw [sa_bt (h1)]; decide)) (va_cwS 1 hts gX0_billTo_X0_checkArgument rfl rfl rfl (by decide +kernel) ⟨Nat.le_of_ble_eq_true rfl, Nat.le_of_ble_eq_true rfl⟩) rfl hl.1 (Nat.le_of_ble_eq_true rfl) rfl dX0_billTo_4 ⟨Nat.zero_le _, Nat.zero_le _⟩ ?_
  refine lv_iconst (v := 0) hx hb dX0_billTo_7 (by decide) ?_
  refine lv_istore_n (lv' := [(2, .int (0)), (0, .ref (a 0)), (1, .int (x))]) hx hb dX0_billTo_8 rfl hl (by decide) rfl (fun ls hl => ?_)
  refine lv_iconst (v := 0) hx hb dX0_billTo_9 (by decide) ?_
  refine lv_istore_n (lv' := [(3, .int (0)), (2, .int (0)), (0, .ref (a 0)), (1, .int (x))]) hx hb dX0_billTo_10 rfl hl (by decide) rfl (fun ls hl => ?_)
  have loop : ∀ (n k : Nat), k + n = σ.1 1 → ∀ (x1 : Int32), x1 = sa_bito σ x k →   ∀ ls : Array Slot, lv_has ls 4 [(3, .int (nI k)), (2, .int (x1)), (0, .ref (a 0)), (1, .int (x))] → W p l e (headSpec wsX0_billTo ({ frames := 7, cells := 0, slots := 0, locals := 110 })).room s m ([Value.ref (a 0), Value.int (x)] : List Value).toArray below meth c s.heap [] 0 0 (MQ below (vp_Si (fun z => z = sa_bito σ x (σ.1 1))) ([Value.ref (a 0), Value.int (x)] : List Value).toArray s 0 0 (fun _ => False)) (F0 m 11 ls []) := by
    intro n
    induction n with
    | zero =>
      intro k hk x1 hx1  ls hl
      have hk2 : k = σ.1 1 := by omega
      subst hk2
      refine lv_iload_n hx hb dX0_billTo_11 rfl (lv_at hl 0 rfl) ?_
      refine lv_aload_n hx hb dX0_billTo_12 rfl (lv_at hl 2 rfl) ?_
      refine sa_g0_orderCount S hin hK hP (by decide +kernel) dX0_billTo_13 ?_
      refine lv_icmp_ge (tgt := 43) hx hb dX0_billTo_16 (by decide) (fun _ => ?_) (fun c9 => absurd (nI_le (Nat.le_refl _) (by omega)) c9)
      refine lv_iload_n hx hb dX0_billTo_43 rfl (lv_at hl 1 rfl) ?_
      exact W.iret (v := x1) hx hb hr (fun t9 ht _ => ⟨_, rfl, hx1, ht⟩) (fun _ h => nomatch h) dX0_billTo_44
    | succ n ih =>
      intro k hk x1 hx1  ls hl
      have hkn : k < σ.1 1 := by omega
      refine lv_iload_n hx hb dX0_billTo_11 rfl (lv_at hl 0 rfl) ?_
      refine lv_aload_n hx hb dX0_billTo_12 rfl (lv_at hl 2 rfl) ?_
      refine sa_g0_orderCount S hin hK hP (by decide +kernel) dX0_billTo_13 ?_
      refine lv_icmp_ge (tgt := 43) hx hb dX0_billTo_16 (by decide) (fun c9 => absurd c9 (nI_ge (by omega) (by omega))) (fun _ => ?_)
      refine lv_aload_n hx hb dX0_billTo_19 rfl (lv_at hl 2 rfl) ?_
      refine sa_g0_orderAdvertiser S hin hK hP (by decide +kernel) dX0_billTo_20 ?_
      refine lv_iload_n hx hb dX0_billTo_23 rfl (lv_at hl 0 rfl) ?_
      refine sa_ldk 4 S hK hP rfl (by omega) (by decide) dX0_billTo_24 ?_
      refine lv_iload_n hx hb dX0_billTo_25 rfl (lv_at hl 3 rfl) ?_
      refine lv_icmp_ne (tgt := 37) hx hb dX0_billTo_26 (by decide) (fun c_26 => ?_) (fun c_26 => ?_)
      · skip
        refine lv_iinc (v := nI (k + 1)) (lv' := [(3, .int (nI (k + 1))), (2, .int (x1)), (0, .ref (a 0)), (1, .int (x))]) hx hb dX0_billTo_37 hl (k := 0) rfl (nI_1 k) (by decide) rfl (fun ls hl => ?_)
        refine lv_goto (tgt := 11) hx hb dX0_billTo_40 (by decide) ?_
        exact ih (k + 1) (by omega) x1 (by simp [sa_bito, hx1, c_26])  ls (lv_sub hl [0, 1, 2, 3] rfl)
      · skip
        refine lv_iload_n hx hb dX0_billTo_29 rfl (lv_at hl 1 rfl) ?_
        refine lv_aload_n hx hb dX0_billTo_30 rfl (lv_at hl 2 rfl) ?_
        refine lv_iload_n hx hb dX0_billTo_31 rfl (lv_at hl 0 rfl) ?_
        refine sa_kRd (As := [.int (nI k)]) (rest := [.int (x1)]) S (c_X0_billOf l G cI cZ cL a σ hI (nI k) (vp_in_nI (by omega) (by omega))) (cwV 1 hts gX0_billTo_X0_billOf rfl rfl rfl (by decide +kernel) ⟨Nat.le_of_ble_eq_true rfl, Nat.le_of_ble_eq_true rfl⟩) hP hK (ci := 0) rfl rfl rfl hl.1 (Nat.le_of_ble_eq_true rfl) rfl dX0_billTo_32 ⟨Nat.zero_le _, Nat.zero_le _⟩ ?_
        refine lv_iadd hx hb dX0_billTo_35 ?_
        refine lv_istore_n (lv' := [(2, .int (x1 + (sa_bil σ (nI k) (σ.1 2)))), (3, .int (nI k)), (0, .ref (a 0)), (1, .int (x))]) hx hb dX0_billTo_36 rfl hl (by decide) rfl (fun ls hl => ?_)
        refine lv_iinc (v := nI (k + 1)) (lv' := [(3, .int (nI (k + 1))), (2, .int (x1 + (sa_bil σ (nI k) (σ.1 2)))), (0, .ref (a 0)), (1, .int (x))]) hx hb dX0_billTo_37 hl (k := 1) rfl (nI_1 k) (by decide) rfl (fun ls hl => ?_)
        refine lv_goto (tgt := 11) hx hb dX0_billTo_40 (by decide) ?_
        exact ih (k + 1) (by omega) (x1 + (sa_bil σ (nI k) (σ.1 2))) (by simp [sa_bito, hx1, c_26])  ls (lv_sub hl [0, 1, 2, 3] rfl)
  exact loop (σ.1 1) 0 (Nat.zero_add _) 0 rfl  ls (lv_sub hl [0, 1, 2, 3] rfl)

set_option maxHeartbeats 4000000 in
set_option maxRecDepth 100000 in
theorem c_X0_billTo_ex (l : Launch) (lo : Nat) (hst : l.stackTraces = false) (G : va_G) (cI cZ cL : ClassId) (a : Nat → Nat) (σ : sa_St) (hI : sa_I σ) (x : Int32) (hne : ¬ (sp_billTo σ x).1 = 0) : sa_Ex l yX0_billTo wsX0_billTo ({ frames := 7, cells := 1, slots := 6, locals := 110 }) (sa_Px lo G cI cZ cL (sa_W0 cI cZ a σ)) [.ref (a 0), .int (x)] (fun E => ((sp_billTo σ x).1, E) ∈ [((1 : Nat), sa_E2)]) := by
  obtain ⟨hnb, hno, hns, hgr, hor, hbr, hai⟩ := id hI
  refine vx_ofW (cc := cX0_billTo) (maxL := 4) (ret := (some .int)) (by decide) rfl ?_
  intro p e s m args below meth c s₁ B9 hml htab hv
  obtain ⟨rfl, ⟨hP, hK⟩, hT⟩ := hv
  have hx := B9.exec
  have hb := B9.bytes
  have hr := B9.returns
  have hlk := B9.notSynchronized
  have hts := atoms_spec (ws := wsX0_billTo) B9.pre
  have hown : s.vm.findClass RX0 = some m.cls := findClass_of_methodNamed B9.named
  have S : CallFix p m c cX0_billTo 4 s _ wsX0_billTo RX0 := ⟨hx, hb, hml, hown, hts⟩
  have hl := lv_entry ([.ref (a 0), .int (x)]) (n := 4) (Nat.le_of_ble_eq_true rfl)
  rw [lg_entry_eq]
  generalize (lg_sl ([.ref (a 0), .int (x)]) ++ List.replicate (4 - (lg_sl ([.ref (a 0), .int (x)])).length) Slot.unset).toArray = ls at hl ⊢
  have hl : lv_has ls 4 [(0, .ref (a 0)), (1, .int (x))] := hl
  refine lv_iload_n hx hb dX0_billTo_0 rfl (lv_at hl 1 rfl) ?_
  refine sa_kRs (As := [.int (x)]) (rest := []) S (c_X0_isAdvertiser l x) (va_cwS 1 hts gX0_billTo_X0_isAdvertiser rfl rfl rfl (by decide +kernel) ⟨Nat.le_of_ble_eq_true rfl, Nat.le_of_ble_eq_true rfl⟩) rfl hl.1 (Nat.le_of_ble_eq_true rfl) rfl dX0_billTo_1 ⟨Nat.zero_le _, Nat.zero_le _⟩ ?_
  by_cases k_4 : sa_w x 0 9
  · skip
    exact (hne (congrArg Prod.fst (show sp_billTo σ x = (0, _) from sa_go0 k_4 trivial trivial))).elim
  · skip
    exact sa_kExS (As := [.int (sa_b (sa_w x 0 9))]) (rest := []) S (c_X0_checkArgument_ex l lo hst (sa_b (sa_w x 0 9)) (sa_bf k_4)) (va_cwS 1 hts gX0_billTo_X0_checkArgument rfl rfl rfl (by decide +kernel) ⟨Nat.le_of_ble_eq_true rfl, Nat.le_of_ble_eq_true rfl⟩) hT htab hlk (fun E hE => by subst hE; rw [show sp_billTo σ x = (1, 0, σ) from sa_go1 (fun z9 => k_4 z9)]; show ((1 : Nat), sa_E2) ∈ _; decide) rfl hl.1 (Nat.le_of_ble_eq_true rfl) rfl dX0_billTo_4 ⟨Nat.le_refl _, Nat.le_refl _⟩

set_option maxHeartbeats 4000000 in
set_option maxRecDepth 100000 in
theorem c_X0_mostOwed_ok (l : Launch) (G : va_G) (cI cZ cL : ClassId) (a : Nat → Nat) (σ : sa_St) (hI : sa_I σ)  : sa_Rd l yX0_mostOwed wsX0_mostOwed ({ frames := 5, cells := 0, slots := 0, locals := 111 }) G cI cZ cL (sa_W0 cI cZ a σ) [.ref (a 0)] ((sa_mo σ (σ.1 1)).1) := by
  obtain ⟨hnb, hno, hns, hgr, hor, hbr, hai⟩ := id hI
  refine Met.ofW (cc := cX0_mostOwed) (maxL := 5) (ret := (some .int)) (by decide) rfl ?_
  intro p e s m args below meth c s₁ B9 hml hv
  obtain ⟨rfl, hP, hK⟩ := hv
  have hx := B9.exec
  have hb := B9.bytes
  have hr := B9.returns
  have hlk := B9.notSynchronized
  have hts := atoms_spec (ws := wsX0_mostOwed) B9.pre
  have hown : s.vm.findClass RX0 = some m.cls := findClass_of_methodNamed B9.named
  have S : CallFix p m c cX0_mostOwed 5 s _ wsX0_mostOwed RX0 := ⟨hx, hb, hml, hown, hts⟩
  have hin : ∀ w ∈ wsX00, w ∈ wsX0_mostOwed := by decide +kernel
  have hl := lv_entry ([.ref (a 0)]) (n := 5) (Nat.le_of_ble_eq_true rfl)
  rw [lg_entry_eq]
  generalize (lg_sl ([.ref (a 0)]) ++ List.replicate (5 - (lg_sl ([.ref (a 0)])).length) Slot.unset).toArray = ls at hl ⊢
  have hl : lv_has ls 5 [(0, .ref (a 0))] := hl
  refine lv_iconst (v := (-1)) hx hb dX0_mostOwed_0 (by decide) ?_
  refine lv_istore_n (lv' := [(1, .int ((-1))), (0, .ref (a 0))]) hx hb dX0_mostOwed_1 rfl hl (by decide) rfl (fun ls hl => ?_)
  refine lv_iconst (v := 0) hx hb dX0_mostOwed_2 (by decide) ?_
  refine lv_istore_n (lv' := [(2, .int (0)), (1, .int ((-1))), (0, .ref (a 0))]) hx hb dX0_mostOwed_3 rfl hl (by decide) rfl (fun ls hl => ?_)
  refine lv_iconst (v := 0) hx hb dX0_mostOwed_4 (by decide) ?_
  refine lv_istore_n (lv' := [(3, .int (0)), (2, .int (0)), (1, .int ((-1))), (0, .ref (a 0))]) hx hb dX0_mostOwed_5 rfl hl (by decide) rfl (fun ls hl => ?_)
  have loop : ∀ (n k : Nat), k + n = σ.1 1 → ∀ (x2 : Int32), x2 = (sa_mo σ k).1 → ∀ (x3 : Int32), x3 = (sa_mo σ k).2 →   ∀ ls : Array Slot, lv_has ls 5 [(3, .int (nI k)), (2, .int (x3)), (1, .int (x2)), (0, .ref (a 0))] → W p l e (headSpec wsX0_mostOwed ({ frames := 5, cells := 0, slots := 0, locals := 111 })).room s m ([Value.ref (a 0)] : List Value).toArray below meth c s.heap [] 0 0 (MQ below (vp_Si (fun z => z = (sa_mo σ (σ.1 1)).1)) ([Value.ref (a 0)] : List Value).toArray s 0 0 (fun _ => False)) (F0 m 6 ls []) := by
    intro n
    induction n with
    | zero =>
      intro k hk x2 hx2 x3 hx3  ls hl
      have hk2 : k = σ.1 1 := by omega
      subst hk2
      refine lv_iload_n hx hb dX0_mostOwed_6 rfl (lv_at hl 0 rfl) ?_
      refine lv_aload_n hx hb dX0_mostOwed_7 rfl (lv_at hl 3 rfl) ?_
      refine sa_g0_orderCount S hin hK hP (by decide +kernel) dX0_mostOwed_8 ?_
      refine lv_icmp_ge (tgt := 38) hx hb dX0_mostOwed_11 (by decide) (fun _ => ?_) (fun c9 => absurd (nI_le (Nat.le_refl _) (by omega)) c9)
      refine lv_iload_n hx hb dX0_mostOwed_38 rfl (lv_at hl 2 rfl) ?_
      exact W.iret (v := x2) hx hb hr (fun t9 ht _ => ⟨_, rfl, hx2, ht⟩) (fun _ h => nomatch h) dX0_mostOwed_39
    | succ n ih =>
      intro k hk x2 hx2 x3 hx3  ls hl
      have hkn : k < σ.1 1 := by omega
      refine lv_iload_n hx hb dX0_mostOwed_6 rfl (lv_at hl 0 rfl) ?_
      refine lv_aload_n hx hb dX0_mostOwed_7 rfl (lv_at hl 3 rfl) ?_
      refine sa_g0_orderCount S hin hK hP (by decide +kernel) dX0_mostOwed_8 ?_
      refine lv_icmp_ge (tgt := 38) hx hb dX0_mostOwed_11 (by decide) (fun c9 => absurd c9 (nI_ge (by omega) (by omega))) (fun _ => ?_)
      refine lv_aload_n hx hb dX0_mostOwed_14 rfl (lv_at hl 3 rfl) ?_
      refine lv_iload_n hx hb dX0_mostOwed_15 rfl (lv_at hl 0 rfl) ?_
      refine sa_kRd (As := [.int (nI k)]) (rest := []) S (c_X0_restOf l G cI cZ cL a σ hI (nI k) (vp_in_nI (by omega) (by omega))) (cwV 1 hts gX0_mostOwed_X0_restOf rfl rfl rfl (by decide +kernel) ⟨Nat.le_of_ble_eq_true rfl, Nat.le_of_ble_eq_true rfl⟩) hP hK (ci := 0) rfl rfl rfl hl.1 (Nat.le_of_ble_eq_true rfl) rfl dX0_mostOwed_16 ⟨Nat.zero_le _, Nat.zero_le _⟩ ?_
      refine lv_istore (lv' := [(4, .int (sa_left σ (nI k))), (3, .int (nI k)), (2, .int (x3)), (1, .int (x2)), (0, .ref (a 0))]) hx hb dX0_mostOwed_19 hl (by decide) rfl (fun ls hl => ?_)
      refine lv_iload hx hb dX0_mostOwed_21 (lv_at hl 0 rfl) ?_
      refine lv_iload_n hx hb dX0_mostOwed_23 rfl (lv_at hl 2 rfl) ?_
      refine lv_icmp_le (tgt := 32) hx hb dX0_mostOwed_24 (by decide) (fun c_24 => ?_) (fun c_24 => ?_)
      · skip
        have c_24 := Int32.not_lt.mpr c_24
        refine lv_iinc (v := nI (k + 1)) (lv' := [(3, .int (nI (k + 1))), (4, .int (sa_left σ (nI k))), (2, .int (x3)), (1, .int (x2)), (0, .ref (a 0))]) hx hb dX0_mostOwed_32 hl (k := 1) rfl (nI_1 k) (by decide) rfl (fun ls hl => ?_)
        refine lv_goto (tgt := 6) hx hb dX0_mostOwed_35 (by decide) ?_
        exact ih (k + 1) (by omega) x2 (by simp only [hx2, hx3] at *; simp [sa_mo, c_24]) x3 (by simp only [hx2, hx3] at *; simp [sa_mo, c_24])  ls (lv_sub hl [0, 2, 3, 4] rfl)
      · skip
        have c_24 := Int32.not_le.mp c_24
        refine lv_iload hx hb dX0_mostOwed_27 (lv_at hl 0 rfl) ?_
        refine lv_istore_n (lv' := [(2, .int (sa_left σ (nI k))), (4, .int (sa_left σ (nI k))), (3, .int (nI k)), (1, .int (x2)), (0, .ref (a 0))]) hx hb dX0_mostOwed_29 rfl hl (by decide) rfl (fun ls hl => ?_)
        refine lv_iload_n hx hb dX0_mostOwed_30 rfl (lv_at hl 2 rfl) ?_
        refine lv_istore_n (lv' := [(1, .int (nI k)), (2, .int (sa_left σ (nI k))), (4, .int (sa_left σ (nI k))), (3, .int (nI k)), (0, .ref (a 0))]) hx hb dX0_mostOwed_31 rfl hl (by decide) rfl (fun ls hl => ?_)
        refine lv_iinc (v := nI (k + 1)) (lv' := [(3, .int (nI (k + 1))), (1, .int (nI k)), (2, .int (sa_left σ (nI k))), (4, .int (sa_left σ (nI k))), (0, .ref (a 0))]) hx hb dX0_mostOwed_32 hl (k := 3) rfl (nI_1 k) (by decide) rfl (fun ls hl => ?_)
        refine lv_goto (tgt := 6) hx hb dX0_mostOwed_35 (by decide) ?_
        exact ih (k + 1) (by omega) (nI k) (by simp only [hx2, hx3] at *; simp [sa_mo, c_24]) (sa_left σ (nI k)) (by simp only [hx2, hx3] at *; simp [sa_mo, c_24])  ls (lv_sub hl [0, 2, 1, 4] rfl)
  exact loop (σ.1 1) 0 (Nat.zero_add _) ((-1)) rfl 0 rfl  ls (lv_sub hl [0, 1, 2, 3] rfl)
