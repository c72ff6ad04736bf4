set_option maxHeartbeats 4000000 in
set_option maxRecDepth 100000 in
theorem c_X1_addBreak (l : Launch) (G : va_G) (cI cZ cL : ClassId) (a : Nat → Nat) (σ : sa_St) (th : Int32) (hI : sa_I σ) (hJ : sa_J a) (x : Int32) : sa_Wr l yX1_addBreak wsX1_addBreak ({ frames := 1, cells := 0, slots := 0, locals := 23 }) G cI cZ cL (sa_W1 cI cZ a σ th) (sa_W1 cI cZ a (sp_addBreak σ x).2.2 (nI (sp_addBreak σ x).1)) (sa_A a) [.ref (a 0), .int (x)] ((sp_addBreak σ x).2.1) := by
  obtain ⟨hnb, hno, hns, hgr, hor, hbr, hai⟩ := id hI
  refine Met.ofW (cc := cX1_addBreak) (maxL := 2) (ret := (some .int)) (by decide) rfl ?_
  intro p e s m args below meth c s₁ B9 hml hv
  obtain ⟨rfl, hP, hK⟩ := hv
  have hx := B9.exec
  have hb := B9.bytes
  have hr := B9.returns
  have hlk := B9.notSynchronized
  have hts := atoms_spec (ws := wsX1_addBreak) B9.pre
  have hown : s.vm.findClass RX1 = some m.cls := findClass_of_methodNamed B9.named
  have S : CallFix p m c cX1_addBreak 2 s _ wsX1_addBreak RX1 := ⟨hx, hb, hml, hown, hts⟩
  have hin : ∀ w ∈ wsX10, w ∈ wsX1_addBreak := by decide +kernel
  have hS : va_S (sa_A a) s.heap s.heap [] := va_S.rf
  have hl := lv_entry ([.ref (a 0), .int (x)]) (n := 2) (Nat.le_of_ble_eq_true rfl)
  rw [lg_entry_eq]
  generalize (lg_sl ([.ref (a 0), .int (x)]) ++ List.replicate (2 - (lg_sl ([.ref (a 0), .int (x)])).length) Slot.unset).toArray = ls at hl ⊢
  have hl : lv_has ls 2 [(0, .ref (a 0)), (1, .int (x))] := hl
  refine lv_aload_n hx hb dX1_addBreak_0 rfl (lv_at hl 0 rfl) ?_
  refine lv_iload_n hx hb dX1_addBreak_1 rfl (lv_at hl 1 rfl) ?_
  refine lv_bipush (v := 15) hx hb dX1_addBreak_2 (by decide) ?_
  refine lv_sipush (v := 600) hx hb dX1_addBreak_4 (by decide) ?_
  refine sa_kRs (As := [.int (x), .int (15), .int (600)]) (rest := [.ref (a 0)]) S (c_X1_in l x 15 600) (va_cwS 3 hts gX1_addBreak_X1_in rfl rfl rfl (by decide +kernel) ⟨Nat.le_of_ble_eq_true rfl, Nat.le_of_ble_eq_true rfl⟩) rfl hl.1 (Nat.le_of_ble_eq_true rfl) rfl dX1_addBreak_7 ⟨Nat.zero_le _, Nat.zero_le _⟩ ?_
  refine sa_spl (fun b_7 => ?_) (fun b_7 => ?_)
  · skip
    refine lv_aload_n hx hb dX1_addBreak_10 rfl (lv_at hl 0 rfl) ?_
    refine sa_g1_breaks S hin hK hP (by decide +kernel) dX1_addBreak_11 ?_
    refine lv_bipush (v := 24) hx hb dX1_addBreak_14 (by decide) ?_
    refine lv_icmp_ge (tgt := 23) hx hb dX1_addBreak_16 (by decide) (fun c_16 => ?_) (fun c_16 => ?_)
    · skip
      have c_16 := Int32.not_lt.mpr c_16
      refine lv_iconst (v := 0) hx hb dX1_addBreak_23 (by decide) ?_
      refine lv_iconst (v := 1) hx hb dX1_addBreak_24 (by decide) ?_
      refine sa_kWr (wd' := sa_W1 cI cZ a σ 2) (r := 0) (As := [.int (1), .int (0), .int (1)]) (rest := []) S (by have h := c_X1_goes l G cI cZ cL a σ th hJ 1 0 1; rw [show sa_gc 1 0 1 = 2 from by decide, show sa_b ((2 : Int32) = 0) = 0 from by decide] at h; exact h) (cwV 3 hts gX1_addBreak_X1_goes rfl rfl rfl (by decide +kernel) ⟨Nat.le_of_ble_eq_true rfl, Nat.le_of_ble_eq_true rfl⟩) hP hK hS (fun _ h => h) (ci := 1) rfl rfl rfl hl.1 (Nat.le_of_ble_eq_true rfl) rfl dX1_addBreak_25 ⟨Nat.zero_le _, Nat.zero_le _⟩ (fun H locs hP hS _ _ => ?_)
      refine lv_if_ne (tgt := 33) hx hb dX1_addBreak_28 (by decide) (fun c9 => absurd (by decide) c9) (fun _ => ?_)
      refine lv_iconst (v := 0) hx hb dX1_addBreak_31 (by decide) ?_
      exact W.iret (v := 0) hx hb hr (fun t9 ht _ => ⟨⟨_, (), rfl, (Eq.trans (b := ((2, 0, σ) : sa_R).2.1) rfl (congrArg (fun z : sa_R => z.2.1) (show sp_addBreak σ x = _ from sa_go2 b_7 (fun z9 => c_16 z9))).symm), by show va_P G vwCl (sa_W1 cI cZ a (sp_addBreak σ x).2.2 (nI (sp_addBreak σ x).1)) t9.heap; rw [ht]; exact (by rw [(show sp_addBreak σ x = _ from sa_go2 b_7 (fun z9 => c_16 z9))]; exact hP)⟩, hS.F ht⟩) hS.2.2 dX1_addBreak_32
    · skip
      have c_16 := Int32.not_le.mp c_16
      have hn9 : σ.1 0 < 24 := sa_ltN (by omega) (by decide) c_16
      refine lv_iconst (v := 1) hx hb dX1_addBreak_19 (by decide) ?_
      refine lv_goto (tgt := 24) hx hb dX1_addBreak_20 (by decide) ?_
      refine lv_iconst (v := 1) hx hb dX1_addBreak_24 (by decide) ?_
      refine sa_kWr (wd' := sa_W1 cI cZ a σ 0) (r := 1) (As := [.int (1), .int (1), .int (1)]) (rest := []) S (by have h := c_X1_goes l G cI cZ cL a σ th hJ 1 1 1; rw [show sa_gc 1 1 1 = 0 from by decide, show sa_b ((0 : Int32) = 0) = 1 from by decide] at h; exact h) (cwV 3 hts gX1_addBreak_X1_goes rfl rfl rfl (by decide +kernel) ⟨Nat.le_of_ble_eq_true rfl, Nat.le_of_ble_eq_true rfl⟩) hP hK hS (fun _ h => h) (ci := 1) rfl rfl rfl hl.1 (Nat.le_of_ble_eq_true rfl) rfl dX1_addBreak_25 ⟨Nat.zero_le _, Nat.zero_le _⟩ (fun H locs hP hS _ _ => ?_)
      refine lv_if_ne (tgt := 33) hx hb dX1_addBreak_28 (by decide) (fun _ => ?_) (fun c9 => absurd c9 (by decide))
      refine lv_aload_n hx hb dX1_addBreak_33 rfl (lv_at hl 0 rfl) ?_
      refine sa_g1_length S hin hK hP (by decide +kernel) dX1_addBreak_34 ?_
      refine lv_aload_n hx hb dX1_addBreak_37 rfl (lv_at hl 0 rfl) ?_
      refine sa_g1_breaks S hin hK hP (by decide +kernel) dX1_addBreak_38 ?_
      refine lv_iload_n hx hb dX1_addBreak_41 rfl (lv_at hl 1 rfl) ?_
      refine sa_stk (ws' := (sa_W1 cI cZ a (sa_f σ 1 (upd (σ.2 1) (σ.1 0) x)) 0)) 1 S hK hP (sa_D1 hJ) hS rfl (by omega) (by decide) rfl dX1_addBreak_42 (fun H locs hP hS => ?_)
      refine lv_aload_n hx hb dX1_addBreak_43 rfl (lv_at hl 0 rfl) ?_
      refine lv_dup hx hb dX1_addBreak_44 rfl ?_
      refine sa_g1_breaks S hin hK hP (by decide +kernel) dX1_addBreak_45 ?_
      show W p l e _ s m _ below meth c _ _ _ _ _ (F0 m 48 ls [.int (nI (σ.1 0)), .ref (a 0)])
      refine lv_iconst (v := 1) hx hb dX1_addBreak_48 (by decide) ?_
      refine sa_iadd1 hx hb dX1_addBreak_49 ?_
      refine sa_p1_breaks (v := σ.1 0 + 1) rfl S hin hK hP (sa_D1 hJ) hS (by decide +kernel) dX1_addBreak_50 (fun H locs hP hS => ?_)
      refine lv_aload_n hx hb dX1_addBreak_53 rfl (lv_at hl 0 rfl) ?_
      refine sa_g1_breaks S hin hK hP (by decide +kernel) dX1_addBreak_54 ?_
      show W p l e _ s m _ below meth c _ _ _ _ _ (F0 m 57 ls [.int (nI (σ.1 0 + 1))])
      refine lv_iconst (v := 1) hx hb dX1_addBreak_57 (by decide) ?_
      refine sa_isub1 hx hb dX1_addBreak_58 ?_
      exact W.iret (v := nI (σ.1 0)) hx hb hr (fun t9 ht _ => ⟨⟨_, (), rfl, (Eq.trans (b := (0, nI (σ.1 0), sa_n (sa_f σ 1 (upd (σ.2 1) (σ.1 0) x)) 0 (σ.1 0 + 1)).2.1) rfl (congrArg (fun z : sa_R => z.2.1) (show sp_addBreak σ x = _ from sa_go0 b_7 c_16 trivial)).symm), by show va_P G vwCl (sa_W1 cI cZ a (sp_addBreak σ x).2.2 (nI (sp_addBreak σ x).1)) t9.heap; rw [ht]; exact (by rw [(show sp_addBreak σ x = _ from sa_go0 b_7 c_16 trivial)]; exact hP)⟩, hS.F ht⟩) hS.2.2 dX1_addBreak_59
  · skip
    refine lv_aload_n hx hb dX1_addBreak_10 rfl (lv_at hl 0 rfl) ?_
    refine sa_g1_breaks S hin hK hP (by decide +kernel) dX1_addBreak_11 ?_
    refine lv_bipush (v := 24) hx hb dX1_addBreak_14 (by decide) ?_
    refine lv_icmp_ge (tgt := 23) hx hb dX1_addBreak_16 (by decide) (fun c_16 => ?_) (fun c_16 => ?_)
    · skip
      have c_16 := Int32.not_lt.mpr c_16
      refine lv_iconst (v := 0) hx hb dX1_addBreak_23 (by decide) ?_
      refine lv_iconst (v := 1) hx hb dX1_addBreak_24 (by decide) ?_
      refine sa_kWr (wd' := sa_W1 cI cZ a σ 1) (r := 0) (As := [.int (0), .int (0), .int (1)]) (rest := []) S (by have h := c_X1_goes l G cI cZ cL a σ th hJ 0 0 1; rw [show sa_gc 0 0 1 = 1 from by decide, show sa_b ((1 : Int32) = 0) = 0 from by decide] at h; exact h) (cwV 3 hts gX1_addBreak_X1_goes rfl rfl rfl (by decide +kernel) ⟨Nat.le_of_ble_eq_true rfl, Nat.le_of_ble_eq_true rfl⟩) hP hK hS (fun _ h => h) (ci := 1) rfl rfl rfl hl.1 (Nat.le_of_ble_eq_true rfl) rfl dX1_addBreak_25 ⟨Nat.zero_le _, Nat.zero_le _⟩ (fun H locs hP hS _ _ => ?_)
      refine lv_if_ne (tgt := 33) hx hb dX1_addBreak_28 (by decide) (fun c9 => absurd (by decide) c9) (fun _ => ?_)
      refine lv_iconst (v := 0) hx hb dX1_addBreak_31 (by decide) ?_
      exact W.iret (v := 0) hx hb hr (fun t9 ht _ => ⟨⟨_, (), rfl, (Eq.trans (b := ((1, 0, σ) : sa_R).2.1) rfl (congrArg (fun z : sa_R => z.2.1) (show sp_addBreak σ x = _ from sa_go1 (fun z9 => b_7 z9))).symm), by show va_P G vwCl (sa_W1 cI cZ a (sp_addBreak σ x).2.2 (nI (sp_addBreak σ x).1)) t9.heap; rw [ht]; exact (by rw [(show sp_addBreak σ x = _ from sa_go1 (fun z9 => b_7 z9))]; exact hP)⟩, hS.F ht⟩) hS.2.2 dX1_addBreak_32
    · skip
      have c_16 := Int32.not_le.mp c_16
      have hn9 : σ.1 0 < 24 := sa_ltN (by omega) (by decide) c_16
      refine lv_iconst (v := 1) hx hb dX1_addBreak_19 (by decide) ?_
      refine lv_goto (tgt := 24) hx hb dX1_addBreak_20 (by decide) ?_
      refine lv_iconst (v := 1) hx hb dX1_addBreak_24 (by decide) ?_
      refine sa_kWr (wd' := sa_W1 cI cZ a σ 1) (r := 0) (As := [.int (0), .int (1), .int (1)]) (rest := []) S (by have h := c_X1_goes l G cI cZ cL a σ th hJ 0 1 1; rw [show sa_gc 0 1 1 = 1 from by decide, show sa_b ((1 : Int32) = 0) = 0 from by decide] at h; exact h) (cwV 3 hts gX1_addBreak_X1_goes rfl rfl rfl (by decide +kernel) ⟨Nat.le_of_ble_eq_true rfl, Nat.le_of_ble_eq_true rfl⟩) hP hK hS (fun _ h => h) (ci := 1) rfl rfl rfl hl.1 (Nat.le_of_ble_eq_true rfl) rfl dX1_addBreak_25 ⟨Nat.zero_le _, Nat.zero_le _⟩ (fun H locs hP hS _ _ => ?_)
      refine lv_if_ne (tgt := 33) hx hb dX1_addBreak_28 (by decide) (fun c9 => absurd (by decide) c9) (fun _ => ?_)
      refine lv_iconst (v := 0) hx hb dX1_addBreak_31 (by decide) ?_
      exact W.iret (v := 0) hx hb hr (fun t9 ht _ => ⟨⟨_, (), rfl, (Eq.trans (b := ((1, 0, σ) : sa_R).2.1) rfl (congrArg (fun z : sa_R => z.2.1) (show sp_addBreak σ x = _ from sa_go1 (fun z9 => b_7 z9))).symm), by show va_P G vwCl (sa_W1 cI cZ a (sp_addBreak σ x).2.2 (nI (sp_addBreak σ x).1)) t9.heap; rw [ht]; exact (by rw [(show sp_addBreak σ x = _ from sa_go1 (fun z9 => b_7 z9))]; exact hP)⟩, hS.F ht⟩) hS.2.2 dX1_addBreak_32

set_option maxHeartbeats 4000000 in
set_option maxRecDepth 100000 in
theorem c_X1_rate (l : Launch) (G : va_G) (cI cZ cL : ClassId) (a : Nat → Nat) (σ : sa_St) (th : Int32) (hI : sa_I σ) (hJ : sa_J a) (at' g v : Int32) : sa_Wr l yX1_rate wsX1_rate ({ frames := 2, cells := 0, slots := 0, locals := 43 }) G cI cZ cL (sa_W1 cI cZ a σ th) (sa_W1 cI cZ a (sp_rate σ at' g v).2.2 (nI (sp_rate σ at' g v).1)) (sa_A a) [.ref (a 0), .int (at'), .int (g), .int (v)] ((sp_rate σ at' g v).2.1) := by
  obtain ⟨hnb, hno, hns, hgr, hor, hbr, hai⟩ := id hI
  refine Met.ofW (cc := cX1_rate) (maxL := 5) (ret := (some .int)) (by decide) rfl ?_
  intro p e s m args below meth c s₁ B9 hml hv
  obtain ⟨rfl, hP, hK⟩ := hv
  have hx := B9.exec
  have hb := B9.bytes
  have hr := B9.returns
  have hlk := B9.notSynchronized
  have hts := atoms_spec (ws := wsX1_rate) B9.pre
  have hown : s.vm.findClass RX1 = some m.cls := findClass_of_methodNamed B9.named
  have S : CallFix p m c cX1_rate 5 s _ wsX1_rate RX1 := ⟨hx, hb, hml, hown, hts⟩
  have hin : ∀ w ∈ wsX10, w ∈ wsX1_rate := by decide +kernel
  have hS : va_S (sa_A a) s.heap s.heap [] := va_S.rf
  have hl := lv_entry ([.ref (a 0), .int (at'), .int (g), .int (v)]) (n := 5) (Nat.le_of_ble_eq_true rfl)
  rw [lg_entry_eq]
  generalize (lg_sl ([.ref (a 0), .int (at'), .int (g), .int (v)]) ++ List.replicate (5 - (lg_sl ([.ref (a 0), .int (at'), .int (g), .int (v)])).length) Slot.unset).toArray = ls at hl ⊢
  have hl : lv_has ls 5 [(0, .ref (a 0)), (1, .int (at')), (2, .int (g)), (3, .int (v))] := hl
  refine lv_aload_n hx hb dX1_rate_0 rfl (lv_at hl 0 rfl) ?_
  refine lv_aload_n hx hb dX1_rate_1 rfl (lv_at hl 0 rfl) ?_
  refine lv_iload_n hx hb dX1_rate_2 rfl (lv_at hl 1 rfl) ?_
  refine sa_kRd (As := [.int (at')]) (rest := [.ref (a 0)]) S (c_X1_isBreak l G cI cZ cL a σ th hI at') (cwV 1 hts gX1_rate_X1_isBreak rfl rfl rfl (by decide +kernel) ⟨Nat.le_of_ble_eq_true rfl, Nat.le_of_ble_eq_true rfl⟩) hP hK (ci := 1) rfl rfl rfl hl.1 (Nat.le_of_ble_eq_true rfl) rfl dX1_rate_3 ⟨Nat.zero_le _, Nat.zero_le _⟩ ?_
  refine sa_spl (fun b_3 => ?_) (fun b_3 => ?_)
  · skip
    have hat : vp_in at' (σ.1 0) := sa_inv (by omega) b_3
    refine lv_iload_n hx hb dX1_rate_6 rfl (lv_at hl 2 rfl) ?_
    refine lv_iconst (v := 0) hx hb dX1_rate_7 (by decide) ?_
    refine lv_iconst (v := 2) hx hb dX1_rate_8 (by decide) ?_
    refine sa_kRs (As := [.int (g), .int (0), .int (2)]) (rest := [.int (1), .ref (a 0)]) S (c_X1_in l g 0 2) (va_cwS 3 hts gX1_rate_X1_in rfl rfl rfl (by decide +kernel) ⟨Nat.le_of_ble_eq_true rfl, Nat.le_of_ble_eq_true rfl⟩) rfl hl.1 (Nat.le_of_ble_eq_true rfl) rfl dX1_rate_9 ⟨Nat.zero_le _, Nat.zero_le _⟩ ?_
    refine sa_spl (fun b_9 => ?_) (fun b_9 => ?_)
    · skip
      have hg9 : vp_in g 3 := sa_inv (by decide) ⟨Int32.not_lt.mpr b_9.1, Int32.lt_of_le_of_lt b_9.2 (by decide)⟩
      refine lv_if_eq (tgt := 29) hx hb dX1_rate_12 (by decide) (fun c9 => absurd c9 (by decide)) (fun _ => ?_)
      refine lv_iload_n hx hb dX1_rate_15 rfl (lv_at hl 3 rfl) ?_
      refine lv_iconst (v := 0) hx hb dX1_rate_16 (by decide) ?_
      refine lv_ldc (v := 100000) hx hb hown (hts (.constant RX1 81 (100000)) (by decide +kernel)) dX1_rate_17 ?_
      refine sa_kRs (As := [.int (v), .int (0), .int (100000)]) (rest := [.int (1), .ref (a 0)]) S (c_X1_in l v 0 100000) (va_cwS 3 hts gX1_rate_X1_in rfl rfl rfl (by decide +kernel) ⟨Nat.le_of_ble_eq_true rfl, Nat.le_of_ble_eq_true rfl⟩) rfl hl.1 (Nat.le_of_ble_eq_true rfl) rfl dX1_rate_19 ⟨Nat.zero_le _, Nat.zero_le _⟩ ?_
      refine sa_spl (fun b_19 => ?_) (fun b_19 => ?_)
      · skip
        refine lv_if_eq (tgt := 29) hx hb dX1_rate_22 (by decide) (fun c9 => absurd c9 (by decide)) (fun _ => ?_)
        refine lv_iconst (v := 1) hx hb dX1_rate_25 (by decide) ?_
        refine lv_goto (tgt := 30) hx hb dX1_rate_26 (by decide) ?_
        refine lv_iconst (v := 1) hx hb dX1_rate_30 (by decide) ?_
        refine sa_kWr (wd' := sa_W1 cI cZ a σ 0) (r := 1) (As := [.int (1), .int (1), .int (1)]) (rest := []) S (by have h := c_X1_goes l G cI cZ cL a σ th hJ 1 1 1; rw [show sa_gc 1 1 1 = 0 from by decide, show sa_b ((0 : Int32) = 0) = 1 from by decide] at h; exact h) (cwV 3 hts gX1_rate_X1_goes rfl rfl rfl (by decide +kernel) ⟨Nat.le_of_ble_eq_true rfl, Nat.le_of_ble_eq_true rfl⟩) hP hK hS (fun _ h => h) (ci := 1) rfl rfl rfl hl.1 (Nat.le_of_ble_eq_true rfl) rfl dX1_rate_31 ⟨Nat.zero_le _, Nat.zero_le _⟩ (fun H locs hP hS _ _ => ?_)
        refine lv_if_ne (tgt := 39) hx hb dX1_rate_34 (by decide) (fun _ => ?_) (fun c9 => absurd c9 (by decide))
        refine lv_aload_n hx hb dX1_rate_39 rfl (lv_at hl 0 rfl) ?_
        refine sa_g1_rating S hin hK hP (by decide +kernel) dX1_rate_40 ?_
        refine lv_iconst (v := 3) hx hb dX1_rate_43 (by decide) ?_
        refine lv_iload_n hx hb dX1_rate_44 rfl (lv_at hl 1 rfl) ?_
        refine lv_imul hx hb dX1_rate_45 ?_
        refine lv_iload_n hx hb dX1_rate_46 rfl (lv_at hl 2 rfl) ?_
        refine lv_iadd hx hb dX1_rate_47 ?_
        refine sa_ld 3 S hK hP rfl (by rw [Int32.mul_comm]; exact sa_cell (sa_vm hat hnb) hg9) dX1_rate_48 ?_
        refine lv_istore (lv' := [(4, .int (σ.2 3 ((3 * at') + g).toNatClampNeg)), (0, .ref (a 0)), (1, .int (at')), (2, .int (g)), (3, .int (v))]) hx hb dX1_rate_49 hl (by decide) rfl (fun ls hl => ?_)
        refine lv_aload_n hx hb dX1_rate_51 rfl (lv_at hl 1 rfl) ?_
        refine sa_g1_rating S hin hK hP (by decide +kernel) dX1_rate_52 ?_
        refine lv_iconst (v := 3) hx hb dX1_rate_55 (by decide) ?_
        refine lv_iload_n hx hb dX1_rate_56 rfl (lv_at hl 2 rfl) ?_
        refine lv_imul hx hb dX1_rate_57 ?_
        refine lv_iload_n hx hb dX1_rate_58 rfl (lv_at hl 3 rfl) ?_
        refine lv_iadd hx hb dX1_rate_59 ?_
        refine lv_iload_n hx hb dX1_rate_60 rfl (lv_at hl 4 rfl) ?_
        refine sa_st (ws' := (sa_W1 cI cZ a (sa_f σ 3 (upd (σ.2 3) ((3 * at') + g).toNatClampNeg v)) 0)) 3 S hK hP (sa_D1 hJ) hS rfl (by rw [Int32.mul_comm]; exact sa_cell (sa_vm hat hnb) hg9) rfl dX1_rate_61 (fun H locs hP hS => ?_)
        refine lv_iload hx hb dX1_rate_62 (lv_at hl 0 rfl) ?_
        exact W.iret (v := σ.2 3 ((3 * at') + g).toNatClampNeg) hx hb hr (fun t9 ht _ => ⟨⟨_, (), rfl, (Eq.trans (b := (0, σ.2 3 (at' * 3 + g).toNatClampNeg, sa_f σ 3 (upd (σ.2 3) (at' * 3 + g).toNatClampNeg v)).2.1) (by rw [Int32.mul_comm]) (congrArg (fun z : sa_R => z.2.1) (show sp_rate σ at' g v = _ from sa_go0 b_3 ⟨b_9, b_19⟩ trivial)).symm), by show va_P G vwCl (sa_W1 cI cZ a (sp_rate σ at' g v).2.2 (nI (sp_rate σ at' g v).1)) t9.heap; rw [ht]; exact (by rw [(show sp_rate σ at' g v = _ from sa_go0 b_3 ⟨b_9, b_19⟩ trivial)]; rw [Int32.mul_comm 3 at'] at hP; exact hP)⟩, hS.F ht⟩) hS.2.2 dX1_rate_64
      · skip
        refine lv_if_eq (tgt := 29) hx hb dX1_rate_22 (by decide) (fun _ => ?_) (fun c9 => absurd (by decide) c9)
        refine lv_iconst (v := 0) hx hb dX1_rate_29 (by decide) ?_
        refine lv_iconst (v := 1) hx hb dX1_rate_30 (by decide) ?_
        refine sa_kWr (wd' := sa_W1 cI cZ a σ 2) (r := 0) (As := [.int (1), .int (0), .int (1)]) (rest := []) S (by have h := c_X1_goes l G cI cZ cL a σ th hJ 1 0 1; rw [show sa_gc 1 0 1 = 2 from by decide, show sa_b ((2 : Int32) = 0) = 0 from by decide] at h; exact h) (cwV 3 hts gX1_rate_X1_goes rfl rfl rfl (by decide +kernel) ⟨Nat.le_of_ble_eq_true rfl, Nat.le_of_ble_eq_true rfl⟩) hP hK hS (fun _ h => h) (ci := 1) rfl rfl rfl hl.1 (Nat.le_of_ble_eq_true rfl) rfl dX1_rate_31 ⟨Nat.zero_le _, Nat.zero_le _⟩ (fun H locs hP hS _ _ => ?_)
        refine lv_if_ne (tgt := 39) hx hb dX1_rate_34 (by decide) (fun c9 => absurd (by decide) c9) (fun _ => ?_)
        refine lv_iconst (v := 0) hx hb dX1_rate_37 (by decide) ?_
        exact W.iret (v := 0) hx hb hr (fun t9 ht _ => ⟨⟨_, (), rfl, (Eq.trans (b := ((2, 0, σ) : sa_R).2.1) rfl (congrArg (fun z : sa_R => z.2.1) (show sp_rate σ at' g v = _ from sa_go2 b_3 (fun z9 => b_19 z9.2))).symm), by show va_P G vwCl (sa_W1 cI cZ a (sp_rate σ at' g v).2.2 (nI (sp_rate σ at' g v).1)) t9.heap; rw [ht]; exact (by rw [(show sp_rate σ at' g v = _ from sa_go2 b_3 (fun z9 => b_19 z9.2))]; exact hP)⟩, hS.F ht⟩) hS.2.2 dX1_rate_38
    · skip
      refine lv_if_eq (tgt := 29) hx hb dX1_rate_12 (by decide) (fun _ => ?_) (fun c9 => absurd (by decide) c9)
      refine lv_iconst (v := 0) hx hb dX1_rate_29 (by decide) ?_
      refine lv_iconst (v := 1) hx hb dX1_rate_30 (by decide) ?_
      refine sa_kWr (wd' := sa_W1 cI cZ a σ 2) (r := 0) (As := [.int (1), .int (0), .int (1)]) (rest := []) S (by have h := c_X1_goes l G cI cZ cL a σ th hJ 1 0 1; rw [show sa_gc 1 0 1 = 2 from by decide, show sa_b ((2 : Int32) = 0) = 0 from by decide] at h; exact h) (cwV 3 hts gX1_rate_X1_goes rfl rfl rfl (by decide +kernel) ⟨Nat.le_of_ble_eq_true rfl, Nat.le_of_ble_eq_true rfl⟩) hP hK hS (fun _ h => h) (ci := 1) rfl rfl rfl hl.1 (Nat.le_of_ble_eq_true rfl) rfl dX1_rate_31 ⟨Nat.zero_le _, Nat.zero_le _⟩ (fun H locs hP hS _ _ => ?_)
      refine lv_if_ne (tgt := 39) hx hb dX1_rate_34 (by decide) (fun c9 => absurd (by decide) c9) (fun _ => ?_)
      refine lv_iconst (v := 0) hx hb dX1_rate_37 (by decide) ?_
      exact W.iret (v := 0) hx hb hr (fun t9 ht _ => ⟨⟨_, (), rfl, (Eq.trans (b := ((2, 0, σ) : sa_R).2.1) rfl (congrArg (fun z : sa_R => z.2.1) (show sp_rate σ at' g v = _ from sa_go2 b_3 (fun z9 => b_9 z9.1))).symm), by show va_P G vwCl (sa_W1 cI cZ a (sp_rate σ at' g v).2.2 (nI (sp_rate σ at' g v).1)) t9.heap; rw [ht]; exact (by rw [(show sp_rate σ at' g v = _ from sa_go2 b_3 (fun z9 => b_9 z9.1))]; exact hP)⟩, hS.F ht⟩) hS.2.2 dX1_rate_38
  · skip
    refine lv_iload_n hx hb dX1_rate_6 rfl (lv_at hl 2 rfl) ?_
    refine lv_iconst (v := 0) hx hb dX1_rate_7 (by decide) ?_
    refine lv_iconst (v := 2) hx hb dX1_rate_8 (by decide) ?_
    refine sa_kRs (As := [.int (g), .int (0), .int (2)]) (rest := [.int (0), .ref (a 0)]) S (c_X1_in l g 0 2) (va_cwS 3 hts gX1_rate_X1_in rfl rfl rfl (by decide +kernel) ⟨Nat.le_of_ble_eq_true rfl, Nat.le_of_ble_eq_true rfl⟩) rfl hl.1 (Nat.le_of_ble_eq_true rfl) rfl dX1_rate_9 ⟨Nat.zero_le _, Nat.zero_le _⟩ ?_
    refine sa_spl (fun b_9 => ?_) (fun b_9 => ?_)
    · skip
      have hg9 : vp_in g 3 := sa_inv (by decide) ⟨Int32.not_lt.mpr b_9.1, Int32.lt_of_le_of_lt b_9.2 (by decide)⟩
      refine lv_if_eq (tgt := 29) hx hb dX1_rate_12 (by decide) (fun c9 => absurd c9 (by decide)) (fun _ => ?_)
      refine lv_iload_n hx hb dX1_rate_15 rfl (lv_at hl 3 rfl) ?_
      refine lv_iconst (v := 0) hx hb dX1_rate_16 (by decide) ?_
      refine lv_ldc (v := 100000) hx hb hown (hts (.constant RX1 81 (100000)) (by decide +kernel)) dX1_rate_17 ?_
      refine sa_kRs (As := [.int (v), .int (0), .int (100000)]) (rest := [.int (0), .ref (a 0)]) S (c_X1_in l v 0 100000) (va_cwS 3 hts gX1_rate_X1_in rfl rfl rfl (by decide +kernel) ⟨Nat.le_of_ble_eq_true rfl, Nat.le_of_ble_eq_true rfl⟩) rfl hl.1 (Nat.le_of_ble_eq_true rfl) rfl dX1_rate_19 ⟨Nat.zero_le _, Nat.zero_le _⟩ ?_
      refine sa_spl (fun b_19 => ?_) (fun b_19 => ?_)
      · skip
        refine lv_if_eq (tgt := 29) hx hb dX1_rate_22 (by decide) (fun c9 => absurd c9 (by decide)) (fun _ => ?_)
        refine lv_iconst (v := 1) hx hb dX1_rate_25 (by decide) ?_
        refine lv_goto (tgt := 30) hx hb dX1_rate_26 (by decide) ?_
        refine lv_iconst (v := 1) hx hb dX1_rate_30 (by decide) ?_
        refine sa_kWr (wd' := sa_W1 cI cZ a σ 1) (r := 0) (As := [.int (0), .int (1), .int (1)]) (rest := []) S (by have h := c_X1_goes l G cI cZ cL a σ th hJ 0 1 1; rw [show sa_gc 0 1 1 = 1 from by decide, show sa_b ((1 : Int32) = 0) = 0 from by decide] at h; exact h) (cwV 3 hts gX1_rate_X1_goes rfl rfl rfl (by decide +kernel) ⟨Nat.le_of_ble_eq_true rfl, Nat.le_of_ble_eq_true rfl⟩) hP hK hS (fun _ h => h) (ci := 1) rfl rfl rfl hl.1 (Nat.le_of_ble_eq_true rfl) rfl dX1_rate_31 ⟨Nat.zero_le _, Nat.zero_le _⟩ (fun H locs hP hS _ _ => ?_)
        refine lv_if_ne (tgt := 39) hx hb dX1_rate_34 (by decide) (fun c9 => absurd (by decide) c9) (fun _ => ?_)
        refine lv_iconst (v := 0) hx hb dX1_rate_37 (by decide) ?_
        exact W.iret (v := 0) hx hb hr (fun t9 ht _ => ⟨⟨_, (), rfl, (Eq.trans (b := ((1, 0, σ) : sa_R).2.1) rfl (congrArg (fun z : sa_R => z.2.1) (show sp_rate σ at' g v = _ from sa_go1 (fun z9 => b_3 z9))).symm), by show va_P G vwCl (sa_W1 cI cZ a (sp_rate σ at' g v).2.2 (nI (sp_rate σ at' g v).1)) t9.heap; rw [ht]; exact (by rw [(show sp_rate σ at' g v = _ from sa_go1 (fun z9 => b_3 z9))]; exact hP)⟩, hS.F ht⟩) hS.2.2 dX1_rate_38
      · skip
        refine lv_if_eq (tgt := 29) hx hb dX1_rate_22 (by decide) (fun _ => ?_) (fun c9 => absurd (by decide) c9)
        refine lv_iconst (v := 0) hx hb dX1_rate_29 (by decide) ?_
        refine lv_iconst (v := 1) hx hb dX1_rate_30 (by decide) ?_
        refine sa_kWr (wd' := sa_W1 cI cZ a σ 1) (r := 0) (As := [.int (0), .int (0), .int (1)]) (rest := []) S (by have h := c_X1_goes l G cI cZ cL a σ th hJ 0 0 1; rw [show sa_gc 0 0 1 = 1 from by decide, show sa_b ((1 : Int32) = 0) = 0 from by decide] at h; exact h) (cwV 3 hts gX1_rate_X1_goes rfl rfl rfl (by decide +kernel) ⟨Nat.le_of_ble_eq_true rfl, Nat.le_of_ble_eq_true rfl⟩) hP hK hS (fun _ h => h) (ci := 1) rfl rfl rfl hl.1 (Nat.le_of_ble_eq_true rfl) rfl dX1_rate_31 ⟨Nat.zero_le _, Nat.zero_le _⟩ (fun H locs hP hS _ _ => ?_)
        refine lv_if_ne (tgt := 39) hx hb dX1_rate_34 (by decide) (fun c9 => absurd (by decide) c9) (fun _ => ?_)
        refine lv_iconst (v := 0) hx hb dX1_rate_37 (by decide) ?_
        exact W.iret (v := 0) hx hb hr (fun t9 ht _ => ⟨⟨_, (), rfl, (Eq.trans (b := ((1, 0, σ) : sa_R).2.1) rfl (congrArg (fun z : sa_R => z.2.1) (show sp_rate σ at' g v = _ from sa_go1 (fun z9 => b_3 z9))).symm), by show va_P G vwCl (sa_W1 cI cZ a (sp_rate σ at' g v).2.2 (nI (sp_rate σ at' g v).1)) t9.heap; rw [ht]; exact (by rw [(show sp_rate σ at' g v = _ from sa_go1 (fun z9 => b_3 z9))]; exact hP)⟩, hS.F ht⟩) hS.2.2 dX1_rate_38
    · skip
      refine lv_if_eq (tgt := 29) hx hb dX1_rate_12 (by decide) (fun _ => ?_) (fun c9 => absurd (by decide) c9)
      refine lv_iconst (v := 0) hx hb dX1_rate_29 (by decide) ?_
      refine lv_iconst (v := 1) hx hb dX1_rate_30 (by decide) ?_
      refine sa_kWr (wd' := sa_W1 cI cZ a σ 1) (r := 0) (As := [.int (0), .int (0), .int (1)]) (rest := []) S (by have h := c_X1_goes l G cI cZ cL a σ th hJ 0 0 1; rw [show sa_gc 0 0 1 = 1 from by decide, show sa_b ((1 : Int32) = 0) = 0 from by decide] at h; exact h) (cwV 3 hts gX1_rate_X1_goes rfl rfl rfl (by decide +kernel) ⟨Nat.le_of_ble_eq_true rfl, Nat.le_of_ble_eq_true rfl⟩) hP hK hS (fun _ h => h) (ci := 1) rfl rfl rfl hl.1 (Nat.le_of_ble_eq_true rfl) rfl dX1_rate_31 ⟨Nat.zero_le _, Nat.zero_le _⟩ (fun H locs hP hS _ _ => ?_)
      refine lv_if_ne (tgt := 39) hx hb dX1_rate_34 (by decide) (fun c9 => absurd (by decide) c9) (fun _ => ?_)
      refine lv_iconst (v := 0) hx hb dX1_rate_37 (by decide) ?_
      exact W.iret (v := 0) hx hb hr (fun t9 ht _ => ⟨⟨_, (), rfl, (Eq.trans (b := ((1, 0, σ) : sa_R).2.1) rfl (congrArg (fun z : sa_R => z.2.1) (show sp_rate σ at' g v = _ from sa_go1 (fun z9 => b_3 z9))).symm), by show va_P G vwCl (sa_W1 cI cZ a (sp_rate σ at' g v).2.2 (nI (sp_rate σ at' g v).1)) t9.heap; rw [ht]; exact (by rw [(show sp_rate σ at' g v = _ from sa_go1 (fun z9 => b_3 z9))]; exact hP)⟩, hS.F ht⟩) hS.2.2 dX1_rate_38

set_option maxHeartbeats 4000000 in
set_option maxRecDepth 100000 in
theorem c_X1_air (l : Launch) (G : va_G) (cI cZ cL : ClassId) (a : Nat → Nat) (σ : sa_St) (th : Int32) (hI : sa_I σ) (hJ : sa_J a) (at' : Int32) : sa_Wr l yX1_air wsX1_air ({ frames := 2, cells := 0, slots := 0, locals := 43 }) G cI cZ cL (sa_W1 cI cZ a σ th) (sa_W1 cI cZ a (sp_air σ at').2.2 (nI (sp_air σ at').1)) (sa_A a) [.ref (a 0), .int (at')] ((sp_air σ at').2.1) := by
  obtain ⟨hnb, hno, hns, hgr, hor, hbr, hai⟩ := id hI
  refine Met.ofW (cc := cX1_air) (maxL := 5) (ret := (some .int)) (by decide) rfl ?_
  intro p e s m args below meth c s₁ B9 hml hv
  obtain ⟨rfl, hP, hK⟩ := hv
  have hx := B9.exec
  have hb := B9.bytes
  have hr := B9.returns
  have hlk := B9.notSynchronized
  have hts := atoms_spec (ws := wsX1_air) B9.pre
  have hown : s.vm.findClass RX1 = some m.cls := findClass_of_methodNamed B9.named
  have S : CallFix p m c cX1_air 5 s _ wsX1_air RX1 := ⟨hx, hb, hml, hown, hts⟩
  have hin : ∀ w ∈ wsX10, w ∈ wsX1_air := by decide +kernel
  have hS : va_S (sa_A a) s.heap s.heap [] := va_S.rf
  have hl := lv_entry ([.ref (a 0), .int (at')]) (n := 5) (Nat.le_of_ble_eq_true rfl)
  rw [lg_entry_eq]
  generalize (lg_sl ([.ref (a 0), .int (at')]) ++ List.replicate (5 - (lg_sl ([.ref (a 0), .int (at')])).length) Slot.unset).toArray = ls at hl ⊢
  have hl : lv_has ls 5 [(0, .ref (a 0)), (1, .int (at'))] := hl
  refine lv_aload_n hx hb dX1_air_0 rfl (lv_at hl 0 rfl) ?_
  refine lv_iload_n hx hb dX1_air_1 rfl (lv_at hl 1 rfl) ?_
  refine sa_kRd (As := [.int (at')]) (rest := []) S (c_X1_isBreak l G cI cZ cL a σ th hI at') (cwV 1 hts gX1_air_X1_isBreak rfl rfl rfl (by decide +kernel) ⟨Nat.le_of_ble_eq_true rfl, Nat.le_of_ble_eq_true rfl⟩) hP hK (ci := 1) rfl rfl rfl hl.1 (Nat.le_of_ble_eq_true rfl) rfl dX1_air_2 ⟨Nat.zero_le _, Nat.zero_le _⟩ ?_
  refine sa_spl (fun b_2 => ?_) (fun b_2 => ?_)
  · skip
    have hat : vp_in at' (σ.1 0) := sa_inv (by omega) b_2
    refine lv_istore_n (lv' := [(2, .int (1)), (0, .ref (a 0)), (1, .int (at'))]) hx hb dX1_air_5 rfl hl (by decide) rfl (fun ls hl => ?_)
    refine lv_aload_n hx hb dX1_air_6 rfl (lv_at hl 1 rfl) ?_
    refine lv_iload_n hx hb dX1_air_7 rfl (lv_at hl 0 rfl) ?_
    refine lv_iload_n hx hb dX1_air_8 rfl (lv_at hl 0 rfl) ?_
    refine lv_if_eq (tgt := 25) hx hb dX1_air_9 (by decide) (fun c9 => absurd c9 (by decide)) (fun _ => ?_)
    refine lv_aload_n hx hb dX1_air_12 rfl (lv_at hl 1 rfl) ?_
    refine sa_g1_aired S hin hK hP (by decide +kernel) dX1_air_13 ?_
    refine lv_iload_n hx hb dX1_air_16 rfl (lv_at hl 2 rfl) ?_
    refine sa_ldz 2 S hK hP rfl (sa_vm hat (by omega)) dX1_air_17 ?_
    refine lv_if_ne (tgt := 25) hx hb dX1_air_18 (by decide) (fun c_18 => ?_) (fun c_18 => ?_)
    · skip
      refine lv_iconst (v := 0) hx hb dX1_air_25 (by decide) ?_
      refine lv_iconst (v := 1) hx hb dX1_air_26 (by decide) ?_
      refine sa_kWr (wd' := sa_W1 cI cZ a σ 2) (r := 0) (As := [.int (1), .int (0), .int (1)]) (rest := []) S (by have h := c_X1_goes l G cI cZ cL a σ th hJ 1 0 1; rw [show sa_gc 1 0 1 = 2 from by decide, show sa_b ((2 : Int32) = 0) = 0 from by decide] at h; exact h) (cwV 3 hts gX1_air_X1_goes rfl rfl rfl (by decide +kernel) ⟨Nat.le_of_ble_eq_true rfl, Nat.le_of_ble_eq_true rfl⟩) hP hK hS (fun _ h => h) (ci := 1) rfl rfl rfl hl.1 (Nat.le_of_ble_eq_true rfl) rfl dX1_air_27 ⟨Nat.zero_le _, Nat.zero_le _⟩ (fun H locs hP hS _ _ => ?_)
      refine lv_if_ne (tgt := 35) hx hb dX1_air_30 (by decide) (fun c9 => absurd (by decide) c9) (fun _ => ?_)
      refine lv_iconst (v := 0) hx hb dX1_air_33 (by decide) ?_
      exact W.iret (v := 0) hx hb hr (fun t9 ht _ => ⟨⟨_, (), rfl, (Eq.trans (b := ((2, 0, σ) : sa_R).2.1) rfl (congrArg (fun z : sa_R => z.2.1) (show sp_air σ at' = _ from sa_go2 b_2 (fun z9 => c_18 z9))).symm), by show va_P G vwCl (sa_W1 cI cZ a (sp_air σ at').2.2 (nI (sp_air σ at').1)) t9.heap; rw [ht]; exact (by rw [(show sp_air σ at' = _ from sa_go2 b_2 (fun z9 => c_18 z9))]; exact hP)⟩, hS.F ht⟩) hS.2.2 dX1_air_34
    · skip
      refine lv_iconst (v := 1) hx hb dX1_air_21 (by decide) ?_
      refine lv_goto (tgt := 26) hx hb dX1_air_22 (by decide) ?_
      refine lv_iconst (v := 1) hx hb dX1_air_26 (by decide) ?_
      refine sa_kWr (wd' := sa_W1 cI cZ a σ 0) (r := 1) (As := [.int (1), .int (1), .int (1)]) (rest := []) S (by have h := c_X1_goes l G cI cZ cL a σ th hJ 1 1 1; rw [show sa_gc 1 1 1 = 0 from by decide, show sa_b ((0 : Int32) = 0) = 1 from by decide] at h; exact h) (cwV 3 hts gX1_air_X1_goes rfl rfl rfl (by decide +kernel) ⟨Nat.le_of_ble_eq_true rfl, Nat.le_of_ble_eq_true rfl⟩) hP hK hS (fun _ h => h) (ci := 1) rfl rfl rfl hl.1 (Nat.le_of_ble_eq_true rfl) rfl dX1_air_27 ⟨Nat.zero_le _, Nat.zero_le _⟩ (fun H locs hP hS _ _ => ?_)
      refine lv_if_ne (tgt := 35) hx hb dX1_air_30 (by decide) (fun _ => ?_) (fun c9 => absurd c9 (by decide))
      refine lv_iconst (v := 0) hx hb dX1_air_35 (by decide) ?_
      refine lv_istore_n (lv' := [(3, .int (0)), (2, .int (1)), (0, .ref (a 0)), (1, .int (at'))]) hx hb dX1_air_36 rfl hl (by decide) rfl (fun ls hl => ?_)
      refine lv_aload_n hx hb dX1_air_37 rfl (lv_at hl 2 rfl) ?_
      refine sa_g1_aired S hin hK hP (by decide +kernel) dX1_air_38 ?_
      refine lv_iload_n hx hb dX1_air_41 rfl (lv_at hl 3 rfl) ?_
      refine lv_iconst (v := 1) hx hb dX1_air_42 (by decide) ?_
      refine sa_stz (ws' := (sa_W1 cI cZ a (sa_f σ 2 (upd (σ.2 2) at'.toNatClampNeg 1)) 0)) 2 S hK hP (sa_D1 hJ) hS rfl (sa_vm hat (by omega)) (by decide) rfl dX1_air_43 (fun H locs hP hS => ?_)
      refine lv_iconst (v := 0) hx hb dX1_air_44 (by decide) ?_
      refine lv_istore (lv' := [(4, .int (0)), (3, .int (0)), (2, .int (1)), (0, .ref (a 0)), (1, .int (at'))]) hx hb dX1_air_45 hl (by decide) rfl (fun ls hl => ?_)
      have loop : ∀ (n k : Nat), k + n = σ.1 2 → ∀ (x1 : Int32), x1 = (sa_air σ at' k).2 →  ∀ (H : Heap) (locs : List Loc), va_P G vwCl (sa_W1 cI cZ a (sa_f (sa_f σ 2 (upd (σ.2 2) at'.toNatClampNeg 1)) 14 (sa_air σ at' k).1) 0) H → va_S (sa_A a) s.heap H locs → ∀ ls : Array Slot, lv_has ls 5 [(4, .int (nI k)), (3, .int (x1)), (2, .int (1)), (0, .ref (a 0)), (1, .int (at'))] → W p l e (headSpec wsX1_air ({ frames := 2, cells := 0, slots := 0, locals := 43 })).room s m ([Value.ref (a 0), Value.int (at')] : List Value).toArray below meth c H locs 0 0 (MQ below (va_Qi (fun z (_ : Unit) => z = (sp_air σ at').2.1) (fun _ t => va_P G vwCl (sa_W1 cI cZ a (sp_air σ at').2.2 (nI (sp_air σ at').1)) t.heap) (sa_A a)) ([Value.ref (a 0), Value.int (at')] : List Value).toArray s 0 0 (sa_A a)) (F0 m 47 ls []) := by
        intro n
        induction n with
        | zero =>
          intro k hk x1 hx1  H locs hP hS ls hl
          have hk2 : k = σ.1 2 := by omega
          subst hk2
          refine lv_iload hx hb dX1_air_47 (lv_at hl 0 rfl) ?_
          refine lv_aload_n hx hb dX1_air_49 rfl (lv_at hl 3 rfl) ?_
          refine sa_g1_spots S hin hK hP (by decide +kernel) dX1_air_50 ?_
          show W p l e _ s m _ below meth c _ _ _ _ _ (F0 m 53 ls [.int (nI (σ.1 2)), .int (nI (σ.1 2))])
          refine lv_icmp_ge (tgt := 94) hx hb dX1_air_53 (by decide) (fun _ => ?_) (fun c9 => absurd (nI_le (Nat.le_refl _) (by omega)) c9)
          refine lv_iload_n hx hb dX1_air_94 rfl (lv_at hl 1 rfl) ?_
          exact W.iret (v := x1) hx hb hr (fun t9 ht _ => ⟨⟨_, (), rfl, (Eq.trans (b := (0, (sa_air σ at' (σ.1 2)).2, sa_f (sa_f σ 2 (upd (σ.2 2) at'.toNatClampNeg 1)) 14 (sa_air σ at' (σ.1 2)).1).2.1) hx1 (congrArg (fun z : sa_R => z.2.1) (show sp_air σ at' = _ from sa_go0 b_2 c_18 trivial)).symm), by show va_P G vwCl (sa_W1 cI cZ a (sp_air σ at').2.2 (nI (sp_air σ at').1)) t9.heap; rw [ht]; exact (by rw [(show sp_air σ at' = _ from sa_go0 b_2 c_18 trivial)]; exact hP)⟩, hS.F ht⟩) hS.2.2 dX1_air_95
        | succ n ih =>
          intro k hk x1 hx1  H locs hP hS ls hl
          have hkn : k < σ.1 2 := by omega
          refine lv_iload hx hb dX1_air_47 (lv_at hl 0 rfl) ?_
          refine lv_aload_n hx hb dX1_air_49 rfl (lv_at hl 3 rfl) ?_
          refine sa_g1_spots S hin hK hP (by decide +kernel) dX1_air_50 ?_
          show W p l e _ s m _ below meth c _ _ _ _ _ (F0 m 53 ls [.int (nI (σ.1 2)), .int (nI k)])
          refine lv_icmp_ge (tgt := 94) hx hb dX1_air_53 (by decide) (fun c9 => absurd c9 (nI_ge (by omega) (by omega))) (fun _ => ?_)
          refine lv_aload_n hx hb dX1_air_56 rfl (lv_at hl 3 rfl) ?_
          refine sa_g1_where S hin hK hP (by decide +kernel) dX1_air_57 ?_
          refine lv_iload hx hb dX1_air_60 (lv_at hl 0 rfl) ?_
          refine sa_ldk 13 S hK hP rfl (by omega) (by decide) dX1_air_62 ?_
          show W p l e _ s m _ below meth c _ _ _ _ _ (F0 m 63 ls [.int (σ.2 13 k)])
          refine lv_iload_n hx hb dX1_air_63 rfl (lv_at hl 4 rfl) ?_
          refine lv_icmp_ne (tgt := 88) hx hb dX1_air_64 (by decide) (fun c_64 => ?_) (fun c_64 => ?_)
          · skip
            refine lv_iinc (v := nI (k + 1)) (lv' := [(4, .int (nI (k + 1))), (3, .int (x1)), (2, .int (1)), (0, .ref (a 0)), (1, .int (at'))]) hx hb dX1_air_88 hl (k := 0) rfl (nI_1 k) (by decide) rfl (fun ls hl => ?_)
            refine lv_goto (tgt := 47) hx hb dX1_air_91 (by decide) ?_
            exact ih (k + 1) (by omega) x1 (by rw [hx1]; simp [sa_air, c_64]) _ _ (by have e9 : (sa_air σ at' (k + 1)).1 = (sa_air σ at' k).1 := (by simp [sa_air, c_64]); rw [e9]; exact hP) hS ls (lv_sub hl [0, 1, 2, 3, 4] rfl)
          · skip
            refine lv_aload_n hx hb dX1_air_67 rfl (lv_at hl 3 rfl) ?_
            refine sa_g1_state S hin hK hP (by decide +kernel) dX1_air_68 ?_
            refine lv_iload hx hb dX1_air_71 (lv_at hl 0 rfl) ?_
            refine sa_ldk 14 S hK hP rfl (by omega) (by decide) dX1_air_73 ?_
            show W p l e _ s m _ below meth c _ _ _ _ _ (F0 m 74 ls [.int ((sa_air σ at' k).1 k)])
            refine lv_if_ne (tgt := 88) hx hb dX1_air_74 (by decide) (fun c_74 => ?_) (fun c_74 => ?_)
            · skip
              refine lv_iinc (v := nI (k + 1)) (lv' := [(4, .int (nI (k + 1))), (3, .int (x1)), (2, .int (1)), (0, .ref (a 0)), (1, .int (at'))]) hx hb dX1_air_88 hl (k := 0) rfl (nI_1 k) (by decide) rfl (fun ls hl => ?_)
              refine lv_goto (tgt := 47) hx hb dX1_air_91 (by decide) ?_
              exact ih (k + 1) (by omega) x1 (by rw [hx1]; simp [sa_air, c_64, c_74]) _ _ (by have e9 : (sa_air σ at' (k + 1)).1 = (sa_air σ at' k).1 := (by simp [sa_air, c_64, c_74]); rw [e9]; exact hP) hS ls (lv_sub hl [0, 1, 2, 3, 4] rfl)
            · skip
              refine lv_aload_n hx hb dX1_air_77 rfl (lv_at hl 3 rfl) ?_
              refine sa_g1_state S hin hK hP (by decide +kernel) dX1_air_78 ?_
              refine lv_iload hx hb dX1_air_81 (lv_at hl 0 rfl) ?_
              refine lv_iconst (v := 1) hx hb dX1_air_83 (by decide) ?_
              refine sa_stk (ws' := (sa_W1 cI cZ a (sa_f (sa_f (sa_f σ 2 (upd (σ.2 2) at'.toNatClampNeg 1)) 14 (sa_air σ at' k).1) 14 (upd ((sa_air σ at' k).1) k 1)) 0)) 14 S hK hP (sa_D1 hJ) hS rfl (by omega) (by decide) rfl dX1_air_84 (fun H locs hP hS => ?_)
              refine lv_iinc (v := (x1) + 1) (lv' := [(3, .int ((x1) + 1)), (4, .int (nI k)), (2, .int (1)), (0, .ref (a 0)), (1, .int (at'))]) hx hb dX1_air_85 hl (k := 1) rfl rfl (by decide) rfl (fun ls hl => ?_)
              refine lv_iinc (v := nI (k + 1)) (lv' := [(4, .int (nI (k + 1))), (3, .int ((x1) + 1)), (2, .int (1)), (0, .ref (a 0)), (1, .int (at'))]) hx hb dX1_air_88 hl (k := 1) rfl (nI_1 k) (by decide) rfl (fun ls hl => ?_)
              refine lv_goto (tgt := 47) hx hb dX1_air_91 (by decide) ?_
              exact ih (k + 1) (by omega) ((x1) + 1) (by rw [hx1]; simp [sa_air, c_64, c_74]) _ _ (by have e9 : (sa_air σ at' (k + 1)).1 = (upd ((sa_air σ at' k).1) k 1) := (by simp [sa_air, c_64, c_74]); rw [e9]; exact hP) hS ls (lv_sub hl [0, 1, 2, 3, 4] rfl)
      exact loop (σ.1 2) 0 (Nat.zero_add _) 0 rfl _ _ hP hS ls (lv_sub hl [0, 1, 2, 3, 4] rfl)
  · skip
    refine lv_istore_n (lv' := [(2, .int (0)), (0, .ref (a 0)), (1, .int (at'))]) hx hb dX1_air_5 rfl hl (by decide) rfl (fun ls hl => ?_)
    refine lv_aload_n hx hb dX1_air_6 rfl (lv_at hl 1 rfl) ?_
    refine lv_iload_n hx hb dX1_air_7 rfl (lv_at hl 0 rfl) ?_
    refine lv_iload_n hx hb dX1_air_8 rfl (lv_at hl 0 rfl) ?_
    refine lv_if_eq (tgt := 25) hx hb dX1_air_9 (by decide) (fun _ => ?_) (fun c9 => absurd (by decide) c9)
    refine lv_iconst (v := 0) hx hb dX1_air_25 (by decide) ?_
    refine lv_iconst (v := 1) hx hb dX1_air_26 (by decide) ?_
    refine sa_kWr (wd' := sa_W1 cI cZ a σ 1) (r := 0) (As := [.int (0), .int (0), .int (1)]) (rest := []) S (by have h := c_X1_goes l G cI cZ cL a σ th hJ 0 0 1; rw [show sa_gc 0 0 1 = 1 from by decide, show sa_b ((1 : Int32) = 0) = 0 from by decide] at h; exact h) (cwV 3 hts gX1_air_X1_goes rfl rfl rfl (by decide +kernel) ⟨Nat.le_of_ble_eq_true rfl, Nat.le_of_ble_eq_true rfl⟩) hP hK hS (fun _ h => h) (ci := 1) rfl rfl rfl hl.1 (Nat.le_of_ble_eq_true rfl) rfl dX1_air_27 ⟨Nat.zero_le _, Nat.zero_le _⟩ (fun H locs hP hS _ _ => ?_)
    refine lv_if_ne (tgt := 35) hx hb dX1_air_30 (by decide) (fun c9 => absurd (by decide) c9) (fun _ => ?_)
    refine lv_iconst (v := 0) hx hb dX1_air_33 (by decide) ?_
    exact W.iret (v := 0) hx hb hr (fun t9 ht _ => ⟨⟨_, (), rfl, (Eq.trans (b := ((1, 0, σ) : sa_R).2.1) rfl (congrArg (fun z : sa_R => z.2.1) (show sp_air σ at' = _ from sa_go1 (fun z9 => b_2 z9))).symm), by show va_P G vwCl (sa_W1 cI cZ a (sp_air σ at').2.2 (nI (sp_air σ at').1)) t9.heap; rw [ht]; exact (by rw [(show sp_air σ at' = _ from sa_go1 (fun z9 => b_2 z9))]; exact hP)⟩, hS.F ht⟩) hS.2.2 dX1_air_34

set_option maxHeartbeats 4000000 in
set_option maxRecDepth 100000 in
theorem c_X1_breaks (l : Launch) (G : va_G) (cI cZ cL : ClassId) (a : Nat → Nat) (σ : sa_St) (th : Int32) (hI : sa_I σ) (hJ : sa_J a) : sa_Wr l yX1_breaks wsX1_breaks ({ frames := 1, cells := 0, slots := 0, locals := 21 }) G cI cZ cL (sa_W1 cI cZ a σ th) (sa_W1 cI cZ a σ 0) (sa_A a) [.ref (a 0)] (nI (σ.1 0)) := by
  obtain ⟨hnb, hno, hns, hgr, hor, hbr, hai⟩ := id hI
  refine Met.ofW (cc := cX1_breaks) (maxL := 1) (ret := (some .int)) (by decide) rfl ?_
  intro p e s m args below meth c s₁ B9 hml hv
  obtain ⟨rfl, hP, hK⟩ := hv
  have hx := B9.exec
  have hb := B9.bytes
  have hr := B9.returns
  have hlk := B9.notSynchronized
  have hts := atoms_spec (ws := wsX1_breaks) B9.pre
  have hown : s.vm.findClass RX1 = some m.cls := findClass_of_methodNamed B9.named
  have S : CallFix p m c cX1_breaks 1 s _ wsX1_breaks RX1 := ⟨hx, hb, hml, hown, hts⟩
  have hin : ∀ w ∈ wsX10, w ∈ wsX1_breaks := by decide +kernel
  have hS : va_S (sa_A a) s.heap s.heap [] := va_S.rf
  have hl := lv_entry ([.ref (a 0)]) (n := 1) (Nat.le_of_ble_eq_true rfl)
  rw [lg_entry_eq]
  generalize (lg_sl ([.ref (a 0)]) ++ List.replicate (1 - (lg_sl ([.ref (a 0)])).length) Slot.unset).toArray = ls at hl ⊢
  have hl : lv_has ls 1 [(0, .ref (a 0))] := hl
  refine lv_aload_n hx hb dX1_breaks_0 rfl (lv_at hl 0 rfl) ?_
  refine lv_aload_n hx hb dX1_breaks_1 rfl (lv_at hl 0 rfl) ?_
  refine sa_g1_breaks S hin hK hP (by decide +kernel) dX1_breaks_2 ?_
  refine sa_kWr (wd' := sa_W1 cI cZ a σ 0) (As := [.int (nI (σ.1 0))]) (rest := []) S (c_X1_told l G cI cZ cL a σ th hJ (nI (σ.1 0))) (cwV 1 hts gX1_breaks_X1_told rfl rfl rfl (by decide +kernel) ⟨Nat.le_of_ble_eq_true rfl, Nat.le_of_ble_eq_true rfl⟩) hP hK hS (fun _ h => h) (ci := 1) rfl rfl rfl hl.1 (Nat.le_of_ble_eq_true rfl) rfl dX1_breaks_5 ⟨Nat.zero_le _, Nat.zero_le _⟩ (fun H locs hP hS _ _ => ?_)
  exact W.iret (v := nI (σ.1 0)) hx hb hr (fun t9 ht _ => ⟨⟨_, (), rfl, rfl, by show va_P G vwCl (sa_W1 cI cZ a σ 0) t9.heap; rw [ht]; exact hP⟩, hS.F ht⟩) hS.2.2 dX1_breaks_8

set_option maxHeartbeats 4000000 in
set_option maxRecDepth 100000 in
theorem c_X1_isAired (l : Launch) (G : va_G) (cI cZ cL : ClassId) (a : Nat → Nat) (σ : sa_St) (th : Int32) (hI : sa_I σ) (hJ : sa_J a) (at' : Int32) : sa_Wr l yX1_isAired wsX1_isAired ({ frames := 2, cells := 0, slots := 0, locals := 43 }) G cI cZ cL (sa_W1 cI cZ a σ th) (sa_W1 cI cZ a (sp_isAired σ at').2.2 (nI (sp_isAired σ at').1)) (sa_A a) [.ref (a 0), .int (at')] ((sp_isAired σ at').2.1) := by
  obtain ⟨hnb, hno, hns, hgr, hor, hbr, hai⟩ := id hI
  refine Met.ofW (cc := cX1_isAired) (maxL := 2) (ret := (some .boolean)) (by decide) rfl ?_
  intro p e s m args below meth c s₁ B9 hml hv
  obtain ⟨rfl, hP, hK⟩ := hv
  have hx := B9.exec
  have hb := B9.bytes
  have hr := B9.returns
  have hlk := B9.notSynchronized
  have hts := atoms_spec (ws := wsX1_isAired) B9.pre
  have hown : s.vm.findClass RX1 = some m.cls := findClass_of_methodNamed B9.named
  have S : CallFix p m c cX1_isAired 2 s _ wsX1_isAired RX1 := ⟨hx, hb, hml, hown, hts⟩
  have hin : ∀ w ∈ wsX10, w ∈ wsX1_isAired := by decide +kernel
  have hS : va_S (sa_A a) s.heap s.heap [] := va_S.rf
  have hl := lv_entry ([.ref (a 0), .int (at')]) (n := 2) (Nat.le_of_ble_eq_true rfl)
  rw [lg_entry_eq]
  generalize (lg_sl ([.ref (a 0), .int (at')]) ++ List.replicate (2 - (lg_sl ([.ref (a 0), .int (at')])).length) Slot.unset).toArray = ls at hl ⊢
  have hl : lv_has ls 2 [(0, .ref (a 0)), (1, .int (at'))] := hl
  refine lv_aload_n hx hb dX1_isAired_0 rfl (lv_at hl 0 rfl) ?_
  refine lv_aload_n hx hb dX1_isAired_1 rfl (lv_at hl 0 rfl) ?_
  refine lv_iload_n hx hb dX1_isAired_2 rfl (lv_at hl 1 rfl) ?_
  refine sa_kRd (As := [.int (at')]) (rest := [.ref (a 0)]) S (c_X1_isBreak l G cI cZ cL a σ th hI at') (cwV 1 hts gX1_isAired_X1_isBreak rfl rfl rfl (by decide +kernel) ⟨Nat.le_of_ble_eq_true rfl, Nat.le_of_ble_eq_true rfl⟩) hP hK (ci := 1) rfl rfl rfl hl.1 (Nat.le_of_ble_eq_true rfl) rfl dX1_isAired_3 ⟨Nat.zero_le _, Nat.zero_le _⟩ ?_
  refine sa_spl (fun b_3 => ?_) (fun b_3 => ?_)
  · skip
    have hat : vp_in at' (σ.1 0) := sa_inv (by omega) b_3
    refine lv_iconst (v := 1) hx hb dX1_isAired_6 (by decide) ?_
    refine lv_iconst (v := 1) hx hb dX1_isAired_7 (by decide) ?_
    refine sa_kWr (wd' := sa_W1 cI cZ a σ 0) (r := 1) (As := [.int (1), .int (1), .int (1)]) (rest := []) S (by have h := c_X1_goes l G cI cZ cL a σ th hJ 1 1 1; rw [show sa_gc 1 1 1 = 0 from by decide, show sa_b ((0 : Int32) = 0) = 1 from by decide] at h; exact h) (cwV 3 hts gX1_isAired_X1_goes rfl rfl rfl (by decide +kernel) ⟨Nat.le_of_ble_eq_true rfl, Nat.le_of_ble_eq_true rfl⟩) hP hK hS (fun _ h => h) (ci := 1) rfl rfl rfl hl.1 (Nat.le_of_ble_eq_true rfl) rfl dX1_isAired_8 ⟨Nat.zero_le _, Nat.zero_le _⟩ (fun H locs hP hS _ _ => ?_)
    refine lv_if_eq (tgt := 27) hx hb dX1_isAired_11 (by decide) (fun c9 => absurd c9 (by decide)) (fun _ => ?_)
    refine lv_aload_n hx hb dX1_isAired_14 rfl (lv_at hl 0 rfl) ?_
    refine sa_g1_aired S hin hK hP (by decide +kernel) dX1_isAired_15 ?_
    refine lv_iload_n hx hb dX1_isAired_18 rfl (lv_at hl 1 rfl) ?_
    refine sa_ldz 2 S hK hP rfl (sa_vm hat (by omega)) dX1_isAired_19 ?_
    refine lv_if_eq (tgt := 27) hx hb dX1_isAired_20 (by decide) (fun c_20 => ?_) (fun c_20 => ?_)
    · skip
      refine lv_iconst (v := 0) hx hb dX1_isAired_27 (by decide) ?_
      exact W.zret (v := 0) (ty := .boolean) hx hb hr rfl (fun t9 ht _ => ⟨⟨_, (), rfl, (Eq.trans (b := (0, σ.2 2 at'.toNatClampNeg, σ).2.1) (c_20.symm) (congrArg (fun z : sa_R => z.2.1) (show sp_isAired σ at' = _ from sa_go0 b_3 trivial trivial)).symm), by show va_P G vwCl (sa_W1 cI cZ a (sp_isAired σ at').2.2 (nI (sp_isAired σ at').1)) t9.heap; rw [ht]; exact (by rw [(show sp_isAired σ at' = _ from sa_go0 b_3 trivial trivial)]; exact hP)⟩, hS.F ht⟩) hS.2.2 dX1_isAired_28
    · skip
      refine lv_iconst (v := 1) hx hb dX1_isAired_23 (by decide) ?_
      refine lv_goto (tgt := 28) hx hb dX1_isAired_24 (by decide) ?_
      exact W.zret (v := 1) (ty := .boolean) hx hb hr rfl (fun t9 ht _ => ⟨⟨_, (), rfl, (Eq.trans (b := (0, σ.2 2 at'.toNatClampNeg, σ).2.1) (((hai _).resolve_left c_20).symm) (congrArg (fun z : sa_R => z.2.1) (show sp_isAired σ at' = _ from sa_go0 b_3 trivial trivial)).symm), by show va_P G vwCl (sa_W1 cI cZ a (sp_isAired σ at').2.2 (nI (sp_isAired σ at').1)) t9.heap; rw [ht]; exact (by rw [(show sp_isAired σ at' = _ from sa_go0 b_3 trivial trivial)]; exact hP)⟩, hS.F ht⟩) hS.2.2 dX1_isAired_28
  · skip
    refine lv_iconst (v := 1) hx hb dX1_isAired_6 (by decide) ?_
    refine lv_iconst (v := 1) hx hb dX1_isAired_7 (by decide) ?_
    refine sa_kWr (wd' := sa_W1 cI cZ a σ 1) (r := 0) (As := [.int (0), .int (1), .int (1)]) (rest := []) S (by have h := c_X1_goes l G cI cZ cL a σ th hJ 0 1 1; rw [show sa_gc 0 1 1 = 1 from by decide, show sa_b ((1 : Int32) = 0) = 0 from by decide] at h; exact h) (cwV 3 hts gX1_isAired_X1_goes rfl rfl rfl (by decide +kernel) ⟨Nat.le_of_ble_eq_true rfl, Nat.le_of_ble_eq_true rfl⟩) hP hK hS (fun _ h => h) (ci := 1) rfl rfl rfl hl.1 (Nat.le_of_ble_eq_true rfl) rfl dX1_isAired_8 ⟨Nat.zero_le _, Nat.zero_le _⟩ (fun H locs hP hS _ _ => ?_)
    refine lv_if_eq (tgt := 27) hx hb dX1_isAired_11 (by decide) (fun _ => ?_) (fun c9 => absurd (by decide) c9)
    refine lv_iconst (v := 0) hx hb dX1_isAired_27 (by decide) ?_
    exact W.zret (v := 0) (ty := .boolean) hx hb hr rfl (fun t9 ht _ => ⟨⟨_, (), rfl, (Eq.trans (b := ((1, 0, σ) : sa_R).2.1) rfl (congrArg (fun z : sa_R => z.2.1) (show sp_isAired σ at' = _ from sa_go1 (fun z9 => b_3 z9))).symm), by show va_P G vwCl (sa_W1 cI cZ a (sp_isAired σ at').2.2 (nI (sp_isAired σ at').1)) t9.heap; rw [ht]; exact (by rw [(show sp_isAired σ at' = _ from sa_go1 (fun z9 => b_3 z9))]; exact hP)⟩, hS.F ht⟩) hS.2.2 dX1_isAired_28

set_option maxHeartbeats 4000000 in
set_option maxRecDepth 100000 in
theorem c_X1_room (l : Launch) (G : va_G) (cI cZ cL : ClassId) (a : Nat → Nat) (σ : sa_St) (th : Int32) (hI : sa_I σ) (hJ : sa_J a) (at' : Int32) : sa_Wr l yX1_room wsX1_room ({ frames := 2, cells := 0, slots := 0, locals := 46 }) G cI cZ cL (sa_W1 cI cZ a σ th) (sa_W1 cI cZ a (sp_room σ at').2.2 (nI (sp_room σ at').1)) (sa_A a) [.ref (a 0), .int (at')] ((sp_room σ at').2.1) := by
  obtain ⟨hnb, hno, hns, hgr, hor, hbr, hai⟩ := id hI
  refine Met.ofW (cc := cX1_room) (maxL := 2) (ret := (some .int)) (by decide) rfl ?_
  intro p e s m args below meth c s₁ B9 hml hv
  obtain ⟨rfl, hP, hK⟩ := hv
  have hx := B9.exec
  have hb := B9.bytes
  have hr := B9.returns
  have hlk := B9.notSynchronized
  have hts := atoms_spec (ws := wsX1_room) B9.pre
  have hown : s.vm.findClass RX1 = some m.cls := findClass_of_methodNamed B9.named
  have S : CallFix p m c cX1_room 2 s _ wsX1_room RX1 := ⟨hx, hb, hml, hown, hts⟩
  have hS : va_S (sa_A a) s.heap s.heap [] := va_S.rf
  have hl := lv_entry ([.ref (a 0), .int (at')]) (n := 2) (Nat.le_of_ble_eq_true rfl)
  rw [lg_entry_eq]
  generalize (lg_sl ([.ref (a 0), .int (at')]) ++ List.replicate (2 - (lg_sl ([.ref (a 0), .int (at')])).length) Slot.unset).toArray = ls at hl ⊢
  have hl : lv_has ls 2 [(0, .ref (a 0)), (1, .int (at'))] := hl
  refine lv_aload_n hx hb dX1_room_0 rfl (lv_at hl 0 rfl) ?_
  refine lv_aload_n hx hb dX1_room_1 rfl (lv_at hl 0 rfl) ?_
  refine lv_iload_n hx hb dX1_room_2 rfl (lv_at hl 1 rfl) ?_
  refine sa_kRd (As := [.int (at')]) (rest := [.ref (a 0)]) S (c_X1_isBreak l G cI cZ cL a σ th hI at') (cwV 1 hts gX1_room_X1_isBreak rfl rfl rfl (by decide +kernel) ⟨Nat.le_of_ble_eq_true rfl, Nat.le_of_ble_eq_true rfl⟩) hP hK (ci := 1) rfl rfl rfl hl.1 (Nat.le_of_ble_eq_true rfl) rfl dX1_room_3 ⟨Nat.zero_le _, Nat.zero_le _⟩ ?_
  refine sa_spl (fun b_3 => ?_) (fun b_3 => ?_)
  · skip
    have hat : vp_in at' (σ.1 0) := sa_inv (by omega) b_3
    refine lv_iconst (v := 1) hx hb dX1_room_6 (by decide) ?_
    refine lv_iconst (v := 1) hx hb dX1_room_7 (by decide) ?_
    refine sa_kWr (wd' := sa_W1 cI cZ a σ 0) (r := 1) (As := [.int (1), .int (1), .int (1)]) (rest := []) S (by have h := c_X1_goes l G cI cZ cL a σ th hJ 1 1 1; rw [show sa_gc 1 1 1 = 0 from by decide, show sa_b ((0 : Int32) = 0) = 1 from by decide] at h; exact h) (cwV 3 hts gX1_room_X1_goes rfl rfl rfl (by decide +kernel) ⟨Nat.le_of_ble_eq_true rfl, Nat.le_of_ble_eq_true rfl⟩) hP hK hS (fun _ h => h) (ci := 1) rfl rfl rfl hl.1 (Nat.le_of_ble_eq_true rfl) rfl dX1_room_8 ⟨Nat.zero_le _, Nat.zero_le _⟩ (fun H locs hP hS _ _ => ?_)
    refine lv_if_eq (tgt := 23) hx hb dX1_room_11 (by decide) (fun c9 => absurd c9 (by decide)) (fun _ => ?_)
    refine lv_aload_n hx hb dX1_room_14 rfl (lv_at hl 0 rfl) ?_
    refine lv_iload_n hx hb dX1_room_15 rfl (lv_at hl 1 rfl) ?_
    refine lv_iconst (v := (-1)) hx hb dX1_room_16 (by decide) ?_
    refine sa_kRd (As := [.int (at'), .int ((-1))]) (rest := []) S (c_X1_roomWithout l G cI cZ cL a σ 0 hI at' ((-1)) hat) (cwV 2 hts gX1_room_X1_roomWithout rfl rfl rfl (by decide +kernel) ⟨Nat.le_of_ble_eq_true rfl, Nat.le_of_ble_eq_true rfl⟩) hP hK (ci := 1) rfl rfl rfl hl.1 (Nat.le_of_ble_eq_true rfl) rfl dX1_room_17 ⟨Nat.zero_le _, Nat.zero_le _⟩ ?_
    refine lv_goto (tgt := 24) hx hb dX1_room_20 (by decide) ?_
    exact W.iret (v := sa_room σ at' ((-1)) (σ.1 2)) hx hb hr (fun t9 ht _ => ⟨⟨_, (), rfl, (Eq.trans (b := (0, sa_room σ at' (-1) (σ.1 2), σ).2.1) rfl (congrArg (fun z : sa_R => z.2.1) (show sp_room σ at' = _ from sa_go0 b_3 trivial trivial)).symm), by show va_P G vwCl (sa_W1 cI cZ a (sp_room σ at').2.2 (nI (sp_room σ at').1)) t9.heap; rw [ht]; exact (by rw [(show sp_room σ at' = _ from sa_go0 b_3 trivial trivial)]; exact hP)⟩, hS.F ht⟩) hS.2.2 dX1_room_24
  · skip
    refine lv_iconst (v := 1) hx hb dX1_room_6 (by decide) ?_
    refine lv_iconst (v := 1) hx hb dX1_room_7 (by decide) ?_
    refine sa_kWr (wd' := sa_W1 cI cZ a σ 1) (r := 0) (As := [.int (0), .int (1), .int (1)]) (rest := []) S (by have h := c_X1_goes l G cI cZ cL a σ th hJ 0 1 1; rw [show sa_gc 0 1 1 = 1 from by decide, show sa_b ((1 : Int32) = 0) = 0 from by decide] at h; exact h) (cwV 3 hts gX1_room_X1_goes rfl rfl rfl (by decide +kernel) ⟨Nat.le_of_ble_eq_true rfl, Nat.le_of_ble_eq_true rfl⟩) hP hK hS (fun _ h => h) (ci := 1) rfl rfl rfl hl.1 (Nat.le_of_ble_eq_true rfl) rfl dX1_room_8 ⟨Nat.zero_le _, Nat.zero_le _⟩ (fun H locs hP hS _ _ => ?_)
    refine lv_if_eq (tgt := 23) hx hb dX1_room_11 (by decide) (fun _ => ?_) (fun c9 => absurd (by decide) c9)
    refine lv_iconst (v := 0) hx hb dX1_room_23 (by decide) ?_
    exact W.iret (v := 0) hx hb hr (fun t9 ht _ => ⟨⟨_, (), rfl, (Eq.trans (b := ((1, 0, σ) : sa_R).2.1) rfl (congrArg (fun z : sa_R => z.2.1) (show sp_room σ at' = _ from sa_go1 (fun z9 => b_3 z9))).symm), by show va_P G vwCl (sa_W1 cI cZ a (sp_room σ at').2.2 (nI (sp_room σ at').1)) t9.heap; rw [ht]; exact (by rw [(show sp_room σ at' = _ from sa_go1 (fun z9 => b_3 z9))]; exact hP)⟩, hS.F ht⟩) hS.2.2 dX1_room_24

set_option maxHeartbeats 4000000 in
set_option maxRecDepth 100000 in
theorem c_X1_rating (l : Launch) (G : va_G) (cI cZ cL : ClassId) (a : Nat → Nat) (σ : sa_St) (th : Int32) (hI : sa_I σ) (hJ : sa_J a) (at' g : Int32) : sa_Wr l yX1_rating wsX1_rating ({ frames := 2, cells := 0, slots := 0, locals := 43 }) G cI cZ cL (sa_W1 cI cZ a σ th) (sa_W1 cI cZ a (sp_rating σ at' g).2.2 (nI (sp_rating σ at' g).1)) (sa_A a) [.ref (a 0), .int (at'), .int (g)] ((sp_rating σ at' g).2.1) := by
  obtain ⟨hnb, hno, hns, hgr, hor, hbr, hai⟩ := id hI
  refine Met.ofW (cc := cX1_rating) (maxL := 3) (ret := (some .int)) (by decide) rfl ?_
  intro p e s m args below meth c s₁ B9 hml hv
  obtain ⟨rfl, hP, hK⟩ := hv
  have hx := B9.exec
  have hb := B9.bytes
  have hr := B9.returns
  have hlk := B9.notSynchronized
  have hts := atoms_spec (ws := wsX1_rating) B9.pre
  have hown : s.vm.findClass RX1 = some m.cls := findClass_of_methodNamed B9.named
  have S : CallFix p m c cX1_rating 3 s _ wsX1_rating RX1 := ⟨hx, hb, hml, hown, hts⟩
  have hin : ∀ w ∈ wsX10, w ∈ wsX1_rating := by decide +kernel
  have hS : va_S (sa_A a) s.heap s.heap [] := va_S.rf
  have hl := lv_entry ([.ref (a 0), .int (at'), .int (g)]) (n := 3) (Nat.le_of_ble_eq_true rfl)
  rw [lg_entry_eq]
  generalize (lg_sl ([.ref (a 0), .int (at'), .int (g)]) ++ List.replicate (3 - (lg_sl ([.ref (a 0), .int (at'), .int (g)])).length) Slot.unset).toArray = ls at hl ⊢
  have hl : lv_has ls 3 [(0, .ref (a 0)), (1, .int (at')), (2, .int (g))] := hl
  refine lv_aload_n hx hb dX1_rating_0 rfl (lv_at hl 0 rfl) ?_
  refine lv_aload_n hx hb dX1_rating_1 rfl (lv_at hl 0 rfl) ?_
  refine lv_iload_n hx hb dX1_rating_2 rfl (lv_at hl 1 rfl) ?_
  refine sa_kRd (As := [.int (at')]) (rest := [.ref (a 0)]) S (c_X1_isBreak l G cI cZ cL a σ th hI at') (cwV 1 hts gX1_rating_X1_isBreak rfl rfl rfl (by decide +kernel) ⟨Nat.le_of_ble_eq_true rfl, Nat.le_of_ble_eq_true rfl⟩) hP hK (ci := 1) rfl rfl rfl hl.1 (Nat.le_of_ble_eq_true rfl) rfl dX1_rating_3 ⟨Nat.zero_le _, Nat.zero_le _⟩ ?_
  refine sa_spl (fun b_3 => ?_) (fun b_3 => ?_)
  · skip
    have hat : vp_in at' (σ.1 0) := sa_inv (by omega) b_3
    refine lv_iload_n hx hb dX1_rating_6 rfl (lv_at hl 2 rfl) ?_
    refine lv_iconst (v := 0) hx hb dX1_rating_7 (by decide) ?_
    refine lv_iconst (v := 2) hx hb dX1_rating_8 (by decide) ?_
    refine sa_kRs (As := [.int (g), .int (0), .int (2)]) (rest := [.int (1), .ref (a 0)]) S (c_X1_in l g 0 2) (va_cwS 3 hts gX1_rating_X1_in rfl rfl rfl (by decide +kernel) ⟨Nat.le_of_ble_eq_true rfl, Nat.le_of_ble_eq_true rfl⟩) rfl hl.1 (Nat.le_of_ble_eq_true rfl) rfl dX1_rating_9 ⟨Nat.zero_le _, Nat.zero_le _⟩ ?_
    refine sa_spl (fun b_9 => ?_) (fun b_9 => ?_)
    · skip
      have hg9 : vp_in g 3 := sa_inv (by decide) ⟨Int32.not_lt.mpr b_9.1, Int32.lt_of_le_of_lt b_9.2 (by decide)⟩
      refine lv_iconst (v := 1) hx hb dX1_rating_12 (by decide) ?_
      refine sa_kWr (wd' := sa_W1 cI cZ a σ 0) (r := 1) (As := [.int (1), .int (1), .int (1)]) (rest := []) S (by have h := c_X1_goes l G cI cZ cL a σ th hJ 1 1 1; rw [show sa_gc 1 1 1 = 0 from by decide, show sa_b ((0 : Int32) = 0) = 1 from by decide] at h; exact h) (cwV 3 hts gX1_rating_X1_goes rfl rfl rfl (by decide +kernel) ⟨Nat.le_of_ble_eq_true rfl, Nat.le_of_ble_eq_true rfl⟩) hP hK hS (fun _ h => h) (ci := 1) rfl rfl rfl hl.1 (Nat.le_of_ble_eq_true rfl) rfl dX1_rating_13 ⟨Nat.zero_le _, Nat.zero_le _⟩ (fun H locs hP hS _ _ => ?_)
      refine lv_if_eq (tgt := 32) hx hb dX1_rating_16 (by decide) (fun c9 => absurd c9 (by decide)) (fun _ => ?_)
      refine lv_aload_n hx hb dX1_rating_19 rfl (lv_at hl 0 rfl) ?_
      refine sa_g1_rating S hin hK hP (by decide +kernel) dX1_rating_20 ?_
      refine lv_iconst (v := 3) hx hb dX1_rating_23 (by decide) ?_
      refine lv_iload_n hx hb dX1_rating_24 rfl (lv_at hl 1 rfl) ?_
      refine lv_imul hx hb dX1_rating_25 ?_
      refine lv_iload_n hx hb dX1_rating_26 rfl (lv_at hl 2 rfl) ?_
      refine lv_iadd hx hb dX1_rating_27 ?_
      refine sa_ld 3 S hK hP rfl (by rw [Int32.mul_comm]; exact sa_cell (sa_vm hat hnb) hg9) dX1_rating_28 ?_
      refine lv_goto (tgt := 33) hx hb dX1_rating_29 (by decide) ?_
      exact W.iret (v := σ.2 3 ((3 * at') + g).toNatClampNeg) hx hb hr (fun t9 ht _ => ⟨⟨_, (), rfl, (Eq.trans (b := (0, σ.2 3 (at' * 3 + g).toNatClampNeg, σ).2.1) (by rw [Int32.mul_comm]) (congrArg (fun z : sa_R => z.2.1) (show sp_rating σ at' g = _ from sa_go0 b_3 b_9 trivial)).symm), by show va_P G vwCl (sa_W1 cI cZ a (sp_rating σ at' g).2.2 (nI (sp_rating σ at' g).1)) t9.heap; rw [ht]; exact (by rw [(show sp_rating σ at' g = _ from sa_go0 b_3 b_9 trivial)]; exact hP)⟩, hS.F ht⟩) hS.2.2 dX1_rating_33
    · skip
      refine lv_iconst (v := 1) hx hb dX1_rating_12 (by decide) ?_
      refine sa_kWr (wd' := sa_W1 cI cZ a σ 2) (r := 0) (As := [.int (1), .int (0), .int (1)]) (rest := []) S (by have h := c_X1_goes l G cI cZ cL a σ th hJ 1 0 1; rw [show sa_gc 1 0 1 = 2 from by decide, show sa_b ((2 : Int32) = 0) = 0 from by decide] at h; exact h) (cwV 3 hts gX1_rating_X1_goes rfl rfl rfl (by decide +kernel) ⟨Nat.le_of_ble_eq_true rfl, Nat.le_of_ble_eq_true rfl⟩) hP hK hS (fun _ h => h) (ci := 1) rfl rfl rfl hl.1 (Nat.le_of_ble_eq_true rfl) rfl dX1_rating_13 ⟨Nat.zero_le _, Nat.zero_le _⟩ (fun H locs hP hS _ _ => ?_)
      refine lv_if_eq (tgt := 32) hx hb dX1_rating_16 (by decide) (fun _ => ?_) (fun c9 => absurd (by decide) c9)
      refine lv_iconst (v := 0) hx hb dX1_rating_32 (by decide) ?_
      exact W.iret (v := 0) hx hb hr (fun t9 ht _ => ⟨⟨_, (), rfl, (Eq.trans (b := ((2, 0, σ) : sa_R).2.1) rfl (congrArg (fun z : sa_R => z.2.1) (show sp_rating σ at' g = _ from sa_go2 b_3 (fun z9 => b_9 z9))).symm), by show va_P G vwCl (sa_W1 cI cZ a (sp_rating σ at' g).2.2 (nI (sp_rating σ at' g).1)) t9.heap; rw [ht]; exact (by rw [(show sp_rating σ at' g = _ from sa_go2 b_3 (fun z9 => b_9 z9))]; exact hP)⟩, hS.F ht⟩) hS.2.2 dX1_rating_33
  · skip
    refine lv_iload_n hx hb dX1_rating_6 rfl (lv_at hl 2 rfl) ?_
    refine lv_iconst (v := 0) hx hb dX1_rating_7 (by decide) ?_
    refine lv_iconst (v := 2) hx hb dX1_rating_8 (by decide) ?_
    refine sa_kRs (As := [.int (g), .int (0), .int (2)]) (rest := [.int (0), .ref (a 0)]) S (c_X1_in l g 0 2) (va_cwS 3 hts gX1_rating_X1_in rfl rfl rfl (by decide +kernel) ⟨Nat.le_of_ble_eq_true rfl, Nat.le_of_ble_eq_true rfl⟩) rfl hl.1 (Nat.le_of_ble_eq_true rfl) rfl dX1_rating_9 ⟨Nat.zero_le _, Nat.zero_le _⟩ ?_
    refine sa_spl (fun b_9 => ?_) (fun b_9 => ?_)
    · skip
      have hg9 : vp_in g 3 := sa_inv (by decide) ⟨Int32.not_lt.mpr b_9.1, Int32.lt_of_le_of_lt b_9.2 (by decide)⟩
      refine lv_iconst (v := 1) hx hb dX1_rating_12 (by decide) ?_
      refine sa_kWr (wd' := sa_W1 cI cZ a σ 1) (r := 0) (As := [.int (0), .int (1), .int (1)]) (rest := []) S (by have h := c_X1_goes l G cI cZ cL a σ th hJ 0 1 1; rw [show sa_gc 0 1 1 = 1 from by decide, show sa_b ((1 : Int32) = 0) = 0 from by decide] at h; exact h) (cwV 3 hts gX1_rating_X1_goes rfl rfl rfl (by decide +kernel) ⟨Nat.le_of_ble_eq_true rfl, Nat.le_of_ble_eq_true rfl⟩) hP hK hS (fun _ h => h) (ci := 1) rfl rfl rfl hl.1 (Nat.le_of_ble_eq_true rfl) rfl dX1_rating_13 ⟨Nat.zero_le _, Nat.zero_le _⟩ (fun H locs hP hS _ _ => ?_)
      refine lv_if_eq (tgt := 32) hx hb dX1_rating_16 (by decide) (fun _ => ?_) (fun c9 => absurd (by decide) c9)
      refine lv_iconst (v := 0) hx hb dX1_rating_32 (by decide) ?_
      exact W.iret (v := 0) hx hb hr (fun t9 ht _ => ⟨⟨_, (), rfl, (Eq.trans (b := ((1, 0, σ) : sa_R).2.1) rfl (congrArg (fun z : sa_R => z.2.1) (show sp_rating σ at' g = _ from sa_go1 (fun z9 => b_3 z9))).symm), by show va_P G vwCl (sa_W1 cI cZ a (sp_rating σ at' g).2.2 (nI (sp_rating σ at' g).1)) t9.heap; rw [ht]; exact (by rw [(show sp_rating σ at' g = _ from sa_go1 (fun z9 => b_3 z9))]; exact hP)⟩, hS.F ht⟩) hS.2.2 dX1_rating_33
    · skip
      refine lv_iconst (v := 1) hx hb dX1_rating_12 (by decide) ?_
      refine sa_kWr (wd' := sa_W1 cI cZ a σ 1) (r := 0) (As := [.int (0), .int (0), .int (1)]) (rest := []) S (by have h := c_X1_goes l G cI cZ cL a σ th hJ 0 0 1; rw [show sa_gc 0 0 1 = 1 from by decide, show sa_b ((1 : Int32) = 0) = 0 from by decide] at h; exact h) (cwV 3 hts gX1_rating_X1_goes rfl rfl rfl (by decide +kernel) ⟨Nat.le_of_ble_eq_true rfl, Nat.le_of_ble_eq_true rfl⟩) hP hK hS (fun _ h => h) (ci := 1) rfl rfl rfl hl.1 (Nat.le_of_ble_eq_true rfl) rfl dX1_rating_13 ⟨Nat.zero_le _, Nat.zero_le _⟩ (fun H locs hP hS _ _ => ?_)
      refine lv_if_eq (tgt := 32) hx hb dX1_rating_16 (by decide) (fun _ => ?_) (fun c9 => absurd (by decide) c9)
      refine lv_iconst (v := 0) hx hb dX1_rating_32 (by decide) ?_
      exact W.iret (v := 0) hx hb hr (fun t9 ht _ => ⟨⟨_, (), rfl, (Eq.trans (b := ((1, 0, σ) : sa_R).2.1) rfl (congrArg (fun z : sa_R => z.2.1) (show sp_rating σ at' g = _ from sa_go1 (fun z9 => b_3 z9))).symm), by show va_P G vwCl (sa_W1 cI cZ a (sp_rating σ at' g).2.2 (nI (sp_rating σ at' g).1)) t9.heap; rw [ht]; exact (by rw [(show sp_rating σ at' g = _ from sa_go1 (fun z9 => b_3 z9))]; exact hP)⟩, hS.F ht⟩) hS.2.2 dX1_rating_33

set_option maxHeartbeats 4000000 in
set_option maxRecDepth 100000 in
theorem c_X1_addOrder (l : Launch) (G : va_G) (cI cZ cL : ClassId) (a : Nat → Nat) (σ : sa_St) (th : Int32) (hI : sa_I σ) (hJ : sa_J a) (x1 x2 x3 x4 x5 x6 x7 : Int32) : sa_Wr l yX1_addOrder wsX1_addOrder ({ frames := 1, cells := 0, slots := 0, locals := 23 }) G cI cZ cL (sa_W1 cI cZ a σ th) (sa_W1 cI cZ a (sp_addOrder σ x1 x2 x3 x4 x5 x6 x7).2.2 (nI (sp_addOrder σ x1 x2 x3 x4 x5 x6 x7).1)) (sa_A a) [.ref (a 0), .int (x1), .int (x2), .int (x3), .int (x4), .int (x5), .int (x6), .int (x7)] ((sp_addOrder σ x1 x2 x3 x4 x5 x6 x7).2.1) := by
  obtain ⟨hnb, hno, hns, hgr, hor, hbr, hai⟩ := id hI
  refine Met.ofW (cc := cX1_addOrder) (maxL := 9) (ret := (some .int)) (by decide) rfl ?_
  intro p e s m args below meth c s₁ B9 hml hv
  obtain ⟨rfl, hP, hK⟩ := hv
  have hx := B9.exec
  have hb := B9.bytes
  have hr := B9.returns
  have hlk := B9.notSynchronized
  have hts := atoms_spec (ws := wsX1_addOrder) B9.pre
  have hown : s.vm.findClass RX1 = some m.cls := findClass_of_methodNamed B9.named
  have S : CallFix p m c cX1_addOrder 9 s _ wsX1_addOrder RX1 := ⟨hx, hb, hml, hown, hts⟩
  have hin : ∀ w ∈ wsX10, w ∈ wsX1_addOrder := by decide +kernel
  have hS : va_S (sa_A a) s.heap s.heap [] := va_S.rf
  have hl := lv_entry ([.ref (a 0), .int (x1), .int (x2), .int (x3), .int (x4), .int (x5), .int (x6), .int (x7)]) (n := 9) (Nat.le_of_ble_eq_true rfl)
  rw [lg_entry_eq]
  generalize (lg_sl ([.ref (a 0), .int (x1), .int (x2), .int (x3), .int (x4), .int (x5), .int (x6), .int (x7)]) ++ List.replicate (9 - (lg_sl ([.ref (a 0), .int (x1), .int (x2), .int (x3), .int (x4), .int (x5), .int (x6), .int (x7)])).length) Slot.unset).toArray = ls at hl ⊢
  have hl : lv_has ls 9 [(0, .ref (a 0)), (1, .int (x1)), (2, .int (x2)), (3, .int (x3)), (4, .int (x4)), (5, .int (x5)), (6, .int (x6)), (7, .int (x7))] := hl
  refine lv_iload_n hx hb dX1_addOrder_0 rfl (lv_at hl 1 rfl) ?_
  refine lv_iconst (v := 0) hx hb dX1_addOrder_1 (by decide) ?_
  refine lv_bipush (v := 9) hx hb dX1_addOrder_2 (by decide) ?_
  refine sa_kRs (As := [.int (x1), .int (0), .int (9)]) (rest := []) S (c_X1_in l x1 0 9) (va_cwS 3 hts gX1_addOrder_X1_in rfl rfl rfl (by decide +kernel) ⟨Nat.le_of_ble_eq_true rfl, Nat.le_of_ble_eq_true rfl⟩) rfl hl.1 (Nat.le_of_ble_eq_true rfl) rfl dX1_addOrder_4 ⟨Nat.zero_le _, Nat.zero_le _⟩ ?_
  refine sa_spl (fun b_4 => ?_) (fun b_4 => ?_)
  · skip
    refine lv_if_eq (tgt := 54) hx hb dX1_addOrder_7 (by decide) (fun c9 => absurd c9 (by decide)) (fun _ => ?_)
    refine lv_iload_n hx hb dX1_addOrder_10 rfl (lv_at hl 2 rfl) ?_
    refine lv_iconst (v := 0) hx hb dX1_addOrder_11 (by decide) ?_
    refine lv_bipush (v := 7) hx hb dX1_addOrder_12 (by decide) ?_
    refine sa_kRs (As := [.int (x2), .int (0), .int (7)]) (rest := []) S (c_X1_in l x2 0 7) (va_cwS 3 hts gX1_addOrder_X1_in rfl rfl rfl (by decide +kernel) ⟨Nat.le_of_ble_eq_true rfl, Nat.le_of_ble_eq_true rfl⟩) rfl hl.1 (Nat.le_of_ble_eq_true rfl) rfl dX1_addOrder_14 ⟨Nat.zero_le _, Nat.zero_le _⟩ ?_
    refine sa_spl (fun b_14 => ?_) (fun b_14 => ?_)
    · skip
      refine lv_if_eq (tgt := 54) hx hb dX1_addOrder_17 (by decide) (fun c9 => absurd c9 (by decide)) (fun _ => ?_)
      refine lv_iload_n hx hb dX1_addOrder_20 rfl (lv_at hl 3 rfl) ?_
      refine lv_iconst (v := 0) hx hb dX1_addOrder_21 (by decide) ?_
      refine lv_iconst (v := 2) hx hb dX1_addOrder_22 (by decide) ?_
      refine sa_kRs (As := [.int (x3), .int (0), .int (2)]) (rest := []) S (c_X1_in l x3 0 2) (va_cwS 3 hts gX1_addOrder_X1_in rfl rfl rfl (by decide +kernel) ⟨Nat.le_of_ble_eq_true rfl, Nat.le_of_ble_eq_true rfl⟩) rfl hl.1 (Nat.le_of_ble_eq_true rfl) rfl dX1_addOrder_23 ⟨Nat.zero_le _, Nat.zero_le _⟩ ?_
      refine sa_spl (fun b_23 => ?_) (fun b_23 => ?_)
      · skip
        refine lv_if_eq (tgt := 54) hx hb dX1_addOrder_26 (by decide) (fun c9 => absurd c9 (by decide)) (fun _ => ?_)
        refine lv_iload hx hb dX1_addOrder_29 (lv_at hl 4 rfl) ?_
        refine lv_bipush (v := 15) hx hb dX1_addOrder_31 (by decide) ?_
        refine lv_icmp_eq (tgt := 50) hx hb dX1_addOrder_33 (by decide) (fun c_33 => ?_) (fun c_33 => ?_)
        · skip
          refine lv_iconst (v := 1) hx hb dX1_addOrder_50 (by decide) ?_
          refine lv_goto (tgt := 55) hx hb dX1_addOrder_51 (by decide) ?_
          refine lv_istore (lv' := [(8, .int (1)), (0, .ref (a 0)), (1, .int (x1)), (2, .int (x2)), (3, .int (x3)), (4, .int (x4)), (5, .int (x5)), (6, .int (x6)), (7, .int (x7))]) hx hb dX1_addOrder_55 hl (by decide) rfl (fun ls hl => ?_)
          refine lv_aload_n hx hb dX1_addOrder_57 rfl (lv_at hl 1 rfl) ?_
          refine lv_iload hx hb dX1_addOrder_58 (lv_at hl 0 rfl) ?_
          refine lv_if_eq (tgt := 100) hx hb dX1_addOrder_60 (by decide) (fun c9 => absurd c9 (by decide)) (fun _ => ?_)
          refine lv_iload hx hb dX1_addOrder_63 (lv_at hl 6 rfl) ?_
          refine lv_iconst (v := 0) hx hb dX1_addOrder_65 (by decide) ?_
          refine lv_ldc (v := 1000000) hx hb hown (hts (.constant RX1 94 (1000000)) (by decide +kernel)) dX1_addOrder_66 ?_
          refine sa_kRs (As := [.int (x5), .int (0), .int (1000000)]) (rest := [.ref (a 0)]) S (c_X1_in l x5 0 1000000) (va_cwS 3 hts gX1_addOrder_X1_in rfl rfl rfl (by decide +kernel) ⟨Nat.le_of_ble_eq_true rfl, Nat.le_of_ble_eq_true rfl⟩) rfl hl.1 (Nat.le_of_ble_eq_true rfl) rfl dX1_addOrder_68 ⟨Nat.zero_le _, Nat.zero_le _⟩ ?_
          refine sa_spl (fun b_68 => ?_) (fun b_68 => ?_)
          · skip
            refine lv_if_eq (tgt := 100) hx hb dX1_addOrder_71 (by decide) (fun c9 => absurd c9 (by decide)) (fun _ => ?_)
            refine lv_iload hx hb dX1_addOrder_74 (lv_at hl 7 rfl) ?_
            refine lv_iconst (v := 0) hx hb dX1_addOrder_76 (by decide) ?_
            refine lv_ldc (v := 1000000) hx hb hown (hts (.constant RX1 94 (1000000)) (by decide +kernel)) dX1_addOrder_77 ?_
            refine sa_kRs (As := [.int (x6), .int (0), .int (1000000)]) (rest := [.ref (a 0)]) S (c_X1_in l x6 0 1000000) (va_cwS 3 hts gX1_addOrder_X1_in rfl rfl rfl (by decide +kernel) ⟨Nat.le_of_ble_eq_true rfl, Nat.le_of_ble_eq_true rfl⟩) rfl hl.1 (Nat.le_of_ble_eq_true rfl) rfl dX1_addOrder_79 ⟨Nat.zero_le _, Nat.zero_le _⟩ ?_
            refine sa_spl (fun b_79 => ?_) (fun b_79 => ?_)
            · skip
              refine lv_if_eq (tgt := 100) hx hb dX1_addOrder_82 (by decide) (fun c9 => absurd c9 (by decide)) (fun _ => ?_)
              refine lv_iload hx hb dX1_addOrder_85 (lv_at hl 8 rfl) ?_
              refine lv_iconst (v := 0) hx hb dX1_addOrder_87 (by decide) ?_
              refine lv_ldc (v := 100000) hx hb hown (hts (.constant RX1 81 (100000)) (by decide +kernel)) dX1_addOrder_88 ?_
              refine sa_kRs (As := [.int (x7), .int (0), .int (100000)]) (rest := [.ref (a 0)]) S (c_X1_in l x7 0 100000) (va_cwS 3 hts gX1_addOrder_X1_in rfl rfl rfl (by decide +kernel) ⟨Nat.le_of_ble_eq_true rfl, Nat.le_of_ble_eq_true rfl⟩) rfl hl.1 (Nat.le_of_ble_eq_true rfl) rfl dX1_addOrder_90 ⟨Nat.zero_le _, Nat.zero_le _⟩ ?_
              refine sa_spl (fun b_90 => ?_) (fun b_90 => ?_)
              · skip
                refine lv_if_eq (tgt := 100) hx hb dX1_addOrder_93 (by decide) (fun c9 => absurd c9 (by decide)) (fun _ => ?_)
                refine lv_iconst (v := 1) hx hb dX1_addOrder_96 (by decide) ?_
                refine lv_goto (tgt := 101) hx hb dX1_addOrder_97 (by decide) ?_
                refine lv_aload_n hx hb dX1_addOrder_101 rfl (lv_at hl 1 rfl) ?_
                refine sa_g1_orders S hin hK hP (by decide +kernel) dX1_addOrder_102 ?_
                refine lv_bipush (v := 20) hx hb dX1_addOrder_105 (by decide) ?_
                refine lv_icmp_ge (tgt := 114) hx hb dX1_addOrder_107 (by decide) (fun c_107 => ?_) (fun c_107 => ?_)
                · skip
                  have c_107 := Int32.not_lt.mpr c_107
                  refine lv_iconst (v := 0) hx hb dX1_addOrder_114 (by decide) ?_
                  refine lv_iconst (v := 1) hx hb dX1_addOrder_115 (by decide) ?_
                  refine sa_kWr (wd' := sa_W1 cI cZ a σ 2) (r := 0) (As := [.int (1), .int (0), .int (1)]) (rest := []) S (by have h := c_X1_goes l G cI cZ cL a σ th hJ 1 0 1; rw [show sa_gc 1 0 1 = 2 from by decide, show sa_b ((2 : Int32) = 0) = 0 from by decide] at h; exact h) (cwV 3 hts gX1_addOrder_X1_goes rfl rfl rfl (by decide +kernel) ⟨Nat.le_of_ble_eq_true rfl, Nat.le_of_ble_eq_true rfl⟩) hP hK hS (fun _ h => h) (ci := 1) rfl rfl rfl hl.1 (Nat.le_of_ble_eq_true rfl) rfl dX1_addOrder_116 ⟨Nat.zero_le _, Nat.zero_le _⟩ (fun H locs hP hS _ _ => ?_)
                  refine lv_if_ne (tgt := 124) hx hb dX1_addOrder_119 (by decide) (fun c9 => absurd (by decide) c9) (fun _ => ?_)
                  refine lv_iconst (v := 0) hx hb dX1_addOrder_122 (by decide) ?_
                  exact W.iret (v := 0) hx hb hr (fun t9 ht _ => ⟨⟨_, (), rfl, (Eq.trans (b := ((2, 0, σ) : sa_R).2.1) rfl (congrArg (fun z : sa_R => z.2.1) (show sp_addOrder σ x1 x2 x3 x4 x5 x6 x7 = _ from sa_go2 ⟨b_4, b_14, b_23, (Or.inl c_33), b_68, b_79, b_90⟩ (fun z9 => c_107 z9))).symm), by show va_P G vwCl (sa_W1 cI cZ a (sp_addOrder σ x1 x2 x3 x4 x5 x6 x7).2.2 (nI (sp_addOrder σ x1 x2 x3 x4 x5 x6 x7).1)) t9.heap; rw [ht]; exact (by rw [(show sp_addOrder σ x1 x2 x3 x4 x5 x6 x7 = _ from sa_go2 ⟨b_4, b_14, b_23, (Or.inl c_33), b_68, b_79, b_90⟩ (fun z9 => c_107 z9))]; exact hP)⟩, hS.F ht⟩) hS.2.2 dX1_addOrder_123
                · skip
                  have c_107 := Int32.not_le.mp c_107
                  have hn9 : σ.1 1 < 20 := sa_ltN (by omega) (by decide) c_107
                  refine lv_iconst (v := 1) hx hb dX1_addOrder_110 (by decide) ?_
                  refine lv_goto (tgt := 115) hx hb dX1_addOrder_111 (by decide) ?_
                  refine lv_iconst (v := 1) hx hb dX1_addOrder_115 (by decide) ?_
                  refine sa_kWr (wd' := sa_W1 cI cZ a σ 0) (r := 1) (As := [.int (1), .int (1), .int (1)]) (rest := []) S (by have h := c_X1_goes l G cI cZ cL a σ th hJ 1 1 1; rw [show sa_gc 1 1 1 = 0 from by decide, show sa_b ((0 : Int32) = 0) = 1 from by decide] at h; exact h) (cwV 3 hts gX1_addOrder_X1_goes rfl rfl rfl (by decide +kernel) ⟨Nat.le_of_ble_eq_true rfl, Nat.le_of_ble_eq_true rfl⟩) hP hK hS (fun _ h => h) (ci := 1) rfl rfl rfl hl.1 (Nat.le_of_ble_eq_true rfl) rfl dX1_addOrder_116 ⟨Nat.zero_le _, Nat.zero_le _⟩ (fun H locs hP hS _ _ => ?_)
                  refine lv_if_ne (tgt := 124) hx hb dX1_addOrder_119 (by decide) (fun _ => ?_) (fun c9 => absurd c9 (by decide))
                  refine lv_aload_n hx hb dX1_addOrder_124 rfl (lv_at hl 1 rfl) ?_
                  refine sa_g1_advertiser S hin hK hP (by decide +kernel) dX1_addOrder_125 ?_
                  refine lv_aload_n hx hb dX1_addOrder_128 rfl (lv_at hl 1 rfl) ?_
                  refine sa_g1_orders S hin hK hP (by decide +kernel) dX1_addOrder_129 ?_
                  refine lv_iload_n hx hb dX1_addOrder_132 rfl (lv_at hl 2 rfl) ?_
                  refine sa_stk (ws' := (sa_W1 cI cZ a (sa_f σ 4 (upd (σ.2 4) (σ.1 1) x1)) 0)) 4 S hK hP (sa_D1 hJ) hS rfl (by omega) (by decide) rfl dX1_addOrder_133 (fun H locs hP hS => ?_)
                  refine lv_aload_n hx hb dX1_addOrder_134 rfl (lv_at hl 1 rfl) ?_
                  refine sa_g1_category S hin hK hP (by decide +kernel) dX1_addOrder_135 ?_
                  refine lv_aload_n hx hb dX1_addOrder_138 rfl (lv_at hl 1 rfl) ?_
                  refine sa_g1_orders S hin hK hP (by decide +kernel) dX1_addOrder_139 ?_
                  show W p l e _ s m _ below meth c _ _ _ _ _ (F0 m 142 ls [.int (nI (σ.1 1)), .ref (a 5)])
                  refine lv_iload_n hx hb dX1_addOrder_142 rfl (lv_at hl 3 rfl) ?_
                  refine sa_stk (ws' := (sa_W1 cI cZ a (sa_f (sa_f σ 4 (upd (σ.2 4) (σ.1 1) x1)) 5 (upd (σ.2 5) (σ.1 1) x2)) 0)) 5 S hK hP (sa_D1 hJ) hS rfl (by omega) (by decide) rfl dX1_addOrder_143 (fun H locs hP hS => ?_)
                  refine lv_aload_n hx hb dX1_addOrder_144 rfl (lv_at hl 1 rfl) ?_
                  refine sa_g1_group S hin hK hP (by decide +kernel) dX1_addOrder_145 ?_
                  refine lv_aload_n hx hb dX1_addOrder_148 rfl (lv_at hl 1 rfl) ?_
                  refine sa_g1_orders S hin hK hP (by decide +kernel) dX1_addOrder_149 ?_
                  show W p l e _ s m _ below meth c _ _ _ _ _ (F0 m 152 ls [.int (nI (σ.1 1)), .ref (a 6)])
                  refine lv_iload_n hx hb dX1_addOrder_152 rfl (lv_at hl 4 rfl) ?_
                  refine sa_stk (ws' := (sa_W1 cI cZ a (sa_f (sa_f (sa_f σ 4 (upd (σ.2 4) (σ.1 1) x1)) 5 (upd (σ.2 5) (σ.1 1) x2)) 6 (upd (σ.2 6) (σ.1 1) x3)) 0)) 6 S hK hP (sa_D1 hJ) hS rfl (by omega) (by decide) rfl dX1_addOrder_153 (fun H locs hP hS => ?_)
                  refine lv_aload_n hx hb dX1_addOrder_154 rfl (lv_at hl 1 rfl) ?_
                  refine sa_g1_seconds S hin hK hP (by decide +kernel) dX1_addOrder_155 ?_
                  refine lv_aload_n hx hb dX1_addOrder_158 rfl (lv_at hl 1 rfl) ?_
                  refine sa_g1_orders S hin hK hP (by decide +kernel) dX1_addOrder_159 ?_
                  show W p l e _ s m _ below meth c _ _ _ _ _ (F0 m 162 ls [.int (nI (σ.1 1)), .ref (a 7)])
                  refine lv_iload hx hb dX1_addOrder_162 (lv_at hl 5 rfl) ?_
                  refine sa_stk (ws' := (sa_W1 cI cZ a (sa_f (sa_f (sa_f (sa_f σ 4 (upd (σ.2 4) (σ.1 1) x1)) 5 (upd (σ.2 5) (σ.1 1) x2)) 6 (upd (σ.2 6) (σ.1 1) x3)) 7 (upd (σ.2 7) (σ.1 1) x4)) 0)) 7 S hK hP (sa_D1 hJ) hS rfl (by omega) (by decide) rfl dX1_addOrder_164 (fun H locs hP hS => ?_)
                  refine lv_aload_n hx hb dX1_addOrder_165 rfl (lv_at hl 1 rfl) ?_
                  refine sa_g1_price S hin hK hP (by decide +kernel) dX1_addOrder_166 ?_
                  refine lv_aload_n hx hb dX1_addOrder_169 rfl (lv_at hl 1 rfl) ?_
                  refine sa_g1_orders S hin hK hP (by decide +kernel) dX1_addOrder_170 ?_
                  show W p l e _ s m _ below meth c _ _ _ _ _ (F0 m 173 ls [.int (nI (σ.1 1)), .ref (a 8)])
                  refine lv_iload hx hb dX1_addOrder_173 (lv_at hl 6 rfl) ?_
                  refine sa_stk (ws' := (sa_W1 cI cZ a (sa_f (sa_f (sa_f (sa_f (sa_f σ 4 (upd (σ.2 4) (σ.1 1) x1)) 5 (upd (σ.2 5) (σ.1 1) x2)) 6 (upd (σ.2 6) (σ.1 1) x3)) 7 (upd (σ.2 7) (σ.1 1) x4)) 8 (upd (σ.2 8) (σ.1 1) x5)) 0)) 8 S hK hP (sa_D1 hJ) hS rfl (by omega) (by decide) rfl dX1_addOrder_175 (fun H locs hP hS => ?_)
                  refine lv_aload_n hx hb dX1_addOrder_176 rfl (lv_at hl 1 rfl) ?_
                  refine sa_g1_promise S hin hK hP (by decide +kernel) dX1_addOrder_177 ?_
                  refine lv_aload_n hx hb dX1_addOrder_180 rfl (lv_at hl 1 rfl) ?_
                  refine sa_g1_orders S hin hK hP (by decide +kernel) dX1_addOrder_181 ?_
                  show W p l e _ s m _ below meth c _ _ _ _ _ (F0 m 184 ls [.int (nI (σ.1 1)), .ref (a 9)])
                  refine lv_iload hx hb dX1_addOrder_184 (lv_at hl 7 rfl) ?_
                  refine sa_stk (ws' := (sa_W1 cI cZ a (sa_f (sa_f (sa_f (sa_f (sa_f (sa_f σ 4 (upd (σ.2 4) (σ.1 1) x1)) 5 (upd (σ.2 5) (σ.1 1) x2)) 6 (upd (σ.2 6) (σ.1 1) x3)) 7 (upd (σ.2 7) (σ.1 1) x4)) 8 (upd (σ.2 8) (σ.1 1) x5)) 9 (upd (σ.2 9) (σ.1 1) x6)) 0)) 9 S hK hP (sa_D1 hJ) hS rfl (by omega) (by decide) rfl dX1_addOrder_186 (fun H locs hP hS => ?_)
                  refine lv_aload_n hx hb dX1_addOrder_187 rfl (lv_at hl 1 rfl) ?_
                  refine sa_g1_floor S hin hK hP (by decide +kernel) dX1_addOrder_188 ?_
                  refine lv_aload_n hx hb dX1_addOrder_191 rfl (lv_at hl 1 rfl) ?_
                  refine sa_g1_orders S hin hK hP (by decide +kernel) dX1_addOrder_192 ?_
                  show W p l e _ s m _ below meth c _ _ _ _ _ (F0 m 195 ls [.int (nI (σ.1 1)), .ref (a 10)])
                  refine lv_iload hx hb dX1_addOrder_195 (lv_at hl 8 rfl) ?_
                  refine sa_stk (ws' := (sa_W1 cI cZ a (sa_f (sa_f (sa_f (sa_f (sa_f (sa_f (sa_f σ 4 (upd (σ.2 4) (σ.1 1) x1)) 5 (upd (σ.2 5) (σ.1 1) x2)) 6 (upd (σ.2 6) (σ.1 1) x3)) 7 (upd (σ.2 7) (σ.1 1) x4)) 8 (upd (σ.2 8) (σ.1 1) x5)) 9 (upd (σ.2 9) (σ.1 1) x6)) 10 (upd (σ.2 10) (σ.1 1) x7)) 0)) 10 S hK hP (sa_D1 hJ) hS rfl (by omega) (by decide) rfl dX1_addOrder_197 (fun H locs hP hS => ?_)
                  refine lv_aload_n hx hb dX1_addOrder_198 rfl (lv_at hl 1 rfl) ?_
                  refine lv_dup hx hb dX1_addOrder_199 rfl ?_
                  refine sa_g1_orders S hin hK hP (by decide +kernel) dX1_addOrder_200 ?_
                  show W p l e _ s m _ below meth c _ _ _ _ _ (F0 m 203 ls [.int (nI (σ.1 1)), .ref (a 0)])
                  refine lv_iconst (v := 1) hx hb dX1_addOrder_203 (by decide) ?_
                  refine sa_iadd1 hx hb dX1_addOrder_204 ?_
                  refine sa_p1_orders (v := σ.1 1 + 1) rfl S hin hK hP (sa_D1 hJ) hS (by decide +kernel) dX1_addOrder_205 (fun H locs hP hS => ?_)
                  refine lv_aload_n hx hb dX1_addOrder_208 rfl (lv_at hl 1 rfl) ?_
                  refine sa_g1_orders S hin hK hP (by decide +kernel) dX1_addOrder_209 ?_
                  show W p l e _ s m _ below meth c _ _ _ _ _ (F0 m 212 ls [.int (nI (σ.1 1 + 1))])
                  refine lv_iconst (v := 1) hx hb dX1_addOrder_212 (by decide) ?_
                  refine sa_isub1 hx hb dX1_addOrder_213 ?_
                  exact W.iret (v := nI (σ.1 1)) hx hb hr (fun t9 ht _ => ⟨⟨_, (), rfl, (Eq.trans (b := (0, nI (σ.1 1), sa_ord σ x1 x2 x3 x4 x5 x6 x7).2.1) rfl (congrArg (fun z : sa_R => z.2.1) (show sp_addOrder σ x1 x2 x3 x4 x5 x6 x7 = _ from sa_go0 ⟨b_4, b_14, b_23, (Or.inl c_33), b_68, b_79, b_90⟩ c_107 trivial)).symm), by show va_P G vwCl (sa_W1 cI cZ a (sp_addOrder σ x1 x2 x3 x4 x5 x6 x7).2.2 (nI (sp_addOrder σ x1 x2 x3 x4 x5 x6 x7).1)) t9.heap; rw [ht]; exact (by rw [(show sp_addOrder σ x1 x2 x3 x4 x5 x6 x7 = _ from sa_go0 ⟨b_4, b_14, b_23, (Or.inl c_33), b_68, b_79, b_90⟩ c_107 trivial)]; exact hP)⟩, hS.F ht⟩) hS.2.2 dX1_addOrder_214
              · skip
                refine lv_if_eq (tgt := 100) hx hb dX1_addOrder_93 (by decide) (fun _ => ?_) (fun c9 => absurd (by decide) c9)
                refine lv_iconst (v := 0) hx hb dX1_addOrder_100 (by decide) ?_
                refine lv_aload_n hx hb dX1_addOrder_101 rfl (lv_at hl 1 rfl) ?_
                refine sa_g1_orders S hin hK hP (by decide +kernel) dX1_addOrder_102 ?_
                refine lv_bipush (v := 20) hx hb dX1_addOrder_105 (by decide) ?_
                refine lv_icmp_ge (tgt := 114) hx hb dX1_addOrder_107 (by decide) (fun c_107 => ?_) (fun c_107 => ?_)
                · skip
                  have c_107 := Int32.not_lt.mpr c_107
                  refine lv_iconst (v := 0) hx hb dX1_addOrder_114 (by decide) ?_
                  refine lv_iconst (v := 1) hx hb dX1_addOrder_115 (by decide) ?_
                  refine sa_kWr (wd' := sa_W1 cI cZ a σ 1) (r := 0) (As := [.int (0), .int (0), .int (1)]) (rest := []) S (by have h := c_X1_goes l G cI cZ cL a σ th hJ 0 0 1; rw [show sa_gc 0 0 1 = 1 from by decide, show sa_b ((1 : Int32) = 0) = 0 from by decide] at h; exact h) (cwV 3 hts gX1_addOrder_X1_goes rfl rfl rfl (by decide +kernel) ⟨Nat.le_of_ble_eq_true rfl, Nat.le_of_ble_eq_true rfl⟩) hP hK hS (fun _ h => h) (ci := 1) rfl rfl rfl hl.1 (Nat.le_of_ble_eq_true rfl) rfl dX1_addOrder_116 ⟨Nat.zero_le _, Nat.zero_le _⟩ (fun H locs hP hS _ _ => ?_)
                  refine lv_if_ne (tgt := 124) hx hb dX1_addOrder_119 (by decide) (fun c9 => absurd (by decide) c9) (fun _ => ?_)
                  refine lv_iconst (v := 0) hx hb dX1_addOrder_122 (by decide) ?_
                  exact W.iret (v := 0) hx hb hr (fun t9 ht _ => ⟨⟨_, (), rfl, (Eq.trans (b := ((1, 0, σ) : sa_R).2.1) rfl (congrArg (fun z : sa_R => z.2.1) (show sp_addOrder σ x1 x2 x3 x4 x5 x6 x7 = _ from sa_go1 (fun z9 => b_90 z9.2.2.2.2.2.2))).symm), by show va_P G vwCl (sa_W1 cI cZ a (sp_addOrder σ x1 x2 x3 x4 x5 x6 x7).2.2 (nI (sp_addOrder σ x1 x2 x3 x4 x5 x6 x7).1)) t9.heap; rw [ht]; exact (by rw [(show sp_addOrder σ x1 x2 x3 x4 x5 x6 x7 = _ from sa_go1 (fun z9 => b_90 z9.2.2.2.2.2.2))]; exact hP)⟩, hS.F ht⟩) hS.2.2 dX1_addOrder_123
                · skip
                  have c_107 := Int32.not_le.mp c_107
                  have hn9 : σ.1 1 < 20 := sa_ltN (by omega) (by decide) c_107
                  refine lv_iconst (v := 1) hx hb dX1_addOrder_110 (by decide) ?_
                  refine lv_goto (tgt := 115) hx hb dX1_addOrder_111 (by decide) ?_
                  refine lv_iconst (v := 1) hx hb dX1_addOrder_115 (by decide) ?_
                  refine sa_kWr (wd' := sa_W1 cI cZ a σ 1) (r := 0) (As := [.int (0), .int (1), .int (1)]) (rest := []) S (by have h := c_X1_goes l G cI cZ cL a σ th hJ 0 1 1; rw [show sa_gc 0 1 1 = 1 from by decide, show sa_b ((1 : Int32) = 0) = 0 from by decide] at h; exact h) (cwV 3 hts gX1_addOrder_X1_goes rfl rfl rfl (by decide +kernel) ⟨Nat.le_of_ble_eq_true rfl, Nat.le_of_ble_eq_true rfl⟩) hP hK hS (fun _ h => h) (ci := 1) rfl rfl rfl hl.1 (Nat.le_of_ble_eq_true rfl) rfl dX1_addOrder_116 ⟨Nat.zero_le _, Nat.zero_le _⟩ (fun H locs hP hS _ _ => ?_)
                  refine lv_if_ne (tgt := 124) hx hb dX1_addOrder_119 (by decide) (fun c9 => absurd (by decide) c9) (fun _ => ?_)
                  refine lv_iconst (v := 0) hx hb dX1_addOrder_122 (by decide) ?_
                  exact W.iret (v := 0) hx hb hr (fun t9 ht _ => ⟨⟨_, (), rfl, (Eq.trans (b := ((1, 0, σ) : sa_R).2.1) rfl (congrArg (fun z : sa_R => z.2.1) (show sp_addOrder σ x1 x2 x3 x4 x5 x6 x7 = _ from sa_go1 (fun z9 => b_90 z9.2.2.2.2.2.2))).symm), by show va_P G vwCl (sa_W1 cI cZ a (sp_addOrder σ x1 x2 x3 x4 x5 x6 x7).2.2 (nI (sp_addOrder σ x1 x2 x3 x4 x5 x6 x7).1)) t9.heap; rw [ht]; exact (by rw [(show sp_addOrder σ x1 x2 x3 x4 x5 x6 x7 = _ from sa_go1 (fun z9 => b_90 z9.2.2.2.2.2.2))]; exact hP)⟩, hS.F ht⟩) hS.2.2 dX1_addOrder_123
            · skip
              refine lv_if_eq (tgt := 100) hx hb dX1_addOrder_82 (by decide) (fun _ => ?_) (fun c9 => absurd (by decide) c9)
              refine lv_iconst (v := 0) hx hb dX1_addOrder_100 (by decide) ?_
              refine lv_aload_n hx hb dX1_addOrder_101 rfl (lv_at hl 1 rfl) ?_
              refine sa_g1_orders S hin hK hP (by decide +kernel) dX1_addOrder_102 ?_
              refine lv_bipush (v := 20) hx hb dX1_addOrder_105 (by decide) ?_
              refine lv_icmp_ge (tgt := 114) hx hb dX1_addOrder_107 (by decide) (fun c_107 => ?_) (fun c_107 => ?_)
              · skip
                have c_107 := Int32.not_lt.mpr c_107
                refine lv_iconst (v := 0) hx hb dX1_addOrder_114 (by decide) ?_
                refine lv_iconst (v := 1) hx hb dX1_addOrder_115 (by decide) ?_
                refine sa_kWr (wd' := sa_W1 cI cZ a σ 1) (r := 0) (As := [.int (0), .int (0), .int (1)]) (rest := []) S (by have h := c_X1_goes l G cI cZ cL a σ th hJ 0 0 1; rw [show sa_gc 0 0 1 = 1 from by decide, show sa_b ((1 : Int32) = 0) = 0 from by decide] at h; exact h) (cwV 3 hts gX1_addOrder_X1_goes rfl rfl rfl (by decide +kernel) ⟨Nat.le_of_ble_eq_true rfl, Nat.le_of_ble_eq_true rfl⟩) hP hK hS (fun _ h => h) (ci := 1) rfl rfl rfl hl.1 (Nat.le_of_ble_eq_true rfl) rfl dX1_addOrder_116 ⟨Nat.zero_le _, Nat.zero_le _⟩ (fun H locs hP hS _ _ => ?_)
                refine lv_if_ne (tgt := 124) hx hb dX1_addOrder_119 (by decide) (fun c9 => absurd (by decide) c9) (fun _ => ?_)
                refine lv_iconst (v := 0) hx hb dX1_addOrder_122 (by decide) ?_
                exact W.iret (v := 0) hx hb hr (fun t9 ht _ => ⟨⟨_, (), rfl, (Eq.trans (b := ((1, 0, σ) : sa_R).2.1) rfl (congrArg (fun z : sa_R => z.2.1) (show sp_addOrder σ x1 x2 x3 x4 x5 x6 x7 = _ from sa_go1 (fun z9 => b_79 z9.2.2.2.2.2.1))).symm), by show va_P G vwCl (sa_W1 cI cZ a (sp_addOrder σ x1 x2 x3 x4 x5 x6 x7).2.2 (nI (sp_addOrder σ x1 x2 x3 x4 x5 x6 x7).1)) t9.heap; rw [ht]; exact (by rw [(show sp_addOrder σ x1 x2 x3 x4 x5 x6 x7 = _ from sa_go1 (fun z9 => b_79 z9.2.2.2.2.2.1))]; exact hP)⟩, hS.F ht⟩) hS.2.2 dX1_addOrder_123
              · skip
                have c_107 := Int32.not_le.mp c_107
                have hn9 : σ.1 1 < 20 := sa_ltN (by omega) (by decide) c_107
                refine lv_iconst (v := 1) hx hb dX1_addOrder_110 (by decide) ?_
                refine lv_goto (tgt := 115) hx hb dX1_addOrder_111 (by decide) ?_
                refine lv_iconst (v := 1) hx hb dX1_addOrder_115 (by decide) ?_
                refine sa_kWr (wd' := sa_W1 cI cZ a σ 1) (r := 0) (As := [.int (0), .int (1), .int (1)]) (rest := []) S (by have h := c_X1_goes l G cI cZ cL a σ th hJ 0 1 1; rw [show sa_gc 0 1 1 = 1 from by decide, show sa_b ((1 : Int32) = 0) = 0 from by decide] at h; exact h) (cwV 3 hts gX1_addOrder_X1_goes rfl rfl rfl (by decide +kernel) ⟨Nat.le_of_ble_eq_true rfl, Nat.le_of_ble_eq_true rfl⟩) hP hK hS (fun _ h => h) (ci := 1) rfl rfl rfl hl.1 (Nat.le_of_ble_eq_true rfl) rfl dX1_addOrder_116 ⟨Nat.zero_le _, Nat.zero_le _⟩ (fun H locs hP hS _ _ => ?_)
                refine lv_if_ne (tgt := 124) hx hb dX1_addOrder_119 (by decide) (fun c9 => absurd (by decide) c9) (fun _ => ?_)
                refine lv_iconst (v := 0) hx hb dX1_addOrder_122 (by decide) ?_
                exact W.iret (v := 0) hx hb hr (fun t9 ht _ => ⟨⟨_, (), rfl, (Eq.trans (b := ((1, 0, σ) : sa_R).2.1) rfl (congrArg (fun z : sa_R => z.2.1) (show sp_addOrder σ x1 x2 x3 x4 x5 x6 x7 = _ from sa_go1 (fun z9 => b_79 z9.2.2.2.2.2.1))).symm), by show va_P G vwCl (sa_W1 cI cZ a (sp_addOrder σ x1 x2 x3 x4 x5 x6 x7).2.2 (nI (sp_addOrder σ x1 x2 x3 x4 x5 x6 x7).1)) t9.heap; rw [ht]; exact (by rw [(show sp_addOrder σ x1 x2 x3 x4 x5 x6 x7 = _ from sa_go1 (fun z9 => b_79 z9.2.2.2.2.2.1))]; exact hP)⟩, hS.F ht⟩) hS.2.2 dX1_addOrder_123
          · skip
            refine lv_if_eq (tgt := 100) hx hb dX1_addOrder_71 (by decide) (fun _ => ?_) (fun c9 => absurd (by decide) c9)
            refine lv_iconst (v := 0) hx hb dX1_addOrder_100 (by decide) ?_
            refine lv_aload_n hx hb dX1_addOrder_101 rfl (lv_at hl 1 rfl) ?_
            refine sa_g1_orders S hin hK hP (by decide +kernel) dX1_addOrder_102 ?_
            refine lv_bipush (v := 20) hx hb dX1_addOrder_105 (by decide) ?_
            refine lv_icmp_ge (tgt := 114) hx hb dX1_addOrder_107 (by decide) (fun c_107 => ?_) (fun c_107 => ?_)
            · skip
              have c_107 := Int32.not_lt.mpr c_107
              refine lv_iconst (v := 0) hx hb dX1_addOrder_114 (by decide) ?_
              refine lv_iconst (v := 1) hx hb dX1_addOrder_115 (by decide) ?_
              refine sa_kWr (wd' := sa_W1 cI cZ a σ 1) (r := 0) (As := [.int (0), .int (0), .int (1)]) (rest := []) S (by have h := c_X1_goes l G cI cZ cL a σ th hJ 0 0 1; rw [show sa_gc 0 0 1 = 1 from by decide, show sa_b ((1 : Int32) = 0) = 0 from by decide] at h; exact h) (cwV 3 hts gX1_addOrder_X1_goes rfl rfl rfl (by decide +kernel) ⟨Nat.le_of_ble_eq_true rfl, Nat.le_of_ble_eq_true rfl⟩) hP hK hS (fun _ h => h) (ci := 1) rfl rfl rfl hl.1 (Nat.le_of_ble_eq_true rfl) rfl dX1_addOrder_116 ⟨Nat.zero_le _, Nat.zero_le _⟩ (fun H locs hP hS _ _ => ?_)
              refine lv_if_ne (tgt := 124) hx hb dX1_addOrder_119 (by decide) (fun c9 => absurd (by decide) c9) (fun _ => ?_)
              refine lv_iconst (v := 0) hx hb dX1_addOrder_122 (by decide) ?_
              exact W.iret (v := 0) hx hb hr (fun t9 ht _ => ⟨⟨_, (), rfl, (Eq.trans (b := ((1, 0, σ) : sa_R).2.1) rfl (congrArg (fun z : sa_R => z.2.1) (show sp_addOrder σ x1 x2 x3 x4 x5 x6 x7 = _ from sa_go1 (fun z9 => b_68 z9.2.2.2.2.1))).symm), by show va_P G vwCl (sa_W1 cI cZ a (sp_addOrder σ x1 x2 x3 x4 x5 x6 x7).2.2 (nI (sp_addOrder σ x1 x2 x3 x4 x5 x6 x7).1)) t9.heap; rw [ht]; exact (by rw [(show sp_addOrder σ x1 x2 x3 x4 x5 x6 x7 = _ from sa_go1 (fun z9 => b_68 z9.2.2.2.2.1))]; exact hP)⟩, hS.F ht⟩) hS.2.2 dX1_addOrder_123
            · skip
              have c_107 := Int32.not_le.mp c_107
              have hn9 : σ.1 1 < 20 := sa_ltN (by omega) (by decide) c_107
              refine lv_iconst (v := 1) hx hb dX1_addOrder_110 (by decide) ?_
              refine lv_goto (tgt := 115) hx hb dX1_addOrder_111 (by decide) ?_
              refine lv_iconst (v := 1) hx hb dX1_addOrder_115 (by decide) ?_
              refine sa_kWr (wd' := sa_W1 cI cZ a σ 1) (r := 0) (As := [.int (0), .int (1), .int (1)]) (rest := []) S (by have h := c_X1_goes l G cI cZ cL a σ th hJ 0 1 1; rw [show sa_gc 0 1 1 = 1 from by decide, show sa_b ((1 : Int32) = 0) = 0 from by decide] at h; exact h) (cwV 3 hts gX1_addOrder_X1_goes rfl rfl rfl (by decide +kernel) ⟨Nat.le_of_ble_eq_true rfl, Nat.le_of_ble_eq_true rfl⟩) hP hK hS (fun _ h => h) (ci := 1) rfl rfl rfl hl.1 (Nat.le_of_ble_eq_true rfl) rfl dX1_addOrder_116 ⟨Nat.zero_le _, Nat.zero_le _⟩ (fun H locs hP hS _ _ => ?_)
              refine lv_if_ne (tgt := 124) hx hb dX1_addOrder_119 (by decide) (fun c9 => absurd (by decide) c9) (fun _ => ?_)
              refine lv_iconst (v := 0) hx hb dX1_addOrder_122 (by decide) ?_
              exact W.iret (v := 0) hx hb hr (fun t9 ht _ => ⟨⟨_, (), rfl, (Eq.trans (b := ((1, 0, σ) : sa_R).2.1) rfl (congrArg (fun z : sa_R => z.2.1) (show sp_addOrder σ x1 x2 x3 x4 x5 x6 x7 = _ from sa_go1 (fun z9 => b_68 z9.2.2.2.2.1))).symm), by show va_P G vwCl (sa_W1 cI cZ a (sp_addOrder σ x1 x2 x3 x4 x5 x6 x7).2.2 (nI (sp_addOrder σ x1 x2 x3 x4 x5 x6 x7).1)) t9.heap; rw [ht]; exact (by rw [(show sp_addOrder σ x1 x2 x3 x4 x5 x6 x7 = _ from sa_go1 (fun z9 => b_68 z9.2.2.2.2.1))]; exact hP)⟩, hS.F ht⟩) hS.2.2 dX1_addOrder_123
        · skip
          refine lv_iload hx hb dX1_addOrder_36 (lv_at hl 4 rfl) ?_
          refine lv_bipush (v := 30) hx hb dX1_addOrder_38 (by decide) ?_
          refine lv_icmp_eq (tgt := 50) hx hb dX1_addOrder_40 (by decide) (fun c_40 => ?_) (fun c_40 => ?_)
          · skip
            refine lv_iconst (v := 1) hx hb dX1_addOrder_50 (by decide) ?_
            refine lv_goto (tgt := 55) hx hb dX1_addOrder_51 (by decide) ?_
            refine lv_istore (lv' := [(8, .int (1)), (0, .ref (a 0)), (1, .int (x1)), (2, .int (x2)), (3, .int (x3)), (4, .int (x4)), (5, .int (x5)), (6, .int (x6)), (7, .int (x7))]) hx hb dX1_addOrder_55 hl (by decide) rfl (fun ls hl => ?_)
            refine lv_aload_n hx hb dX1_addOrder_57 rfl (lv_at hl 1 rfl) ?_
            refine lv_iload hx hb dX1_addOrder_58 (lv_at hl 0 rfl) ?_
            refine lv_if_eq (tgt := 100) hx hb dX1_addOrder_60 (by decide) (fun c9 => absurd c9 (by decide)) (fun _ => ?_)
            refine lv_iload hx hb dX1_addOrder_63 (lv_at hl 6 rfl) ?_
            refine lv_iconst (v := 0) hx hb dX1_addOrder_65 (by decide) ?_
            refine lv_ldc (v := 1000000) hx hb hown (hts (.constant RX1 94 (1000000)) (by decide +kernel)) dX1_addOrder_66 ?_
            refine sa_kRs (As := [.int (x5), .int (0), .int (1000000)]) (rest := [.ref (a 0)]) S (c_X1_in l x5 0 1000000) (va_cwS 3 hts gX1_addOrder_X1_in rfl rfl rfl (by decide +kernel) ⟨Nat.le_of_ble_eq_true rfl, Nat.le_of_ble_eq_true rfl⟩) rfl hl.1 (Nat.le_of_ble_eq_true rfl) rfl dX1_addOrder_68 ⟨Nat.zero_le _, Nat.zero_le _⟩ ?_
            refine sa_spl (fun b_68 => ?_) (fun b_68 => ?_)
            · skip
              refine lv_if_eq (tgt := 100) hx hb dX1_addOrder_71 (by decide) (fun c9 => absurd c9 (by decide)) (fun _ => ?_)
              refine lv_iload hx hb dX1_addOrder_74 (lv_at hl 7 rfl) ?_
              refine lv_iconst (v := 0) hx hb dX1_addOrder_76 (by decide) ?_
              refine lv_ldc (v := 1000000) hx hb hown (hts (.constant RX1 94 (1000000)) (by decide +kernel)) dX1_addOrder_77 ?_
              refine sa_kRs (As := [.int (x6), .int (0), .int (1000000)]) (rest := [.ref (a 0)]) S (c_X1_in l x6 0 1000000) (va_cwS 3 hts gX1_addOrder_X1_in rfl rfl rfl (by decide +kernel) ⟨Nat.le_of_ble_eq_true rfl, Nat.le_of_ble_eq_true rfl⟩) rfl hl.1 (Nat.le_of_ble_eq_true rfl) rfl dX1_addOrder_79 ⟨Nat.zero_le _, Nat.zero_le _⟩ ?_
              refine sa_spl (fun b_79 => ?_) (fun b_79 => ?_)
              · skip
                refine lv_if_eq (tgt := 100) hx hb dX1_addOrder_82 (by decide) (fun c9 => absurd c9 (by decide)) (fun _ => ?_)
                refine lv_iload hx hb dX1_addOrder_85 (lv_at hl 8 rfl) ?_
                refine lv_iconst (v := 0) hx hb dX1_addOrder_87 (by decide) ?_
                refine lv_ldc (v := 100000) hx hb hown (hts (.constant RX1 81 (100000)) (by decide +kernel)) dX1_addOrder_88 ?_
                refine sa_kRs (As := [.int (x7), .int (0), .int (100000)]) (rest := [.ref (a 0)]) S (c_X1_in l x7 0 100000) (va_cwS 3 hts gX1_addOrder_X1_in rfl rfl rfl (by decide +kernel) ⟨Nat.le_of_ble_eq_true rfl, Nat.le_of_ble_eq_true rfl⟩) rfl hl.1 (Nat.le_of_ble_eq_true rfl) rfl dX1_addOrder_90 ⟨Nat.zero_le _, Nat.zero_le _⟩ ?_
                refine sa_spl (fun b_90 => ?_) (fun b_90 => ?_)
                · skip
                  refine lv_if_eq (tgt := 100) hx hb dX1_addOrder_93 (by decide) (fun c9 => absurd c9 (by decide)) (fun _ => ?_)
                  refine lv_iconst (v := 1) hx hb dX1_addOrder_96 (by decide) ?_
                  refine lv_goto (tgt := 101) hx hb dX1_addOrder_97 (by decide) ?_
                  refine lv_aload_n hx hb dX1_addOrder_101 rfl (lv_at hl 1 rfl) ?_
                  refine sa_g1_orders S hin hK hP (by decide +kernel) dX1_addOrder_102 ?_
                  refine lv_bipush (v := 20) hx hb dX1_addOrder_105 (by decide) ?_
                  refine lv_icmp_ge (tgt := 114) hx hb dX1_addOrder_107 (by decide) (fun c_107 => ?_) (fun c_107 => ?_)
                  · skip
                    have c_107 := Int32.not_lt.mpr c_107
                    refine lv_iconst (v := 0) hx hb dX1_addOrder_114 (by decide) ?_
                    refine lv_iconst (v := 1) hx hb dX1_addOrder_115 (by decide) ?_
                    refine sa_kWr (wd' := sa_W1 cI cZ a σ 2) (r := 0) (As := [.int (1), .int (0), .int (1)]) (rest := []) S (by have h := c_X1_goes l G cI cZ cL a σ th hJ 1 0 1; rw [show sa_gc 1 0 1 = 2 from by decide, show sa_b ((2 : Int32) = 0) = 0 from by decide] at h; exact h) (cwV 3 hts gX1_addOrder_X1_goes rfl rfl rfl (by decide +kernel) ⟨Nat.le_of_ble_eq_true rfl, Nat.le_of_ble_eq_true rfl⟩) hP hK hS (fun _ h => h) (ci := 1) rfl rfl rfl hl.1 (Nat.le_of_ble_eq_true rfl) rfl dX1_addOrder_116 ⟨Nat.zero_le _, Nat.zero_le _⟩ (fun H locs hP hS _ _ => ?_)
                    refine lv_if_ne (tgt := 124) hx hb dX1_addOrder_119 (by decide) (fun c9 => absurd (by decide) c9) (fun _ => ?_)
                    refine lv_iconst (v := 0) hx hb dX1_addOrder_122 (by decide) ?_
                    exact W.iret (v := 0) hx hb hr (fun t9 ht _ => ⟨⟨_, (), rfl, (Eq.trans (b := ((2, 0, σ) : sa_R).2.1) rfl (congrArg (fun z : sa_R => z.2.1) (show sp_addOrder σ x1 x2 x3 x4 x5 x6 x7 = _ from sa_go2 ⟨b_4, b_14, b_23, (Or.inr (Or.inl c_40)), b_68, b_79, b_90⟩ (fun z9 => c_107 z9))).symm), by show va_P G vwCl (sa_W1 cI cZ a (sp_addOrder σ x1 x2 x3 x4 x5 x6 x7).2.2 (nI (sp_addOrder σ x1 x2 x3 x4 x5 x6 x7).1)) t9.heap; rw [ht]; exact (by rw [(show sp_addOrder σ x1 x2 x3 x4 x5 x6 x7 = _ from sa_go2 ⟨b_4, b_14, b_23, (Or.inr (Or.inl c_40)), b_68, b_79, b_90⟩ (fun z9 => c_107 z9))]; exact hP)⟩, hS.F ht⟩) hS.2.2 dX1_addOrder_123
                  · skip
                    have c_107 := Int32.not_le.mp c_107
                    have hn9 : σ.1 1 < 20 := sa_ltN (by omega) (by decide) c_107
                    refine lv_iconst (v := 1) hx hb dX1_addOrder_110 (by decide) ?_
                    refine lv_goto (tgt := 115) hx hb dX1_addOrder_111 (by decide) ?_
                    refine lv_iconst (v := 1) hx hb dX1_addOrder_115 (by decide) ?_
                    refine sa_kWr (wd' := sa_W1 cI cZ a σ 0) (r := 1) (As := [.int (1), .int (1), .int (1)]) (rest := []) S (by have h := c_X1_goes l G cI cZ cL a σ th hJ 1 1 1; rw [show sa_gc 1 1 1 = 0 from by decide, show sa_b ((0 : Int32) = 0) = 1 from by decide] at h; exact h) (cwV 3 hts gX1_addOrder_X1_goes rfl rfl rfl (by decide +kernel) ⟨Nat.le_of_ble_eq_true rfl, Nat.le_of_ble_eq_true rfl⟩) hP hK hS (fun _ h => h) (ci := 1) rfl rfl rfl hl.1 (Nat.le_of_ble_eq_true rfl) rfl dX1_addOrder_116 ⟨Nat.zero_le _, Nat.zero_le _⟩ (fun H locs hP hS _ _ => ?_)
                    refine lv_if_ne (tgt := 124) hx hb dX1_addOrder_119 (by decide) (fun _ => ?_) (fun c9 => absurd c9 (by decide))
                    refine lv_aload_n hx hb dX1_addOrder_124 rfl (lv_at hl 1 rfl) ?_
                    refine sa_g1_advertiser S hin hK hP (by decide +kernel) dX1_addOrder_125 ?_
                    refine lv_aload_n hx hb dX1_addOrder_128 rfl (lv_at hl 1 rfl) ?_
                    refine sa_g1_orders S hin hK hP (by decide +kernel) dX1_addOrder_129 ?_
                    refine lv_iload_n hx hb dX1_addOrder_132 rfl (lv_at hl 2 rfl) ?_
                    refine sa_stk (ws' := (sa_W1 cI cZ a (sa_f σ 4 (upd (σ.2 4) (σ.1 1) x1)) 0)) 4 S hK hP (sa_D1 hJ) hS rfl (by omega) (by decide) rfl dX1_addOrder_133 (fun H locs hP hS => ?_)
                    refine lv_aload_n hx hb dX1_addOrder_134 rfl (lv_at hl 1 rfl) ?_
                    refine sa_g1_category S hin hK hP (by decide +kernel) dX1_addOrder_135 ?_
                    refine lv_aload_n hx hb dX1_addOrder_138 rfl (lv_at hl 1 rfl) ?_
                    refine sa_g1_orders S hin hK hP (by decide +kernel) dX1_addOrder_139 ?_
                    show W p l e _ s m _ below meth c _ _ _ _ _ (F0 m 142 ls [.int (nI (σ.1 1)), .ref (a 5)])
                    refine lv_iload_n hx hb dX1_addOrder_142 rfl (lv_at hl 3 rfl) ?_
                    refine sa_stk (ws' := (sa_W1 cI cZ a (sa_f (sa_f σ 4 (upd (σ.2 4) (σ.1 1) x1)) 5 (upd (σ.2 5) (σ.1 1) x2)) 0)) 5 S hK hP (sa_D1 hJ) hS rfl (by omega) (by decide) rfl dX1_addOrder_143 (fun H locs hP hS => ?_)
                    refine lv_aload_n hx hb dX1_addOrder_144 rfl (lv_at hl 1 rfl) ?_
                    refine sa_g1_group S hin hK hP (by decide +kernel) dX1_addOrder_145 ?_
                    refine lv_aload_n hx hb dX1_addOrder_148 rfl (lv_at hl 1 rfl) ?_
                    refine sa_g1_orders S hin hK hP (by decide +kernel) dX1_addOrder_149 ?_
                    show W p l e _ s m _ below meth c _ _ _ _ _ (F0 m 152 ls [.int (nI (σ.1 1)), .ref (a 6)])
                    refine lv_iload_n hx hb dX1_addOrder_152 rfl (lv_at hl 4 rfl) ?_
                    refine sa_stk (ws' := (sa_W1 cI cZ a (sa_f (sa_f (sa_f σ 4 (upd (σ.2 4) (σ.1 1) x1)) 5 (upd (σ.2 5) (σ.1 1) x2)) 6 (upd (σ.2 6) (σ.1 1) x3)) 0)) 6 S hK hP (sa_D1 hJ) hS rfl (by omega) (by decide) rfl dX1_addOrder_153 (fun H locs hP hS => ?_)
                    refine lv_aload_n hx hb dX1_addOrder_154 rfl (lv_at hl 1 rfl) ?_
                    refine sa_g1_seconds S hin hK hP (by decide +kernel) dX1_addOrder_155 ?_
                    refine lv_aload_n hx hb dX1_addOrder_158 rfl (lv_at hl 1 rfl) ?_
                    refine sa_g1_orders S hin hK hP (by decide +kernel) dX1_addOrder_159 ?_
                    show W p l e _ s m _ below meth c _ _ _ _ _ (F0 m 162 ls [.int (nI (σ.1 1)), .ref (a 7)])
                    refine lv_iload hx hb dX1_addOrder_162 (lv_at hl 5 rfl) ?_
                    refine sa_stk (ws' := (sa_W1 cI cZ a (sa_f (sa_f (sa_f (sa_f σ 4 (upd (σ.2 4) (σ.1 1) x1)) 5 (upd (σ.2 5) (σ.1 1) x2)) 6 (upd (σ.2 6) (σ.1 1) x3)) 7 (upd (σ.2 7) (σ.1 1) x4)) 0)) 7 S hK hP (sa_D1 hJ) hS rfl (by omega) (by decide) rfl dX1_addOrder_164 (fun H locs hP hS => ?_)
                    refine lv_aload_n hx hb dX1_addOrder_165 rfl (lv_at hl 1 rfl) ?_
                    refine sa_g1_price S hin hK hP (by decide +kernel) dX1_addOrder_166 ?_
                    refine lv_aload_n hx hb dX1_addOrder_169 rfl (lv_at hl 1 rfl) ?_
                    refine sa_g1_orders S hin hK hP (by decide +kernel) dX1_addOrder_170 ?_
                    show W p l e _ s m _ below meth c _ _ _ _ _ (F0 m 173 ls [.int (nI (σ.1 1)), .ref (a 8)])
                    refine lv_iload hx hb dX1_addOrder_173 (lv_at hl 6 rfl) ?_
                    refine sa_stk (ws' := (sa_W1 cI cZ a (sa_f (sa_f (sa_f (sa_f (sa_f σ 4 (upd (σ.2 4) (σ.1 1) x1)) 5 (upd (σ.2 5) (σ.1 1) x2)) 6 (upd (σ.2 6) (σ.1 1) x3)) 7 (upd (σ.2 7) (σ.1 1) x4)) 8 (upd (σ.2 8) (σ.1 1) x5)) 0)) 8 S hK hP (sa_D1 hJ) hS rfl (by omega) (by decide) rfl dX1_addOrder_175 (fun H locs hP hS => ?_)
                    refine lv_aload_n hx hb dX1_addOrder_176 rfl (lv_at hl 1 rfl) ?_
                    refine sa_g1_promise S hin hK hP (by decide +kernel) dX1_addOrder_177 ?_
                    refine lv_aload_n hx hb dX1_addOrder_180 rfl (lv_at hl 1 rfl) ?_
                    refine sa_g1_orders S hin hK hP (by decide +kernel) dX1_addOrder_181 ?_
                    show W p l e _ s m _ below meth c _ _ _ _ _ (F0 m 184 ls [.int (nI (σ.1 1)), .ref (a 9)])
                    refine lv_iload hx hb dX1_addOrder_184 (lv_at hl 7 rfl) ?_
                    refine sa_stk (ws' := (sa_W1 cI cZ a (sa_f (sa_f (sa_f (sa_f (sa_f (sa_f σ 4 (upd (σ.2 4) (σ.1 1) x1)) 5 (upd (σ.2 5) (σ.1 1) x2)) 6 (upd (σ.2 6) (σ.1 1) x3)) 7 (upd (σ.2 7) (σ.1 1) x4)) 8 (upd (σ.2 8) (σ.1 1) x5)) 9 (upd (σ.2 9) (σ.1 1) x6)) 0)) 9 S hK hP (sa_D1 hJ) hS rfl (by omega) (by decide) rfl dX1_addOrder_186 (fun H locs hP hS => ?_)
                    refine lv_aload_n hx hb dX1_addOrder_187 rfl (lv_at hl 1 rfl) ?_
                    refine sa_g1_floor S hin hK hP (by decide +kernel) dX1_addOrder_188 ?_
                    refine lv_aload_n hx hb dX1_addOrder_191 rfl (lv_at hl 1 rfl) ?_
                    refine sa_g1_orders S hin hK hP (by decide +kernel) dX1_addOrder_192 ?_
                    show W p l e _ s m _ below meth c _ _ _ _ _ (F0 m 195 ls [.int (nI (σ.1 1)), .ref (a 10)])
                    refine lv_iload hx hb dX1_addOrder_195 (lv_at hl 8 rfl) ?_
                    refine sa_stk (ws' := (sa_W1 cI cZ a (sa_f (sa_f (sa_f (sa_f (sa_f (sa_f (sa_f σ 4 (upd (σ.2 4) (σ.1 1) x1)) 5 (upd (σ.2 5) (σ.1 1) x2)) 6 (upd (σ.2 6) (σ.1 1) x3)) 7 (upd (σ.2 7) (σ.1 1) x4)) 8 (upd (σ.2 8) (σ.1 1) x5)) 9 (upd (σ.2 9) (σ.1 1) x6)) 10 (upd (σ.2 10) (σ.1 1) x7)) 0)) 10 S hK hP (sa_D1 hJ) hS rfl (by omega) (by decide) rfl dX1_addOrder_197 (fun H locs hP hS => ?_)
                    refine lv_aload_n hx hb dX1_addOrder_198 rfl (lv_at hl 1 rfl) ?_
                    refine lv_dup hx hb dX1_addOrder_199 rfl ?_
                    refine sa_g1_orders S hin hK hP (by decide +kernel) dX1_addOrder_200 ?_
                    show W p l e _ s m _ below meth c _ _ _ _ _ (F0 m 203 ls [.int (nI (σ.1 1)), .ref (a 0)])
                    refine lv_iconst (v := 1) hx hb dX1_addOrder_203 (by decide) ?_
                    refine sa_iadd1 hx hb dX1_addOrder_204 ?_
                    refine sa_p1_orders (v := σ.1 1 + 1) rfl S hin hK hP (sa_D1 hJ) hS (by decide +kernel) dX1_addOrder_205 (fun H locs hP hS => ?_)
                    refine lv_aload_n hx hb dX1_addOrder_208 rfl (lv_at hl 1 rfl) ?_
                    refine sa_g1_orders S hin hK hP (by decide +kernel) dX1_addOrder_209 ?_
                    show W p l e _ s m _ below meth c _ _ _ _ _ (F0 m 212 ls [.int (nI (σ.1 1 + 1))])
                    refine lv_iconst (v := 1) hx hb dX1_addOrder_212 (by decide) ?_
                    refine sa_isub1 hx hb dX1_addOrder_213 ?_
                    exact W.iret (v := nI (σ.1 1)) hx hb hr (fun t9 ht _ => ⟨⟨_, (), rfl, (Eq.trans (b := (0, nI (σ.1 1), sa_ord σ x1 x2 x3 x4 x5 x6 x7).2.1) rfl (congrArg (fun z : sa_R => z.2.1) (show sp_addOrder σ x1 x2 x3 x4 x5 x6 x7 = _ from sa_go0 ⟨b_4, b_14, b_23, (Or.inr (Or.inl c_40)), b_68, b_79, b_90⟩ c_107 trivial)).symm), by show va_P G vwCl (sa_W1 cI cZ a (sp_addOrder σ x1 x2 x3 x4 x5 x6 x7).2.2 (nI (sp_addOrder σ x1 x2 x3 x4 x5 x6 x7).1)) t9.heap; rw [ht]; exact (by rw [(show sp_addOrder σ x1 x2 x3 x4 x5 x6 x7 = _ from sa_go0 ⟨b_4, b_14, b_23, (Or.inr (Or.inl c_40)), b_68, b_79, b_90⟩ c_107 trivial)]; exact hP)⟩, hS.F ht⟩) hS.2.2 dX1_addOrder_214
                · skip
                  refine lv_if_eq (tgt := 100) hx hb dX1_addOrder_93 (by decide) (fun _ => ?_) (fun c9 => absurd (by decide) c9)
                  refine lv_iconst (v := 0) hx hb dX1_addOrder_100 (by decide) ?_
                  refine lv_aload_n hx hb dX1_addOrder_101 rfl (lv_at hl 1 rfl) ?_
                  refine sa_g1_orders S hin hK hP (by decide +kernel) dX1_addOrder_102 ?_
                  refine lv_bipush (v := 20) hx hb dX1_addOrder_105 (by decide) ?_
                  refine lv_icmp_ge (tgt := 114) hx hb dX1_addOrder_107 (by decide) (fun c_107 => ?_) (fun c_107 => ?_)
                  · skip
                    have c_107 := Int32.not_lt.mpr c_107
                    refine lv_iconst (v := 0) hx hb dX1_addOrder_114 (by decide) ?_
                    refine lv_iconst (v := 1) hx hb dX1_addOrder_115 (by decide) ?_
                    refine sa_kWr (wd' := sa_W1 cI cZ a σ 1) (r := 0) (As := [.int (0), .int (0), .int (1)]) (rest := []) S (by have h := c_X1_goes l G cI cZ cL a σ th hJ 0 0 1; rw [show sa_gc 0 0 1 = 1 from by decide, show sa_b ((1 : Int32) = 0) = 0 from by decide] at h; exact h) (cwV 3 hts gX1_addOrder_X1_goes rfl rfl rfl (by decide +kernel) ⟨Nat.le_of_ble_eq_true rfl, Nat.le_of_ble_eq_true rfl⟩) hP hK hS (fun _ h => h) (ci := 1) rfl rfl rfl hl.1 (Nat.le_of_ble_eq_true rfl) rfl dX1_addOrder_116 ⟨Nat.zero_le _, Nat.zero_le _⟩ (fun H locs hP hS _ _ => ?_)
                    refine lv_if_ne (tgt := 124) hx hb dX1_addOrder_119 (by decide) (fun c9 => absurd (by decide) c9) (fun _ => ?_)
                    refine lv_iconst (v := 0) hx hb dX1_addOrder_122 (by decide) ?_
                    exact W.iret (v := 0) hx hb hr (fun t9 ht _ => ⟨⟨_, (), rfl, (Eq.trans (b := ((1, 0, σ) : sa_R).2.1) rfl (congrArg (fun z : sa_R => z.2.1) (show sp_addOrder σ x1 x2 x3 x4 x5 x6 x7 = _ from sa_go1 (fun z9 => b_90 z9.2.2.2.2.2.2))).symm), by show va_P G vwCl (sa_W1 cI cZ a (sp_addOrder σ x1 x2 x3 x4 x5 x6 x7).2.2 (nI (sp_addOrder σ x1 x2 x3 x4 x5 x6 x7).1)) t9.heap; rw [ht]; exact (by rw [(show sp_addOrder σ x1 x2 x3 x4 x5 x6 x7 = _ from sa_go1 (fun z9 => b_90 z9.2.2.2.2.2.2))]; exact hP)⟩, hS.F ht⟩) hS.2.2 dX1_addOrder_123
                  · skip
                    have c_107 := Int32.not_le.mp c_107
                    have hn9 : σ.1 1 < 20 := sa_ltN (by omega) (by decide) c_107
                    refine lv_iconst (v := 1) hx hb dX1_addOrder_110 (by decide) ?_
                    refine lv_goto (tgt := 115) hx hb dX1_addOrder_111 (by decide) ?_
                    refine lv_iconst (v := 1) hx hb dX1_addOrder_115 (by decide) ?_
                    refine sa_kWr (wd' := sa_W1 cI cZ a σ 1) (r := 0) (As := [.int (0), .int (1), .int (1)]) (rest := []) S (by have h := c_X1_goes l G cI cZ cL a σ th hJ 0 1 1; rw [show sa_gc 0 1 1 = 1 from by decide, show sa_b ((1 : Int32) = 0) = 0 from by decide] at h; exact h) (cwV 3 hts gX1_addOrder_X1_goes rfl rfl rfl (by decide +kernel) ⟨Nat.le_of_ble_eq_true rfl, Nat.le_of_ble_eq_true rfl⟩) hP hK hS (fun _ h => h) (ci := 1) rfl rfl rfl hl.1 (Nat.le_of_ble_eq_true rfl) rfl dX1_addOrder_116 ⟨Nat.zero_le _, Nat.zero_le _⟩ (fun H locs hP hS _ _ => ?_)
                    refine lv_if_ne (tgt := 124) hx hb dX1_addOrder_119 (by decide) (fun c9 => absurd (by decide) c9) (fun _ => ?_)
                    refine lv_iconst (v := 0) hx hb dX1_addOrder_122 (by decide) ?_
                    exact W.iret (v := 0) hx hb hr (fun t9 ht _ => ⟨⟨_, (), rfl, (Eq.trans (b := ((1, 0, σ) : sa_R).2.1) rfl (congrArg (fun z : sa_R => z.2.1) (show sp_addOrder σ x1 x2 x3 x4 x5 x6 x7 = _ from sa_go1 (fun z9 => b_90 z9.2.2.2.2.2.2))).symm), by show va_P G vwCl (sa_W1 cI cZ a (sp_addOrder σ x1 x2 x3 x4 x5 x6 x7).2.2 (nI (sp_addOrder σ x1 x2 x3 x4 x5 x6 x7).1)) t9.heap; rw [ht]; exact (by rw [(show sp_addOrder σ x1 x2 x3 x4 x5 x6 x7 = _ from sa_go1 (fun z9 => b_90 z9.2.2.2.2.2.2))]; exact hP)⟩, hS.F ht⟩) hS.2.2 dX1_addOrder_123
              · skip
                refine lv_if_eq (tgt := 100) hx hb dX1_addOrder_82 (by decide) (fun _ => ?_) (fun c9 => absurd (by decide) c9)
                refine lv_iconst (v := 0) hx hb dX1_addOrder_100 (by decide) ?_
                refine lv_aload_n hx hb dX1_addOrder_101 rfl (lv_at hl 1 rfl) ?_
                refine sa_g1_orders S hin hK hP (by decide +kernel) dX1_addOrder_102 ?_
                refine lv_bipush (v := 20) hx hb dX1_addOrder_105 (by decide) ?_
                refine lv_icmp_ge (tgt := 114) hx hb dX1_addOrder_107 (by decide) (fun c_107 => ?_) (fun c_107 => ?_)
                · skip
                  have c_107 := Int32.not_lt.mpr c_107
                  refine lv_iconst (v := 0) hx hb dX1_addOrder_114 (by decide) ?_
                  refine lv_iconst (v := 1) hx hb dX1_addOrder_115 (by decide) ?_
                  refine sa_kWr (wd' := sa_W1 cI cZ a σ 1) (r := 0) (As := [.int (0), .int (0), .int (1)]) (rest := []) S (by have h := c_X1_goes l G cI cZ cL a σ th hJ 0 0 1; rw [show sa_gc 0 0 1 = 1 from by decide, show sa_b ((1 : Int32) = 0) = 0 from by decide] at h; exact h) (cwV 3 hts gX1_addOrder_X1_goes rfl rfl rfl (by decide +kernel) ⟨Nat.le_of_ble_eq_true rfl, Nat.le_of_ble_eq_true rfl⟩) hP hK hS (fun _ h => h) (ci := 1) rfl rfl rfl hl.1 (Nat.le_of_ble_eq_true rfl) rfl dX1_addOrder_116 ⟨Nat.zero_le _, Nat.zero_le _⟩ (fun H locs hP hS _ _ => ?_)
                  refine lv_if_ne (tgt := 124) hx hb dX1_addOrder_119 (by decide) (fun c9 => absurd (by decide) c9) (fun _ => ?_)
                  refine lv_iconst (v := 0) hx hb dX1_addOrder_122 (by decide) ?_
                  exact W.iret (v := 0) hx hb hr (fun t9 ht _ => ⟨⟨_, (), rfl, (Eq.trans (b := ((1, 0, σ) : sa_R).2.1) rfl (congrArg (fun z : sa_R => z.2.1) (show sp_addOrder σ x1 x2 x3 x4 x5 x6 x7 = _ from sa_go1 (fun z9 => b_79 z9.2.2.2.2.2.1))).symm), by show va_P G vwCl (sa_W1 cI cZ a (sp_addOrder σ x1 x2 x3 x4 x5 x6 x7).2.2 (nI (sp_addOrder σ x1 x2 x3 x4 x5 x6 x7).1)) t9.heap; rw [ht]; exact (by rw [(show sp_addOrder σ x1 x2 x3 x4 x5 x6 x7 = _ from sa_go1 (fun z9 => b_79 z9.2.2.2.2.2.1))]; exact hP)⟩, hS.F ht⟩) hS.2.2 dX1_addOrder_123
                · skip
                  have c_107 := Int32.not_le.mp c_107
                  have hn9 : σ.1 1 < 20 := sa_ltN (by omega) (by decide) c_107
                  refine lv_iconst (v := 1) hx hb dX1_addOrder_110 (by decide) ?_
                  refine lv_goto (tgt := 115) hx hb dX1_addOrder_111 (by decide) ?_
                  refine lv_iconst (v := 1) hx hb dX1_addOrder_115 (by decide) ?_
                  refine sa_kWr (wd' := sa_W1 cI cZ a σ 1) (r := 0) (As := [.int (0), .int (1), .int (1)]) (rest := []) S (by have h := c_X1_goes l G cI cZ cL a σ th hJ 0 1 1; rw [show sa_gc 0 1 1 = 1 from by decide, show sa_b ((1 : Int32) = 0) = 0 from by decide] at h; exact h) (cwV 3 hts gX1_addOrder_X1_goes rfl rfl rfl (by decide +kernel) ⟨Nat.le_of_ble_eq_true rfl, Nat.le_of_ble_eq_true rfl⟩) hP hK hS (fun _ h => h) (ci := 1) rfl rfl rfl hl.1 (Nat.le_of_ble_eq_true rfl) rfl dX1_addOrder_116 ⟨Nat.zero_le _, Nat.zero_le _⟩ (fun H locs hP hS _ _ => ?_)
                  refine lv_if_ne (tgt := 124) hx hb dX1_addOrder_119 (by decide) (fun c9 => absurd (by decide) c9) (fun _ => ?_)
                  refine lv_iconst (v := 0) hx hb dX1_addOrder_122 (by decide) ?_
                  exact W.iret (v := 0) hx hb hr (fun t9 ht _ => ⟨⟨_, (), rfl, (Eq.trans (b := ((1, 0, σ) : sa_R).2.1) rfl (congrArg (fun z : sa_R => z.2.1) (show sp_addOrder σ x1 x2 x3 x4 x5 x6 x7 = _ from sa_go1 (fun z9 => b_79 z9.2.2.2.2.2.1))).symm), by show va_P G vwCl (sa_W1 cI cZ a (sp_addOrder σ x1 x2 x3 x4 x5 x6 x7).2.2 (nI (sp_addOrder σ x1 x2 x3 x4 x5 x6 x7).1)) t9.heap; rw [ht]; exact (by rw [(show sp_addOrder σ x1 x2 x3 x4 x5 x6 x7 = _ from sa_go1 (fun z9 => b_79 z9.2.2.2.2.2.1))]; exact hP)⟩, hS.F ht⟩) hS.2.2 dX1_addOrder_123
            · skip
              refine lv_if_eq (tgt := 100) hx hb dX1_addOrder_71 (by decide) (fun _ => ?_) (fun c9 => absurd (by decide) c9)
              refine lv_iconst (v := 0) hx hb dX1_addOrder_100 (by decide) ?_
              refine lv_aload_n hx hb dX1_addOrder_101 rfl (lv_at hl 1 rfl) ?_
              refine sa_g1_orders S hin hK hP (by decide +kernel) dX1_addOrder_102 ?_
              refine lv_bipush (v := 20) hx hb dX1_addOrder_105 (by decide) ?_
              refine lv_icmp_ge (tgt := 114) hx hb dX1_addOrder_107 (by decide) (fun c_107 => ?_) (fun c_107 => ?_)
              · skip
                have c_107 := Int32.not_lt.mpr c_107
                refine lv_iconst (v := 0) hx hb dX1_addOrder_114 (by decide) ?_
                refine lv_iconst (v := 1) hx hb dX1_addOrder_115 (by decide) ?_
                refine sa_kWr (wd' := sa_W1 cI cZ a σ 1) (r := 0) (As := [.int (0), .int (0), .int (1)]) (rest := []) S (by have h := c_X1_goes l G cI cZ cL a σ th hJ 0 0 1; rw [show sa_gc 0 0 1 = 1 from by decide, show sa_b ((1 : Int32) = 0) = 0 from by decide] at h; exact h) (cwV 3 hts gX1_addOrder_X1_goes rfl rfl rfl (by decide +kernel) ⟨Nat.le_of_ble_eq_true rfl, Nat.le_of_ble_eq_true rfl⟩) hP hK hS (fun _ h => h) (ci := 1) rfl rfl rfl hl.1 (Nat.le_of_ble_eq_true rfl) rfl dX1_addOrder_116 ⟨Nat.zero_le _, Nat.zero_le _⟩ (fun H locs hP hS _ _ => ?_)
                refine lv_if_ne (tgt := 124) hx hb dX1_addOrder_119 (by decide) (fun c9 => absurd (by decide) c9) (fun _ => ?_)
                refine lv_iconst (v := 0) hx hb dX1_addOrder_122 (by decide) ?_
                exact W.iret (v := 0) hx hb hr (fun t9 ht _ => ⟨⟨_, (), rfl, (Eq.trans (b := ((1, 0, σ) : sa_R).2.1) rfl (congrArg (fun z : sa_R => z.2.1) (show sp_addOrder σ x1 x2 x3 x4 x5 x6 x7 = _ from sa_go1 (fun z9 => b_68 z9.2.2.2.2.1))).symm), by show va_P G vwCl (sa_W1 cI cZ a (sp_addOrder σ x1 x2 x3 x4 x5 x6 x7).2.2 (nI (sp_addOrder σ x1 x2 x3 x4 x5 x6 x7).1)) t9.heap; rw [ht]; exact (by rw [(show sp_addOrder σ x1 x2 x3 x4 x5 x6 x7 = _ from sa_go1 (fun z9 => b_68 z9.2.2.2.2.1))]; exact hP)⟩, hS.F ht⟩) hS.2.2 dX1_addOrder_123
              · skip
                have c_107 := Int32.not_le.mp c_107
                have hn9 : σ.1 1 < 20 := sa_ltN (by omega) (by decide) c_107
                refine lv_iconst (v := 1) hx hb dX1_addOrder_110 (by decide) ?_
                refine lv_goto (tgt := 115) hx hb dX1_addOrder_111 (by decide) ?_
                refine lv_iconst (v := 1) hx hb dX1_addOrder_115 (by decide) ?_
                refine sa_kWr (wd' := sa_W1 cI cZ a σ 1) (r := 0) (As := [.int (0), .int (1), .int (1)]) (rest := []) S (by have h := c_X1_goes l G cI cZ cL a σ th hJ 0 1 1; rw [show sa_gc 0 1 1 = 1 from by decide, show sa_b ((1 : Int32) = 0) = 0 from by decide] at h; exact h) (cwV 3 hts gX1_addOrder_X1_goes rfl rfl rfl (by decide +kernel) ⟨Nat.le_of_ble_eq_true rfl, Nat.le_of_ble_eq_true rfl⟩) hP hK hS (fun _ h => h) (ci := 1) rfl rfl rfl hl.1 (Nat.le_of_ble_eq_true rfl) rfl dX1_addOrder_116 ⟨Nat.zero_le _, Nat.zero_le _⟩ (fun H locs hP hS _ _ => ?_)
                refine lv_if_ne (tgt := 124) hx hb dX1_addOrder_119 (by decide) (fun c9 => absurd (by decide) c9) (fun _ => ?_)
                refine lv_iconst (v := 0) hx hb dX1_addOrder_122 (by decide) ?_
                exact W.iret (v := 0) hx hb hr (fun t9 ht _ => ⟨⟨_, (), rfl, (Eq.trans (b := ((1, 0, σ) : sa_R).2.1) rfl (congrArg (fun z : sa_R => z.2.1) (show sp_addOrder σ x1 x2 x3 x4 x5 x6 x7 = _ from sa_go1 (fun z9 => b_68 z9.2.2.2.2.1))).symm), by show va_P G vwCl (sa_W1 cI cZ a (sp_addOrder σ x1 x2 x3 x4 x5 x6 x7).2.2 (nI (sp_addOrder σ x1 x2 x3 x4 x5 x6 x7).1)) t9.heap; rw [ht]; exact (by rw [(show sp_addOrder σ x1 x2 x3 x4 x5 x6 x7 = _ from sa_go1 (fun z9 => b_68 z9.2.2.2.2.1))]; exact hP)⟩, hS.F ht⟩) hS.2.2 dX1_addOrder_123
          · skip
            refine lv_iload hx hb dX1_addOrder_43 (lv_at hl 4 rfl) ?_
            refine lv_bipush (v := 60) hx hb dX1_addOrder_45 (by decide) ?_
            refine lv_icmp_ne (tgt := 54) hx hb dX1_addOrder_47 (by decide) (fun c_47 => ?_) (fun c_47 => ?_)
            · skip
              refine lv_iconst (v := 0) hx hb dX1_addOrder_54 (by decide) ?_
              refine lv_istore (lv' := [(8, .int (0)), (0, .ref (a 0)), (1, .int (x1)), (2, .int (x2)), (3, .int (x3)), (4, .int (x4)), (5, .int (x5)), (6, .int (x6)), (7, .int (x7))]) hx hb dX1_addOrder_55 hl (by decide) rfl (fun ls hl => ?_)
              refine lv_aload_n hx hb dX1_addOrder_57 rfl (lv_at hl 1 rfl) ?_
              refine lv_iload hx hb dX1_addOrder_58 (lv_at hl 0 rfl) ?_
              refine lv_if_eq (tgt := 100) hx hb dX1_addOrder_60 (by decide) (fun _ => ?_) (fun c9 => absurd (by decide) c9)
              refine lv_iconst (v := 0) hx hb dX1_addOrder_100 (by decide) ?_
              refine lv_aload_n hx hb dX1_addOrder_101 rfl (lv_at hl 1 rfl) ?_
              refine sa_g1_orders S hin hK hP (by decide +kernel) dX1_addOrder_102 ?_
              refine lv_bipush (v := 20) hx hb dX1_addOrder_105 (by decide) ?_
              refine lv_icmp_ge (tgt := 114) hx hb dX1_addOrder_107 (by decide) (fun c_107 => ?_) (fun c_107 => ?_)
              · skip
                have c_107 := Int32.not_lt.mpr c_107
                refine lv_iconst (v := 0) hx hb dX1_addOrder_114 (by decide) ?_
                refine lv_iconst (v := 1) hx hb dX1_addOrder_115 (by decide) ?_
                refine sa_kWr (wd' := sa_W1 cI cZ a σ 1) (r := 0) (As := [.int (0), .int (0), .int (1)]) (rest := []) S (by have h := c_X1_goes l G cI cZ cL a σ th hJ 0 0 1; rw [show sa_gc 0 0 1 = 1 from by decide, show sa_b ((1 : Int32) = 0) = 0 from by decide] at h; exact h) (cwV 3 hts gX1_addOrder_X1_goes rfl rfl rfl (by decide +kernel) ⟨Nat.le_of_ble_eq_true rfl, Nat.le_of_ble_eq_true rfl⟩) hP hK hS (fun _ h => h) (ci := 1) rfl rfl rfl hl.1 (Nat.le_of_ble_eq_true rfl) rfl dX1_addOrder_116 ⟨Nat.zero_le _, Nat.zero_le _⟩ (fun H locs hP hS _ _ => ?_)
                refine lv_if_ne (tgt := 124) hx hb dX1_addOrder_119 (by decide) (fun c9 => absurd (by decide) c9) (fun _ => ?_)
                refine lv_iconst (v := 0) hx hb dX1_addOrder_122 (by decide) ?_
                exact W.iret (v := 0) hx hb hr (fun t9 ht _ => ⟨⟨_, (), rfl, (Eq.trans (b := ((1, 0, σ) : sa_R).2.1) rfl (congrArg (fun z : sa_R => z.2.1) (show sp_addOrder σ x1 x2 x3 x4 x5 x6 x7 = _ from sa_go1 (fun z9 => (fun q => Or.elim q c_33 (fun q => Or.elim q c_40 c_47)) z9.2.2.2.1))).symm), by show va_P G vwCl (sa_W1 cI cZ a (sp_addOrder σ x1 x2 x3 x4 x5 x6 x7).2.2 (nI (sp_addOrder σ x1 x2 x3 x4 x5 x6 x7).1)) t9.heap; rw [ht]; exact (by rw [(show sp_addOrder σ x1 x2 x3 x4 x5 x6 x7 = _ from sa_go1 (fun z9 => (fun q => Or.elim q c_33 (fun q => Or.elim q c_40 c_47)) z9.2.2.2.1))]; exact hP)⟩, hS.F ht⟩) hS.2.2 dX1_addOrder_123
              · skip
                have c_107 := Int32.not_le.mp c_107
                have hn9 : σ.1 1 < 20 := sa_ltN (by omega) (by decide) c_107
                refine lv_iconst (v := 1) hx hb dX1_addOrder_110 (by decide) ?_
                refine lv_goto (tgt := 115) hx hb dX1_addOrder_111 (by decide) ?_
                refine lv_iconst (v := 1) hx hb dX1_addOrder_115 (by decide) ?_
                refine sa_kWr (wd' := sa_W1 cI cZ a σ 1) (r := 0) (As := [.int (0), .int (1), .int (1)]) (rest := []) S (by have h := c_X1_goes l G cI cZ cL a σ th hJ 0 1 1; rw [show sa_gc 0 1 1 = 1 from by decide, show sa_b ((1 : Int32) = 0) = 0 from by decide] at h; exact h) (cwV 3 hts gX1_addOrder_X1_goes rfl rfl rfl (by decide +kernel) ⟨Nat.le_of_ble_eq_true rfl, Nat.le_of_ble_eq_true rfl⟩) hP hK hS (fun _ h => h) (ci := 1) rfl rfl rfl hl.1 (Nat.le_of_ble_eq_true rfl) rfl dX1_addOrder_116 ⟨Nat.zero_le _, Nat.zero_le _⟩ (fun H locs hP hS _ _ => ?_)
                refine lv_if_ne (tgt := 124) hx hb dX1_addOrder_119 (by decide) (fun c9 => absurd (by decide) c9) (fun _ => ?_)
                refine lv_iconst (v := 0) hx hb dX1_addOrder_122 (by decide) ?_
                exact W.iret (v := 0) hx hb hr (fun t9 ht _ => ⟨⟨_, (), rfl, (Eq.trans (b := ((1, 0, σ) : sa_R).2.1) rfl (congrArg (fun z : sa_R => z.2.1) (show sp_addOrder σ x1 x2 x3 x4 x5 x6 x7 = _ from sa_go1 (fun z9 => (fun q => Or.elim q c_33 (fun q => Or.elim q c_40 c_47)) z9.2.2.2.1))).symm), by show va_P G vwCl (sa_W1 cI cZ a (sp_addOrder σ x1 x2 x3 x4 x5 x6 x7).2.2 (nI (sp_addOrder σ x1 x2 x3 x4 x5 x6 x7).1)) t9.heap; rw [ht]; exact (by rw [(show sp_addOrder σ x1 x2 x3 x4 x5 x6 x7 = _ from sa_go1 (fun z9 => (fun q => Or.elim q c_33 (fun q => Or.elim q c_40 c_47)) z9.2.2.2.1))]; exact hP)⟩, hS.F ht⟩) hS.2.2 dX1_addOrder_123
            · skip
              refine lv_iconst (v := 1) hx hb dX1_addOrder_50 (by decide) ?_
              refine lv_goto (tgt := 55) hx hb dX1_addOrder_51 (by decide) ?_
              refine lv_istore (lv' := [(8, .int (1)), (0, .ref (a 0)), (1, .int (x1)), (2, .int (x2)), (3, .int (x3)), (4, .int (x4)), (5, .int (x5)), (6, .int (x6)), (7, .int (x7))]) hx hb dX1_addOrder_55 hl (by decide) rfl (fun ls hl => ?_)
              refine lv_aload_n hx hb dX1_addOrder_57 rfl (lv_at hl 1 rfl) ?_
              refine lv_iload hx hb dX1_addOrder_58 (lv_at hl 0 rfl) ?_
              refine lv_if_eq (tgt := 100) hx hb dX1_addOrder_60 (by decide) (fun c9 => absurd c9 (by decide)) (fun _ => ?_)
              refine lv_iload hx hb dX1_addOrder_63 (lv_at hl 6 rfl) ?_
              refine lv_iconst (v := 0) hx hb dX1_addOrder_65 (by decide) ?_
              refine lv_ldc (v := 1000000) hx hb hown (hts (.constant RX1 94 (1000000)) (by decide +kernel)) dX1_addOrder_66 ?_
              refine sa_kRs (As := [.int (x5), .int (0), .int (1000000)]) (rest := [.ref (a 0)]) S (c_X1_in l x5 0 1000000) (va_cwS 3 hts gX1_addOrder_X1_in rfl rfl rfl (by decide +kernel) ⟨Nat.le_of_ble_eq_true rfl, Nat.le_of_ble_eq_true rfl⟩) rfl hl.1 (Nat.le_of_ble_eq_true rfl) rfl dX1_addOrder_68 ⟨Nat.zero_le _, Nat.zero_le _⟩ ?_
              refine sa_spl (fun b_68 => ?_) (fun b_68 => ?_)
              · skip
                refine lv_if_eq (tgt := 100) hx hb dX1_addOrder_71 (by decide) (fun c9 => absurd c9 (by decide)) (fun _ => ?_)
                refine lv_iload hx hb dX1_addOrder_74 (lv_at hl 7 rfl) ?_
                refine lv_iconst (v := 0) hx hb dX1_addOrder_76 (by decide) ?_
                refine lv_ldc (v := 1000000) hx hb hown (hts (.constant RX1 94 (1000000)) (by decide +kernel)) dX1_addOrder_77 ?_
                refine sa_kRs (As := [.int (x6), .int (0), .int (1000000)]) (rest := [.ref (a 0)]) S (c_X1_in l x6 0 1000000) (va_cwS 3 hts gX1_addOrder_X1_in rfl rfl rfl (by decide +kernel) ⟨Nat.le_of_ble_eq_true rfl, Nat.le_of_ble_eq_true rfl⟩) rfl hl.1 (Nat.le_of_ble_eq_true rfl) rfl dX1_addOrder_79 ⟨Nat.zero_le _, Nat.zero_le _⟩ ?_
                refine sa_spl (fun b_79 => ?_) (fun b_79 => ?_)
                · skip
                  refine lv_if_eq (tgt := 100) hx hb dX1_addOrder_82 (by decide) (fun c9 => absurd c9 (by decide)) (fun _ => ?_)
                  refine lv_iload hx hb dX1_addOrder_85 (lv_at hl 8 rfl) ?_
                  refine lv_iconst (v := 0) hx hb dX1_addOrder_87 (by decide) ?_
                  refine lv_ldc (v := 100000) hx hb hown (hts (.constant RX1 81 (100000)) (by decide +kernel)) dX1_addOrder_88 ?_
                  refine sa_kRs (As := [.int (x7), .int (0), .int (100000)]) (rest := [.ref (a 0)]) S (c_X1_in l x7 0 100000) (va_cwS 3 hts gX1_addOrder_X1_in rfl rfl rfl (by decide +kernel) ⟨Nat.le_of_ble_eq_true rfl, Nat.le_of_ble_eq_true rfl⟩) rfl hl.1 (Nat.le_of_ble_eq_true rfl) rfl dX1_addOrder_90 ⟨Nat.zero_le _, Nat.zero_le _⟩ ?_
                  refine sa_spl (fun b_90 => ?_) (fun b_90 => ?_)
                  · skip
                    refine lv_if_eq (tgt := 100) hx hb dX1_addOrder_93 (by decide) (fun c9 => absurd c9 (by decide)) (fun _ => ?_)
                    refine lv_iconst (v := 1) hx hb dX1_addOrder_96 (by decide) ?_
                    refine lv_goto (tgt := 101) hx hb dX1_addOrder_97 (by decide) ?_
                    refine lv_aload_n hx hb dX1_addOrder_101 rfl (lv_at hl 1 rfl) ?_
                    refine sa_g1_orders S hin hK hP (by decide +kernel) dX1_addOrder_102 ?_
                    refine lv_bipush (v := 20) hx hb dX1_addOrder_105 (by decide) ?_
                    refine lv_icmp_ge (tgt := 114) hx hb dX1_addOrder_107 (by decide) (fun c_107 => ?_) (fun c_107 => ?_)
                    · skip
                      have c_107 := Int32.not_lt.mpr c_107
                      refine lv_iconst (v := 0) hx hb dX1_addOrder_114 (by decide) ?_
                      refine lv_iconst (v := 1) hx hb dX1_addOrder_115 (by decide) ?_
                      refine sa_kWr (wd' := sa_W1 cI cZ a σ 2) (r := 0) (As := [.int (1), .int (0), .int (1)]) (rest := []) S (by have h := c_X1_goes l G cI cZ cL a σ th hJ 1 0 1; rw [show sa_gc 1 0 1 = 2 from by decide, show sa_b ((2 : Int32) = 0) = 0 from by decide] at h; exact h) (cwV 3 hts gX1_addOrder_X1_goes rfl rfl rfl (by decide +kernel) ⟨Nat.le_of_ble_eq_true rfl, Nat.le_of_ble_eq_true rfl⟩) hP hK hS (fun _ h => h) (ci := 1) rfl rfl rfl hl.1 (Nat.le_of_ble_eq_true rfl) rfl dX1_addOrder_116 ⟨Nat.zero_le _, Nat.zero_le _⟩ (fun H locs hP hS _ _ => ?_)
                      refine lv_if_ne (tgt := 124) hx hb dX1_addOrder_119 (by decide) (fun c9 => absurd (by decide) c9) (fun _ => ?_)
                      refine lv_iconst (v := 0) hx hb dX1_addOrder_122 (by decide) ?_
                      exact W.iret (v := 0) hx hb hr (fun t9 ht _ => ⟨⟨_, (), rfl, (Eq.trans (b := ((2, 0, σ) : sa_R).2.1) rfl (congrArg (fun z : sa_R => z.2.1) (show sp_addOrder σ x1 x2 x3 x4 x5 x6 x7 = _ from sa_go2 ⟨b_4, b_14, b_23, (Or.inr (Or.inr (c_47))), b_68, b_79, b_90⟩ (fun z9 => c_107 z9))).symm), by show va_P G vwCl (sa_W1 cI cZ a (sp_addOrder σ x1 x2 x3 x4 x5 x6 x7).2.2 (nI (sp_addOrder σ x1 x2 x3 x4 x5 x6 x7).1)) t9.heap; rw [ht]; exact (by rw [(show sp_addOrder σ x1 x2 x3 x4 x5 x6 x7 = _ from sa_go2 ⟨b_4, b_14, b_23, (Or.inr (Or.inr (c_47))), b_68, b_79, b_90⟩ (fun z9 => c_107 z9))]; exact hP)⟩, hS.F ht⟩) hS.2.2 dX1_addOrder_123
                    · skip
                      have c_107 := Int32.not_le.mp c_107
                      have hn9 : σ.1 1 < 20 := sa_ltN (by omega) (by decide) c_107
                      refine lv_iconst (v := 1) hx hb dX1_addOrder_110 (by decide) ?_
                      refine lv_goto (tgt := 115) hx hb dX1_addOrder_111 (by decide) ?_
                      refine lv_iconst (v := 1) hx hb dX1_addOrder_115 (by decide) ?_
                      refine sa_kWr (wd' := sa_W1 cI cZ a σ 0) (r := 1) (As := [.int (1), .int (1), .int (1)]) (rest := []) S (by have h := c_X1_goes l G cI cZ cL a σ th hJ 1 1 1; rw [show sa_gc 1 1 1 = 0 from by decide, show sa_b ((0 : Int32) = 0) = 1 from by decide] at h; exact h) (cwV 3 hts gX1_addOrder_X1_goes rfl rfl rfl (by decide +kernel) ⟨Nat.le_of_ble_eq_true rfl, Nat.le_of_ble_eq_true rfl⟩) hP hK hS (fun _ h => h) (ci := 1) rfl rfl rfl hl.1 (Nat.le_of_ble_eq_true rfl) rfl dX1_addOrder_116 ⟨Nat.zero_le _, Nat.zero_le _⟩ (fun H locs hP hS _ _ => ?_)
                      refine lv_if_ne (tgt := 124) hx hb dX1_addOrder_119 (by decide) (fun _ => ?_) (fun c9 => absurd c9 (by decide))
                      refine lv_aload_n hx hb dX1_addOrder_124 rfl (lv_at hl 1 rfl) ?_
                      refine sa_g1_advertiser S hin hK hP (by decide +kernel) dX1_addOrder_125 ?_
                      refine lv_aload_n hx hb dX1_addOrder_128 rfl (lv_at hl 1 rfl) ?_
                      refine sa_g1_orders S hin hK hP (by decide +kernel) dX1_addOrder_129 ?_
                      refine lv_iload_n hx hb dX1_addOrder_132 rfl (lv_at hl 2 rfl) ?_
                      refine sa_stk (ws' := (sa_W1 cI cZ a (sa_f σ 4 (upd (σ.2 4) (σ.1 1) x1)) 0)) 4 S hK hP (sa_D1 hJ) hS rfl (by omega) (by decide) rfl dX1_addOrder_133 (fun H locs hP hS => ?_)
                      refine lv_aload_n hx hb dX1_addOrder_134 rfl (lv_at hl 1 rfl) ?_
                      refine sa_g1_category S hin hK hP (by decide +kernel) dX1_addOrder_135 ?_
                      refine lv_aload_n hx hb dX1_addOrder_138 rfl (lv_at hl 1 rfl) ?_
                      refine sa_g1_orders S hin hK hP (by decide +kernel) dX1_addOrder_139 ?_
                      show W p l e _ s m _ below meth c _ _ _ _ _ (F0 m 142 ls [.int (nI (σ.1 1)), .ref (a 5)])
                      refine lv_iload_n hx hb dX1_addOrder_142 rfl (lv_at hl 3 rfl) ?_
                      refine sa_stk (ws' := (sa_W1 cI cZ a (sa_f (sa_f σ 4 (upd (σ.2 4) (σ.1 1) x1)) 5 (upd (σ.2 5) (σ.1 1) x2)) 0)) 5 S hK hP (sa_D1 hJ) hS rfl (by omega) (by decide) rfl dX1_addOrder_143 (fun H locs hP hS => ?_)
                      refine lv_aload_n hx hb dX1_addOrder_144 rfl (lv_at hl 1 rfl) ?_
                      refine sa_g1_group S hin hK hP (by decide +kernel) dX1_addOrder_145 ?_
                      refine lv_aload_n hx hb dX1_addOrder_148 rfl (lv_at hl 1 rfl) ?_
                      refine sa_g1_orders S hin hK hP (by decide +kernel) dX1_addOrder_149 ?_
                      show W p l e _ s m _ below meth c _ _ _ _ _ (F0 m 152 ls [.int (nI (σ.1 1)), .ref (a 6)])
                      refine lv_iload_n hx hb dX1_addOrder_152 rfl (lv_at hl 4 rfl) ?_
                      refine sa_stk (ws' := (sa_W1 cI cZ a (sa_f (sa_f (sa_f σ 4 (upd (σ.2 4) (σ.1 1) x1)) 5 (upd (σ.2 5) (σ.1 1) x2)) 6 (upd (σ.2 6) (σ.1 1) x3)) 0)) 6 S hK hP (sa_D1 hJ) hS rfl (by omega) (by decide) rfl dX1_addOrder_153 (fun H locs hP hS => ?_)
                      refine lv_aload_n hx hb dX1_addOrder_154 rfl (lv_at hl 1 rfl) ?_
                      refine sa_g1_seconds S hin hK hP (by decide +kernel) dX1_addOrder_155 ?_
                      refine lv_aload_n hx hb dX1_addOrder_158 rfl (lv_at hl 1 rfl) ?_
                      refine sa_g1_orders S hin hK hP (by decide +kernel) dX1_addOrder_159 ?_
                      show W p l e _ s m _ below meth c _ _ _ _ _ (F0 m 162 ls [.int (nI (σ.1 1)), .ref (a 7)])
                      refine lv_iload hx hb dX1_addOrder_162 (lv_at hl 5 rfl) ?_
                      refine sa_stk (ws' := (sa_W1 cI cZ a (sa_f (sa_f (sa_f (sa_f σ 4 (upd (σ.2 4) (σ.1 1) x1)) 5 (upd (σ.2 5) (σ.1 1) x2)) 6 (upd (σ.2 6) (σ.1 1) x3)) 7 (upd (σ.2 7) (σ.1 1) x4)) 0)) 7 S hK hP (sa_D1 hJ) hS rfl (by omega) (by decide) rfl dX1_addOrder_164 (fun H locs hP hS => ?_)
                      refine lv_aload_n hx hb dX1_addOrder_165 rfl (lv_at hl 1 rfl) ?_
                      refine sa_g1_price S hin hK hP (by decide +kernel) dX1_addOrder_166 ?_
                      refine lv_aload_n hx hb dX1_addOrder_169 rfl (lv_at hl 1 rfl) ?_
                      refine sa_g1_orders S hin hK hP (by decide +kernel) dX1_addOrder_170 ?_
                      show W p l e _ s m _ below meth c _ _ _ _ _ (F0 m 173 ls [.int (nI (σ.1 1)), .ref (a 8)])
                      refine lv_iload hx hb dX1_addOrder_173 (lv_at hl 6 rfl) ?_
                      refine sa_stk (ws' := (sa_W1 cI cZ a (sa_f (sa_f (sa_f (sa_f (sa_f σ 4 (upd (σ.2 4) (σ.1 1) x1)) 5 (upd (σ.2 5) (σ.1 1) x2)) 6 (upd (σ.2 6) (σ.1 1) x3)) 7 (upd (σ.2 7) (σ.1 1) x4)) 8 (upd (σ.2 8) (σ.1 1) x5)) 0)) 8 S hK hP (sa_D1 hJ) hS rfl (by omega) (by decide) rfl dX1_addOrder_175 (fun H locs hP hS => ?_)
                      refine lv_aload_n hx hb dX1_addOrder_176 rfl (lv_at hl 1 rfl) ?_
                      refine sa_g1_promise S hin hK hP (by decide +kernel) dX1_addOrder_177 ?_
                      refine lv_aload_n hx hb dX1_addOrder_180 rfl (lv_at hl 1 rfl) ?_
                      refine sa_g1_orders S hin hK hP (by decide +kernel) dX1_addOrder_181 ?_
                      show W p l e _ s m _ below meth c _ _ _ _ _ (F0 m 184 ls [.int (nI (σ.1 1)), .ref (a 9)])
                      refine lv_iload hx hb dX1_addOrder_184 (lv_at hl 7 rfl) ?_
                      refine sa_stk (ws' := (sa_W1 cI cZ a (sa_f (sa_f (sa_f (sa_f (sa_f (sa_f σ 4 (upd (σ.2 4) (σ.1 1) x1)) 5 (upd (σ.2 5) (σ.1 1) x2)) 6 (upd (σ.2 6) (σ.1 1) x3)) 7 (upd (σ.2 7) (σ.1 1) x4)) 8 (upd (σ.2 8) (σ.1 1) x5)) 9 (upd (σ.2 9) (σ.1 1) x6)) 0)) 9 S hK hP (sa_D1 hJ) hS rfl (by omega) (by decide) rfl dX1_addOrder_186 (fun H locs hP hS => ?_)
                      refine lv_aload_n hx hb dX1_addOrder_187 rfl (lv_at hl 1 rfl) ?_
                      refine sa_g1_floor S hin hK hP (by decide +kernel) dX1_addOrder_188 ?_
                      refine lv_aload_n hx hb dX1_addOrder_191 rfl (lv_at hl 1 rfl) ?_
                      refine sa_g1_orders S hin hK hP (by decide +kernel) dX1_addOrder_192 ?_
                      show W p l e _ s m _ below meth c _ _ _ _ _ (F0 m 195 ls [.int (nI (σ.1 1)), .ref (a 10)])
                      refine lv_iload hx hb dX1_addOrder_195 (lv_at hl 8 rfl) ?_
                      refine sa_stk (ws' := (sa_W1 cI cZ a (sa_f (sa_f (sa_f (sa_f (sa_f (sa_f (sa_f σ 4 (upd (σ.2 4) (σ.1 1) x1)) 5 (upd (σ.2 5) (σ.1 1) x2)) 6 (upd (σ.2 6) (σ.1 1) x3)) 7 (upd (σ.2 7) (σ.1 1) x4)) 8 (upd (σ.2 8) (σ.1 1) x5)) 9 (upd (σ.2 9) (σ.1 1) x6)) 10 (upd (σ.2 10) (σ.1 1) x7)) 0)) 10 S hK hP (sa_D1 hJ) hS rfl (by omega) (by decide) rfl dX1_addOrder_197 (fun H locs hP hS => ?_)
                      refine lv_aload_n hx hb dX1_addOrder_198 rfl (lv_at hl 1 rfl) ?_
                      refine lv_dup hx hb dX1_addOrder_199 rfl ?_
                      refine sa_g1_orders S hin hK hP (by decide +kernel) dX1_addOrder_200 ?_
                      show W p l e _ s m _ below meth c _ _ _ _ _ (F0 m 203 ls [.int (nI (σ.1 1)), .ref (a 0)])
                      refine lv_iconst (v := 1) hx hb dX1_addOrder_203 (by decide) ?_
                      refine sa_iadd1 hx hb dX1_addOrder_204 ?_
                      refine sa_p1_orders (v := σ.1 1 + 1) rfl S hin hK hP (sa_D1 hJ) hS (by decide +kernel) dX1_addOrder_205 (fun H locs hP hS => ?_)
                      refine lv_aload_n hx hb dX1_addOrder_208 rfl (lv_at hl 1 rfl) ?_
                      refine sa_g1_orders S hin hK hP (by decide +kernel) dX1_addOrder_209 ?_
                      show W p l e _ s m _ below meth c _ _ _ _ _ (F0 m 212 ls [.int (nI (σ.1 1 + 1))])
                      refine lv_iconst (v := 1) hx hb dX1_addOrder_212 (by decide) ?_
                      refine sa_isub1 hx hb dX1_addOrder_213 ?_
                      exact W.iret (v := nI (σ.1 1)) hx hb hr (fun t9 ht _ => ⟨⟨_, (), rfl, (Eq.trans (b := (0, nI (σ.1 1), sa_ord σ x1 x2 x3 x4 x5 x6 x7).2.1) rfl (congrArg (fun z : sa_R => z.2.1) (show sp_addOrder σ x1 x2 x3 x4 x5 x6 x7 = _ from sa_go0 ⟨b_4, b_14, b_23, (Or.inr (Or.inr (c_47))), b_68, b_79, b_90⟩ c_107 trivial)).symm), by show va_P G vwCl (sa_W1 cI cZ a (sp_addOrder σ x1 x2 x3 x4 x5 x6 x7).2.2 (nI (sp_addOrder σ x1 x2 x3 x4 x5 x6 x7).1)) t9.heap; rw [ht]; exact (by rw [(show sp_addOrder σ x1 x2 x3 x4 x5 x6 x7 = _ from sa_go0 ⟨b_4, b_14, b_23, (Or.inr (Or.inr (c_47))), b_68, b_79, b_90⟩ c_107 trivial)]; exact hP)⟩, hS.F ht⟩) hS.2.2 dX1_addOrder_214
                  · skip
                    refine lv_if_eq (tgt := 100) hx hb dX1_addOrder_93 (by decide) (fun _ => ?_) (fun c9 => absurd (by decide) c9)
                    refine lv_iconst (v := 0) hx hb dX1_addOrder_100 (by decide) ?_
                    refine lv_aload_n hx hb dX1_addOrder_101 rfl (lv_at hl 1 rfl) ?_
                    refine sa_g1_orders S hin hK hP (by decide +kernel) dX1_addOrder_102 ?_
                    refine lv_bipush (v := 20) hx hb dX1_addOrder_105 (by decide) ?_
                    refine lv_icmp_ge (tgt := 114) hx hb dX1_addOrder_107 (by decide) (fun c_107 => ?_) (fun c_107 => ?_)
                    · skip
                      have c_107 := Int32.not_lt.mpr c_107
                      refine lv_iconst (v := 0) hx hb dX1_addOrder_114 (by decide) ?_
                      refine lv_iconst (v := 1) hx hb dX1_addOrder_115 (by decide) ?_
                      refine sa_kWr (wd' := sa_W1 cI cZ a σ 1) (r := 0) (As := [.int (0), .int (0), .int (1)]) (rest := []) S (by have h := c_X1_goes l G cI cZ cL a σ th hJ 0 0 1; rw [show sa_gc 0 0 1 = 1 from by decide, show sa_b ((1 : Int32) = 0) = 0 from by decide] at h; exact h) (cwV 3 hts gX1_addOrder_X1_goes rfl rfl rfl (by decide +kernel) ⟨Nat.le_of_ble_eq_true rfl, Nat.le_of_ble_eq_true rfl⟩) hP hK hS (fun _ h => h) (ci := 1) rfl rfl rfl hl.1 (Nat.le_of_ble_eq_true rfl) rfl dX1_addOrder_116 ⟨Nat.zero_le _, Nat.zero_le _⟩ (fun H locs hP hS _ _ => ?_)
                      refine lv_if_ne (tgt := 124) hx hb dX1_addOrder_119 (by decide) (fun c9 => absurd (by decide) c9) (fun _ => ?_)
                      refine lv_iconst (v := 0) hx hb dX1_addOrder_122 (by decide) ?_
                      exact W.iret (v := 0) hx hb hr (fun t9 ht _ => ⟨⟨_, (), rfl, (Eq.trans (b := ((1, 0, σ) : sa_R).2.1) rfl (congrArg (fun z : sa_R => z.2.1) (show sp_addOrder σ x1 x2 x3 x4 x5 x6 x7 = _ from sa_go1 (fun z9 => b_90 z9.2.2.2.2.2.2))).symm), by show va_P G vwCl (sa_W1 cI cZ a (sp_addOrder σ x1 x2 x3 x4 x5 x6 x7).2.2 (nI (sp_addOrder σ x1 x2 x3 x4 x5 x6 x7).1)) t9.heap; rw [ht]; exact (by rw [(show sp_addOrder σ x1 x2 x3 x4 x5 x6 x7 = _ from sa_go1 (fun z9 => b_90 z9.2.2.2.2.2.2))]; exact hP)⟩, hS.F ht⟩) hS.2.2 dX1_addOrder_123
                    · skip
                      have c_107 := Int32.not_le.mp c_107
                      have hn9 : σ.1 1 < 20 := sa_ltN (by omega) (by decide) c_107
                      refine lv_iconst (v := 1) hx hb dX1_addOrder_110 (by decide) ?_
                      refine lv_goto (tgt := 115) hx hb dX1_addOrder_111 (by decide) ?_
                      refine lv_iconst (v := 1) hx hb dX1_addOrder_115 (by decide) ?_
                      refine sa_kWr (wd' := sa_W1 cI cZ a σ 1) (r := 0) (As := [.int (0), .int (1), .int (1)]) (rest := []) S (by have h := c_X1_goes l G cI cZ cL a σ th hJ 0 1 1; rw [show sa_gc 0 1 1 = 1 from by decide, show sa_b ((1 : Int32) = 0) = 0 from by decide] at h; exact h) (cwV 3 hts gX1_addOrder_X1_goes rfl rfl rfl (by decide +kernel) ⟨Nat.le_of_ble_eq_true rfl, Nat.le_of_ble_eq_true rfl⟩) hP hK hS (fun _ h => h) (ci := 1) rfl rfl rfl hl.1 (Nat.le_of_ble_eq_true rfl) rfl dX1_addOrder_116 ⟨Nat.zero_le _, Nat.zero_le _⟩ (fun H locs hP hS _ _ => ?_)
                      refine lv_if_ne (tgt := 124) hx hb dX1_addOrder_119 (by decide) (fun c9 => absurd (by decide) c9) (fun _ => ?_)
                      refine lv_iconst (v := 0) hx hb dX1_addOrder_122 (by decide) ?_
                      exact W.iret (v := 0) hx hb hr (fun t9 ht _ => ⟨⟨_, (), rfl, (Eq.trans (b := ((1, 0, σ) : sa_R).2.1) rfl (congrArg (fun z : sa_R => z.2.1) (show sp_addOrder σ x1 x2 x3 x4 x5 x6 x7 = _ from sa_go1 (fun z9 => b_90 z9.2.2.2.2.2.2))).symm), by show va_P G vwCl (sa_W1 cI cZ a (sp_addOrder σ x1 x2 x3 x4 x5 x6 x7).2.2 (nI (sp_addOrder σ x1 x2 x3 x4 x5 x6 x7).1)) t9.heap; rw [ht]; exact (by rw [(show sp_addOrder σ x1 x2 x3 x4 x5 x6 x7 = _ from sa_go1 (fun z9 => b_90 z9.2.2.2.2.2.2))]; exact hP)⟩, hS.F ht⟩) hS.2.2 dX1_addOrder_123
                · skip
                  refine lv_if_eq (tgt := 100) hx hb dX1_addOrder_82 (by decide) (fun _ => ?_) (fun c9 => absurd (by decide) c9)
                  refine lv_iconst (v := 0) hx hb dX1_addOrder_100 (by decide) ?_
                  refine lv_aload_n hx hb dX1_addOrder_101 rfl (lv_at hl 1 rfl) ?_
                  refine sa_g1_orders S hin hK hP (by decide +kernel) dX1_addOrder_102 ?_
                  refine lv_bipush (v := 20) hx hb dX1_addOrder_105 (by decide) ?_
                  refine lv_icmp_ge (tgt := 114) hx hb dX1_addOrder_107 (by decide) (fun c_107 => ?_) (fun c_107 => ?_)
                  · skip
                    have c_107 := Int32.not_lt.mpr c_107
                    refine lv_iconst (v := 0) hx hb dX1_addOrder_114 (by decide) ?_
                    refine lv_iconst (v := 1) hx hb dX1_addOrder_115 (by decide) ?_
                    refine sa_kWr (wd' := sa_W1 cI cZ a σ 1) (r := 0) (As := [.int (0), .int (0), .int (1)]) (rest := []) S (by have h := c_X1_goes l G cI cZ cL a σ th hJ 0 0 1; rw [show sa_gc 0 0 1 = 1 from by decide, show sa_b ((1 : Int32) = 0) = 0 from by decide] at h; exact h) (cwV 3 hts gX1_addOrder_X1_goes rfl rfl rfl (by decide +kernel) ⟨Nat.le_of_ble_eq_true rfl, Nat.le_of_ble_eq_true rfl⟩) hP hK hS (fun _ h => h) (ci := 1) rfl rfl rfl hl.1 (Nat.le_of_ble_eq_true rfl) rfl dX1_addOrder_116 ⟨Nat.zero_le _, Nat.zero_le _⟩ (fun H locs hP hS _ _ => ?_)
                    refine lv_if_ne (tgt := 124) hx hb dX1_addOrder_119 (by decide) (fun c9 => absurd (by decide) c9) (fun _ => ?_)
                    refine lv_iconst (v := 0) hx hb dX1_addOrder_122 (by decide) ?_
                    exact W.iret (v := 0) hx hb hr (fun t9 ht _ => ⟨⟨_, (), rfl, (Eq.trans (b := ((1, 0, σ) : sa_R).2.1) rfl (congrArg (fun z : sa_R => z.2.1) (show sp_addOrder σ x1 x2 x3 x4 x5 x6 x7 = _ from sa_go1 (fun z9 => b_79 z9.2.2.2.2.2.1))).symm), by show va_P G vwCl (sa_W1 cI cZ a (sp_addOrder σ x1 x2 x3 x4 x5 x6 x7).2.2 (nI (sp_addOrder σ x1 x2 x3 x4 x5 x6 x7).1)) t9.heap; rw [ht]; exact (by rw [(show sp_addOrder σ x1 x2 x3 x4 x5 x6 x7 = _ from sa_go1 (fun z9 => b_79 z9.2.2.2.2.2.1))]; exact hP)⟩, hS.F ht⟩) hS.2.2 dX1_addOrder_123
                  · skip
                    have c_107 := Int32.not_le.mp c_107
                    have hn9 : σ.1 1 < 20 := sa_ltN (by omega) (by decide) c_107
                    refine lv_iconst (v := 1) hx hb dX1_addOrder_110 (by decide) ?_
                    refine lv_goto (tgt := 115) hx hb dX1_addOrder_111 (by decide) ?_
                    refine lv_iconst (v := 1) hx hb dX1_addOrder_115 (by decide) ?_
                    refine sa_kWr (wd' := sa_W1 cI cZ a σ 1) (r := 0) (As := [.int (0), .int (1), .int (1)]) (rest := []) S (by have h := c_X1_goes l G cI cZ cL a σ th hJ 0 1 1; rw [show sa_gc 0 1 1 = 1 from by decide, show sa_b ((1 : Int32) = 0) = 0 from by decide] at h; exact h) (cwV 3 hts gX1_addOrder_X1_goes rfl rfl rfl (by decide +kernel) ⟨Nat.le_of_ble_eq_true rfl, Nat.le_of_ble_eq_true rfl⟩) hP hK hS (fun _ h => h) (ci := 1) rfl rfl rfl hl.1 (Nat.le_of_ble_eq_true rfl) rfl dX1_addOrder_116 ⟨Nat.zero_le _, Nat.zero_le _⟩ (fun H locs hP hS _ _ => ?_)
                    refine lv_if_ne (tgt := 124) hx hb dX1_addOrder_119 (by decide) (fun c9 => absurd (by decide) c9) (fun _ => ?_)
                    refine lv_iconst (v := 0) hx hb dX1_addOrder_122 (by decide) ?_
                    exact W.iret (v := 0) hx hb hr (fun t9 ht _ => ⟨⟨_, (), rfl, (Eq.trans (b := ((1, 0, σ) : sa_R).2.1) rfl (congrArg (fun z : sa_R => z.2.1) (show sp_addOrder σ x1 x2 x3 x4 x5 x6 x7 = _ from sa_go1 (fun z9 => b_79 z9.2.2.2.2.2.1))).symm), by show va_P G vwCl (sa_W1 cI cZ a (sp_addOrder σ x1 x2 x3 x4 x5 x6 x7).2.2 (nI (sp_addOrder σ x1 x2 x3 x4 x5 x6 x7).1)) t9.heap; rw [ht]; exact (by rw [(show sp_addOrder σ x1 x2 x3 x4 x5 x6 x7 = _ from sa_go1 (fun z9 => b_79 z9.2.2.2.2.2.1))]; exact hP)⟩, hS.F ht⟩) hS.2.2 dX1_addOrder_123
              · skip
                refine lv_if_eq (tgt := 100) hx hb dX1_addOrder_71 (by decide) (fun _ => ?_) (fun c9 => absurd (by decide) c9)
                refine lv_iconst (v := 0) hx hb dX1_addOrder_100 (by decide) ?_
                refine lv_aload_n hx hb dX1_addOrder_101 rfl (lv_at hl 1 rfl) ?_
                refine sa_g1_orders S hin hK hP (by decide +kernel) dX1_addOrder_102 ?_
                refine lv_bipush (v := 20) hx hb dX1_addOrder_105 (by decide) ?_
                refine lv_icmp_ge (tgt := 114) hx hb dX1_addOrder_107 (by decide) (fun c_107 => ?_) (fun c_107 => ?_)
                · skip
                  have c_107 := Int32.not_lt.mpr c_107
                  refine lv_iconst (v := 0) hx hb dX1_addOrder_114 (by decide) ?_
                  refine lv_iconst (v := 1) hx hb dX1_addOrder_115 (by decide) ?_
                  refine sa_kWr (wd' := sa_W1 cI cZ a σ 1) (r := 0) (As := [.int (0), .int (0), .int (1)]) (rest := []) S (by have h := c_X1_goes l G cI cZ cL a σ th hJ 0 0 1; rw [show sa_gc 0 0 1 = 1 from by decide, show sa_b ((1 : Int32) = 0) = 0 from by decide] at h; exact h) (cwV 3 hts gX1_addOrder_X1_goes rfl rfl rfl (by decide +kernel) ⟨Nat.le_of_ble_eq_true rfl, Nat.le_of_ble_eq_true rfl⟩) hP hK hS (fun _ h => h) (ci := 1) rfl rfl rfl hl.1 (Nat.le_of_ble_eq_true rfl) rfl dX1_addOrder_116 ⟨Nat.zero_le _, Nat.zero_le _⟩ (fun H locs hP hS _ _ => ?_)
                  refine lv_if_ne (tgt := 124) hx hb dX1_addOrder_119 (by decide) (fun c9 => absurd (by decide) c9) (fun _ => ?_)
                  refine lv_iconst (v := 0) hx hb dX1_addOrder_122 (by decide) ?_
                  exact W.iret (v := 0) hx hb hr (fun t9 ht _ => ⟨⟨_, (), rfl, (Eq.trans (b := ((1, 0, σ) : sa_R).2.1) rfl (congrArg (fun z : sa_R => z.2.1) (show sp_addOrder σ x1 x2 x3 x4 x5 x6 x7 = _ from sa_go1 (fun z9 => b_68 z9.2.2.2.2.1))).symm), by show va_P G vwCl (sa_W1 cI cZ a (sp_addOrder σ x1 x2 x3 x4 x5 x6 x7).2.2 (nI (sp_addOrder σ x1 x2 x3 x4 x5 x6 x7).1)) t9.heap; rw [ht]; exact (by rw [(show sp_addOrder σ x1 x2 x3 x4 x5 x6 x7 = _ from sa_go1 (fun z9 => b_68 z9.2.2.2.2.1))]; exact hP)⟩, hS.F ht⟩) hS.2.2 dX1_addOrder_123
                · skip
                  have c_107 := Int32.not_le.mp c_107
                  have hn9 : σ.1 1 < 20 := sa_ltN (by omega) (by decide) c_107
                  refine lv_iconst (v := 1) hx hb dX1_addOrder_110 (by decide) ?_
                  refine lv_goto (tgt := 115) hx hb dX1_addOrder_111 (by decide) ?_
                  refine lv_iconst (v := 1) hx hb dX1_addOrder_115 (by decide) ?_
                  refine sa_kWr (wd' := sa_W1 cI cZ a σ 1) (r := 0) (As := [.int (0), .int (1), .int (1)]) (rest := []) S (by have h := c_X1_goes l G cI cZ cL a σ th hJ 0 1 1; rw [show sa_gc 0 1 1 = 1 from by decide, show sa_b ((1 : Int32) = 0) = 0 from by decide] at h; exact h) (cwV 3 hts gX1_addOrder_X1_goes rfl rfl rfl (by decide +kernel) ⟨Nat.le_of_ble_eq_true rfl, Nat.le_of_ble_eq_true rfl⟩) hP hK hS (fun _ h => h) (ci := 1) rfl rfl rfl hl.1 (Nat.le_of_ble_eq_true rfl) rfl dX1_addOrder_116 ⟨Nat.zero_le _, Nat.zero_le _⟩ (fun H locs hP hS _ _ => ?_)
                  refine lv_if_ne (tgt := 124) hx hb dX1_addOrder_119 (by decide) (fun c9 => absurd (by decide) c9) (fun _ => ?_)
                  refine lv_iconst (v := 0) hx hb dX1_addOrder_122 (by decide) ?_
                  exact W.iret (v := 0) hx hb hr (fun t9 ht _ => ⟨⟨_, (), rfl, (Eq.trans (b := ((1, 0, σ) : sa_R).2.1) rfl (congrArg (fun z : sa_R => z.2.1) (show sp_addOrder σ x1 x2 x3 x4 x5 x6 x7 = _ from sa_go1 (fun z9 => b_68 z9.2.2.2.2.1))).symm), by show va_P G vwCl (sa_W1 cI cZ a (sp_addOrder σ x1 x2 x3 x4 x5 x6 x7).2.2 (nI (sp_addOrder σ x1 x2 x3 x4 x5 x6 x7).1)) t9.heap; rw [ht]; exact (by rw [(show sp_addOrder σ x1 x2 x3 x4 x5 x6 x7 = _ from sa_go1 (fun z9 => b_68 z9.2.2.2.2.1))]; exact hP)⟩, hS.F ht⟩) hS.2.2 dX1_addOrder_123
      · skip
        refine lv_if_eq (tgt := 54) hx hb dX1_addOrder_26 (by decide) (fun _ => ?_) (fun c9 => absurd (by decide) c9)
        refine lv_iconst (v := 0) hx hb dX1_addOrder_54 (by decide) ?_
        refine lv_istore (lv' := [(8, .int (0)), (0, .ref (a 0)), (1, .int (x1)), (2, .int (x2)), (3, .int (x3)), (4, .int (x4)), (5, .int (x5)), (6, .int (x6)), (7, .int (x7))]) hx hb dX1_addOrder_55 hl (by decide) rfl (fun ls hl => ?_)
        refine lv_aload_n hx hb dX1_addOrder_57 rfl (lv_at hl 1 rfl) ?_
        refine lv_iload hx hb dX1_addOrder_58 (lv_at hl 0 rfl) ?_
        refine lv_if_eq (tgt := 100) hx hb dX1_addOrder_60 (by decide) (fun _ => ?_) (fun c9 => absurd (by decide) c9)
        refine lv_iconst (v := 0) hx hb dX1_addOrder_100 (by decide) ?_
        refine lv_aload_n hx hb dX1_addOrder_101 rfl (lv_at hl 1 rfl) ?_
        refine sa_g1_orders S hin hK hP (by decide +kernel) dX1_addOrder_102 ?_
        refine lv_bipush (v := 20) hx hb dX1_addOrder_105 (by decide) ?_
        refine lv_icmp_ge (tgt := 114) hx hb dX1_addOrder_107 (by decide) (fun c_107 => ?_) (fun c_107 => ?_)
        · skip
          have c_107 := Int32.not_lt.mpr c_107
          refine lv_iconst (v := 0) hx hb dX1_addOrder_114 (by decide) ?_
          refine lv_iconst (v := 1) hx hb dX1_addOrder_115 (by decide) ?_
          refine sa_kWr (wd' := sa_W1 cI cZ a σ 1) (r := 0) (As := [.int (0), .int (0), .int (1)]) (rest := []) S (by have h := c_X1_goes l G cI cZ cL a σ th hJ 0 0 1; rw [show sa_gc 0 0 1 = 1 from by decide, show sa_b ((1 : Int32) = 0) = 0 from by decide] at h; exact h) (cwV 3 hts gX1_addOrder_X1_goes rfl rfl rfl (by decide +kernel) ⟨Nat.le_of_ble_eq_true rfl, Nat.le_of_ble_eq_true rfl⟩) hP hK hS (fun _ h => h) (ci := 1) rfl rfl rfl hl.1 (Nat.le_of_ble_eq_true rfl) rfl dX1_addOrder_116 ⟨Nat.zero_le _, Nat.zero_le _⟩ (fun H locs hP hS _ _ => ?_)
          refine lv_if_ne (tgt := 124) hx hb dX1_addOrder_119 (by decide) (fun c9 => absurd (by decide) c9) (fun _ => ?_)
          refine lv_iconst (v := 0) hx hb dX1_addOrder_122 (by decide) ?_
          exact W.iret (v := 0) hx hb hr (fun t9 ht _ => ⟨⟨_, (), rfl, (Eq.trans (b := ((1, 0, σ) : sa_R).2.1) rfl (congrArg (fun z : sa_R => z.2.1) (show sp_addOrder σ x1 x2 x3 x4 x5 x6 x7 = _ from sa_go1 (fun z9 => b_23 z9.2.2.1))).symm), by show va_P G vwCl (sa_W1 cI cZ a (sp_addOrder σ x1 x2 x3 x4 x5 x6 x7).2.2 (nI (sp_addOrder σ x1 x2 x3 x4 x5 x6 x7).1)) t9.heap; rw [ht]; exact (by rw [(show sp_addOrder σ x1 x2 x3 x4 x5 x6 x7 = _ from sa_go1 (fun z9 => b_23 z9.2.2.1))]; exact hP)⟩, hS.F ht⟩) hS.2.2 dX1_addOrder_123
        · skip
          have c_107 := Int32.not_le.mp c_107
          have hn9 : σ.1 1 < 20 := sa_ltN (by omega) (by decide) c_107
          refine lv_iconst (v := 1) hx hb dX1_addOrder_110 (by decide) ?_
          refine lv_goto (tgt := 115) hx hb dX1_addOrder_111 (by decide) ?_
          refine lv_iconst (v := 1) hx hb dX1_addOrder_115 (by decide) ?_
          refine sa_kWr (wd' := sa_W1 cI cZ a σ 1) (r := 0) (As := [.int (0), .int (1), .int (1)]) (rest := []) S (by have h := c_X1_goes l G cI cZ cL a σ th hJ 0 1 1; rw [show sa_gc 0 1 1 = 1 from by decide, show sa_b ((1 : Int32) = 0) = 0 from by decide] at h; exact h) (cwV 3 hts gX1_addOrder_X1_goes rfl rfl rfl (by decide +kernel) ⟨Nat.le_of_ble_eq_true rfl, Nat.le_of_ble_eq_true rfl⟩) hP hK hS (fun _ h => h) (ci := 1) rfl rfl rfl hl.1 (Nat.le_of_ble_eq_true rfl) rfl dX1_addOrder_116 ⟨Nat.zero_le _, Nat.zero_le _⟩ (fun H locs hP hS _ _ => ?_)
          refine lv_if_ne (tgt := 124) hx hb dX1_addOrder_119 (by decide) (fun c9 => absurd (by decide) c9) (fun _ => ?_)
          refine lv_iconst (v := 0) hx hb dX1_addOrder_122 (by decide) ?_
          exact W.iret (v := 0) hx hb hr (fun t9 ht _ => ⟨⟨_, (), rfl, (Eq.trans (b := ((1, 0, σ) : sa_R).2.1) rfl (congrArg (fun z : sa_R => z.2.1) (show sp_addOrder σ x1 x2 x3 x4 x5 x6 x7 = _ from sa_go1 (fun z9 => b_23 z9.2.2.1))).symm), by show va_P G vwCl (sa_W1 cI cZ a (sp_addOrder σ x1 x2 x3 x4 x5 x6 x7).2.2 (nI (sp_addOrder σ x1 x2 x3 x4 x5 x6 x7).1)) t9.heap; rw [ht]; exact (by rw [(show sp_addOrder σ x1 x2 x3 x4 x5 x6 x7 = _ from sa_go1 (fun z9 => b_23 z9.2.2.1))]; exact hP)⟩, hS.F ht⟩) hS.2.2 dX1_addOrder_123
    · skip
      refine lv_if_eq (tgt := 54) hx hb dX1_addOrder_17 (by decide) (fun _ => ?_) (fun c9 => absurd (by decide) c9)
      refine lv_iconst (v := 0) hx hb dX1_addOrder_54 (by decide) ?_
      refine lv_istore (lv' := [(8, .int (0)), (0, .ref (a 0)), (1, .int (x1)), (2, .int (x2)), (3, .int (x3)), (4, .int (x4)), (5, .int (x5)), (6, .int (x6)), (7, .int (x7))]) hx hb dX1_addOrder_55 hl (by decide) rfl (fun ls hl => ?_)
      refine lv_aload_n hx hb dX1_addOrder_57 rfl (lv_at hl 1 rfl) ?_
      refine lv_iload hx hb dX1_addOrder_58 (lv_at hl 0 rfl) ?_
      refine lv_if_eq (tgt := 100) hx hb dX1_addOrder_60 (by decide) (fun _ => ?_) (fun c9 => absurd (by decide) c9)
      refine lv_iconst (v := 0) hx hb dX1_addOrder_100 (by decide) ?_
      refine lv_aload_n hx hb dX1_addOrder_101 rfl (lv_at hl 1 rfl) ?_
      refine sa_g1_orders S hin hK hP (by decide +kernel) dX1_addOrder_102 ?_
      refine lv_bipush (v := 20) hx hb dX1_addOrder_105 (by decide) ?_
      refine lv_icmp_ge (tgt := 114) hx hb dX1_addOrder_107 (by decide) (fun c_107 => ?_) (fun c_107 => ?_)
      · skip
        have c_107 := Int32.not_lt.mpr c_107
        refine lv_iconst (v := 0) hx hb dX1_addOrder_114 (by decide) ?_
        refine lv_iconst (v := 1) hx hb dX1_addOrder_115 (by decide) ?_
        refine sa_kWr (wd' := sa_W1 cI cZ a σ 1) (r := 0) (As := [.int (0), .int (0), .int (1)]) (rest := []) S (by have h := c_X1_goes l G cI cZ cL a σ th hJ 0 0 1; rw [show sa_gc 0 0 1 = 1 from by decide, show sa_b ((1 : Int32) = 0) = 0 from by decide] at h; exact h) (cwV 3 hts gX1_addOrder_X1_goes rfl rfl rfl (by decide +kernel) ⟨Nat.le_of_ble_eq_true rfl, Nat.le_of_ble_eq_true rfl⟩) hP hK hS (fun _ h => h) (ci := 1) rfl rfl rfl hl.1 (Nat.le_of_ble_eq_true rfl) rfl dX1_addOrder_116 ⟨Nat.zero_le _, Nat.zero_le _⟩ (fun H locs hP hS _ _ => ?_)
        refine lv_if_ne (tgt := 124) hx hb dX1_addOrder_119 (by decide) (fun c9 => absurd (by decide) c9) (fun _ => ?_)
        refine lv_iconst (v := 0) hx hb dX1_addOrder_122 (by decide) ?_
        exact W.iret (v := 0) hx hb hr (fun t9 ht _ => ⟨⟨_, (), rfl, (Eq.trans (b := ((1, 0, σ) : sa_R).2.1) rfl (congrArg (fun z : sa_R => z.2.1) (show sp_addOrder σ x1 x2 x3 x4 x5 x6 x7 = _ from sa_go1 (fun z9 => b_14 z9.2.1))).symm), by show va_P G vwCl (sa_W1 cI cZ a (sp_addOrder σ x1 x2 x3 x4 x5 x6 x7).2.2 (nI (sp_addOrder σ x1 x2 x3 x4 x5 x6 x7).1)) t9.heap; rw [ht]; exact (by rw [(show sp_addOrder σ x1 x2 x3 x4 x5 x6 x7 = _ from sa_go1 (fun z9 => b_14 z9.2.1))]; exact hP)⟩, hS.F ht⟩) hS.2.2 dX1_addOrder_123
      · skip
        have c_107 := Int32.not_le.mp c_107
        have hn9 : σ.1 1 < 20 := sa_ltN (by omega) (by decide) c_107
        refine lv_iconst (v := 1) hx hb dX1_addOrder_110 (by decide) ?_
        refine lv_goto (tgt := 115) hx hb dX1_addOrder_111 (by decide) ?_
        refine lv_iconst (v := 1) hx hb dX1_addOrder_115 (by decide) ?_
        refine sa_kWr (wd' := sa_W1 cI cZ a σ 1) (r := 0) (As := [.int (0), .int (1), .int (1)]) (rest := []) S (by have h := c_X1_goes l G cI cZ cL a σ th hJ 0 1 1; rw [show sa_gc 0 1 1 = 1 from by decide, show sa_b ((1 : Int32) = 0) = 0 from by decide] at h; exact h) (cwV 3 hts gX1_addOrder_X1_goes rfl rfl rfl (by decide +kernel) ⟨Nat.le_of_ble_eq_true rfl, Nat.le_of_ble_eq_true rfl⟩) hP hK hS (fun _ h => h) (ci := 1) rfl rfl rfl hl.1 (Nat.le_of_ble_eq_true rfl) rfl dX1_addOrder_116 ⟨Nat.zero_le _, Nat.zero_le _⟩ (fun H locs hP hS _ _ => ?_)
        refine lv_if_ne (tgt := 124) hx hb dX1_addOrder_119 (by decide) (fun c9 => absurd (by decide) c9) (fun _ => ?_)
        refine lv_iconst (v := 0) hx hb dX1_addOrder_122 (by decide) ?_
        exact W.iret (v := 0) hx hb hr (fun t9 ht _ => ⟨⟨_, (), rfl, (Eq.trans (b := ((1, 0, σ) : sa_R).2.1) rfl (congrArg (fun z : sa_R => z.2.1) (show sp_addOrder σ x1 x2 x3 x4 x5 x6 x7 = _ from sa_go1 (fun z9 => b_14 z9.2.1))).symm), by show va_P G vwCl (sa_W1 cI cZ a (sp_addOrder σ x1 x2 x3 x4 x5 x6 x7).2.2 (nI (sp_addOrder σ x1 x2 x3 x4 x5 x6 x7).1)) t9.heap; rw [ht]; exact (by rw [(show sp_addOrder σ x1 x2 x3 x4 x5 x6 x7 = _ from sa_go1 (fun z9 => b_14 z9.2.1))]; exact hP)⟩, hS.F ht⟩) hS.2.2 dX1_addOrder_123
  · skip
    refine lv_if_eq (tgt := 54) hx hb dX1_addOrder_7 (by decide) (fun _ => ?_) (fun c9 => absurd (by decide) c9)
    refine lv_iconst (v := 0) hx hb dX1_addOrder_54 (by decide) ?_
    refine lv_istore (lv' := [(8, .int (0)), (0, .ref (a 0)), (1, .int (x1)), (2, .int (x2)), (3, .int (x3)), (4, .int (x4)), (5, .int (x5)), (6, .int (x6)), (7, .int (x7))]) hx hb dX1_addOrder_55 hl (by decide) rfl (fun ls hl => ?_)
    refine lv_aload_n hx hb dX1_addOrder_57 rfl (lv_at hl 1 rfl) ?_
    refine lv_iload hx hb dX1_addOrder_58 (lv_at hl 0 rfl) ?_
    refine lv_if_eq (tgt := 100) hx hb dX1_addOrder_60 (by decide) (fun _ => ?_) (fun c9 => absurd (by decide) c9)
    refine lv_iconst (v := 0) hx hb dX1_addOrder_100 (by decide) ?_
    refine lv_aload_n hx hb dX1_addOrder_101 rfl (lv_at hl 1 rfl) ?_
    refine sa_g1_orders S hin hK hP (by decide +kernel) dX1_addOrder_102 ?_
    refine lv_bipush (v := 20) hx hb dX1_addOrder_105 (by decide) ?_
    refine lv_icmp_ge (tgt := 114) hx hb dX1_addOrder_107 (by decide) (fun c_107 => ?_) (fun c_107 => ?_)
    · skip
      have c_107 := Int32.not_lt.mpr c_107
      refine lv_iconst (v := 0) hx hb dX1_addOrder_114 (by decide) ?_
      refine lv_iconst (v := 1) hx hb dX1_addOrder_115 (by decide) ?_
      refine sa_kWr (wd' := sa_W1 cI cZ a σ 1) (r := 0) (As := [.int (0), .int (0), .int (1)]) (rest := []) S (by have h := c_X1_goes l G cI cZ cL a σ th hJ 0 0 1; rw [show sa_gc 0 0 1 = 1 from by decide, show sa_b ((1 : Int32) = 0) = 0 from by decide] at h; exact h) (cwV 3 hts gX1_addOrder_X1_goes rfl rfl rfl (by decide +kernel) ⟨Nat.le_of_ble_eq_true rfl, Nat.le_of_ble_eq_true rfl⟩) hP hK hS (fun _ h => h) (ci := 1) rfl rfl rfl hl.1 (Nat.le_of_ble_eq_true rfl) rfl dX1_addOrder_116 ⟨Nat.zero_le _, Nat.zero_le _⟩ (fun H locs hP hS _ _ => ?_)
      refine lv_if_ne (tgt := 124) hx hb dX1_addOrder_119 (by decide) (fun c9 => absurd (by decide) c9) (fun _ => ?_)
      refine lv_iconst (v := 0) hx hb dX1_addOrder_122 (by decide) ?_
      exact W.iret (v := 0) hx hb hr (fun t9 ht _ => ⟨⟨_, (), rfl, (Eq.trans (b := ((1, 0, σ) : sa_R).2.1) rfl (congrArg (fun z : sa_R => z.2.1) (show sp_addOrder σ x1 x2 x3 x4 x5 x6 x7 = _ from sa_go1 (fun z9 => b_4 z9.1))).symm), by show va_P G vwCl (sa_W1 cI cZ a (sp_addOrder σ x1 x2 x3 x4 x5 x6 x7).2.2 (nI (sp_addOrder σ x1 x2 x3 x4 x5 x6 x7).1)) t9.heap; rw [ht]; exact (by rw [(show sp_addOrder σ x1 x2 x3 x4 x5 x6 x7 = _ from sa_go1 (fun z9 => b_4 z9.1))]; exact hP)⟩, hS.F ht⟩) hS.2.2 dX1_addOrder_123
    · skip
      have c_107 := Int32.not_le.mp c_107
      have hn9 : σ.1 1 < 20 := sa_ltN (by omega) (by decide) c_107
      refine lv_iconst (v := 1) hx hb dX1_addOrder_110 (by decide) ?_
      refine lv_goto (tgt := 115) hx hb dX1_addOrder_111 (by decide) ?_
      refine lv_iconst (v := 1) hx hb dX1_addOrder_115 (by decide) ?_
      refine sa_kWr (wd' := sa_W1 cI cZ a σ 1) (r := 0) (As := [.int (0), .int (1), .int (1)]) (rest := []) S (by have h := c_X1_goes l G cI cZ cL a σ th hJ 0 1 1; rw [show sa_gc 0 1 1 = 1 from by decide, show sa_b ((1 : Int32) = 0) = 0 from by decide] at h; exact h) (cwV 3 hts gX1_addOrder_X1_goes rfl rfl rfl (by decide +kernel) ⟨Nat.le_of_ble_eq_true rfl, Nat.le_of_ble_eq_true rfl⟩) hP hK hS (fun _ h => h) (ci := 1) rfl rfl rfl hl.1 (Nat.le_of_ble_eq_true rfl) rfl dX1_addOrder_116 ⟨Nat.zero_le _, Nat.zero_le _⟩ (fun H locs hP hS _ _ => ?_)
      refine lv_if_ne (tgt := 124) hx hb dX1_addOrder_119 (by decide) (fun c9 => absurd (by decide) c9) (fun _ => ?_)
      refine lv_iconst (v := 0) hx hb dX1_addOrder_122 (by decide) ?_
      exact W.iret (v := 0) hx hb hr (fun t9 ht _ => ⟨⟨_, (), rfl, (Eq.trans (b := ((1, 0, σ) : sa_R).2.1) rfl (congrArg (fun z : sa_R => z.2.1) (show sp_addOrder σ x1 x2 x3 x4 x5 x6 x7 = _ from sa_go1 (fun z9 => b_4 z9.1))).symm), by show va_P G vwCl (sa_W1 cI cZ a (sp_addOrder σ x1 x2 x3 x4 x5 x6 x7).2.2 (nI (sp_addOrder σ x1 x2 x3 x4 x5 x6 x7).1)) t9.heap; rw [ht]; exact (by rw [(show sp_addOrder σ x1 x2 x3 x4 x5 x6 x7 = _ from sa_go1 (fun z9 => b_4 z9.1))]; exact hP)⟩, hS.F ht⟩) hS.2.2 dX1_addOrder_123

set_option maxHeartbeats 4000000 in
set_option maxRecDepth 100000 in
theorem c_X1_close (l : Launch) (G : va_G) (cI cZ cL : ClassId) (a : Nat → Nat) (σ : sa_St) (th : Int32) (hI : sa_I σ) (hJ : sa_J a) (o : Int32) : sa_Wr l yX1_close wsX1_close ({ frames := 3, cells := 0, slots := 0, locals := 69 }) G cI cZ cL (sa_W1 cI cZ a σ th) (sa_W1 cI cZ a (sp_close σ o).2.2 (nI (sp_close σ o).1)) (sa_A a) [.ref (a 0), .int (o)] ((sp_close σ o).2.1) := by
  obtain ⟨hnb, hno, hns, hgr, hor, hbr, hai⟩ := id hI
  refine Met.ofW (cc := cX1_close) (maxL := 4) (ret := (some .int)) (by decide) rfl ?_
  intro p e s m args below meth c s₁ B9 hml hv
  obtain ⟨rfl, hP, hK⟩ := hv
  have hx := B9.exec
  have hb := B9.bytes
  have hr := B9.returns
  have hlk := B9.notSynchronized
  have hts := atoms_spec (ws := wsX1_close) B9.pre
  have hown : s.vm.findClass RX1 = some m.cls := findClass_of_methodNamed B9.named
  have S : CallFix p m c cX1_close 4 s _ wsX1_close RX1 := ⟨hx, hb, hml, hown, hts⟩
  have hin : ∀ w ∈ wsX10, w ∈ wsX1_close := by decide +kernel
  have hS : va_S (sa_A a) s.heap s.heap [] := va_S.rf
  have hl := lv_entry ([.ref (a 0), .int (o)]) (n := 4) (Nat.le_of_ble_eq_true rfl)
  rw [lg_entry_eq]
  generalize (lg_sl ([.ref (a 0), .int (o)]) ++ List.replicate (4 - (lg_sl ([.ref (a 0), .int (o)])).length) Slot.unset).toArray = ls at hl ⊢
  have hl : lv_has ls 4 [(0, .ref (a 0)), (1, .int (o))] := hl
  refine lv_aload_n hx hb dX1_close_0 rfl (lv_at hl 0 rfl) ?_
  refine lv_iload_n hx hb dX1_close_1 rfl (lv_at hl 1 rfl) ?_
  refine sa_kRd (As := [.int (o)]) (rest := []) S (c_X1_isOrder l G cI cZ cL a σ th hI o) (cwV 1 hts gX1_close_X1_isOrder rfl rfl rfl (by decide +kernel) ⟨Nat.le_of_ble_eq_true rfl, Nat.le_of_ble_eq_true rfl⟩) hP hK (ci := 1) rfl rfl rfl hl.1 (Nat.le_of_ble_eq_true rfl) rfl dX1_close_2 ⟨Nat.zero_le _, Nat.zero_le _⟩ ?_
  refine sa_spl (fun b_2 => ?_) (fun b_2 => ?_)
  · skip
    have ho : vp_in o (σ.1 1) := sa_inv (by omega) b_2
    refine lv_istore_n (lv' := [(2, .int (1)), (0, .ref (a 0)), (1, .int (o))]) hx hb dX1_close_5 rfl hl (by decide) rfl (fun ls hl => ?_)
    refine lv_aload_n hx hb dX1_close_6 rfl (lv_at hl 1 rfl) ?_
    refine lv_iload_n hx hb dX1_close_7 rfl (lv_at hl 0 rfl) ?_
    refine lv_iload_n hx hb dX1_close_8 rfl (lv_at hl 0 rfl) ?_
    refine lv_if_eq (tgt := 25) hx hb dX1_close_9 (by decide) (fun c9 => absurd c9 (by decide)) (fun _ => ?_)
    refine lv_aload_n hx hb dX1_close_12 rfl (lv_at hl 1 rfl) ?_
    refine sa_g1_closed S hin hK hP (by decide +kernel) dX1_close_13 ?_
    refine lv_iload_n hx hb dX1_close_16 rfl (lv_at hl 2 rfl) ?_
    refine sa_ldz 11 S hK hP rfl (sa_vm ho (by omega)) dX1_close_17 ?_
    refine lv_if_ne (tgt := 25) hx hb dX1_close_18 (by decide) (fun c_18 => ?_) (fun c_18 => ?_)
    · skip
      refine lv_iconst (v := 0) hx hb dX1_close_25 (by decide) ?_
      refine lv_iconst (v := 1) hx hb dX1_close_26 (by decide) ?_
      refine sa_kWr (wd' := sa_W1 cI cZ a σ 2) (r := 0) (As := [.int (1), .int (0), .int (1)]) (rest := []) S (by have h := c_X1_goes l G cI cZ cL a σ th hJ 1 0 1; rw [show sa_gc 1 0 1 = 2 from by decide, show sa_b ((2 : Int32) = 0) = 0 from by decide] at h; exact h) (cwV 3 hts gX1_close_X1_goes rfl rfl rfl (by decide +kernel) ⟨Nat.le_of_ble_eq_true rfl, Nat.le_of_ble_eq_true rfl⟩) hP hK hS (fun _ h => h) (ci := 1) rfl rfl rfl hl.1 (Nat.le_of_ble_eq_true rfl) rfl dX1_close_27 ⟨Nat.zero_le _, Nat.zero_le _⟩ (fun H locs hP hS _ _ => ?_)
      refine lv_if_ne (tgt := 35) hx hb dX1_close_30 (by decide) (fun c9 => absurd (by decide) c9) (fun _ => ?_)
      refine lv_iconst (v := 0) hx hb dX1_close_33 (by decide) ?_
      exact W.iret (v := 0) hx hb hr (fun t9 ht _ => ⟨⟨_, (), rfl, (Eq.trans (b := ((2, 0, σ) : sa_R).2.1) rfl (congrArg (fun z : sa_R => z.2.1) (show sp_close σ o = _ from sa_go2 b_2 (fun z9 => c_18 z9))).symm), by show va_P G vwCl (sa_W1 cI cZ a (sp_close σ o).2.2 (nI (sp_close σ o).1)) t9.heap; rw [ht]; exact (by rw [(show sp_close σ o = _ from sa_go2 b_2 (fun z9 => c_18 z9))]; exact hP)⟩, hS.F ht⟩) hS.2.2 dX1_close_34
    · skip
      refine lv_iconst (v := 1) hx hb dX1_close_21 (by decide) ?_
      refine lv_goto (tgt := 26) hx hb dX1_close_22 (by decide) ?_
      refine lv_iconst (v := 1) hx hb dX1_close_26 (by decide) ?_
      refine sa_kWr (wd' := sa_W1 cI cZ a σ 0) (r := 1) (As := [.int (1), .int (1), .int (1)]) (rest := []) S (by have h := c_X1_goes l G cI cZ cL a σ th hJ 1 1 1; rw [show sa_gc 1 1 1 = 0 from by decide, show sa_b ((0 : Int32) = 0) = 1 from by decide] at h; exact h) (cwV 3 hts gX1_close_X1_goes rfl rfl rfl (by decide +kernel) ⟨Nat.le_of_ble_eq_true rfl, Nat.le_of_ble_eq_true rfl⟩) hP hK hS (fun _ h => h) (ci := 1) rfl rfl rfl hl.1 (Nat.le_of_ble_eq_true rfl) rfl dX1_close_27 ⟨Nat.zero_le _, Nat.zero_le _⟩ (fun H locs hP hS _ _ => ?_)
      refine lv_if_ne (tgt := 35) hx hb dX1_close_30 (by decide) (fun _ => ?_) (fun c9 => absurd c9 (by decide))
      refine lv_aload_n hx hb dX1_close_35 rfl (lv_at hl 1 rfl) ?_
      refine sa_g1_closed S hin hK hP (by decide +kernel) dX1_close_36 ?_
      refine lv_iload_n hx hb dX1_close_39 rfl (lv_at hl 2 rfl) ?_
      refine lv_iconst (v := 1) hx hb dX1_close_40 (by decide) ?_
      refine sa_stz (ws' := (sa_W1 cI cZ a (sa_f σ 11 (upd (σ.2 11) o.toNatClampNeg 1)) 0)) 11 S hK hP (sa_D1 hJ) hS rfl (sa_vm ho (by omega)) (by decide) rfl dX1_close_41 (fun H locs hP hS => ?_)
      refine lv_iconst (v := 0) hx hb dX1_close_42 (by decide) ?_
      refine lv_istore_n (lv' := [(3, .int (0)), (2, .int (1)), (0, .ref (a 0)), (1, .int (o))]) hx hb dX1_close_43 rfl hl (by decide) rfl (fun ls hl => ?_)
      have loop : ∀ (n k : Nat), k + n = σ.1 2 →   ∀ (H : Heap) (locs : List Loc), va_P G vwCl (sa_W1 cI cZ a (sa_f (sa_f σ 11 (upd (σ.2 11) o.toNatClampNeg 1)) 14 (sa_cls σ o k)) 0) H → va_S (sa_A a) s.heap H locs → ∀ ls : Array Slot, lv_has ls 4 [(3, .int (nI k)), (2, .int (1)), (0, .ref (a 0)), (1, .int (o))] → W p l e (headSpec wsX1_close ({ frames := 3, cells := 0, slots := 0, locals := 69 })).room s m ([Value.ref (a 0), Value.int (o)] : List Value).toArray below meth c H locs 0 0 (MQ below (va_Qi (fun z (_ : Unit) => z = (sp_close σ o).2.1) (fun _ t => va_P G vwCl (sa_W1 cI cZ a (sp_close σ o).2.2 (nI (sp_close σ o).1)) t.heap) (sa_A a)) ([Value.ref (a 0), Value.int (o)] : List Value).toArray s 0 0 (sa_A a)) (F0 m 44 ls []) := by
        intro n
        induction n with
        | zero =>
          intro k hk   H locs hP hS ls hl
          have hk2 : k = σ.1 2 := by omega
          subst hk2
          refine lv_iload_n hx hb dX1_close_44 rfl (lv_at hl 0 rfl) ?_
          refine lv_aload_n hx hb dX1_close_45 rfl (lv_at hl 2 rfl) ?_
          refine sa_g1_spots S hin hK hP (by decide +kernel) dX1_close_46 ?_
          show W p l e _ s m _ below meth c _ _ _ _ _ (F0 m 49 ls [.int (nI (σ.1 2)), .int (nI (σ.1 2))])
          refine lv_icmp_ge (tgt := 93) hx hb dX1_close_49 (by decide) (fun _ => ?_) (fun c9 => absurd (nI_le (Nat.le_refl _) (by omega)) c9)
          have hI : sa_I (sa_clo σ o) := sa_I_clo hI
          refine lv_aload_n hx hb dX1_close_93 rfl (lv_at hl 2 rfl) ?_
          refine lv_iload_n hx hb dX1_close_94 rfl (lv_at hl 3 rfl) ?_
          refine sa_kRd (As := [.int (o)]) (rest := []) S (c_X1_owes l G cI cZ cL a (sa_clo σ o) 0 hI o ho) (cwV 1 hts gX1_close_X1_owes rfl rfl rfl (by decide +kernel) ⟨Nat.le_of_ble_eq_true rfl, Nat.le_of_ble_eq_true rfl⟩) hP hK (ci := 1) rfl rfl rfl hl.1 (Nat.le_of_ble_eq_true rfl) rfl dX1_close_95 ⟨Nat.zero_le _, Nat.zero_le _⟩ ?_
          exact W.iret (v := sa_owes (sa_clo σ o) o) hx hb hr (fun t9 ht _ => ⟨⟨_, (), rfl, (Eq.trans (b := (0, sa_owes (sa_clo σ o) o, sa_clo σ o).2.1) rfl (congrArg (fun z : sa_R => z.2.1) (show sp_close σ o = _ from sa_go0 b_2 c_18 trivial)).symm), by show va_P G vwCl (sa_W1 cI cZ a (sp_close σ o).2.2 (nI (sp_close σ o).1)) t9.heap; rw [ht]; exact (by rw [(show sp_close σ o = _ from sa_go0 b_2 c_18 trivial)]; exact hP)⟩, hS.F ht⟩) hS.2.2 dX1_close_98
        | succ n ih =>
          intro k hk   H locs hP hS ls hl
          have hkn : k < σ.1 2 := by omega
          refine lv_iload_n hx hb dX1_close_44 rfl (lv_at hl 0 rfl) ?_
          refine lv_aload_n hx hb dX1_close_45 rfl (lv_at hl 2 rfl) ?_
          refine sa_g1_spots S hin hK hP (by decide +kernel) dX1_close_46 ?_
          show W p l e _ s m _ below meth c _ _ _ _ _ (F0 m 49 ls [.int (nI (σ.1 2)), .int (nI k)])
          refine lv_icmp_ge (tgt := 93) hx hb dX1_close_49 (by decide) (fun c9 => absurd c9 (nI_ge (by omega) (by omega))) (fun _ => ?_)
          refine lv_aload_n hx hb dX1_close_52 rfl (lv_at hl 2 rfl) ?_
          refine sa_g1_state S hin hK hP (by decide +kernel) dX1_close_53 ?_
          refine lv_iload_n hx hb dX1_close_56 rfl (lv_at hl 0 rfl) ?_
          refine lv_aload_n hx hb dX1_close_57 rfl (lv_at hl 2 rfl) ?_
          refine sa_g1_order S hin hK hP (by decide +kernel) dX1_close_58 ?_
          refine lv_iload_n hx hb dX1_close_61 rfl (lv_at hl 0 rfl) ?_
          refine sa_ldk 12 S hK hP rfl (by omega) (by decide) dX1_close_62 ?_
          show W p l e _ s m _ below meth c _ _ _ _ _ (F0 m 63 ls [.int (σ.2 12 k), .int (nI k), .ref (a 14)])
          refine lv_iload_n hx hb dX1_close_63 rfl (lv_at hl 3 rfl) ?_
          refine lv_icmp_ne (tgt := 80) hx hb dX1_close_64 (by decide) (fun c_64 => ?_) (fun c_64 => ?_)
          · skip
            refine lv_aload_n hx hb dX1_close_80 rfl (lv_at hl 2 rfl) ?_
            refine sa_g1_state S hin hK hP (by decide +kernel) dX1_close_81 ?_
            refine lv_iload_n hx hb dX1_close_84 rfl (lv_at hl 0 rfl) ?_
            refine sa_ldk 14 S hK hP rfl (by omega) (by decide) dX1_close_85 ?_
            show W p l e _ s m _ below meth c _ _ _ _ _ (F0 m 86 ls [.int ((sa_cls σ o k) k), .int (nI k), .ref (a 14)])
            refine sa_stk (ws' := (sa_W1 cI cZ a (sa_f (sa_f (sa_f σ 11 (upd (σ.2 11) o.toNatClampNeg 1)) 14 (sa_cls σ o k)) 14 (upd ((sa_cls σ o k)) k ((sa_cls σ o k) k))) 0)) 14 S hK hP (sa_D1 hJ) hS rfl (by omega) (by decide) rfl dX1_close_86 (fun H locs hP hS => ?_)
            refine lv_iinc (v := nI (k + 1)) (lv' := [(3, .int (nI (k + 1))), (2, .int (1)), (0, .ref (a 0)), (1, .int (o))]) hx hb dX1_close_87 hl (k := 0) rfl (nI_1 k) (by decide) rfl (fun ls hl => ?_)
            refine lv_goto (tgt := 44) hx hb dX1_close_90 (by decide) ?_
            exact ih (k + 1) (by omega)  _ _ (by have e9 : sa_cls σ o (k + 1) = (upd ((sa_cls σ o k)) k ((sa_cls σ o k) k)) := (by simp [sa_cls, sa_upd_self, c_64]); rw [e9]; exact hP) hS ls (lv_sub hl [0, 1, 2, 3] rfl)
          · skip
            refine lv_aload_n hx hb dX1_close_67 rfl (lv_at hl 2 rfl) ?_
            refine sa_g1_state S hin hK hP (by decide +kernel) dX1_close_68 ?_
            refine lv_iload_n hx hb dX1_close_71 rfl (lv_at hl 0 rfl) ?_
            refine sa_ldk 14 S hK hP rfl (by omega) (by decide) dX1_close_72 ?_
            show W p l e _ s m _ below meth c _ _ _ _ _ (F0 m 73 ls [.int ((sa_cls σ o k) k), .int (nI k), .ref (a 14)])
            refine lv_if_ne (tgt := 80) hx hb dX1_close_73 (by decide) (fun c_73 => ?_) (fun c_73 => ?_)
            · skip
              refine lv_aload_n hx hb dX1_close_80 rfl (lv_at hl 2 rfl) ?_
              refine sa_g1_state S hin hK hP (by decide +kernel) dX1_close_81 ?_
              refine lv_iload_n hx hb dX1_close_84 rfl (lv_at hl 0 rfl) ?_
              refine sa_ldk 14 S hK hP rfl (by omega) (by decide) dX1_close_85 ?_
              show W p l e _ s m _ below meth c _ _ _ _ _ (F0 m 86 ls [.int ((sa_cls σ o k) k), .int (nI k), .ref (a 14)])
              refine sa_stk (ws' := (sa_W1 cI cZ a (sa_f (sa_f (sa_f σ 11 (upd (σ.2 11) o.toNatClampNeg 1)) 14 (sa_cls σ o k)) 14 (upd ((sa_cls σ o k)) k ((sa_cls σ o k) k))) 0)) 14 S hK hP (sa_D1 hJ) hS rfl (by omega) (by decide) rfl dX1_close_86 (fun H locs hP hS => ?_)
              refine lv_iinc (v := nI (k + 1)) (lv' := [(3, .int (nI (k + 1))), (2, .int (1)), (0, .ref (a 0)), (1, .int (o))]) hx hb dX1_close_87 hl (k := 0) rfl (nI_1 k) (by decide) rfl (fun ls hl => ?_)
              refine lv_goto (tgt := 44) hx hb dX1_close_90 (by decide) ?_
              exact ih (k + 1) (by omega)  _ _ (by have e9 : sa_cls σ o (k + 1) = (upd ((sa_cls σ o k)) k ((sa_cls σ o k) k)) := (by simp [sa_cls, sa_upd_self, c_64, c_73]); rw [e9]; exact hP) hS ls (lv_sub hl [0, 1, 2, 3] rfl)
            · skip
              refine lv_iconst (v := 3) hx hb dX1_close_76 (by decide) ?_
              refine lv_goto (tgt := 86) hx hb dX1_close_77 (by decide) ?_
              refine sa_stk (ws' := (sa_W1 cI cZ a (sa_f (sa_f (sa_f σ 11 (upd (σ.2 11) o.toNatClampNeg 1)) 14 (sa_cls σ o k)) 14 (upd ((sa_cls σ o k)) k 3)) 0)) 14 S hK hP (sa_D1 hJ) hS rfl (by omega) (by decide) rfl dX1_close_86 (fun H locs hP hS => ?_)
              refine lv_iinc (v := nI (k + 1)) (lv' := [(3, .int (nI (k + 1))), (2, .int (1)), (0, .ref (a 0)), (1, .int (o))]) hx hb dX1_close_87 hl (k := 0) rfl (nI_1 k) (by decide) rfl (fun ls hl => ?_)
              refine lv_goto (tgt := 44) hx hb dX1_close_90 (by decide) ?_
              exact ih (k + 1) (by omega)  _ _ (by have e9 : sa_cls σ o (k + 1) = (upd ((sa_cls σ o k)) k 3) := (by simp [sa_cls, sa_upd_self, c_64, c_73]); rw [e9]; exact hP) hS ls (lv_sub hl [0, 1, 2, 3] rfl)
      exact loop (σ.1 2) 0 (Nat.zero_add _)  _ _ hP hS ls (lv_sub hl [0, 1, 2, 3] rfl)
  · skip
    refine lv_istore_n (lv' := [(2, .int (0)), (0, .ref (a 0)), (1, .int (o))]) hx hb dX1_close_5 rfl hl (by decide) rfl (fun ls hl => ?_)
    refine lv_aload_n hx hb dX1_close_6 rfl (lv_at hl 1 rfl) ?_
    refine lv_iload_n hx hb dX1_close_7 rfl (lv_at hl 0 rfl) ?_
    refine lv_iload_n hx hb dX1_close_8 rfl (lv_at hl 0 rfl) ?_
    refine lv_if_eq (tgt := 25) hx hb dX1_close_9 (by decide) (fun _ => ?_) (fun c9 => absurd (by decide) c9)
    refine lv_iconst (v := 0) hx hb dX1_close_25 (by decide) ?_
    refine lv_iconst (v := 1) hx hb dX1_close_26 (by decide) ?_
    refine sa_kWr (wd' := sa_W1 cI cZ a σ 1) (r := 0) (As := [.int (0), .int (0), .int (1)]) (rest := []) S (by have h := c_X1_goes l G cI cZ cL a σ th hJ 0 0 1; rw [show sa_gc 0 0 1 = 1 from by decide, show sa_b ((1 : Int32) = 0) = 0 from by decide] at h; exact h) (cwV 3 hts gX1_close_X1_goes rfl rfl rfl (by decide +kernel) ⟨Nat.le_of_ble_eq_true rfl, Nat.le_of_ble_eq_true rfl⟩) hP hK hS (fun _ h => h) (ci := 1) rfl rfl rfl hl.1 (Nat.le_of_ble_eq_true rfl) rfl dX1_close_27 ⟨Nat.zero_le _, Nat.zero_le _⟩ (fun H locs hP hS _ _ => ?_)
    refine lv_if_ne (tgt := 35) hx hb dX1_close_30 (by decide) (fun c9 => absurd (by decide) c9) (fun _ => ?_)
    refine lv_iconst (v := 0) hx hb dX1_close_33 (by decide) ?_
    exact W.iret (v := 0) hx hb hr (fun t9 ht _ => ⟨⟨_, (), rfl, (Eq.trans (b := ((1, 0, σ) : sa_R).2.1) rfl (congrArg (fun z : sa_R => z.2.1) (show sp_close σ o = _ from sa_go1 (fun z9 => b_2 z9))).symm), by show va_P G vwCl (sa_W1 cI cZ a (sp_close σ o).2.2 (nI (sp_close σ o).1)) t9.heap; rw [ht]; exact (by rw [(show sp_close σ o = _ from sa_go1 (fun z9 => b_2 z9))]; exact hP)⟩, hS.F ht⟩) hS.2.2 dX1_close_34

set_option maxHeartbeats 4000000 in
set_option maxRecDepth 100000 in
theorem c_X1_orders (l : Launch) (G : va_G) (cI cZ cL : ClassId) (a : Nat → Nat) (σ : sa_St) (th : Int32) (hI : sa_I σ) (hJ : sa_J a) : sa_Wr l yX1_orders wsX1_orders ({ frames := 1, cells := 0, slots := 0, locals := 21 }) G cI cZ cL (sa_W1 cI cZ a σ th) (sa_W1 cI cZ a σ 0) (sa_A a) [.ref (a 0)] (nI (σ.1 1)) := by
  obtain ⟨hnb, hno, hns, hgr, hor, hbr, hai⟩ := id hI
  refine Met.ofW (cc := cX1_orders) (maxL := 1) (ret := (some .int)) (by decide) rfl ?_
  intro p e s m args below meth c s₁ B9 hml hv
  obtain ⟨rfl, hP, hK⟩ := hv
  have hx := B9.exec
  have hb := B9.bytes
  have hr := B9.returns
  have hlk := B9.notSynchronized
  have hts := atoms_spec (ws := wsX1_orders) B9.pre
  have hown : s.vm.findClass RX1 = some m.cls := findClass_of_methodNamed B9.named
  have S : CallFix p m c cX1_orders 1 s _ wsX1_orders RX1 := ⟨hx, hb, hml, hown, hts⟩
  have hin : ∀ w ∈ wsX10, w ∈ wsX1_orders := by decide +kernel
  have hS : va_S (sa_A a) s.heap s.heap [] := va_S.rf
  have hl := lv_entry ([.ref (a 0)]) (n := 1) (Nat.le_of_ble_eq_true rfl)
  rw [lg_entry_eq]
  generalize (lg_sl ([.ref (a 0)]) ++ List.replicate (1 - (lg_sl ([.ref (a 0)])).length) Slot.unset).toArray = ls at hl ⊢
  have hl : lv_has ls 1 [(0, .ref (a 0))] := hl
  refine lv_aload_n hx hb dX1_orders_0 rfl (lv_at hl 0 rfl) ?_
  refine lv_aload_n hx hb dX1_orders_1 rfl (lv_at hl 0 rfl) ?_
  refine sa_g1_orders S hin hK hP (by decide +kernel) dX1_orders_2 ?_
  refine sa_kWr (wd' := sa_W1 cI cZ a σ 0) (As := [.int (nI (σ.1 1))]) (rest := []) S (c_X1_told l G cI cZ cL a σ th hJ (nI (σ.1 1))) (cwV 1 hts gX1_orders_X1_told rfl rfl rfl (by decide +kernel) ⟨Nat.le_of_ble_eq_true rfl, Nat.le_of_ble_eq_true rfl⟩) hP hK hS (fun _ h => h) (ci := 1) rfl rfl rfl hl.1 (Nat.le_of_ble_eq_true rfl) rfl dX1_orders_5 ⟨Nat.zero_le _, Nat.zero_le _⟩ (fun H locs hP hS _ _ => ?_)
  exact W.iret (v := nI (σ.1 1)) hx hb hr (fun t9 ht _ => ⟨⟨_, (), rfl, rfl, by show va_P G vwCl (sa_W1 cI cZ a σ 0) t9.heap; rw [ht]; exact hP⟩, hS.F ht⟩) hS.2.2 dX1_orders_8

set_option maxHeartbeats 4000000 in
set_option maxRecDepth 100000 in
theorem c_X1_whyNot (l : Launch) (G : va_G) (cI cZ cL : ClassId) (a : Nat → Nat) (σ : sa_St) (th : Int32) (hI : sa_I σ) (hJ : sa_J a) (o at' : Int32) : sa_Wr l yX1_whyNot wsX1_whyNot ({ frames := 3, cells := 0, slots := 0, locals := 74 }) G cI cZ cL (sa_W1 cI cZ a σ th) (sa_W1 cI cZ a (sp_whyNot σ o at').2.2 (nI (sp_whyNot σ o at').1)) (sa_A a) [.ref (a 0), .int (o), .int (at')] ((sp_whyNot σ o at').2.1) := by
  obtain ⟨hnb, hno, hns, hgr, hor, hbr, hai⟩ := id hI
  refine Met.ofW (cc := cX1_whyNot) (maxL := 3) (ret := (some .int)) (by decide) rfl ?_
  intro p e s m args below meth c s₁ B9 hml hv
  obtain ⟨rfl, hP, hK⟩ := hv
  have hx := B9.exec
  have hb := B9.bytes
  have hr := B9.returns
  have hlk := B9.notSynchronized
  have hts := atoms_spec (ws := wsX1_whyNot) B9.pre
  have hown : s.vm.findClass RX1 = some m.cls := findClass_of_methodNamed B9.named
  have S : CallFix p m c cX1_whyNot 3 s _ wsX1_whyNot RX1 := ⟨hx, hb, hml, hown, hts⟩
  have hS : va_S (sa_A a) s.heap s.heap [] := va_S.rf
  have hl := lv_entry ([.ref (a 0), .int (o), .int (at')]) (n := 3) (Nat.le_of_ble_eq_true rfl)
  rw [lg_entry_eq]
  generalize (lg_sl ([.ref (a 0), .int (o), .int (at')]) ++ List.replicate (3 - (lg_sl ([.ref (a 0), .int (o), .int (at')])).length) Slot.unset).toArray = ls at hl ⊢
  have hl : lv_has ls 3 [(0, .ref (a 0)), (1, .int (o)), (2, .int (at'))] := hl
  refine lv_aload_n hx hb dX1_whyNot_0 rfl (lv_at hl 0 rfl) ?_
  refine lv_aload_n hx hb dX1_whyNot_1 rfl (lv_at hl 0 rfl) ?_
  refine lv_iload_n hx hb dX1_whyNot_2 rfl (lv_at hl 1 rfl) ?_
  refine sa_kRd (As := [.int (o)]) (rest := [.ref (a 0)]) S (c_X1_isOrder l G cI cZ cL a σ th hI o) (cwV 1 hts gX1_whyNot_X1_isOrder rfl rfl rfl (by decide +kernel) ⟨Nat.le_of_ble_eq_true rfl, Nat.le_of_ble_eq_true rfl⟩) hP hK (ci := 1) rfl rfl rfl hl.1 (Nat.le_of_ble_eq_true rfl) rfl dX1_whyNot_3 ⟨Nat.zero_le _, Nat.zero_le _⟩ ?_
  refine sa_spl (fun b_3 => ?_) (fun b_3 => ?_)
  · skip
    have ho : vp_in o (σ.1 1) := sa_inv (by omega) b_3
    refine lv_if_eq (tgt := 21) hx hb dX1_whyNot_6 (by decide) (fun c9 => absurd c9 (by decide)) (fun _ => ?_)
    refine lv_aload_n hx hb dX1_whyNot_9 rfl (lv_at hl 0 rfl) ?_
    refine lv_iload_n hx hb dX1_whyNot_10 rfl (lv_at hl 2 rfl) ?_
    refine sa_kRd (As := [.int (at')]) (rest := [.ref (a 0)]) S (c_X1_isBreak l G cI cZ cL a σ th hI at') (cwV 1 hts gX1_whyNot_X1_isBreak rfl rfl rfl (by decide +kernel) ⟨Nat.le_of_ble_eq_true rfl, Nat.le_of_ble_eq_true rfl⟩) hP hK (ci := 1) rfl rfl rfl hl.1 (Nat.le_of_ble_eq_true rfl) rfl dX1_whyNot_11 ⟨Nat.zero_le _, Nat.zero_le _⟩ ?_
    refine sa_spl (fun b_11 => ?_) (fun b_11 => ?_)
    · skip
      have hat : vp_in at' (σ.1 0) := sa_inv (by omega) b_11
      refine lv_if_eq (tgt := 21) hx hb dX1_whyNot_14 (by decide) (fun c9 => absurd c9 (by decide)) (fun _ => ?_)
      refine lv_iconst (v := 1) hx hb dX1_whyNot_17 (by decide) ?_
      refine lv_goto (tgt := 22) hx hb dX1_whyNot_18 (by decide) ?_
      refine lv_iconst (v := 1) hx hb dX1_whyNot_22 (by decide) ?_
      refine lv_iconst (v := 1) hx hb dX1_whyNot_23 (by decide) ?_
      refine sa_kWr (wd' := sa_W1 cI cZ a σ 0) (r := 1) (As := [.int (1), .int (1), .int (1)]) (rest := []) S (by have h := c_X1_goes l G cI cZ cL a σ th hJ 1 1 1; rw [show sa_gc 1 1 1 = 0 from by decide, show sa_b ((0 : Int32) = 0) = 1 from by decide] at h; exact h) (cwV 3 hts gX1_whyNot_X1_goes rfl rfl rfl (by decide +kernel) ⟨Nat.le_of_ble_eq_true rfl, Nat.le_of_ble_eq_true rfl⟩) hP hK hS (fun _ h => h) (ci := 1) rfl rfl rfl hl.1 (Nat.le_of_ble_eq_true rfl) rfl dX1_whyNot_24 ⟨Nat.zero_le _, Nat.zero_le _⟩ (fun H locs hP hS _ _ => ?_)
      refine lv_if_eq (tgt := 40) hx hb dX1_whyNot_27 (by decide) (fun c9 => absurd c9 (by decide)) (fun _ => ?_)
      refine lv_aload_n hx hb dX1_whyNot_30 rfl (lv_at hl 0 rfl) ?_
      refine lv_iload_n hx hb dX1_whyNot_31 rfl (lv_at hl 1 rfl) ?_
      refine lv_iload_n hx hb dX1_whyNot_32 rfl (lv_at hl 2 rfl) ?_
      refine lv_iconst (v := (-1)) hx hb dX1_whyNot_33 (by decide) ?_
      refine sa_kRd (As := [.int (o), .int (at'), .int ((-1))]) (rest := []) S (c_X1_why l G cI cZ cL a σ 0 hI o at' ((-1)) ho hat) (cwV 3 hts gX1_whyNot_X1_why rfl rfl rfl (by decide +kernel) ⟨Nat.le_of_ble_eq_true rfl, Nat.le_of_ble_eq_true rfl⟩) hP hK (ci := 1) rfl rfl rfl hl.1 (Nat.le_of_ble_eq_true rfl) rfl dX1_whyNot_34 ⟨Nat.zero_le _, Nat.zero_le _⟩ ?_
      refine lv_goto (tgt := 41) hx hb dX1_whyNot_37 (by decide) ?_
      exact W.iret (v := sa_why σ o at' ((-1))) hx hb hr (fun t9 ht _ => ⟨⟨_, (), rfl, (Eq.trans (b := (0, sa_why σ o at' (-1), σ).2.1) rfl (congrArg (fun z : sa_R => z.2.1) (show sp_whyNot σ o at' = _ from sa_go0 ⟨b_3, b_11⟩ trivial trivial)).symm), by show va_P G vwCl (sa_W1 cI cZ a (sp_whyNot σ o at').2.2 (nI (sp_whyNot σ o at').1)) t9.heap; rw [ht]; exact (by rw [(show sp_whyNot σ o at' = _ from sa_go0 ⟨b_3, b_11⟩ trivial trivial)]; exact hP)⟩, hS.F ht⟩) hS.2.2 dX1_whyNot_41
    · skip
      refine lv_if_eq (tgt := 21) hx hb dX1_whyNot_14 (by decide) (fun _ => ?_) (fun c9 => absurd (by decide) c9)
      refine lv_iconst (v := 0) hx hb dX1_whyNot_21 (by decide) ?_
      refine lv_iconst (v := 1) hx hb dX1_whyNot_22 (by decide) ?_
      refine lv_iconst (v := 1) hx hb dX1_whyNot_23 (by decide) ?_
      refine sa_kWr (wd' := sa_W1 cI cZ a σ 1) (r := 0) (As := [.int (0), .int (1), .int (1)]) (rest := []) S (by have h := c_X1_goes l G cI cZ cL a σ th hJ 0 1 1; rw [show sa_gc 0 1 1 = 1 from by decide, show sa_b ((1 : Int32) = 0) = 0 from by decide] at h; exact h) (cwV 3 hts gX1_whyNot_X1_goes rfl rfl rfl (by decide +kernel) ⟨Nat.le_of_ble_eq_true rfl, Nat.le_of_ble_eq_true rfl⟩) hP hK hS (fun _ h => h) (ci := 1) rfl rfl rfl hl.1 (Nat.le_of_ble_eq_true rfl) rfl dX1_whyNot_24 ⟨Nat.zero_le _, Nat.zero_le _⟩ (fun H locs hP hS _ _ => ?_)
      refine lv_if_eq (tgt := 40) hx hb dX1_whyNot_27 (by decide) (fun _ => ?_) (fun c9 => absurd (by decide) c9)
      refine lv_iconst (v := 0) hx hb dX1_whyNot_40 (by decide) ?_
      exact W.iret (v := 0) hx hb hr (fun t9 ht _ => ⟨⟨_, (), rfl, (Eq.trans (b := ((1, 0, σ) : sa_R).2.1) rfl (congrArg (fun z : sa_R => z.2.1) (show sp_whyNot σ o at' = _ from sa_go1 (fun z9 => b_11 z9.2))).symm), by show va_P G vwCl (sa_W1 cI cZ a (sp_whyNot σ o at').2.2 (nI (sp_whyNot σ o at').1)) t9.heap; rw [ht]; exact (by rw [(show sp_whyNot σ o at' = _ from sa_go1 (fun z9 => b_11 z9.2))]; exact hP)⟩, hS.F ht⟩) hS.2.2 dX1_whyNot_41
  · skip
    refine lv_if_eq (tgt := 21) hx hb dX1_whyNot_6 (by decide) (fun _ => ?_) (fun c9 => absurd (by decide) c9)
    refine lv_iconst (v := 0) hx hb dX1_whyNot_21 (by decide) ?_
    refine lv_iconst (v := 1) hx hb dX1_whyNot_22 (by decide) ?_
    refine lv_iconst (v := 1) hx hb dX1_whyNot_23 (by decide) ?_
    refine sa_kWr (wd' := sa_W1 cI cZ a σ 1) (r := 0) (As := [.int (0), .int (1), .int (1)]) (rest := []) S (by have h := c_X1_goes l G cI cZ cL a σ th hJ 0 1 1; rw [show sa_gc 0 1 1 = 1 from by decide, show sa_b ((1 : Int32) = 0) = 0 from by decide] at h; exact h) (cwV 3 hts gX1_whyNot_X1_goes rfl rfl rfl (by decide +kernel) ⟨Nat.le_of_ble_eq_true rfl, Nat.le_of_ble_eq_true rfl⟩) hP hK hS (fun _ h => h) (ci := 1) rfl rfl rfl hl.1 (Nat.le_of_ble_eq_true rfl) rfl dX1_whyNot_24 ⟨Nat.zero_le _, Nat.zero_le _⟩ (fun H locs hP hS _ _ => ?_)
    refine lv_if_eq (tgt := 40) hx hb dX1_whyNot_27 (by decide) (fun _ => ?_) (fun c9 => absurd (by decide) c9)
    refine lv_iconst (v := 0) hx hb dX1_whyNot_40 (by decide) ?_
    exact W.iret (v := 0) hx hb hr (fun t9 ht _ => ⟨⟨_, (), rfl, (Eq.trans (b := ((1, 0, σ) : sa_R).2.1) rfl (congrArg (fun z : sa_R => z.2.1) (show sp_whyNot σ o at' = _ from sa_go1 (fun z9 => b_3 z9.1))).symm), by show va_P G vwCl (sa_W1 cI cZ a (sp_whyNot σ o at').2.2 (nI (sp_whyNot σ o at').1)) t9.heap; rw [ht]; exact (by rw [(show sp_whyNot σ o at' = _ from sa_go1 (fun z9 => b_3 z9.1))]; exact hP)⟩, hS.F ht⟩) hS.2.2 dX1_whyNot_41

set_option maxHeartbeats 4000000 in
set_option maxRecDepth 100000 in
theorem c_X1_place (l : Launch) (G : va_G) (cI cZ cL : ClassId) (a : Nat → Nat) (σ : sa_St) (th : Int32) (hI : sa_I σ) (hJ : sa_J a) (o at' : Int32) : sa_Wr l yX1_place wsX1_place ({ frames := 3, cells := 0, slots := 0, locals := 74 }) G cI cZ cL (sa_W1 cI cZ a σ th) (sa_W1 cI cZ a (sp_place σ o at').2.2 (nI (sp_place σ o at').1)) (sa_A a) [.ref (a 0), .int (o), .int (at')] ((sp_place σ o at').2.1) := by
  obtain ⟨hnb, hno, hns, hgr, hor, hbr, hai⟩ := id hI
  refine Met.ofW (cc := cX1_place) (maxL := 5) (ret := (some .int)) (by decide) rfl ?_
  intro p e s m args below meth c s₁ B9 hml hv
  obtain ⟨rfl, hP, hK⟩ := hv
  have hx := B9.exec
  have hb := B9.bytes
  have hr := B9.returns
  have hlk := B9.notSynchronized
  have hts := atoms_spec (ws := wsX1_place) B9.pre
  have hown : s.vm.findClass RX1 = some m.cls := findClass_of_methodNamed B9.named
  have S : CallFix p m c cX1_place 5 s _ wsX1_place RX1 := ⟨hx, hb, hml, hown, hts⟩
  have hin : ∀ w ∈ wsX10, w ∈ wsX1_place := by decide +kernel
  have hS : va_S (sa_A a) s.heap s.heap [] := va_S.rf
  have hl := lv_entry ([.ref (a 0), .int (o), .int (at')]) (n := 5) (Nat.le_of_ble_eq_true rfl)
  rw [lg_entry_eq]
  generalize (lg_sl ([.ref (a 0), .int (o), .int (at')]) ++ List.replicate (5 - (lg_sl ([.ref (a 0), .int (o), .int (at')])).length) Slot.unset).toArray = ls at hl ⊢
  have hl : lv_has ls 5 [(0, .ref (a 0)), (1, .int (o)), (2, .int (at'))] := hl
  refine lv_aload_n hx hb dX1_place_0 rfl (lv_at hl 0 rfl) ?_
  refine lv_iload_n hx hb dX1_place_1 rfl (lv_at hl 1 rfl) ?_
  refine sa_kRd (As := [.int (o)]) (rest := []) S (c_X1_isOrder l G cI cZ cL a σ th hI o) (cwV 1 hts gX1_place_X1_isOrder rfl rfl rfl (by decide +kernel) ⟨Nat.le_of_ble_eq_true rfl, Nat.le_of_ble_eq_true rfl⟩) hP hK (ci := 1) rfl rfl rfl hl.1 (Nat.le_of_ble_eq_true rfl) rfl dX1_place_2 ⟨Nat.zero_le _, Nat.zero_le _⟩ ?_
  refine sa_spl (fun b_2 => ?_) (fun b_2 => ?_)
  · skip
    have ho : vp_in o (σ.1 1) := sa_inv (by omega) b_2
    refine lv_if_eq (tgt := 20) hx hb dX1_place_5 (by decide) (fun c9 => absurd c9 (by decide)) (fun _ => ?_)
    refine lv_aload_n hx hb dX1_place_8 rfl (lv_at hl 0 rfl) ?_
    refine lv_iload_n hx hb dX1_place_9 rfl (lv_at hl 2 rfl) ?_
    refine sa_kRd (As := [.int (at')]) (rest := []) S (c_X1_isBreak l G cI cZ cL a σ th hI at') (cwV 1 hts gX1_place_X1_isBreak rfl rfl rfl (by decide +kernel) ⟨Nat.le_of_ble_eq_true rfl, Nat.le_of_ble_eq_true rfl⟩) hP hK (ci := 1) rfl rfl rfl hl.1 (Nat.le_of_ble_eq_true rfl) rfl dX1_place_10 ⟨Nat.zero_le _, Nat.zero_le _⟩ ?_
    refine sa_spl (fun b_10 => ?_) (fun b_10 => ?_)
    · skip
      have hat : vp_in at' (σ.1 0) := sa_inv (by omega) b_10
      refine lv_if_eq (tgt := 20) hx hb dX1_place_13 (by decide) (fun c9 => absurd c9 (by decide)) (fun _ => ?_)
      refine lv_iconst (v := 1) hx hb dX1_place_16 (by decide) ?_
      refine lv_goto (tgt := 21) hx hb dX1_place_17 (by decide) ?_
      refine lv_istore_n (lv' := [(3, .int (1)), (0, .ref (a 0)), (1, .int (o)), (2, .int (at'))]) hx hb dX1_place_21 rfl hl (by decide) rfl (fun ls hl => ?_)
      refine lv_iload_n hx hb dX1_place_22 rfl (lv_at hl 0 rfl) ?_
      refine lv_if_eq (tgt := 59) hx hb dX1_place_23 (by decide) (fun c9 => absurd c9 (by decide)) (fun _ => ?_)
      refine lv_aload_n hx hb dX1_place_26 rfl (lv_at hl 1 rfl) ?_
      refine sa_g1_closed S hin hK hP (by decide +kernel) dX1_place_27 ?_
      refine lv_iload_n hx hb dX1_place_30 rfl (lv_at hl 2 rfl) ?_
      refine sa_ldz 11 S hK hP rfl (sa_vm ho (by omega)) dX1_place_31 ?_
      refine lv_if_ne (tgt := 59) hx hb dX1_place_32 (by decide) (fun c_32 => ?_) (fun c_32 => ?_)
      · skip
        refine lv_iconst (v := 0) hx hb dX1_place_59 (by decide) ?_
        refine lv_istore (lv' := [(4, .int (0)), (3, .int (1)), (0, .ref (a 0)), (1, .int (o)), (2, .int (at'))]) hx hb dX1_place_60 hl (by decide) rfl (fun ls hl => ?_)
        refine lv_aload_n hx hb dX1_place_62 rfl (lv_at hl 2 rfl) ?_
        refine lv_iload_n hx hb dX1_place_63 rfl (lv_at hl 1 rfl) ?_
        refine lv_iload hx hb dX1_place_64 (lv_at hl 0 rfl) ?_
        refine lv_iconst (v := 1) hx hb dX1_place_66 (by decide) ?_
        refine sa_kWr (wd' := sa_W1 cI cZ a σ 2) (r := 0) (As := [.int (1), .int (0), .int (1)]) (rest := []) S (by have h := c_X1_goes l G cI cZ cL a σ th hJ 1 0 1; rw [show sa_gc 1 0 1 = 2 from by decide, show sa_b ((2 : Int32) = 0) = 0 from by decide] at h; exact h) (cwV 3 hts gX1_place_X1_goes rfl rfl rfl (by decide +kernel) ⟨Nat.le_of_ble_eq_true rfl, Nat.le_of_ble_eq_true rfl⟩) hP hK hS (fun _ h => h) (ci := 1) rfl rfl rfl hl.1 (Nat.le_of_ble_eq_true rfl) rfl dX1_place_67 ⟨Nat.zero_le _, Nat.zero_le _⟩ (fun H locs hP hS _ _ => ?_)
        refine lv_if_eq (tgt := 83) hx hb dX1_place_70 (by decide) (fun _ => ?_) (fun c9 => absurd (by decide) c9)
        refine lv_iconst (v := 0) hx hb dX1_place_83 (by decide) ?_
        exact W.iret (v := 0) hx hb hr (fun t9 ht _ => ⟨⟨_, (), rfl, (Eq.trans (b := ((2, 0, σ) : sa_R).2.1) rfl (congrArg (fun z : sa_R => z.2.1) (show sp_place σ o at' = _ from sa_go2 ⟨b_2, b_10⟩ (fun z9 => c_32 z9.1))).symm), by show va_P G vwCl (sa_W1 cI cZ a (sp_place σ o at').2.2 (nI (sp_place σ o at').1)) t9.heap; rw [ht]; exact (by rw [(show sp_place σ o at' = _ from sa_go2 ⟨b_2, b_10⟩ (fun z9 => c_32 z9.1))]; exact hP)⟩, hS.F ht⟩) hS.2.2 dX1_place_84
      · skip
        refine lv_aload_n hx hb dX1_place_35 rfl (lv_at hl 1 rfl) ?_
        refine sa_g1_spots S hin hK hP (by decide +kernel) dX1_place_36 ?_
        refine lv_sipush (v := 150) hx hb dX1_place_39 (by decide) ?_
        refine lv_icmp_ge (tgt := 59) hx hb dX1_place_42 (by decide) (fun c_42 => ?_) (fun c_42 => ?_)
        · skip
          have c_42 := Int32.not_lt.mpr c_42
          refine lv_iconst (v := 0) hx hb dX1_place_59 (by decide) ?_
          refine lv_istore (lv' := [(4, .int (0)), (3, .int (1)), (0, .ref (a 0)), (1, .int (o)), (2, .int (at'))]) hx hb dX1_place_60 hl (by decide) rfl (fun ls hl => ?_)
          refine lv_aload_n hx hb dX1_place_62 rfl (lv_at hl 2 rfl) ?_
          refine lv_iload_n hx hb dX1_place_63 rfl (lv_at hl 1 rfl) ?_
          refine lv_iload hx hb dX1_place_64 (lv_at hl 0 rfl) ?_
          refine lv_iconst (v := 1) hx hb dX1_place_66 (by decide) ?_
          refine sa_kWr (wd' := sa_W1 cI cZ a σ 2) (r := 0) (As := [.int (1), .int (0), .int (1)]) (rest := []) S (by have h := c_X1_goes l G cI cZ cL a σ th hJ 1 0 1; rw [show sa_gc 1 0 1 = 2 from by decide, show sa_b ((2 : Int32) = 0) = 0 from by decide] at h; exact h) (cwV 3 hts gX1_place_X1_goes rfl rfl rfl (by decide +kernel) ⟨Nat.le_of_ble_eq_true rfl, Nat.le_of_ble_eq_true rfl⟩) hP hK hS (fun _ h => h) (ci := 1) rfl rfl rfl hl.1 (Nat.le_of_ble_eq_true rfl) rfl dX1_place_67 ⟨Nat.zero_le _, Nat.zero_le _⟩ (fun H locs hP hS _ _ => ?_)
          refine lv_if_eq (tgt := 83) hx hb dX1_place_70 (by decide) (fun _ => ?_) (fun c9 => absurd (by decide) c9)
          refine lv_iconst (v := 0) hx hb dX1_place_83 (by decide) ?_
          exact W.iret (v := 0) hx hb hr (fun t9 ht _ => ⟨⟨_, (), rfl, (Eq.trans (b := ((2, 0, σ) : sa_R).2.1) rfl (congrArg (fun z : sa_R => z.2.1) (show sp_place σ o at' = _ from sa_go2 ⟨b_2, b_10⟩ (fun z9 => c_42 z9.2.1))).symm), by show va_P G vwCl (sa_W1 cI cZ a (sp_place σ o at').2.2 (nI (sp_place σ o at').1)) t9.heap; rw [ht]; exact (by rw [(show sp_place σ o at' = _ from sa_go2 ⟨b_2, b_10⟩ (fun z9 => c_42 z9.2.1))]; exact hP)⟩, hS.F ht⟩) hS.2.2 dX1_place_84
        · skip
          have c_42 := Int32.not_le.mp c_42
          refine lv_aload_n hx hb dX1_place_45 rfl (lv_at hl 1 rfl) ?_
          refine lv_iload_n hx hb dX1_place_46 rfl (lv_at hl 2 rfl) ?_
          refine lv_iload_n hx hb dX1_place_47 rfl (lv_at hl 3 rfl) ?_
          refine lv_iconst (v := (-1)) hx hb dX1_place_48 (by decide) ?_
          refine sa_kRd (As := [.int (o), .int (at'), .int ((-1))]) (rest := []) S (c_X1_why l G cI cZ cL a σ th hI o at' ((-1)) ho hat) (cwV 3 hts gX1_place_X1_why rfl rfl rfl (by decide +kernel) ⟨Nat.le_of_ble_eq_true rfl, Nat.le_of_ble_eq_true rfl⟩) hP hK (ci := 1) rfl rfl rfl hl.1 (Nat.le_of_ble_eq_true rfl) rfl dX1_place_49 ⟨Nat.zero_le _, Nat.zero_le _⟩ ?_
          refine lv_if_ne (tgt := 59) hx hb dX1_place_52 (by decide) (fun c_52 => ?_) (fun c_52 => ?_)
          · skip
            refine lv_iconst (v := 0) hx hb dX1_place_59 (by decide) ?_
            refine lv_istore (lv' := [(4, .int (0)), (3, .int (1)), (0, .ref (a 0)), (1, .int (o)), (2, .int (at'))]) hx hb dX1_place_60 hl (by decide) rfl (fun ls hl => ?_)
            refine lv_aload_n hx hb dX1_place_62 rfl (lv_at hl 2 rfl) ?_
            refine lv_iload_n hx hb dX1_place_63 rfl (lv_at hl 1 rfl) ?_
            refine lv_iload hx hb dX1_place_64 (lv_at hl 0 rfl) ?_
            refine lv_iconst (v := 1) hx hb dX1_place_66 (by decide) ?_
            refine sa_kWr (wd' := sa_W1 cI cZ a σ 2) (r := 0) (As := [.int (1), .int (0), .int (1)]) (rest := []) S (by have h := c_X1_goes l G cI cZ cL a σ th hJ 1 0 1; rw [show sa_gc 1 0 1 = 2 from by decide, show sa_b ((2 : Int32) = 0) = 0 from by decide] at h; exact h) (cwV 3 hts gX1_place_X1_goes rfl rfl rfl (by decide +kernel) ⟨Nat.le_of_ble_eq_true rfl, Nat.le_of_ble_eq_true rfl⟩) hP hK hS (fun _ h => h) (ci := 1) rfl rfl rfl hl.1 (Nat.le_of_ble_eq_true rfl) rfl dX1_place_67 ⟨Nat.zero_le _, Nat.zero_le _⟩ (fun H locs hP hS _ _ => ?_)
            refine lv_if_eq (tgt := 83) hx hb dX1_place_70 (by decide) (fun _ => ?_) (fun c9 => absurd (by decide) c9)
            refine lv_iconst (v := 0) hx hb dX1_place_83 (by decide) ?_
            exact W.iret (v := 0) hx hb hr (fun t9 ht _ => ⟨⟨_, (), rfl, (Eq.trans (b := ((2, 0, σ) : sa_R).2.1) rfl (congrArg (fun z : sa_R => z.2.1) (show sp_place σ o at' = _ from sa_go2 ⟨b_2, b_10⟩ (by intro z9; simp [b_2, b_10, c_32, c_42, c_52] at z9))).symm), by show va_P G vwCl (sa_W1 cI cZ a (sp_place σ o at').2.2 (nI (sp_place σ o at').1)) t9.heap; rw [ht]; exact (by rw [(show sp_place σ o at' = _ from sa_go2 ⟨b_2, b_10⟩ (by intro z9; simp [b_2, b_10, c_32, c_42, c_52] at z9))]; exact hP)⟩, hS.F ht⟩) hS.2.2 dX1_place_84
          · skip
            refine lv_iconst (v := 1) hx hb dX1_place_55 (by decide) ?_
            refine lv_goto (tgt := 60) hx hb dX1_place_56 (by decide) ?_
            refine lv_istore (lv' := [(4, .int (1)), (3, .int (1)), (0, .ref (a 0)), (1, .int (o)), (2, .int (at'))]) hx hb dX1_place_60 hl (by decide) rfl (fun ls hl => ?_)
            refine lv_aload_n hx hb dX1_place_62 rfl (lv_at hl 2 rfl) ?_
            refine lv_iload_n hx hb dX1_place_63 rfl (lv_at hl 1 rfl) ?_
            refine lv_iload hx hb dX1_place_64 (lv_at hl 0 rfl) ?_
            refine lv_iconst (v := 1) hx hb dX1_place_66 (by decide) ?_
            refine sa_kWr (wd' := sa_W1 cI cZ a σ 0) (r := 1) (As := [.int (1), .int (1), .int (1)]) (rest := []) S (by have h := c_X1_goes l G cI cZ cL a σ th hJ 1 1 1; rw [show sa_gc 1 1 1 = 0 from by decide, show sa_b ((0 : Int32) = 0) = 1 from by decide] at h; exact h) (cwV 3 hts gX1_place_X1_goes rfl rfl rfl (by decide +kernel) ⟨Nat.le_of_ble_eq_true rfl, Nat.le_of_ble_eq_true rfl⟩) hP hK hS (fun _ h => h) (ci := 1) rfl rfl rfl hl.1 (Nat.le_of_ble_eq_true rfl) rfl dX1_place_67 ⟨Nat.zero_le _, Nat.zero_le _⟩ (fun H locs hP hS _ _ => ?_)
            refine lv_if_eq (tgt := 83) hx hb dX1_place_70 (by decide) (fun c9 => absurd c9 (by decide)) (fun _ => ?_)
            refine lv_aload_n hx hb dX1_place_73 rfl (lv_at hl 2 rfl) ?_
            refine lv_iload_n hx hb dX1_place_74 rfl (lv_at hl 3 rfl) ?_
            refine lv_iload_n hx hb dX1_place_75 rfl (lv_at hl 4 rfl) ?_
            refine lv_iconst (v := 0) hx hb dX1_place_76 (by decide) ?_
            refine sa_kWr (wd' := sa_W1 cI cZ a (sa_add σ o at' 0) 0) (As := [.int (o), .int (at'), .int (0)]) (rest := []) S (c_X1_adds l G cI cZ cL a σ 0 hI hJ (sa_ltN (by omega) (by decide) c_42) o at' 0 (Or.inl rfl)) (cwV 3 hts gX1_place_X1_adds rfl rfl rfl (by decide +kernel) ⟨Nat.le_of_ble_eq_true rfl, Nat.le_of_ble_eq_true rfl⟩) hP hK hS (fun _ h => h) (ci := 1) rfl rfl rfl hl.1 (Nat.le_of_ble_eq_true rfl) rfl dX1_place_77 ⟨Nat.zero_le _, Nat.zero_le _⟩ (fun H locs hP hS _ _ => ?_)
            refine lv_goto (tgt := 84) hx hb dX1_place_80 (by decide) ?_
            exact W.iret (v := nI (σ.1 2)) hx hb hr (fun t9 ht _ => ⟨⟨_, (), rfl, (Eq.trans (b := (0, nI (σ.1 2), sa_add σ o at' 0).2.1) rfl (congrArg (fun z : sa_R => z.2.1) (show sp_place σ o at' = _ from sa_go0 ⟨b_2, b_10⟩ ⟨c_32, c_42, (by simp [b_2, b_10, c_32, c_42, c_52])⟩ trivial)).symm), by show va_P G vwCl (sa_W1 cI cZ a (sp_place σ o at').2.2 (nI (sp_place σ o at').1)) t9.heap; rw [ht]; exact (by rw [(show sp_place σ o at' = _ from sa_go0 ⟨b_2, b_10⟩ ⟨c_32, c_42, (by simp [b_2, b_10, c_32, c_42, c_52])⟩ trivial)]; exact hP)⟩, hS.F ht⟩) hS.2.2 dX1_place_84
    · skip
      refine lv_if_eq (tgt := 20) hx hb dX1_place_13 (by decide) (fun _ => ?_) (fun c9 => absurd (by decide) c9)
      refine lv_iconst (v := 0) hx hb dX1_place_20 (by decide) ?_
      refine lv_istore_n (lv' := [(3, .int (0)), (0, .ref (a 0)), (1, .int (o)), (2, .int (at'))]) hx hb dX1_place_21 rfl hl (by decide) rfl (fun ls hl => ?_)
      refine lv_iload_n hx hb dX1_place_22 rfl (lv_at hl 0 rfl) ?_
      refine lv_if_eq (tgt := 59) hx hb dX1_place_23 (by decide) (fun _ => ?_) (fun c9 => absurd (by decide) c9)
      refine lv_iconst (v := 0) hx hb dX1_place_59 (by decide) ?_
      refine lv_istore (lv' := [(4, .int (0)), (3, .int (0)), (0, .ref (a 0)), (1, .int (o)), (2, .int (at'))]) hx hb dX1_place_60 hl (by decide) rfl (fun ls hl => ?_)
      refine lv_aload_n hx hb dX1_place_62 rfl (lv_at hl 2 rfl) ?_
      refine lv_iload_n hx hb dX1_place_63 rfl (lv_at hl 1 rfl) ?_
      refine lv_iload hx hb dX1_place_64 (lv_at hl 0 rfl) ?_
      refine lv_iconst (v := 1) hx hb dX1_place_66 (by decide) ?_
      refine sa_kWr (wd' := sa_W1 cI cZ a σ 1) (r := 0) (As := [.int (0), .int (0), .int (1)]) (rest := []) S (by have h := c_X1_goes l G cI cZ cL a σ th hJ 0 0 1; rw [show sa_gc 0 0 1 = 1 from by decide, show sa_b ((1 : Int32) = 0) = 0 from by decide] at h; exact h) (cwV 3 hts gX1_place_X1_goes rfl rfl rfl (by decide +kernel) ⟨Nat.le_of_ble_eq_true rfl, Nat.le_of_ble_eq_true rfl⟩) hP hK hS (fun _ h => h) (ci := 1) rfl rfl rfl hl.1 (Nat.le_of_ble_eq_true rfl) rfl dX1_place_67 ⟨Nat.zero_le _, Nat.zero_le _⟩ (fun H locs hP hS _ _ => ?_)
      refine lv_if_eq (tgt := 83) hx hb dX1_place_70 (by decide) (fun _ => ?_) (fun c9 => absurd (by decide) c9)
      refine lv_iconst (v := 0) hx hb dX1_place_83 (by decide) ?_
      exact W.iret (v := 0) hx hb hr (fun t9 ht _ => ⟨⟨_, (), rfl, (Eq.trans (b := ((1, 0, σ) : sa_R).2.1) rfl (congrArg (fun z : sa_R => z.2.1) (show sp_place σ o at' = _ from sa_go1 (fun z9 => b_10 z9.2))).symm), by show va_P G vwCl (sa_W1 cI cZ a (sp_place σ o at').2.2 (nI (sp_place σ o at').1)) t9.heap; rw [ht]; exact (by rw [(show sp_place σ o at' = _ from sa_go1 (fun z9 => b_10 z9.2))]; exact hP)⟩, hS.F ht⟩) hS.2.2 dX1_place_84
  · skip
    refine lv_if_eq (tgt := 20) hx hb dX1_place_5 (by decide) (fun _ => ?_) (fun c9 => absurd (by decide) c9)
    refine lv_iconst (v := 0) hx hb dX1_place_20 (by decide) ?_
    refine lv_istore_n (lv' := [(3, .int (0)), (0, .ref (a 0)), (1, .int (o)), (2, .int (at'))]) hx hb dX1_place_21 rfl hl (by decide) rfl (fun ls hl => ?_)
    refine lv_iload_n hx hb dX1_place_22 rfl (lv_at hl 0 rfl) ?_
    refine lv_if_eq (tgt := 59) hx hb dX1_place_23 (by decide) (fun _ => ?_) (fun c9 => absurd (by decide) c9)
    refine lv_iconst (v := 0) hx hb dX1_place_59 (by decide) ?_
    refine lv_istore (lv' := [(4, .int (0)), (3, .int (0)), (0, .ref (a 0)), (1, .int (o)), (2, .int (at'))]) hx hb dX1_place_60 hl (by decide) rfl (fun ls hl => ?_)
    refine lv_aload_n hx hb dX1_place_62 rfl (lv_at hl 2 rfl) ?_
    refine lv_iload_n hx hb dX1_place_63 rfl (lv_at hl 1 rfl) ?_
    refine lv_iload hx hb dX1_place_64 (lv_at hl 0 rfl) ?_
    refine lv_iconst (v := 1) hx hb dX1_place_66 (by decide) ?_
    refine sa_kWr (wd' := sa_W1 cI cZ a σ 1) (r := 0) (As := [.int (0), .int (0), .int (1)]) (rest := []) S (by have h := c_X1_goes l G cI cZ cL a σ th hJ 0 0 1; rw [show sa_gc 0 0 1 = 1 from by decide, show sa_b ((1 : Int32) = 0) = 0 from by decide] at h; exact h) (cwV 3 hts gX1_place_X1_goes rfl rfl rfl (by decide +kernel) ⟨Nat.le_of_ble_eq_true rfl, Nat.le_of_ble_eq_true rfl⟩) hP hK hS (fun _ h => h) (ci := 1) rfl rfl rfl hl.1 (Nat.le_of_ble_eq_true rfl) rfl dX1_place_67 ⟨Nat.zero_le _, Nat.zero_le _⟩ (fun H locs hP hS _ _ => ?_)
    refine lv_if_eq (tgt := 83) hx hb dX1_place_70 (by decide) (fun _ => ?_) (fun c9 => absurd (by decide) c9)
    refine lv_iconst (v := 0) hx hb dX1_place_83 (by decide) ?_
    exact W.iret (v := 0) hx hb hr (fun t9 ht _ => ⟨⟨_, (), rfl, (Eq.trans (b := ((1, 0, σ) : sa_R).2.1) rfl (congrArg (fun z : sa_R => z.2.1) (show sp_place σ o at' = _ from sa_go1 (fun z9 => b_2 z9.1))).symm), by show va_P G vwCl (sa_W1 cI cZ a (sp_place σ o at').2.2 (nI (sp_place σ o at').1)) t9.heap; rw [ht]; exact (by rw [(show sp_place σ o at' = _ from sa_go1 (fun z9 => b_2 z9.1))]; exact hP)⟩, hS.F ht⟩) hS.2.2 dX1_place_84

set_option maxHeartbeats 4000000 in
set_option maxRecDepth 100000 in
theorem c_X1_give (l : Launch) (G : va_G) (cI cZ cL : ClassId) (a : Nat → Nat) (σ : sa_St) (th : Int32) (hI : sa_I σ) (hJ : sa_J a) (o at' : Int32) : sa_Wr l yX1_give wsX1_give ({ frames := 4, cells := 0, slots := 0, locals := 91 }) G cI cZ cL (sa_W1 cI cZ a σ th) (sa_W1 cI cZ a (sp_give σ o at').2.2 (nI (sp_give σ o at').1)) (sa_A a) [.ref (a 0), .int (o), .int (at')] ((sp_give σ o at').2.1) := by
  obtain ⟨hnb, hno, hns, hgr, hor, hbr, hai⟩ := id hI
  refine Met.ofW (cc := cX1_give) (maxL := 5) (ret := (some .int)) (by decide) rfl ?_
  intro p e s m args below meth c s₁ B9 hml hv
  obtain ⟨rfl, hP, hK⟩ := hv
  have hx := B9.exec
  have hb := B9.bytes
  have hr := B9.returns
  have hlk := B9.notSynchronized
  have hts := atoms_spec (ws := wsX1_give) B9.pre
  have hown : s.vm.findClass RX1 = some m.cls := findClass_of_methodNamed B9.named
  have S : CallFix p m c cX1_give 5 s _ wsX1_give RX1 := ⟨hx, hb, hml, hown, hts⟩
  have hin : ∀ w ∈ wsX10, w ∈ wsX1_give := by decide +kernel
  have hS : va_S (sa_A a) s.heap s.heap [] := va_S.rf
  have hl := lv_entry ([.ref (a 0), .int (o), .int (at')]) (n := 5) (Nat.le_of_ble_eq_true rfl)
  rw [lg_entry_eq]
  generalize (lg_sl ([.ref (a 0), .int (o), .int (at')]) ++ List.replicate (5 - (lg_sl ([.ref (a 0), .int (o), .int (at')])).length) Slot.unset).toArray = ls at hl ⊢
  have hl : lv_has ls 5 [(0, .ref (a 0)), (1, .int (o)), (2, .int (at'))] := hl
  refine lv_aload_n hx hb dX1_give_0 rfl (lv_at hl 0 rfl) ?_
  refine lv_iload_n hx hb dX1_give_1 rfl (lv_at hl 1 rfl) ?_
  refine sa_kRd (As := [.int (o)]) (rest := []) S (c_X1_isOrder l G cI cZ cL a σ th hI o) (cwV 1 hts gX1_give_X1_isOrder rfl rfl rfl (by decide +kernel) ⟨Nat.le_of_ble_eq_true rfl, Nat.le_of_ble_eq_true rfl⟩) hP hK (ci := 1) rfl rfl rfl hl.1 (Nat.le_of_ble_eq_true rfl) rfl dX1_give_2 ⟨Nat.zero_le _, Nat.zero_le _⟩ ?_
  refine sa_spl (fun b_2 => ?_) (fun b_2 => ?_)
  · skip
    have ho : vp_in o (σ.1 1) := sa_inv (by omega) b_2
    refine lv_if_eq (tgt := 20) hx hb dX1_give_5 (by decide) (fun c9 => absurd c9 (by decide)) (fun _ => ?_)
    refine lv_aload_n hx hb dX1_give_8 rfl (lv_at hl 0 rfl) ?_
    refine lv_iload_n hx hb dX1_give_9 rfl (lv_at hl 2 rfl) ?_
    refine sa_kRd (As := [.int (at')]) (rest := []) S (c_X1_isBreak l G cI cZ cL a σ th hI at') (cwV 1 hts gX1_give_X1_isBreak rfl rfl rfl (by decide +kernel) ⟨Nat.le_of_ble_eq_true rfl, Nat.le_of_ble_eq_true rfl⟩) hP hK (ci := 1) rfl rfl rfl hl.1 (Nat.le_of_ble_eq_true rfl) rfl dX1_give_10 ⟨Nat.zero_le _, Nat.zero_le _⟩ ?_
    refine sa_spl (fun b_10 => ?_) (fun b_10 => ?_)
    · skip
      have hat : vp_in at' (σ.1 0) := sa_inv (by omega) b_10
      refine lv_if_eq (tgt := 20) hx hb dX1_give_13 (by decide) (fun c9 => absurd c9 (by decide)) (fun _ => ?_)
      refine lv_iconst (v := 1) hx hb dX1_give_16 (by decide) ?_
      refine lv_goto (tgt := 21) hx hb dX1_give_17 (by decide) ?_
      refine lv_istore_n (lv' := [(3, .int (1)), (0, .ref (a 0)), (1, .int (o)), (2, .int (at'))]) hx hb dX1_give_21 rfl hl (by decide) rfl (fun ls hl => ?_)
      refine lv_iload_n hx hb dX1_give_22 rfl (lv_at hl 0 rfl) ?_
      refine lv_if_eq (tgt := 58) hx hb dX1_give_23 (by decide) (fun c9 => absurd c9 (by decide)) (fun _ => ?_)
      refine lv_aload_n hx hb dX1_give_26 rfl (lv_at hl 1 rfl) ?_
      refine lv_iload_n hx hb dX1_give_27 rfl (lv_at hl 2 rfl) ?_
      refine sa_kRd (As := [.int (o)]) (rest := []) S (c_X1_left l G cI cZ cL a σ th hI o ho) (cwV 1 hts gX1_give_X1_left rfl rfl rfl (by decide +kernel) ⟨Nat.le_of_ble_eq_true rfl, Nat.le_of_ble_eq_true rfl⟩) hP hK (ci := 1) rfl rfl rfl hl.1 (Nat.le_of_ble_eq_true rfl) rfl dX1_give_28 ⟨Nat.zero_le _, Nat.zero_le _⟩ ?_
      refine lv_if_le (tgt := 58) hx hb dX1_give_31 (by decide) (fun c_31 => ?_) (fun c_31 => ?_)
      · skip
        have c_31 := Int32.not_lt.mpr c_31
        refine lv_iconst (v := 0) hx hb dX1_give_58 (by decide) ?_
        refine lv_istore (lv' := [(4, .int (0)), (3, .int (1)), (0, .ref (a 0)), (1, .int (o)), (2, .int (at'))]) hx hb dX1_give_59 hl (by decide) rfl (fun ls hl => ?_)
        refine lv_aload_n hx hb dX1_give_61 rfl (lv_at hl 2 rfl) ?_
        refine lv_iload_n hx hb dX1_give_62 rfl (lv_at hl 1 rfl) ?_
        refine lv_iload hx hb dX1_give_63 (lv_at hl 0 rfl) ?_
        refine lv_iconst (v := 1) hx hb dX1_give_65 (by decide) ?_
        refine sa_kWr (wd' := sa_W1 cI cZ a σ 2) (r := 0) (As := [.int (1), .int (0), .int (1)]) (rest := []) S (by have h := c_X1_goes l G cI cZ cL a σ th hJ 1 0 1; rw [show sa_gc 1 0 1 = 2 from by decide, show sa_b ((2 : Int32) = 0) = 0 from by decide] at h; exact h) (cwV 3 hts gX1_give_X1_goes rfl rfl rfl (by decide +kernel) ⟨Nat.le_of_ble_eq_true rfl, Nat.le_of_ble_eq_true rfl⟩) hP hK hS (fun _ h => h) (ci := 1) rfl rfl rfl hl.1 (Nat.le_of_ble_eq_true rfl) rfl dX1_give_66 ⟨Nat.zero_le _, Nat.zero_le _⟩ (fun H locs hP hS _ _ => ?_)
        refine lv_if_eq (tgt := 82) hx hb dX1_give_69 (by decide) (fun _ => ?_) (fun c9 => absurd (by decide) c9)
        refine lv_iconst (v := 0) hx hb dX1_give_82 (by decide) ?_
        exact W.iret (v := 0) hx hb hr (fun t9 ht _ => ⟨⟨_, (), rfl, (Eq.trans (b := ((2, 0, σ) : sa_R).2.1) rfl (congrArg (fun z : sa_R => z.2.1) (show sp_give σ o at' = _ from sa_go2 ⟨b_2, b_10⟩ (fun z9 => c_31 z9.1))).symm), by show va_P G vwCl (sa_W1 cI cZ a (sp_give σ o at').2.2 (nI (sp_give σ o at').1)) t9.heap; rw [ht]; exact (by rw [(show sp_give σ o at' = _ from sa_go2 ⟨b_2, b_10⟩ (fun z9 => c_31 z9.1))]; exact hP)⟩, hS.F ht⟩) hS.2.2 dX1_give_83
      · skip
        have c_31 := Int32.not_le.mp c_31
        refine lv_aload_n hx hb dX1_give_34 rfl (lv_at hl 1 rfl) ?_
        refine sa_g1_spots S hin hK hP (by decide +kernel) dX1_give_35 ?_
        refine lv_sipush (v := 150) hx hb dX1_give_38 (by decide) ?_
        refine lv_icmp_ge (tgt := 58) hx hb dX1_give_41 (by decide) (fun c_41 => ?_) (fun c_41 => ?_)
        · skip
          have c_41 := Int32.not_lt.mpr c_41
          refine lv_iconst (v := 0) hx hb dX1_give_58 (by decide) ?_
          refine lv_istore (lv' := [(4, .int (0)), (3, .int (1)), (0, .ref (a 0)), (1, .int (o)), (2, .int (at'))]) hx hb dX1_give_59 hl (by decide) rfl (fun ls hl => ?_)
          refine lv_aload_n hx hb dX1_give_61 rfl (lv_at hl 2 rfl) ?_
          refine lv_iload_n hx hb dX1_give_62 rfl (lv_at hl 1 rfl) ?_
          refine lv_iload hx hb dX1_give_63 (lv_at hl 0 rfl) ?_
          refine lv_iconst (v := 1) hx hb dX1_give_65 (by decide) ?_
          refine sa_kWr (wd' := sa_W1 cI cZ a σ 2) (r := 0) (As := [.int (1), .int (0), .int (1)]) (rest := []) S (by have h := c_X1_goes l G cI cZ cL a σ th hJ 1 0 1; rw [show sa_gc 1 0 1 = 2 from by decide, show sa_b ((2 : Int32) = 0) = 0 from by decide] at h; exact h) (cwV 3 hts gX1_give_X1_goes rfl rfl rfl (by decide +kernel) ⟨Nat.le_of_ble_eq_true rfl, Nat.le_of_ble_eq_true rfl⟩) hP hK hS (fun _ h => h) (ci := 1) rfl rfl rfl hl.1 (Nat.le_of_ble_eq_true rfl) rfl dX1_give_66 ⟨Nat.zero_le _, Nat.zero_le _⟩ (fun H locs hP hS _ _ => ?_)
          refine lv_if_eq (tgt := 82) hx hb dX1_give_69 (by decide) (fun _ => ?_) (fun c9 => absurd (by decide) c9)
          refine lv_iconst (v := 0) hx hb dX1_give_82 (by decide) ?_
          exact W.iret (v := 0) hx hb hr (fun t9 ht _ => ⟨⟨_, (), rfl, (Eq.trans (b := ((2, 0, σ) : sa_R).2.1) rfl (congrArg (fun z : sa_R => z.2.1) (show sp_give σ o at' = _ from sa_go2 ⟨b_2, b_10⟩ (fun z9 => c_41 z9.2.1))).symm), by show va_P G vwCl (sa_W1 cI cZ a (sp_give σ o at').2.2 (nI (sp_give σ o at').1)) t9.heap; rw [ht]; exact (by rw [(show sp_give σ o at' = _ from sa_go2 ⟨b_2, b_10⟩ (fun z9 => c_41 z9.2.1))]; exact hP)⟩, hS.F ht⟩) hS.2.2 dX1_give_83
        · skip
          have c_41 := Int32.not_le.mp c_41
          refine lv_aload_n hx hb dX1_give_44 rfl (lv_at hl 1 rfl) ?_
          refine lv_iload_n hx hb dX1_give_45 rfl (lv_at hl 2 rfl) ?_
          refine lv_iload_n hx hb dX1_give_46 rfl (lv_at hl 3 rfl) ?_
          refine lv_iconst (v := (-1)) hx hb dX1_give_47 (by decide) ?_
          refine sa_kRd (As := [.int (o), .int (at'), .int ((-1))]) (rest := []) S (c_X1_why l G cI cZ cL a σ th hI o at' ((-1)) ho hat) (cwV 3 hts gX1_give_X1_why rfl rfl rfl (by decide +kernel) ⟨Nat.le_of_ble_eq_true rfl, Nat.le_of_ble_eq_true rfl⟩) hP hK (ci := 1) rfl rfl rfl hl.1 (Nat.le_of_ble_eq_true rfl) rfl dX1_give_48 ⟨Nat.zero_le _, Nat.zero_le _⟩ ?_
          refine lv_if_ne (tgt := 58) hx hb dX1_give_51 (by decide) (fun c_51 => ?_) (fun c_51 => ?_)
          · skip
            refine lv_iconst (v := 0) hx hb dX1_give_58 (by decide) ?_
            refine lv_istore (lv' := [(4, .int (0)), (3, .int (1)), (0, .ref (a 0)), (1, .int (o)), (2, .int (at'))]) hx hb dX1_give_59 hl (by decide) rfl (fun ls hl => ?_)
            refine lv_aload_n hx hb dX1_give_61 rfl (lv_at hl 2 rfl) ?_
            refine lv_iload_n hx hb dX1_give_62 rfl (lv_at hl 1 rfl) ?_
            refine lv_iload hx hb dX1_give_63 (lv_at hl 0 rfl) ?_
            refine lv_iconst (v := 1) hx hb dX1_give_65 (by decide) ?_
            refine sa_kWr (wd' := sa_W1 cI cZ a σ 2) (r := 0) (As := [.int (1), .int (0), .int (1)]) (rest := []) S (by have h := c_X1_goes l G cI cZ cL a σ th hJ 1 0 1; rw [show sa_gc 1 0 1 = 2 from by decide, show sa_b ((2 : Int32) = 0) = 0 from by decide] at h; exact h) (cwV 3 hts gX1_give_X1_goes rfl rfl rfl (by decide +kernel) ⟨Nat.le_of_ble_eq_true rfl, Nat.le_of_ble_eq_true rfl⟩) hP hK hS (fun _ h => h) (ci := 1) rfl rfl rfl hl.1 (Nat.le_of_ble_eq_true rfl) rfl dX1_give_66 ⟨Nat.zero_le _, Nat.zero_le _⟩ (fun H locs hP hS _ _ => ?_)
            refine lv_if_eq (tgt := 82) hx hb dX1_give_69 (by decide) (fun _ => ?_) (fun c9 => absurd (by decide) c9)
            refine lv_iconst (v := 0) hx hb dX1_give_82 (by decide) ?_
            exact W.iret (v := 0) hx hb hr (fun t9 ht _ => ⟨⟨_, (), rfl, (Eq.trans (b := ((2, 0, σ) : sa_R).2.1) rfl (congrArg (fun z : sa_R => z.2.1) (show sp_give σ o at' = _ from sa_go2 ⟨b_2, b_10⟩ (by intro z9; simp [b_2, b_10, c_31, c_41, c_51] at z9))).symm), by show va_P G vwCl (sa_W1 cI cZ a (sp_give σ o at').2.2 (nI (sp_give σ o at').1)) t9.heap; rw [ht]; exact (by rw [(show sp_give σ o at' = _ from sa_go2 ⟨b_2, b_10⟩ (by intro z9; simp [b_2, b_10, c_31, c_41, c_51] at z9))]; exact hP)⟩, hS.F ht⟩) hS.2.2 dX1_give_83
          · skip
            refine lv_iconst (v := 1) hx hb dX1_give_54 (by decide) ?_
            refine lv_goto (tgt := 59) hx hb dX1_give_55 (by decide) ?_
            refine lv_istore (lv' := [(4, .int (1)), (3, .int (1)), (0, .ref (a 0)), (1, .int (o)), (2, .int (at'))]) hx hb dX1_give_59 hl (by decide) rfl (fun ls hl => ?_)
            refine lv_aload_n hx hb dX1_give_61 rfl (lv_at hl 2 rfl) ?_
            refine lv_iload_n hx hb dX1_give_62 rfl (lv_at hl 1 rfl) ?_
            refine lv_iload hx hb dX1_give_63 (lv_at hl 0 rfl) ?_
            refine lv_iconst (v := 1) hx hb dX1_give_65 (by decide) ?_
            refine sa_kWr (wd' := sa_W1 cI cZ a σ 0) (r := 1) (As := [.int (1), .int (1), .int (1)]) (rest := []) S (by have h := c_X1_goes l G cI cZ cL a σ th hJ 1 1 1; rw [show sa_gc 1 1 1 = 0 from by decide, show sa_b ((0 : Int32) = 0) = 1 from by decide] at h; exact h) (cwV 3 hts gX1_give_X1_goes rfl rfl rfl (by decide +kernel) ⟨Nat.le_of_ble_eq_true rfl, Nat.le_of_ble_eq_true rfl⟩) hP hK hS (fun _ h => h) (ci := 1) rfl rfl rfl hl.1 (Nat.le_of_ble_eq_true rfl) rfl dX1_give_66 ⟨Nat.zero_le _, Nat.zero_le _⟩ (fun H locs hP hS _ _ => ?_)
            refine lv_if_eq (tgt := 82) hx hb dX1_give_69 (by decide) (fun c9 => absurd c9 (by decide)) (fun _ => ?_)
            refine lv_aload_n hx hb dX1_give_72 rfl (lv_at hl 2 rfl) ?_
            refine lv_iload_n hx hb dX1_give_73 rfl (lv_at hl 3 rfl) ?_
            refine lv_iload_n hx hb dX1_give_74 rfl (lv_at hl 4 rfl) ?_
            refine lv_iconst (v := 1) hx hb dX1_give_75 (by decide) ?_
            refine sa_kWr (wd' := sa_W1 cI cZ a (sa_add σ o at' 1) 0) (As := [.int (o), .int (at'), .int (1)]) (rest := []) S (c_X1_adds l G cI cZ cL a σ 0 hI hJ (sa_ltN (by omega) (by decide) c_41) o at' 1 (Or.inr rfl)) (cwV 3 hts gX1_give_X1_adds rfl rfl rfl (by decide +kernel) ⟨Nat.le_of_ble_eq_true rfl, Nat.le_of_ble_eq_true rfl⟩) hP hK hS (fun _ h => h) (ci := 1) rfl rfl rfl hl.1 (Nat.le_of_ble_eq_true rfl) rfl dX1_give_76 ⟨Nat.zero_le _, Nat.zero_le _⟩ (fun H locs hP hS _ _ => ?_)
            refine lv_goto (tgt := 83) hx hb dX1_give_79 (by decide) ?_
            exact W.iret (v := nI (σ.1 2)) hx hb hr (fun t9 ht _ => ⟨⟨_, (), rfl, (Eq.trans (b := (0, nI (σ.1 2), sa_add σ o at' 1).2.1) rfl (congrArg (fun z : sa_R => z.2.1) (show sp_give σ o at' = _ from sa_go0 ⟨b_2, b_10⟩ ⟨c_31, c_41, (by simp [b_2, b_10, c_31, c_41, c_51])⟩ trivial)).symm), by show va_P G vwCl (sa_W1 cI cZ a (sp_give σ o at').2.2 (nI (sp_give σ o at').1)) t9.heap; rw [ht]; exact (by rw [(show sp_give σ o at' = _ from sa_go0 ⟨b_2, b_10⟩ ⟨c_31, c_41, (by simp [b_2, b_10, c_31, c_41, c_51])⟩ trivial)]; exact hP)⟩, hS.F ht⟩) hS.2.2 dX1_give_83
    · skip
      refine lv_if_eq (tgt := 20) hx hb dX1_give_13 (by decide) (fun _ => ?_) (fun c9 => absurd (by decide) c9)
      refine lv_iconst (v := 0) hx hb dX1_give_20 (by decide) ?_
      refine lv_istore_n (lv' := [(3, .int (0)), (0, .ref (a 0)), (1, .int (o)), (2, .int (at'))]) hx hb dX1_give_21 rfl hl (by decide) rfl (fun ls hl => ?_)
      refine lv_iload_n hx hb dX1_give_22 rfl (lv_at hl 0 rfl) ?_
      refine lv_if_eq (tgt := 58) hx hb dX1_give_23 (by decide) (fun _ => ?_) (fun c9 => absurd (by decide) c9)
      refine lv_iconst (v := 0) hx hb dX1_give_58 (by decide) ?_
      refine lv_istore (lv' := [(4, .int (0)), (3, .int (0)), (0, .ref (a 0)), (1, .int (o)), (2, .int (at'))]) hx hb dX1_give_59 hl (by decide) rfl (fun ls hl => ?_)
      refine lv_aload_n hx hb dX1_give_61 rfl (lv_at hl 2 rfl) ?_
      refine lv_iload_n hx hb dX1_give_62 rfl (lv_at hl 1 rfl) ?_
      refine lv_iload hx hb dX1_give_63 (lv_at hl 0 rfl) ?_
      refine lv_iconst (v := 1) hx hb dX1_give_65 (by decide) ?_
      refine sa_kWr (wd' := sa_W1 cI cZ a σ 1) (r := 0) (As := [.int (0), .int (0), .int (1)]) (rest := []) S (by have h := c_X1_goes l G cI cZ cL a σ th hJ 0 0 1; rw [show sa_gc 0 0 1 = 1 from by decide, show sa_b ((1 : Int32) = 0) = 0 from by decide] at h; exact h) (cwV 3 hts gX1_give_X1_goes rfl rfl rfl (by decide +kernel) ⟨Nat.le_of_ble_eq_true rfl, Nat.le_of_ble_eq_true rfl⟩) hP hK hS (fun _ h => h) (ci := 1) rfl rfl rfl hl.1 (Nat.le_of_ble_eq_true rfl) rfl dX1_give_66 ⟨Nat.zero_le _, Nat.zero_le _⟩ (fun H locs hP hS _ _ => ?_)
      refine lv_if_eq (tgt := 82) hx hb dX1_give_69 (by decide) (fun _ => ?_) (fun c9 => absurd (by decide) c9)
      refine lv_iconst (v := 0) hx hb dX1_give_82 (by decide) ?_
      exact W.iret (v := 0) hx hb hr (fun t9 ht _ => ⟨⟨_, (), rfl, (Eq.trans (b := ((1, 0, σ) : sa_R).2.1) rfl (congrArg (fun z : sa_R => z.2.1) (show sp_give σ o at' = _ from sa_go1 (fun z9 => b_10 z9.2))).symm), by show va_P G vwCl (sa_W1 cI cZ a (sp_give σ o at').2.2 (nI (sp_give σ o at').1)) t9.heap; rw [ht]; exact (by rw [(show sp_give σ o at' = _ from sa_go1 (fun z9 => b_10 z9.2))]; exact hP)⟩, hS.F ht⟩) hS.2.2 dX1_give_83
  · skip
    refine lv_if_eq (tgt := 20) hx hb dX1_give_5 (by decide) (fun _ => ?_) (fun c9 => absurd (by decide) c9)
    refine lv_iconst (v := 0) hx hb dX1_give_20 (by decide) ?_
    refine lv_istore_n (lv' := [(3, .int (0)), (0, .ref (a 0)), (1, .int (o)), (2, .int (at'))]) hx hb dX1_give_21 rfl hl (by decide) rfl (fun ls hl => ?_)
    refine lv_iload_n hx hb dX1_give_22 rfl (lv_at hl 0 rfl) ?_
    refine lv_if_eq (tgt := 58) hx hb dX1_give_23 (by decide) (fun _ => ?_) (fun c9 => absurd (by decide) c9)
    refine lv_iconst (v := 0) hx hb dX1_give_58 (by decide) ?_
    refine lv_istore (lv' := [(4, .int (0)), (3, .int (0)), (0, .ref (a 0)), (1, .int (o)), (2, .int (at'))]) hx hb dX1_give_59 hl (by decide) rfl (fun ls hl => ?_)
    refine lv_aload_n hx hb dX1_give_61 rfl (lv_at hl 2 rfl) ?_
    refine lv_iload_n hx hb dX1_give_62 rfl (lv_at hl 1 rfl) ?_
    refine lv_iload hx hb dX1_give_63 (lv_at hl 0 rfl) ?_
    refine lv_iconst (v := 1) hx hb dX1_give_65 (by decide) ?_
    refine sa_kWr (wd' := sa_W1 cI cZ a σ 1) (r := 0) (As := [.int (0), .int (0), .int (1)]) (rest := []) S (by have h := c_X1_goes l G cI cZ cL a σ th hJ 0 0 1; rw [show sa_gc 0 0 1 = 1 from by decide, show sa_b ((1 : Int32) = 0) = 0 from by decide] at h; exact h) (cwV 3 hts gX1_give_X1_goes rfl rfl rfl (by decide +kernel) ⟨Nat.le_of_ble_eq_true rfl, Nat.le_of_ble_eq_true rfl⟩) hP hK hS (fun _ h => h) (ci := 1) rfl rfl rfl hl.1 (Nat.le_of_ble_eq_true rfl) rfl dX1_give_66 ⟨Nat.zero_le _, Nat.zero_le _⟩ (fun H locs hP hS _ _ => ?_)
    refine lv_if_eq (tgt := 82) hx hb dX1_give_69 (by decide) (fun _ => ?_) (fun c9 => absurd (by decide) c9)
    refine lv_iconst (v := 0) hx hb dX1_give_82 (by decide) ?_
    exact W.iret (v := 0) hx hb hr (fun t9 ht _ => ⟨⟨_, (), rfl, (Eq.trans (b := ((1, 0, σ) : sa_R).2.1) rfl (congrArg (fun z : sa_R => z.2.1) (show sp_give σ o at' = _ from sa_go1 (fun z9 => b_2 z9.1))).symm), by show va_P G vwCl (sa_W1 cI cZ a (sp_give σ o at').2.2 (nI (sp_give σ o at').1)) t9.heap; rw [ht]; exact (by rw [(show sp_give σ o at' = _ from sa_go1 (fun z9 => b_2 z9.1))]; exact hP)⟩, hS.F ht⟩) hS.2.2 dX1_give_83

set_option maxHeartbeats 4000000 in
set_option maxRecDepth 100000 in
theorem c_X1_move (l : Launch) (G : va_G) (cI cZ cL : ClassId) (a : Nat → Nat) (σ : sa_St) (th : Int32) (hI : sa_I σ) (hJ : sa_J a) (x at' : Int32) : sa_Wr l yX1_move wsX1_move ({ frames := 3, cells := 0, slots := 0, locals := 74 }) G cI cZ cL (sa_W1 cI cZ a σ th) (sa_W1 cI cZ a (sp_move σ x at').2.2 (nI (sp_move σ x at').1)) (sa_A a) [.ref (a 0), .int (x), .int (at')] ((sp_move σ x at').2.1) := by
  obtain ⟨hnb, hno, hns, hgr, hor, hbr, hai⟩ := id hI
  refine Met.ofW (cc := cX1_move) (maxL := 6) (ret := (some .int)) (by decide) rfl ?_
  intro p e s m args below meth c s₁ B9 hml hv
  obtain ⟨rfl, hP, hK⟩ := hv
  have hx := B9.exec
  have hb := B9.bytes
  have hr := B9.returns
  have hlk := B9.notSynchronized
  have hts := atoms_spec (ws := wsX1_move) B9.pre
  have hown : s.vm.findClass RX1 = some m.cls := findClass_of_methodNamed B9.named
  have S : CallFix p m c cX1_move 6 s _ wsX1_move RX1 := ⟨hx, hb, hml, hown, hts⟩
  have hin : ∀ w ∈ wsX10, w ∈ wsX1_move := by decide +kernel
  have hS : va_S (sa_A a) s.heap s.heap [] := va_S.rf
  have hl := lv_entry ([.ref (a 0), .int (x), .int (at')]) (n := 6) (Nat.le_of_ble_eq_true rfl)
  rw [lg_entry_eq]
  generalize (lg_sl ([.ref (a 0), .int (x), .int (at')]) ++ List.replicate (6 - (lg_sl ([.ref (a 0), .int (x), .int (at')])).length) Slot.unset).toArray = ls at hl ⊢
  have hl : lv_has ls 6 [(0, .ref (a 0)), (1, .int (x)), (2, .int (at'))] := hl
  refine lv_aload_n hx hb dX1_move_0 rfl (lv_at hl 0 rfl) ?_
  refine lv_iload_n hx hb dX1_move_1 rfl (lv_at hl 1 rfl) ?_
  refine sa_kRd (As := [.int (x)]) (rest := []) S (c_X1_isSpot l G cI cZ cL a σ th hI x) (cwV 1 hts gX1_move_X1_isSpot rfl rfl rfl (by decide +kernel) ⟨Nat.le_of_ble_eq_true rfl, Nat.le_of_ble_eq_true rfl⟩) hP hK (ci := 1) rfl rfl rfl hl.1 (Nat.le_of_ble_eq_true rfl) rfl dX1_move_2 ⟨Nat.zero_le _, Nat.zero_le _⟩ ?_
  refine sa_spl (fun b_2 => ?_) (fun b_2 => ?_)
  · skip
    have hsx : vp_in x (σ.1 2) := sa_inv (by omega) b_2
    refine lv_if_eq (tgt := 20) hx hb dX1_move_5 (by decide) (fun c9 => absurd c9 (by decide)) (fun _ => ?_)
    refine lv_aload_n hx hb dX1_move_8 rfl (lv_at hl 0 rfl) ?_
    refine lv_iload_n hx hb dX1_move_9 rfl (lv_at hl 2 rfl) ?_
    refine sa_kRd (As := [.int (at')]) (rest := []) S (c_X1_isBreak l G cI cZ cL a σ th hI at') (cwV 1 hts gX1_move_X1_isBreak rfl rfl rfl (by decide +kernel) ⟨Nat.le_of_ble_eq_true rfl, Nat.le_of_ble_eq_true rfl⟩) hP hK (ci := 1) rfl rfl rfl hl.1 (Nat.le_of_ble_eq_true rfl) rfl dX1_move_10 ⟨Nat.zero_le _, Nat.zero_le _⟩ ?_
    refine sa_spl (fun b_10 => ?_) (fun b_10 => ?_)
    · skip
      have hat : vp_in at' (σ.1 0) := sa_inv (by omega) b_10
      refine lv_if_eq (tgt := 20) hx hb dX1_move_13 (by decide) (fun c9 => absurd c9 (by decide)) (fun _ => ?_)
      refine lv_iconst (v := 1) hx hb dX1_move_16 (by decide) ?_
      refine lv_goto (tgt := 21) hx hb dX1_move_17 (by decide) ?_
      refine lv_istore_n (lv' := [(3, .int (1)), (0, .ref (a 0)), (1, .int (x)), (2, .int (at'))]) hx hb dX1_move_21 rfl hl (by decide) rfl (fun ls hl => ?_)
      refine lv_iload_n hx hb dX1_move_22 rfl (lv_at hl 0 rfl) ?_
      refine lv_if_eq (tgt := 64) hx hb dX1_move_23 (by decide) (fun c9 => absurd c9 (by decide)) (fun _ => ?_)
      refine lv_aload_n hx hb dX1_move_26 rfl (lv_at hl 1 rfl) ?_
      refine sa_g1_state S hin hK hP (by decide +kernel) dX1_move_27 ?_
      refine lv_iload_n hx hb dX1_move_30 rfl (lv_at hl 2 rfl) ?_
      refine sa_ld 14 S hK hP rfl (sa_vm hsx (by omega)) dX1_move_31 ?_
      refine lv_if_ne (tgt := 64) hx hb dX1_move_32 (by decide) (fun c_32 => ?_) (fun c_32 => ?_)
      · skip
        refine lv_iconst (v := 0) hx hb dX1_move_64 (by decide) ?_
        refine lv_istore (lv' := [(4, .int (0)), (3, .int (1)), (0, .ref (a 0)), (1, .int (x)), (2, .int (at'))]) hx hb dX1_move_65 hl (by decide) rfl (fun ls hl => ?_)
        refine lv_aload_n hx hb dX1_move_67 rfl (lv_at hl 2 rfl) ?_
        refine lv_iload_n hx hb dX1_move_68 rfl (lv_at hl 1 rfl) ?_
        refine lv_iload hx hb dX1_move_69 (lv_at hl 0 rfl) ?_
        refine lv_iconst (v := 1) hx hb dX1_move_71 (by decide) ?_
        refine sa_kWr (wd' := sa_W1 cI cZ a σ 2) (r := 0) (As := [.int (1), .int (0), .int (1)]) (rest := []) S (by have h := c_X1_goes l G cI cZ cL a σ th hJ 1 0 1; rw [show sa_gc 1 0 1 = 2 from by decide, show sa_b ((2 : Int32) = 0) = 0 from by decide] at h; exact h) (cwV 3 hts gX1_move_X1_goes rfl rfl rfl (by decide +kernel) ⟨Nat.le_of_ble_eq_true rfl, Nat.le_of_ble_eq_true rfl⟩) hP hK hS (fun _ h => h) (ci := 1) rfl rfl rfl hl.1 (Nat.le_of_ble_eq_true rfl) rfl dX1_move_72 ⟨Nat.zero_le _, Nat.zero_le _⟩ (fun H locs hP hS _ _ => ?_)
        refine lv_if_ne (tgt := 80) hx hb dX1_move_75 (by decide) (fun c9 => absurd (by decide) c9) (fun _ => ?_)
        refine lv_iconst (v := 0) hx hb dX1_move_78 (by decide) ?_
        exact W.iret (v := 0) hx hb hr (fun t9 ht _ => ⟨⟨_, (), rfl, (Eq.trans (b := ((2, 0, σ) : sa_R).2.1) rfl (congrArg (fun z : sa_R => z.2.1) (show sp_move σ x at' = _ from sa_go2 ⟨b_2, b_10⟩ (fun z9 => c_32 z9.1))).symm), by show va_P G vwCl (sa_W1 cI cZ a (sp_move σ x at').2.2 (nI (sp_move σ x at').1)) t9.heap; rw [ht]; exact (by rw [(show sp_move σ x at' = _ from sa_go2 ⟨b_2, b_10⟩ (fun z9 => c_32 z9.1))]; exact hP)⟩, hS.F ht⟩) hS.2.2 dX1_move_79
      · skip
        refine lv_aload_n hx hb dX1_move_35 rfl (lv_at hl 1 rfl) ?_
        refine sa_g1_where S hin hK hP (by decide +kernel) dX1_move_36 ?_
        refine lv_iload_n hx hb dX1_move_39 rfl (lv_at hl 2 rfl) ?_
        refine sa_ld 13 S hK hP rfl (sa_vm hsx (by omega)) dX1_move_40 ?_
        refine lv_iload_n hx hb dX1_move_41 rfl (lv_at hl 3 rfl) ?_
        refine lv_icmp_eq (tgt := 60) hx hb dX1_move_42 (by decide) (fun c_42 => ?_) (fun c_42 => ?_)
        · skip
          refine lv_iconst (v := 1) hx hb dX1_move_60 (by decide) ?_
          refine lv_goto (tgt := 65) hx hb dX1_move_61 (by decide) ?_
          refine lv_istore (lv' := [(4, .int (1)), (3, .int (1)), (0, .ref (a 0)), (1, .int (x)), (2, .int (at'))]) hx hb dX1_move_65 hl (by decide) rfl (fun ls hl => ?_)
          refine lv_aload_n hx hb dX1_move_67 rfl (lv_at hl 2 rfl) ?_
          refine lv_iload_n hx hb dX1_move_68 rfl (lv_at hl 1 rfl) ?_
          refine lv_iload hx hb dX1_move_69 (lv_at hl 0 rfl) ?_
          refine lv_iconst (v := 1) hx hb dX1_move_71 (by decide) ?_
          refine sa_kWr (wd' := sa_W1 cI cZ a σ 0) (r := 1) (As := [.int (1), .int (1), .int (1)]) (rest := []) S (by have h := c_X1_goes l G cI cZ cL a σ th hJ 1 1 1; rw [show sa_gc 1 1 1 = 0 from by decide, show sa_b ((0 : Int32) = 0) = 1 from by decide] at h; exact h) (cwV 3 hts gX1_move_X1_goes rfl rfl rfl (by decide +kernel) ⟨Nat.le_of_ble_eq_true rfl, Nat.le_of_ble_eq_true rfl⟩) hP hK hS (fun _ h => h) (ci := 1) rfl rfl rfl hl.1 (Nat.le_of_ble_eq_true rfl) rfl dX1_move_72 ⟨Nat.zero_le _, Nat.zero_le _⟩ (fun H locs hP hS _ _ => ?_)
          refine lv_if_ne (tgt := 80) hx hb dX1_move_75 (by decide) (fun _ => ?_) (fun c9 => absurd c9 (by decide))
          refine lv_aload_n hx hb dX1_move_80 rfl (lv_at hl 2 rfl) ?_
          refine sa_g1_where S hin hK hP (by decide +kernel) dX1_move_81 ?_
          refine lv_iload_n hx hb dX1_move_84 rfl (lv_at hl 3 rfl) ?_
          refine sa_ld 13 S hK hP rfl (sa_vm hsx (by omega)) dX1_move_85 ?_
          refine lv_istore (lv' := [(5, .int (σ.2 13 x.toNatClampNeg)), (4, .int (1)), (3, .int (1)), (0, .ref (a 0)), (1, .int (x)), (2, .int (at'))]) hx hb dX1_move_86 hl (by decide) rfl (fun ls hl => ?_)
          refine lv_aload_n hx hb dX1_move_88 rfl (lv_at hl 3 rfl) ?_
          refine sa_g1_where S hin hK hP (by decide +kernel) dX1_move_89 ?_
          refine lv_iload_n hx hb dX1_move_92 rfl (lv_at hl 4 rfl) ?_
          refine lv_iload_n hx hb dX1_move_93 rfl (lv_at hl 5 rfl) ?_
          refine sa_st (ws' := (sa_W1 cI cZ a (sa_f σ 13 (upd (σ.2 13) x.toNatClampNeg at')) 0)) 13 S hK hP (sa_D1 hJ) hS rfl (sa_vm hsx (by omega)) rfl dX1_move_94 (fun H locs hP hS => ?_)
          refine lv_iload hx hb dX1_move_95 (lv_at hl 0 rfl) ?_
          exact W.iret (v := σ.2 13 x.toNatClampNeg) hx hb hr (fun t9 ht _ => ⟨⟨_, (), rfl, (Eq.trans (b := (0, σ.2 13 x.toNatClampNeg, sa_f σ 13 (upd (σ.2 13) x.toNatClampNeg at')).2.1) rfl (congrArg (fun z : sa_R => z.2.1) (show sp_move σ x at' = _ from sa_go0 ⟨b_2, b_10⟩ ⟨c_32, (Or.inl c_42)⟩ trivial)).symm), by show va_P G vwCl (sa_W1 cI cZ a (sp_move σ x at').2.2 (nI (sp_move σ x at').1)) t9.heap; rw [ht]; exact (by rw [(show sp_move σ x at' = _ from sa_go0 ⟨b_2, b_10⟩ ⟨c_32, (Or.inl c_42)⟩ trivial)]; exact hP)⟩, hS.F ht⟩) hS.2.2 dX1_move_97
        · skip
          refine lv_aload_n hx hb dX1_move_45 rfl (lv_at hl 1 rfl) ?_
          refine lv_aload_n hx hb dX1_move_46 rfl (lv_at hl 1 rfl) ?_
          refine sa_g1_order S hin hK hP (by decide +kernel) dX1_move_47 ?_
          refine lv_iload_n hx hb dX1_move_50 rfl (lv_at hl 2 rfl) ?_
          refine sa_ld 12 S hK hP rfl (sa_vm hsx (by omega)) dX1_move_51 ?_
          refine lv_iload_n hx hb dX1_move_52 rfl (lv_at hl 3 rfl) ?_
          refine lv_iload_n hx hb dX1_move_53 rfl (lv_at hl 2 rfl) ?_
          refine sa_kRd (As := [.int (σ.2 12 x.toNatClampNeg), .int (at'), .int (x)]) (rest := []) S (c_X1_why l G cI cZ cL a σ th hI (σ.2 12 x.toNatClampNeg) at' x (hor _ (sa_lt hsx)) hat) (cwV 3 hts gX1_move_X1_why rfl rfl rfl (by decide +kernel) ⟨Nat.le_of_ble_eq_true rfl, Nat.le_of_ble_eq_true rfl⟩) hP hK (ci := 1) rfl rfl rfl hl.1 (Nat.le_of_ble_eq_true rfl) rfl dX1_move_54 ⟨Nat.zero_le _, Nat.zero_le _⟩ ?_
          refine lv_if_ne (tgt := 64) hx hb dX1_move_57 (by decide) (fun c_57 => ?_) (fun c_57 => ?_)
          · skip
            refine lv_iconst (v := 0) hx hb dX1_move_64 (by decide) ?_
            refine lv_istore (lv' := [(4, .int (0)), (3, .int (1)), (0, .ref (a 0)), (1, .int (x)), (2, .int (at'))]) hx hb dX1_move_65 hl (by decide) rfl (fun ls hl => ?_)
            refine lv_aload_n hx hb dX1_move_67 rfl (lv_at hl 2 rfl) ?_
            refine lv_iload_n hx hb dX1_move_68 rfl (lv_at hl 1 rfl) ?_
            refine lv_iload hx hb dX1_move_69 (lv_at hl 0 rfl) ?_
            refine lv_iconst (v := 1) hx hb dX1_move_71 (by decide) ?_
            refine sa_kWr (wd' := sa_W1 cI cZ a σ 2) (r := 0) (As := [.int (1), .int (0), .int (1)]) (rest := []) S (by have h := c_X1_goes l G cI cZ cL a σ th hJ 1 0 1; rw [show sa_gc 1 0 1 = 2 from by decide, show sa_b ((2 : Int32) = 0) = 0 from by decide] at h; exact h) (cwV 3 hts gX1_move_X1_goes rfl rfl rfl (by decide +kernel) ⟨Nat.le_of_ble_eq_true rfl, Nat.le_of_ble_eq_true rfl⟩) hP hK hS (fun _ h => h) (ci := 1) rfl rfl rfl hl.1 (Nat.le_of_ble_eq_true rfl) rfl dX1_move_72 ⟨Nat.zero_le _, Nat.zero_le _⟩ (fun H locs hP hS _ _ => ?_)
            refine lv_if_ne (tgt := 80) hx hb dX1_move_75 (by decide) (fun c9 => absurd (by decide) c9) (fun _ => ?_)
            refine lv_iconst (v := 0) hx hb dX1_move_78 (by decide) ?_
            exact W.iret (v := 0) hx hb hr (fun t9 ht _ => ⟨⟨_, (), rfl, (Eq.trans (b := ((2, 0, σ) : sa_R).2.1) rfl (congrArg (fun z : sa_R => z.2.1) (show sp_move σ x at' = _ from sa_go2 ⟨b_2, b_10⟩ (fun z9 => (fun q => Or.elim q c_42 c_57) z9.2))).symm), by show va_P G vwCl (sa_W1 cI cZ a (sp_move σ x at').2.2 (nI (sp_move σ x at').1)) t9.heap; rw [ht]; exact (by rw [(show sp_move σ x at' = _ from sa_go2 ⟨b_2, b_10⟩ (fun z9 => (fun q => Or.elim q c_42 c_57) z9.2))]; exact hP)⟩, hS.F ht⟩) hS.2.2 dX1_move_79
          · skip
            refine lv_iconst (v := 1) hx hb dX1_move_60 (by decide) ?_
            refine lv_goto (tgt := 65) hx hb dX1_move_61 (by decide) ?_
            refine lv_istore (lv' := [(4, .int (1)), (3, .int (1)), (0, .ref (a 0)), (1, .int (x)), (2, .int (at'))]) hx hb dX1_move_65 hl (by decide) rfl (fun ls hl => ?_)
            refine lv_aload_n hx hb dX1_move_67 rfl (lv_at hl 2 rfl) ?_
            refine lv_iload_n hx hb dX1_move_68 rfl (lv_at hl 1 rfl) ?_
            refine lv_iload hx hb dX1_move_69 (lv_at hl 0 rfl) ?_
            refine lv_iconst (v := 1) hx hb dX1_move_71 (by decide) ?_
            refine sa_kWr (wd' := sa_W1 cI cZ a σ 0) (r := 1) (As := [.int (1), .int (1), .int (1)]) (rest := []) S (by have h := c_X1_goes l G cI cZ cL a σ th hJ 1 1 1; rw [show sa_gc 1 1 1 = 0 from by decide, show sa_b ((0 : Int32) = 0) = 1 from by decide] at h; exact h) (cwV 3 hts gX1_move_X1_goes rfl rfl rfl (by decide +kernel) ⟨Nat.le_of_ble_eq_true rfl, Nat.le_of_ble_eq_true rfl⟩) hP hK hS (fun _ h => h) (ci := 1) rfl rfl rfl hl.1 (Nat.le_of_ble_eq_true rfl) rfl dX1_move_72 ⟨Nat.zero_le _, Nat.zero_le _⟩ (fun H locs hP hS _ _ => ?_)
            refine lv_if_ne (tgt := 80) hx hb dX1_move_75 (by decide) (fun _ => ?_) (fun c9 => absurd c9 (by decide))
            refine lv_aload_n hx hb dX1_move_80 rfl (lv_at hl 2 rfl) ?_
            refine sa_g1_where S hin hK hP (by decide +kernel) dX1_move_81 ?_
            refine lv_iload_n hx hb dX1_move_84 rfl (lv_at hl 3 rfl) ?_
            refine sa_ld 13 S hK hP rfl (sa_vm hsx (by omega)) dX1_move_85 ?_
            refine lv_istore (lv' := [(5, .int (σ.2 13 x.toNatClampNeg)), (4, .int (1)), (3, .int (1)), (0, .ref (a 0)), (1, .int (x)), (2, .int (at'))]) hx hb dX1_move_86 hl (by decide) rfl (fun ls hl => ?_)
            refine lv_aload_n hx hb dX1_move_88 rfl (lv_at hl 3 rfl) ?_
            refine sa_g1_where S hin hK hP (by decide +kernel) dX1_move_89 ?_
            refine lv_iload_n hx hb dX1_move_92 rfl (lv_at hl 4 rfl) ?_
            refine lv_iload_n hx hb dX1_move_93 rfl (lv_at hl 5 rfl) ?_
            refine sa_st (ws' := (sa_W1 cI cZ a (sa_f σ 13 (upd (σ.2 13) x.toNatClampNeg at')) 0)) 13 S hK hP (sa_D1 hJ) hS rfl (sa_vm hsx (by omega)) rfl dX1_move_94 (fun H locs hP hS => ?_)
            refine lv_iload hx hb dX1_move_95 (lv_at hl 0 rfl) ?_
            exact W.iret (v := σ.2 13 x.toNatClampNeg) hx hb hr (fun t9 ht _ => ⟨⟨_, (), rfl, (Eq.trans (b := (0, σ.2 13 x.toNatClampNeg, sa_f σ 13 (upd (σ.2 13) x.toNatClampNeg at')).2.1) rfl (congrArg (fun z : sa_R => z.2.1) (show sp_move σ x at' = _ from sa_go0 ⟨b_2, b_10⟩ ⟨c_32, (Or.inr (c_57))⟩ trivial)).symm), by show va_P G vwCl (sa_W1 cI cZ a (sp_move σ x at').2.2 (nI (sp_move σ x at').1)) t9.heap; rw [ht]; exact (by rw [(show sp_move σ x at' = _ from sa_go0 ⟨b_2, b_10⟩ ⟨c_32, (Or.inr (c_57))⟩ trivial)]; exact hP)⟩, hS.F ht⟩) hS.2.2 dX1_move_97
    · skip
      refine lv_if_eq (tgt := 20) hx hb dX1_move_13 (by decide) (fun _ => ?_) (fun c9 => absurd (by decide) c9)
      refine lv_iconst (v := 0) hx hb dX1_move_20 (by decide) ?_
      refine lv_istore_n (lv' := [(3, .int (0)), (0, .ref (a 0)), (1, .int (x)), (2, .int (at'))]) hx hb dX1_move_21 rfl hl (by decide) rfl (fun ls hl => ?_)
      refine lv_iload_n hx hb dX1_move_22 rfl (lv_at hl 0 rfl) ?_
      refine lv_if_eq (tgt := 64) hx hb dX1_move_23 (by decide) (fun _ => ?_) (fun c9 => absurd (by decide) c9)
      refine lv_iconst (v := 0) hx hb dX1_move_64 (by decide) ?_
      refine lv_istore (lv' := [(4, .int (0)), (3, .int (0)), (0, .ref (a 0)), (1, .int (x)), (2, .int (at'))]) hx hb dX1_move_65 hl (by decide) rfl (fun ls hl => ?_)
      refine lv_aload_n hx hb dX1_move_67 rfl (lv_at hl 2 rfl) ?_
      refine lv_iload_n hx hb dX1_move_68 rfl (lv_at hl 1 rfl) ?_
      refine lv_iload hx hb dX1_move_69 (lv_at hl 0 rfl) ?_
      refine lv_iconst (v := 1) hx hb dX1_move_71 (by decide) ?_
      refine sa_kWr (wd' := sa_W1 cI cZ a σ 1) (r := 0) (As := [.int (0), .int (0), .int (1)]) (rest := []) S (by have h := c_X1_goes l G cI cZ cL a σ th hJ 0 0 1; rw [show sa_gc 0 0 1 = 1 from by decide, show sa_b ((1 : Int32) = 0) = 0 from by decide] at h; exact h) (cwV 3 hts gX1_move_X1_goes rfl rfl rfl (by decide +kernel) ⟨Nat.le_of_ble_eq_true rfl, Nat.le_of_ble_eq_true rfl⟩) hP hK hS (fun _ h => h) (ci := 1) rfl rfl rfl hl.1 (Nat.le_of_ble_eq_true rfl) rfl dX1_move_72 ⟨Nat.zero_le _, Nat.zero_le _⟩ (fun H locs hP hS _ _ => ?_)
      refine lv_if_ne (tgt := 80) hx hb dX1_move_75 (by decide) (fun c9 => absurd (by decide) c9) (fun _ => ?_)
      refine lv_iconst (v := 0) hx hb dX1_move_78 (by decide) ?_
      exact W.iret (v := 0) hx hb hr (fun t9 ht _ => ⟨⟨_, (), rfl, (Eq.trans (b := ((1, 0, σ) : sa_R).2.1) rfl (congrArg (fun z : sa_R => z.2.1) (show sp_move σ x at' = _ from sa_go1 (fun z9 => b_10 z9.2))).symm), by show va_P G vwCl (sa_W1 cI cZ a (sp_move σ x at').2.2 (nI (sp_move σ x at').1)) t9.heap; rw [ht]; exact (by rw [(show sp_move σ x at' = _ from sa_go1 (fun z9 => b_10 z9.2))]; exact hP)⟩, hS.F ht⟩) hS.2.2 dX1_move_79
  · skip
    refine lv_if_eq (tgt := 20) hx hb dX1_move_5 (by decide) (fun _ => ?_) (fun c9 => absurd (by decide) c9)
    refine lv_iconst (v := 0) hx hb dX1_move_20 (by decide) ?_
    refine lv_istore_n (lv' := [(3, .int (0)), (0, .ref (a 0)), (1, .int (x)), (2, .int (at'))]) hx hb dX1_move_21 rfl hl (by decide) rfl (fun ls hl => ?_)
    refine lv_iload_n hx hb dX1_move_22 rfl (lv_at hl 0 rfl) ?_
    refine lv_if_eq (tgt := 64) hx hb dX1_move_23 (by decide) (fun _ => ?_) (fun c9 => absurd (by decide) c9)
    refine lv_iconst (v := 0) hx hb dX1_move_64 (by decide) ?_
    refine lv_istore (lv' := [(4, .int (0)), (3, .int (0)), (0, .ref (a 0)), (1, .int (x)), (2, .int (at'))]) hx hb dX1_move_65 hl (by decide) rfl (fun ls hl => ?_)
    refine lv_aload_n hx hb dX1_move_67 rfl (lv_at hl 2 rfl) ?_
    refine lv_iload_n hx hb dX1_move_68 rfl (lv_at hl 1 rfl) ?_
    refine lv_iload hx hb dX1_move_69 (lv_at hl 0 rfl) ?_
    refine lv_iconst (v := 1) hx hb dX1_move_71 (by decide) ?_
    refine sa_kWr (wd' := sa_W1 cI cZ a σ 1) (r := 0) (As := [.int (0), .int (0), .int (1)]) (rest := []) S (by have h := c_X1_goes l G cI cZ cL a σ th hJ 0 0 1; rw [show sa_gc 0 0 1 = 1 from by decide, show sa_b ((1 : Int32) = 0) = 0 from by decide] at h; exact h) (cwV 3 hts gX1_move_X1_goes rfl rfl rfl (by decide +kernel) ⟨Nat.le_of_ble_eq_true rfl, Nat.le_of_ble_eq_true rfl⟩) hP hK hS (fun _ h => h) (ci := 1) rfl rfl rfl hl.1 (Nat.le_of_ble_eq_true rfl) rfl dX1_move_72 ⟨Nat.zero_le _, Nat.zero_le _⟩ (fun H locs hP hS _ _ => ?_)
    refine lv_if_ne (tgt := 80) hx hb dX1_move_75 (by decide) (fun c9 => absurd (by decide) c9) (fun _ => ?_)
    refine lv_iconst (v := 0) hx hb dX1_move_78 (by decide) ?_
    exact W.iret (v := 0) hx hb hr (fun t9 ht _ => ⟨⟨_, (), rfl, (Eq.trans (b := ((1, 0, σ) : sa_R).2.1) rfl (congrArg (fun z : sa_R => z.2.1) (show sp_move σ x at' = _ from sa_go1 (fun z9 => b_2 z9.1))).symm), by show va_P G vwCl (sa_W1 cI cZ a (sp_move σ x at').2.2 (nI (sp_move σ x at').1)) t9.heap; rw [ht]; exact (by rw [(show sp_move σ x at' = _ from sa_go1 (fun z9 => b_2 z9.1))]; exact hP)⟩, hS.F ht⟩) hS.2.2 dX1_move_79

set_option maxHeartbeats 4000000 in
set_option maxRecDepth 100000 in
theorem c_X1_miss (l : Launch) (G : va_G) (cI cZ cL : ClassId) (a : Nat → Nat) (σ : sa_St) (th : Int32) (hI : sa_I σ) (hJ : sa_J a) (x : Int32) : sa_Wr l yX1_miss wsX1_miss ({ frames := 2, cells := 0, slots := 0, locals := 43 }) G cI cZ cL (sa_W1 cI cZ a σ th) (sa_W1 cI cZ a (sp_miss σ x).2.2 (nI (sp_miss σ x).1)) (sa_A a) [.ref (a 0), .int (x)] ((sp_miss σ x).2.1) := by
  obtain ⟨hnb, hno, hns, hgr, hor, hbr, hai⟩ := id hI
  refine Met.ofW (cc := cX1_miss) (maxL := 4) (ret := (some .boolean)) (by decide) rfl ?_
  intro p e s m args below meth c s₁ B9 hml hv
  obtain ⟨rfl, hP, hK⟩ := hv
  have hx := B9.exec
  have hb := B9.bytes
  have hr := B9.returns
  have hlk := B9.notSynchronized
  have hts := atoms_spec (ws := wsX1_miss) B9.pre
  have hown : s.vm.findClass RX1 = some m.cls := findClass_of_methodNamed B9.named
  have S : CallFix p m c cX1_miss 4 s _ wsX1_miss RX1 := ⟨hx, hb, hml, hown, hts⟩
  have hin : ∀ w ∈ wsX10, w ∈ wsX1_miss := by decide +kernel
  have hS : va_S (sa_A a) s.heap s.heap [] := va_S.rf
  have hl := lv_entry ([.ref (a 0), .int (x)]) (n := 4) (Nat.le_of_ble_eq_true rfl)
  rw [lg_entry_eq]
  generalize (lg_sl ([.ref (a 0), .int (x)]) ++ List.replicate (4 - (lg_sl ([.ref (a 0), .int (x)])).length) Slot.unset).toArray = ls at hl ⊢
  have hl : lv_has ls 4 [(0, .ref (a 0)), (1, .int (x))] := hl
  refine lv_aload_n hx hb dX1_miss_0 rfl (lv_at hl 0 rfl) ?_
  refine lv_iload_n hx hb dX1_miss_1 rfl (lv_at hl 1 rfl) ?_
  refine sa_kRd (As := [.int (x)]) (rest := []) S (c_X1_isSpot l G cI cZ cL a σ th hI x) (cwV 1 hts gX1_miss_X1_isSpot rfl rfl rfl (by decide +kernel) ⟨Nat.le_of_ble_eq_true rfl, Nat.le_of_ble_eq_true rfl⟩) hP hK (ci := 1) rfl rfl rfl hl.1 (Nat.le_of_ble_eq_true rfl) rfl dX1_miss_2 ⟨Nat.zero_le _, Nat.zero_le _⟩ ?_
  refine sa_spl (fun b_2 => ?_) (fun b_2 => ?_)
  · skip
    have hsx : vp_in x (σ.1 2) := sa_inv (by omega) b_2
    refine lv_istore_n (lv' := [(2, .int (1)), (0, .ref (a 0)), (1, .int (x))]) hx hb dX1_miss_5 rfl hl (by decide) rfl (fun ls hl => ?_)
    refine lv_aload_n hx hb dX1_miss_6 rfl (lv_at hl 1 rfl) ?_
    refine lv_iload_n hx hb dX1_miss_7 rfl (lv_at hl 0 rfl) ?_
    refine lv_iload_n hx hb dX1_miss_8 rfl (lv_at hl 0 rfl) ?_
    refine lv_if_eq (tgt := 35) hx hb dX1_miss_9 (by decide) (fun c9 => absurd c9 (by decide)) (fun _ => ?_)
    refine lv_aload_n hx hb dX1_miss_12 rfl (lv_at hl 1 rfl) ?_
    refine sa_g1_state S hin hK hP (by decide +kernel) dX1_miss_13 ?_
    refine lv_iload_n hx hb dX1_miss_16 rfl (lv_at hl 2 rfl) ?_
    refine sa_ld 14 S hK hP rfl (sa_vm hsx (by omega)) dX1_miss_17 ?_
    refine lv_if_eq (tgt := 31) hx hb dX1_miss_18 (by decide) (fun c_18 => ?_) (fun c_18 => ?_)
    · skip
      refine lv_iconst (v := 1) hx hb dX1_miss_31 (by decide) ?_
      refine lv_goto (tgt := 36) hx hb dX1_miss_32 (by decide) ?_
      refine lv_iconst (v := 1) hx hb dX1_miss_36 (by decide) ?_
      refine sa_kWr (wd' := sa_W1 cI cZ a σ 0) (r := 1) (As := [.int (1), .int (1), .int (1)]) (rest := []) S (by have h := c_X1_goes l G cI cZ cL a σ th hJ 1 1 1; rw [show sa_gc 1 1 1 = 0 from by decide, show sa_b ((0 : Int32) = 0) = 1 from by decide] at h; exact h) (cwV 3 hts gX1_miss_X1_goes rfl rfl rfl (by decide +kernel) ⟨Nat.le_of_ble_eq_true rfl, Nat.le_of_ble_eq_true rfl⟩) hP hK hS (fun _ h => h) (ci := 1) rfl rfl rfl hl.1 (Nat.le_of_ble_eq_true rfl) rfl dX1_miss_37 ⟨Nat.zero_le _, Nat.zero_le _⟩ (fun H locs hP hS _ _ => ?_)
      refine lv_if_ne (tgt := 45) hx hb dX1_miss_40 (by decide) (fun _ => ?_) (fun c9 => absurd c9 (by decide))
      refine lv_aload_n hx hb dX1_miss_45 rfl (lv_at hl 1 rfl) ?_
      refine sa_g1_state S hin hK hP (by decide +kernel) dX1_miss_46 ?_
      refine lv_iload_n hx hb dX1_miss_49 rfl (lv_at hl 2 rfl) ?_
      refine sa_ld 14 S hK hP rfl (sa_vm hsx (by omega)) dX1_miss_50 ?_
      refine lv_iconst (v := 1) hx hb dX1_miss_51 (by decide) ?_
      refine lv_icmp_ne (tgt := 59) hx hb dX1_miss_52 (by decide) (fun _ => ?_) (fun c9 => absurd (c_18.symm.trans c9) (by decide))
      refine lv_iconst (v := 0) hx hb dX1_miss_59 (by decide) ?_
      refine lv_istore_n (lv' := [(3, .int (0)), (2, .int (1)), (0, .ref (a 0)), (1, .int (x))]) hx hb dX1_miss_60 rfl hl (by decide) rfl (fun ls hl => ?_)
      refine lv_aload_n hx hb dX1_miss_61 rfl (lv_at hl 2 rfl) ?_
      refine sa_g1_state S hin hK hP (by decide +kernel) dX1_miss_62 ?_
      refine lv_iload_n hx hb dX1_miss_65 rfl (lv_at hl 3 rfl) ?_
      refine lv_iconst (v := 2) hx hb dX1_miss_66 (by decide) ?_
      refine sa_st (ws' := (sa_W1 cI cZ a (sa_f σ 14 (upd (σ.2 14) x.toNatClampNeg 2)) 0)) 14 S hK hP (sa_D1 hJ) hS rfl (sa_vm hsx (by omega)) rfl dX1_miss_67 (fun H locs hP hS => ?_)
      refine lv_iload_n hx hb dX1_miss_68 rfl (lv_at hl 0 rfl) ?_
      exact W.zret (v := 0) (ty := .boolean) hx hb hr rfl (fun t9 ht _ => ⟨⟨_, (), rfl, (Eq.trans (b := (0, sa_b (σ.2 14 x.toNatClampNeg = 1), sa_f σ 14 (upd (σ.2 14) x.toNatClampNeg 2)).2.1) (sa_bf (by simp [b_2, c_18])).symm (congrArg (fun z : sa_R => z.2.1) (show sp_miss σ x = _ from sa_go0 b_2 (Or.inl c_18) trivial)).symm), by show va_P G vwCl (sa_W1 cI cZ a (sp_miss σ x).2.2 (nI (sp_miss σ x).1)) t9.heap; rw [ht]; exact (by rw [(show sp_miss σ x = _ from sa_go0 b_2 (Or.inl c_18) trivial)]; exact hP)⟩, hS.F ht⟩) hS.2.2 dX1_miss_69
    · skip
      refine lv_aload_n hx hb dX1_miss_21 rfl (lv_at hl 1 rfl) ?_
      refine sa_g1_state S hin hK hP (by decide +kernel) dX1_miss_22 ?_
      refine lv_iload_n hx hb dX1_miss_25 rfl (lv_at hl 2 rfl) ?_
      refine sa_ld 14 S hK hP rfl (sa_vm hsx (by omega)) dX1_miss_26 ?_
      refine lv_iconst (v := 1) hx hb dX1_miss_27 (by decide) ?_
      refine lv_icmp_ne (tgt := 35) hx hb dX1_miss_28 (by decide) (fun c_28 => ?_) (fun c_28 => ?_)
      · skip
        refine lv_iconst (v := 0) hx hb dX1_miss_35 (by decide) ?_
        refine lv_iconst (v := 1) hx hb dX1_miss_36 (by decide) ?_
        refine sa_kWr (wd' := sa_W1 cI cZ a σ 2) (r := 0) (As := [.int (1), .int (0), .int (1)]) (rest := []) S (by have h := c_X1_goes l G cI cZ cL a σ th hJ 1 0 1; rw [show sa_gc 1 0 1 = 2 from by decide, show sa_b ((2 : Int32) = 0) = 0 from by decide] at h; exact h) (cwV 3 hts gX1_miss_X1_goes rfl rfl rfl (by decide +kernel) ⟨Nat.le_of_ble_eq_true rfl, Nat.le_of_ble_eq_true rfl⟩) hP hK hS (fun _ h => h) (ci := 1) rfl rfl rfl hl.1 (Nat.le_of_ble_eq_true rfl) rfl dX1_miss_37 ⟨Nat.zero_le _, Nat.zero_le _⟩ (fun H locs hP hS _ _ => ?_)
        refine lv_if_ne (tgt := 45) hx hb dX1_miss_40 (by decide) (fun c9 => absurd (by decide) c9) (fun _ => ?_)
        refine lv_iconst (v := 0) hx hb dX1_miss_43 (by decide) ?_
        exact W.zret (v := 0) (ty := .boolean) hx hb hr rfl (fun t9 ht _ => ⟨⟨_, (), rfl, (Eq.trans (b := ((2, 0, σ) : sa_R).2.1) rfl (congrArg (fun z : sa_R => z.2.1) (show sp_miss σ x = _ from sa_go2 b_2 (fun z9 => (fun q => Or.elim q c_18 c_28) z9))).symm), by show va_P G vwCl (sa_W1 cI cZ a (sp_miss σ x).2.2 (nI (sp_miss σ x).1)) t9.heap; rw [ht]; exact (by rw [(show sp_miss σ x = _ from sa_go2 b_2 (fun z9 => (fun q => Or.elim q c_18 c_28) z9))]; exact hP)⟩, hS.F ht⟩) hS.2.2 dX1_miss_44
      · skip
        refine lv_iconst (v := 1) hx hb dX1_miss_31 (by decide) ?_
        refine lv_goto (tgt := 36) hx hb dX1_miss_32 (by decide) ?_
        refine lv_iconst (v := 1) hx hb dX1_miss_36 (by decide) ?_
        refine sa_kWr (wd' := sa_W1 cI cZ a σ 0) (r := 1) (As := [.int (1), .int (1), .int (1)]) (rest := []) S (by have h := c_X1_goes l G cI cZ cL a σ th hJ 1 1 1; rw [show sa_gc 1 1 1 = 0 from by decide, show sa_b ((0 : Int32) = 0) = 1 from by decide] at h; exact h) (cwV 3 hts gX1_miss_X1_goes rfl rfl rfl (by decide +kernel) ⟨Nat.le_of_ble_eq_true rfl, Nat.le_of_ble_eq_true rfl⟩) hP hK hS (fun _ h => h) (ci := 1) rfl rfl rfl hl.1 (Nat.le_of_ble_eq_true rfl) rfl dX1_miss_37 ⟨Nat.zero_le _, Nat.zero_le _⟩ (fun H locs hP hS _ _ => ?_)
        refine lv_if_ne (tgt := 45) hx hb dX1_miss_40 (by decide) (fun _ => ?_) (fun c9 => absurd c9 (by decide))
        refine lv_aload_n hx hb dX1_miss_45 rfl (lv_at hl 1 rfl) ?_
        refine sa_g1_state S hin hK hP (by decide +kernel) dX1_miss_46 ?_
        refine lv_iload_n hx hb dX1_miss_49 rfl (lv_at hl 2 rfl) ?_
        refine sa_ld 14 S hK hP rfl (sa_vm hsx (by omega)) dX1_miss_50 ?_
        refine lv_iconst (v := 1) hx hb dX1_miss_51 (by decide) ?_
        refine lv_icmp_ne (tgt := 59) hx hb dX1_miss_52 (by decide) (fun c9 => absurd c_28 c9) (fun _ => ?_)
        refine lv_iconst (v := 1) hx hb dX1_miss_55 (by decide) ?_
        refine lv_goto (tgt := 60) hx hb dX1_miss_56 (by decide) ?_
        refine lv_istore_n (lv' := [(3, .int (1)), (2, .int (1)), (0, .ref (a 0)), (1, .int (x))]) hx hb dX1_miss_60 rfl hl (by decide) rfl (fun ls hl => ?_)
        refine lv_aload_n hx hb dX1_miss_61 rfl (lv_at hl 2 rfl) ?_
        refine sa_g1_state S hin hK hP (by decide +kernel) dX1_miss_62 ?_
        refine lv_iload_n hx hb dX1_miss_65 rfl (lv_at hl 3 rfl) ?_
        refine lv_iconst (v := 2) hx hb dX1_miss_66 (by decide) ?_
        refine sa_st (ws' := (sa_W1 cI cZ a (sa_f σ 14 (upd (σ.2 14) x.toNatClampNeg 2)) 0)) 14 S hK hP (sa_D1 hJ) hS rfl (sa_vm hsx (by omega)) rfl dX1_miss_67 (fun H locs hP hS => ?_)
        refine lv_iload_n hx hb dX1_miss_68 rfl (lv_at hl 0 rfl) ?_
        exact W.zret (v := 1) (ty := .boolean) hx hb hr rfl (fun t9 ht _ => ⟨⟨_, (), rfl, (Eq.trans (b := (0, sa_b (σ.2 14 x.toNatClampNeg = 1), sa_f σ 14 (upd (σ.2 14) x.toNatClampNeg 2)).2.1) (sa_bt (by simp [b_2, c_18, c_28])).symm (congrArg (fun z : sa_R => z.2.1) (show sp_miss σ x = _ from sa_go0 b_2 (Or.inr (c_28)) trivial)).symm), by show va_P G vwCl (sa_W1 cI cZ a (sp_miss σ x).2.2 (nI (sp_miss σ x).1)) t9.heap; rw [ht]; exact (by rw [(show sp_miss σ x = _ from sa_go0 b_2 (Or.inr (c_28)) trivial)]; exact hP)⟩, hS.F ht⟩) hS.2.2 dX1_miss_69
  · skip
    refine lv_istore_n (lv' := [(2, .int (0)), (0, .ref (a 0)), (1, .int (x))]) hx hb dX1_miss_5 rfl hl (by decide) rfl (fun ls hl => ?_)
    refine lv_aload_n hx hb dX1_miss_6 rfl (lv_at hl 1 rfl) ?_
    refine lv_iload_n hx hb dX1_miss_7 rfl (lv_at hl 0 rfl) ?_
    refine lv_iload_n hx hb dX1_miss_8 rfl (lv_at hl 0 rfl) ?_
    refine lv_if_eq (tgt := 35) hx hb dX1_miss_9 (by decide) (fun _ => ?_) (fun c9 => absurd (by decide) c9)
    refine lv_iconst (v := 0) hx hb dX1_miss_35 (by decide) ?_
    refine lv_iconst (v := 1) hx hb dX1_miss_36 (by decide) ?_
    refine sa_kWr (wd' := sa_W1 cI cZ a σ 1) (r := 0) (As := [.int (0), .int (0), .int (1)]) (rest := []) S (by have h := c_X1_goes l G cI cZ cL a σ th hJ 0 0 1; rw [show sa_gc 0 0 1 = 1 from by decide, show sa_b ((1 : Int32) = 0) = 0 from by decide] at h; exact h) (cwV 3 hts gX1_miss_X1_goes rfl rfl rfl (by decide +kernel) ⟨Nat.le_of_ble_eq_true rfl, Nat.le_of_ble_eq_true rfl⟩) hP hK hS (fun _ h => h) (ci := 1) rfl rfl rfl hl.1 (Nat.le_of_ble_eq_true rfl) rfl dX1_miss_37 ⟨Nat.zero_le _, Nat.zero_le _⟩ (fun H locs hP hS _ _ => ?_)
    refine lv_if_ne (tgt := 45) hx hb dX1_miss_40 (by decide) (fun c9 => absurd (by decide) c9) (fun _ => ?_)
    refine lv_iconst (v := 0) hx hb dX1_miss_43 (by decide) ?_
    exact W.zret (v := 0) (ty := .boolean) hx hb hr rfl (fun t9 ht _ => ⟨⟨_, (), rfl, (Eq.trans (b := ((1, 0, σ) : sa_R).2.1) rfl (congrArg (fun z : sa_R => z.2.1) (show sp_miss σ x = _ from sa_go1 (fun z9 => b_2 z9))).symm), by show va_P G vwCl (sa_W1 cI cZ a (sp_miss σ x).2.2 (nI (sp_miss σ x).1)) t9.heap; rw [ht]; exact (by rw [(show sp_miss σ x = _ from sa_go1 (fun z9 => b_2 z9))]; exact hP)⟩, hS.F ht⟩) hS.2.2 dX1_miss_44

set_option maxHeartbeats 4000000 in
set_option maxRecDepth 100000 in
theorem c_X1_drop (l : Launch) (G : va_G) (cI cZ cL : ClassId) (a : Nat → Nat) (σ : sa_St) (th : Int32) (hI : sa_I σ) (hJ : sa_J a) (x : Int32) : sa_Wv l yX1_drop wsX1_drop ({ frames := 2, cells := 0, slots := 0, locals := 43 }) G cI cZ cL (sa_W1 cI cZ a σ th) (sa_W1 cI cZ a (sp_drop σ x).2.2 (nI (sp_drop σ x).1)) (sa_A a) [.ref (a 0), .int (x)] := by
  obtain ⟨hnb, hno, hns, hgr, hor, hbr, hai⟩ := id hI
  refine Met.ofW (cc := cX1_drop) (maxL := 3) (ret := none) (by decide) rfl ?_
  intro p e s m args below meth c s₁ B9 hml hv
  obtain ⟨rfl, hP, hK⟩ := hv
  have hx := B9.exec
  have hb := B9.bytes
  have hr := B9.returns
  have hlk := B9.notSynchronized
  have hts := atoms_spec (ws := wsX1_drop) B9.pre
  have hown : s.vm.findClass RX1 = some m.cls := findClass_of_methodNamed B9.named
  have S : CallFix p m c cX1_drop 3 s _ wsX1_drop RX1 := ⟨hx, hb, hml, hown, hts⟩
  have hin : ∀ w ∈ wsX10, w ∈ wsX1_drop := by decide +kernel
  have hS : va_S (sa_A a) s.heap s.heap [] := va_S.rf
  have hl := lv_entry ([.ref (a 0), .int (x)]) (n := 3) (Nat.le_of_ble_eq_true rfl)
  rw [lg_entry_eq]
  generalize (lg_sl ([.ref (a 0), .int (x)]) ++ List.replicate (3 - (lg_sl ([.ref (a 0), .int (x)])).length) Slot.unset).toArray = ls at hl ⊢
  have hl : lv_has ls 3 [(0, .ref (a 0)), (1, .int (x))] := hl
  refine lv_aload_n hx hb dX1_drop_0 rfl (lv_at hl 0 rfl) ?_
  refine lv_iload_n hx hb dX1_drop_1 rfl (lv_at hl 1 rfl) ?_
  refine sa_kRd (As := [.int (x)]) (rest := []) S (c_X1_isSpot l G cI cZ cL a σ th hI x) (cwV 1 hts gX1_drop_X1_isSpot rfl rfl rfl (by decide +kernel) ⟨Nat.le_of_ble_eq_true rfl, Nat.le_of_ble_eq_true rfl⟩) hP hK (ci := 1) rfl rfl rfl hl.1 (Nat.le_of_ble_eq_true rfl) rfl dX1_drop_2 ⟨Nat.zero_le _, Nat.zero_le _⟩ ?_
  refine sa_spl (fun b_2 => ?_) (fun b_2 => ?_)
  · skip
    have hsx : vp_in x (σ.1 2) := sa_inv (by omega) b_2
    refine lv_istore_n (lv' := [(2, .int (1)), (0, .ref (a 0)), (1, .int (x))]) hx hb dX1_drop_5 rfl hl (by decide) rfl (fun ls hl => ?_)
    refine lv_aload_n hx hb dX1_drop_6 rfl (lv_at hl 1 rfl) ?_
    refine lv_iload_n hx hb dX1_drop_7 rfl (lv_at hl 0 rfl) ?_
    refine lv_iload_n hx hb dX1_drop_8 rfl (lv_at hl 0 rfl) ?_
    refine lv_if_eq (tgt := 25) hx hb dX1_drop_9 (by decide) (fun c9 => absurd c9 (by decide)) (fun _ => ?_)
    refine lv_aload_n hx hb dX1_drop_12 rfl (lv_at hl 1 rfl) ?_
    refine sa_g1_state S hin hK hP (by decide +kernel) dX1_drop_13 ?_
    refine lv_iload_n hx hb dX1_drop_16 rfl (lv_at hl 2 rfl) ?_
    refine sa_ld 14 S hK hP rfl (sa_vm hsx (by omega)) dX1_drop_17 ?_
    refine lv_if_ne (tgt := 25) hx hb dX1_drop_18 (by decide) (fun c_18 => ?_) (fun c_18 => ?_)
    · skip
      refine lv_iconst (v := 0) hx hb dX1_drop_25 (by decide) ?_
      refine lv_iconst (v := 1) hx hb dX1_drop_26 (by decide) ?_
      refine sa_kWr (wd' := sa_W1 cI cZ a σ 2) (r := 0) (As := [.int (1), .int (0), .int (1)]) (rest := []) S (by have h := c_X1_goes l G cI cZ cL a σ th hJ 1 0 1; rw [show sa_gc 1 0 1 = 2 from by decide, show sa_b ((2 : Int32) = 0) = 0 from by decide] at h; exact h) (cwV 3 hts gX1_drop_X1_goes rfl rfl rfl (by decide +kernel) ⟨Nat.le_of_ble_eq_true rfl, Nat.le_of_ble_eq_true rfl⟩) hP hK hS (fun _ h => h) (ci := 1) rfl rfl rfl hl.1 (Nat.le_of_ble_eq_true rfl) rfl dX1_drop_27 ⟨Nat.zero_le _, Nat.zero_le _⟩ (fun H locs hP hS _ _ => ?_)
      refine lv_if_eq (tgt := 40) hx hb dX1_drop_30 (by decide) (fun _ => ?_) (fun c9 => absurd (by decide) c9)
      exact W.vret hx hb hr (fun t9 ht _ => ⟨⟨(), rfl, trivial, by show va_P G vwCl (sa_W1 cI cZ a (sp_drop σ x).2.2 (nI (sp_drop σ x).1)) t9.heap; rw [ht]; exact (by rw [(show sp_drop σ x = _ from sa_go2 b_2 (fun z9 => c_18 z9))]; exact hP)⟩, hS.F ht⟩) hS.2.2 dX1_drop_40
    · skip
      refine lv_iconst (v := 1) hx hb dX1_drop_21 (by decide) ?_
      refine lv_goto (tgt := 26) hx hb dX1_drop_22 (by decide) ?_
      refine lv_iconst (v := 1) hx hb dX1_drop_26 (by decide) ?_
      refine sa_kWr (wd' := sa_W1 cI cZ a σ 0) (r := 1) (As := [.int (1), .int (1), .int (1)]) (rest := []) S (by have h := c_X1_goes l G cI cZ cL a σ th hJ 1 1 1; rw [show sa_gc 1 1 1 = 0 from by decide, show sa_b ((0 : Int32) = 0) = 1 from by decide] at h; exact h) (cwV 3 hts gX1_drop_X1_goes rfl rfl rfl (by decide +kernel) ⟨Nat.le_of_ble_eq_true rfl, Nat.le_of_ble_eq_true rfl⟩) hP hK hS (fun _ h => h) (ci := 1) rfl rfl rfl hl.1 (Nat.le_of_ble_eq_true rfl) rfl dX1_drop_27 ⟨Nat.zero_le _, Nat.zero_le _⟩ (fun H locs hP hS _ _ => ?_)
      refine lv_if_eq (tgt := 40) hx hb dX1_drop_30 (by decide) (fun c9 => absurd c9 (by decide)) (fun _ => ?_)
      refine lv_aload_n hx hb dX1_drop_33 rfl (lv_at hl 1 rfl) ?_
      refine sa_g1_state S hin hK hP (by decide +kernel) dX1_drop_34 ?_
      refine lv_iload_n hx hb dX1_drop_37 rfl (lv_at hl 2 rfl) ?_
      refine lv_iconst (v := 3) hx hb dX1_drop_38 (by decide) ?_
      refine sa_st (ws' := (sa_W1 cI cZ a (sa_f σ 14 (upd (σ.2 14) x.toNatClampNeg 3)) 0)) 14 S hK hP (sa_D1 hJ) hS rfl (sa_vm hsx (by omega)) rfl dX1_drop_39 (fun H locs hP hS => ?_)
      exact W.vret hx hb hr (fun t9 ht _ => ⟨⟨(), rfl, trivial, by show va_P G vwCl (sa_W1 cI cZ a (sp_drop σ x).2.2 (nI (sp_drop σ x).1)) t9.heap; rw [ht]; exact (by rw [(show sp_drop σ x = _ from sa_go0 b_2 c_18 trivial)]; exact hP)⟩, hS.F ht⟩) hS.2.2 dX1_drop_40
  · skip
    refine lv_istore_n (lv' := [(2, .int (0)), (0, .ref (a 0)), (1, .int (x))]) hx hb dX1_drop_5 rfl hl (by decide) rfl (fun ls hl => ?_)
    refine lv_aload_n hx hb dX1_drop_6 rfl (lv_at hl 1 rfl) ?_
    refine lv_iload_n hx hb dX1_drop_7 rfl (lv_at hl 0 rfl) ?_
    refine lv_iload_n hx hb dX1_drop_8 rfl (lv_at hl 0 rfl) ?_
    refine lv_if_eq (tgt := 25) hx hb dX1_drop_9 (by decide) (fun _ => ?_) (fun c9 => absurd (by decide) c9)
    refine lv_iconst (v := 0) hx hb dX1_drop_25 (by decide) ?_
    refine lv_iconst (v := 1) hx hb dX1_drop_26 (by decide) ?_
    refine sa_kWr (wd' := sa_W1 cI cZ a σ 1) (r := 0) (As := [.int (0), .int (0), .int (1)]) (rest := []) S (by have h := c_X1_goes l G cI cZ cL a σ th hJ 0 0 1; rw [show sa_gc 0 0 1 = 1 from by decide, show sa_b ((1 : Int32) = 0) = 0 from by decide] at h; exact h) (cwV 3 hts gX1_drop_X1_goes rfl rfl rfl (by decide +kernel) ⟨Nat.le_of_ble_eq_true rfl, Nat.le_of_ble_eq_true rfl⟩) hP hK hS (fun _ h => h) (ci := 1) rfl rfl rfl hl.1 (Nat.le_of_ble_eq_true rfl) rfl dX1_drop_27 ⟨Nat.zero_le _, Nat.zero_le _⟩ (fun H locs hP hS _ _ => ?_)
    refine lv_if_eq (tgt := 40) hx hb dX1_drop_30 (by decide) (fun _ => ?_) (fun c9 => absurd (by decide) c9)
    exact W.vret hx hb hr (fun t9 ht _ => ⟨⟨(), rfl, trivial, by show va_P G vwCl (sa_W1 cI cZ a (sp_drop σ x).2.2 (nI (sp_drop σ x).1)) t9.heap; rw [ht]; exact (by rw [(show sp_drop σ x = _ from sa_go1 (fun z9 => b_2 z9))]; exact hP)⟩, hS.F ht⟩) hS.2.2 dX1_drop_40

set_option maxHeartbeats 4000000 in
set_option maxRecDepth 100000 in
theorem c_X1_spots (l : Launch) (G : va_G) (cI cZ cL : ClassId) (a : Nat → Nat) (σ : sa_St) (th : Int32) (hI : sa_I σ) (hJ : sa_J a) : sa_Wr l yX1_spots wsX1_spots ({ frames := 1, cells := 0, slots := 0, locals := 21 }) G cI cZ cL (sa_W1 cI cZ a σ th) (sa_W1 cI cZ a σ 0) (sa_A a) [.ref (a 0)] (nI (σ.1 2)) := by
  obtain ⟨hnb, hno, hns, hgr, hor, hbr, hai⟩ := id hI
  refine Met.ofW (cc := cX1_spots) (maxL := 1) (ret := (some .int)) (by decide) rfl ?_
  intro p e s m args below meth c s₁ B9 hml hv
  obtain ⟨rfl, hP, hK⟩ := hv
  have hx := B9.exec
  have hb := B9.bytes
  have hr := B9.returns
  have hlk := B9.notSynchronized
  have hts := atoms_spec (ws := wsX1_spots) B9.pre
  have hown : s.vm.findClass RX1 = some m.cls := findClass_of_methodNamed B9.named
  have S : CallFix p m c cX1_spots 1 s _ wsX1_spots RX1 := ⟨hx, hb, hml, hown, hts⟩
  have hin : ∀ w ∈ wsX10, w ∈ wsX1_spots := by decide +kernel
  have hS : va_S (sa_A a) s.heap s.heap [] := va_S.rf
  have hl := lv_entry ([.ref (a 0)]) (n := 1) (Nat.le_of_ble_eq_true rfl)
  rw [lg_entry_eq]
  generalize (lg_sl ([.ref (a 0)]) ++ List.replicate (1 - (lg_sl ([.ref (a 0)])).length) Slot.unset).toArray = ls at hl ⊢
  have hl : lv_has ls 1 [(0, .ref (a 0))] := hl
  refine lv_aload_n hx hb dX1_spots_0 rfl (lv_at hl 0 rfl) ?_
  refine lv_aload_n hx hb dX1_spots_1 rfl (lv_at hl 0 rfl) ?_
  refine sa_g1_spots S hin hK hP (by decide +kernel) dX1_spots_2 ?_
  refine sa_kWr (wd' := sa_W1 cI cZ a σ 0) (As := [.int (nI (σ.1 2))]) (rest := []) S (c_X1_told l G cI cZ cL a σ th hJ (nI (σ.1 2))) (cwV 1 hts gX1_spots_X1_told rfl rfl rfl (by decide +kernel) ⟨Nat.le_of_ble_eq_true rfl, Nat.le_of_ble_eq_true rfl⟩) hP hK hS (fun _ h => h) (ci := 1) rfl rfl rfl hl.1 (Nat.le_of_ble_eq_true rfl) rfl dX1_spots_5 ⟨Nat.zero_le _, Nat.zero_le _⟩ (fun H locs hP hS _ _ => ?_)
  exact W.iret (v := nI (σ.1 2)) hx hb hr (fun t9 ht _ => ⟨⟨_, (), rfl, rfl, by show va_P G vwCl (sa_W1 cI cZ a σ 0) t9.heap; rw [ht]; exact hP⟩, hS.F ht⟩) hS.2.2 dX1_spots_8

set_option maxHeartbeats 4000000 in
set_option maxRecDepth 100000 in
theorem c_X1_stateOf (l : Launch) (G : va_G) (cI cZ cL : ClassId) (a : Nat → Nat) (σ : sa_St) (th : Int32) (hI : sa_I σ) (hJ : sa_J a) (x : Int32) : sa_Wr l yX1_stateOf wsX1_stateOf ({ frames := 2, cells := 0, slots := 0, locals := 43 }) G cI cZ cL (sa_W1 cI cZ a σ th) (sa_W1 cI cZ a (sp_stateOf σ x).2.2 (nI (sp_stateOf σ x).1)) (sa_A a) [.ref (a 0), .int (x)] ((sp_stateOf σ x).2.1) := by
  obtain ⟨hnb, hno, hns, hgr, hor, hbr, hai⟩ := id hI
  refine Met.ofW (cc := cX1_stateOf) (maxL := 2) (ret := (some .int)) (by decide) rfl ?_
  intro p e s m args below meth c s₁ B9 hml hv
  obtain ⟨rfl, hP, hK⟩ := hv
  have hx := B9.exec
  have hb := B9.bytes
  have hr := B9.returns
  have hlk := B9.notSynchronized
  have hts := atoms_spec (ws := wsX1_stateOf) B9.pre
  have hown : s.vm.findClass RX1 = some m.cls := findClass_of_methodNamed B9.named
  have S : CallFix p m c cX1_stateOf 2 s _ wsX1_stateOf RX1 := ⟨hx, hb, hml, hown, hts⟩
  have hin : ∀ w ∈ wsX10, w ∈ wsX1_stateOf := by decide +kernel
  have hS : va_S (sa_A a) s.heap s.heap [] := va_S.rf
  have hl := lv_entry ([.ref (a 0), .int (x)]) (n := 2) (Nat.le_of_ble_eq_true rfl)
  rw [lg_entry_eq]
  generalize (lg_sl ([.ref (a 0), .int (x)]) ++ List.replicate (2 - (lg_sl ([.ref (a 0), .int (x)])).length) Slot.unset).toArray = ls at hl ⊢
  have hl : lv_has ls 2 [(0, .ref (a 0)), (1, .int (x))] := hl
  refine lv_aload_n hx hb dX1_stateOf_0 rfl (lv_at hl 0 rfl) ?_
  refine lv_aload_n hx hb dX1_stateOf_1 rfl (lv_at hl 0 rfl) ?_
  refine lv_iload_n hx hb dX1_stateOf_2 rfl (lv_at hl 1 rfl) ?_
  refine sa_kRd (As := [.int (x)]) (rest := [.ref (a 0)]) S (c_X1_isSpot l G cI cZ cL a σ th hI x) (cwV 1 hts gX1_stateOf_X1_isSpot rfl rfl rfl (by decide +kernel) ⟨Nat.le_of_ble_eq_true rfl, Nat.le_of_ble_eq_true rfl⟩) hP hK (ci := 1) rfl rfl rfl hl.1 (Nat.le_of_ble_eq_true rfl) rfl dX1_stateOf_3 ⟨Nat.zero_le _, Nat.zero_le _⟩ ?_
  refine sa_spl (fun b_3 => ?_) (fun b_3 => ?_)
  · skip
    have hsx : vp_in x (σ.1 2) := sa_inv (by omega) b_3
    refine lv_iconst (v := 1) hx hb dX1_stateOf_6 (by decide) ?_
    refine lv_iconst (v := 1) hx hb dX1_stateOf_7 (by decide) ?_
    refine sa_kWr (wd' := sa_W1 cI cZ a σ 0) (r := 1) (As := [.int (1), .int (1), .int (1)]) (rest := []) S (by have h := c_X1_goes l G cI cZ cL a σ th hJ 1 1 1; rw [show sa_gc 1 1 1 = 0 from by decide, show sa_b ((0 : Int32) = 0) = 1 from by decide] at h; exact h) (cwV 3 hts gX1_stateOf_X1_goes rfl rfl rfl (by decide +kernel) ⟨Nat.le_of_ble_eq_true rfl, Nat.le_of_ble_eq_true rfl⟩) hP hK hS (fun _ h => h) (ci := 1) rfl rfl rfl hl.1 (Nat.le_of_ble_eq_true rfl) rfl dX1_stateOf_8 ⟨Nat.zero_le _, Nat.zero_le _⟩ (fun H locs hP hS _ _ => ?_)
    refine lv_if_eq (tgt := 23) hx hb dX1_stateOf_11 (by decide) (fun c9 => absurd c9 (by decide)) (fun _ => ?_)
    refine lv_aload_n hx hb dX1_stateOf_14 rfl (lv_at hl 0 rfl) ?_
    refine sa_g1_state S hin hK hP (by decide +kernel) dX1_stateOf_15 ?_
    refine lv_iload_n hx hb dX1_stateOf_18 rfl (lv_at hl 1 rfl) ?_
    refine sa_ld 14 S hK hP rfl (sa_vm hsx (by omega)) dX1_stateOf_19 ?_
    refine lv_goto (tgt := 24) hx hb dX1_stateOf_20 (by decide) ?_
    exact W.iret (v := σ.2 14 x.toNatClampNeg) hx hb hr (fun t9 ht _ => ⟨⟨_, (), rfl, (Eq.trans (b := (0, σ.2 14 x.toNatClampNeg, σ).2.1) rfl (congrArg (fun z : sa_R => z.2.1) (show sp_stateOf σ x = _ from sa_go0 b_3 trivial trivial)).symm), by show va_P G vwCl (sa_W1 cI cZ a (sp_stateOf σ x).2.2 (nI (sp_stateOf σ x).1)) t9.heap; rw [ht]; exact (by rw [(show sp_stateOf σ x = _ from sa_go0 b_3 trivial trivial)]; exact hP)⟩, hS.F ht⟩) hS.2.2 dX1_stateOf_24
  · skip
    refine lv_iconst (v := 1) hx hb dX1_stateOf_6 (by decide) ?_
    refine lv_iconst (v := 1) hx hb dX1_stateOf_7 (by decide) ?_
    refine sa_kWr (wd' := sa_W1 cI cZ a σ 1) (r := 0) (As := [.int (0), .int (1), .int (1)]) (rest := []) S (by have h := c_X1_goes l G cI cZ cL a σ th hJ 0 1 1; rw [show sa_gc 0 1 1 = 1 from by decide, show sa_b ((1 : Int32) = 0) = 0 from by decide] at h; exact h) (cwV 3 hts gX1_stateOf_X1_goes rfl rfl rfl (by decide +kernel) ⟨Nat.le_of_ble_eq_true rfl, Nat.le_of_ble_eq_true rfl⟩) hP hK hS (fun _ h => h) (ci := 1) rfl rfl rfl hl.1 (Nat.le_of_ble_eq_true rfl) rfl dX1_stateOf_8 ⟨Nat.zero_le _, Nat.zero_le _⟩ (fun H locs hP hS _ _ => ?_)
    refine lv_if_eq (tgt := 23) hx hb dX1_stateOf_11 (by decide) (fun _ => ?_) (fun c9 => absurd (by decide) c9)
    refine lv_iconst (v := 0) hx hb dX1_stateOf_23 (by decide) ?_
    exact W.iret (v := 0) hx hb hr (fun t9 ht _ => ⟨⟨_, (), rfl, (Eq.trans (b := ((1, 0, σ) : sa_R).2.1) rfl (congrArg (fun z : sa_R => z.2.1) (show sp_stateOf σ x = _ from sa_go1 (fun z9 => b_3 z9))).symm), by show va_P G vwCl (sa_W1 cI cZ a (sp_stateOf σ x).2.2 (nI (sp_stateOf σ x).1)) t9.heap; rw [ht]; exact (by rw [(show sp_stateOf σ x = _ from sa_go1 (fun z9 => b_3 z9))]; exact hP)⟩, hS.F ht⟩) hS.2.2 dX1_stateOf_24

set_option maxHeartbeats 4000000 in
set_option maxRecDepth 100000 in
theorem c_X1_breakOf (l : Launch) (G : va_G) (cI cZ cL : ClassId) (a : Nat → Nat) (σ : sa_St) (th : Int32) (hI : sa_I σ) (hJ : sa_J a) (x : Int32) : sa_Wr l yX1_breakOf wsX1_breakOf ({ frames := 2, cells := 0, slots := 0, locals := 43 }) G cI cZ cL (sa_W1 cI cZ a σ th) (sa_W1 cI cZ a (sp_breakOf σ x).2.2 (nI (sp_breakOf σ x).1)) (sa_A a) [.ref (a 0), .int (x)] ((sp_breakOf σ x).2.1) := by
  obtain ⟨hnb, hno, hns, hgr, hor, hbr, hai⟩ := id hI
  refine Met.ofW (cc := cX1_breakOf) (maxL := 2) (ret := (some .int)) (by decide) rfl ?_
  intro p e s m args below meth c s₁ B9 hml hv
  obtain ⟨rfl, hP, hK⟩ := hv
  have hx := B9.exec
  have hb := B9.bytes
  have hr := B9.returns
  have hlk := B9.notSynchronized
  have hts := atoms_spec (ws := wsX1_breakOf) B9.pre
  have hown : s.vm.findClass RX1 = some m.cls := findClass_of_methodNamed B9.named
  have S : CallFix p m c cX1_breakOf 2 s _ wsX1_breakOf RX1 := ⟨hx, hb, hml, hown, hts⟩
  have hin : ∀ w ∈ wsX10, w ∈ wsX1_breakOf := by decide +kernel
  have hS : va_S (sa_A a) s.heap s.heap [] := va_S.rf
  have hl := lv_entry ([.ref (a 0), .int (x)]) (n := 2) (Nat.le_of_ble_eq_true rfl)
  rw [lg_entry_eq]
  generalize (lg_sl ([.ref (a 0), .int (x)]) ++ List.replicate (2 - (lg_sl ([.ref (a 0), .int (x)])).length) Slot.unset).toArray = ls at hl ⊢
  have hl : lv_has ls 2 [(0, .ref (a 0)), (1, .int (x))] := hl
  refine lv_aload_n hx hb dX1_breakOf_0 rfl (lv_at hl 0 rfl) ?_
  refine lv_aload_n hx hb dX1_breakOf_1 rfl (lv_at hl 0 rfl) ?_
  refine lv_iload_n hx hb dX1_breakOf_2 rfl (lv_at hl 1 rfl) ?_
  refine sa_kRd (As := [.int (x)]) (rest := [.ref (a 0)]) S (c_X1_isSpot l G cI cZ cL a σ th hI x) (cwV 1 hts gX1_breakOf_X1_isSpot rfl rfl rfl (by decide +kernel) ⟨Nat.le_of_ble_eq_true rfl, Nat.le_of_ble_eq_true rfl⟩) hP hK (ci := 1) rfl rfl rfl hl.1 (Nat.le_of_ble_eq_true rfl) rfl dX1_breakOf_3 ⟨Nat.zero_le _, Nat.zero_le _⟩ ?_
  refine sa_spl (fun b_3 => ?_) (fun b_3 => ?_)
  · skip
    have hsx : vp_in x (σ.1 2) := sa_inv (by omega) b_3
    refine lv_iconst (v := 1) hx hb dX1_breakOf_6 (by decide) ?_
    refine lv_iconst (v := 1) hx hb dX1_breakOf_7 (by decide) ?_
    refine sa_kWr (wd' := sa_W1 cI cZ a σ 0) (r := 1) (As := [.int (1), .int (1), .int (1)]) (rest := []) S (by have h := c_X1_goes l G cI cZ cL a σ th hJ 1 1 1; rw [show sa_gc 1 1 1 = 0 from by decide, show sa_b ((0 : Int32) = 0) = 1 from by decide] at h; exact h) (cwV 3 hts gX1_breakOf_X1_goes rfl rfl rfl (by decide +kernel) ⟨Nat.le_of_ble_eq_true rfl, Nat.le_of_ble_eq_true rfl⟩) hP hK hS (fun _ h => h) (ci := 1) rfl rfl rfl hl.1 (Nat.le_of_ble_eq_true rfl) rfl dX1_breakOf_8 ⟨Nat.zero_le _, Nat.zero_le _⟩ (fun H locs hP hS _ _ => ?_)
    refine lv_if_eq (tgt := 23) hx hb dX1_breakOf_11 (by decide) (fun c9 => absurd c9 (by decide)) (fun _ => ?_)
    refine lv_aload_n hx hb dX1_breakOf_14 rfl (lv_at hl 0 rfl) ?_
    refine sa_g1_where S hin hK hP (by decide +kernel) dX1_breakOf_15 ?_
    refine lv_iload_n hx hb dX1_breakOf_18 rfl (lv_at hl 1 rfl) ?_
    refine sa_ld 13 S hK hP rfl (sa_vm hsx (by omega)) dX1_breakOf_19 ?_
    refine lv_goto (tgt := 24) hx hb dX1_breakOf_20 (by decide) ?_
    exact W.iret (v := σ.2 13 x.toNatClampNeg) hx hb hr (fun t9 ht _ => ⟨⟨_, (), rfl, (Eq.trans (b := (0, σ.2 13 x.toNatClampNeg, σ).2.1) rfl (congrArg (fun z : sa_R => z.2.1) (show sp_breakOf σ x = _ from sa_go0 b_3 trivial trivial)).symm), by show va_P G vwCl (sa_W1 cI cZ a (sp_breakOf σ x).2.2 (nI (sp_breakOf σ x).1)) t9.heap; rw [ht]; exact (by rw [(show sp_breakOf σ x = _ from sa_go0 b_3 trivial trivial)]; exact hP)⟩, hS.F ht⟩) hS.2.2 dX1_breakOf_24
  · skip
    refine lv_iconst (v := 1) hx hb dX1_breakOf_6 (by decide) ?_
    refine lv_iconst (v := 1) hx hb dX1_breakOf_7 (by decide) ?_
    refine sa_kWr (wd' := sa_W1 cI cZ a σ 1) (r := 0) (As := [.int (0), .int (1), .int (1)]) (rest := []) S (by have h := c_X1_goes l G cI cZ cL a σ th hJ 0 1 1; rw [show sa_gc 0 1 1 = 1 from by decide, show sa_b ((1 : Int32) = 0) = 0 from by decide] at h; exact h) (cwV 3 hts gX1_breakOf_X1_goes rfl rfl rfl (by decide +kernel) ⟨Nat.le_of_ble_eq_true rfl, Nat.le_of_ble_eq_true rfl⟩) hP hK hS (fun _ h => h) (ci := 1) rfl rfl rfl hl.1 (Nat.le_of_ble_eq_true rfl) rfl dX1_breakOf_8 ⟨Nat.zero_le _, Nat.zero_le _⟩ (fun H locs hP hS _ _ => ?_)
    refine lv_if_eq (tgt := 23) hx hb dX1_breakOf_11 (by decide) (fun _ => ?_) (fun c9 => absurd (by decide) c9)
    refine lv_iconst (v := 0) hx hb dX1_breakOf_23 (by decide) ?_
    exact W.iret (v := 0) hx hb hr (fun t9 ht _ => ⟨⟨_, (), rfl, (Eq.trans (b := ((1, 0, σ) : sa_R).2.1) rfl (congrArg (fun z : sa_R => z.2.1) (show sp_breakOf σ x = _ from sa_go1 (fun z9 => b_3 z9))).symm), by show va_P G vwCl (sa_W1 cI cZ a (sp_breakOf σ x).2.2 (nI (sp_breakOf σ x).1)) t9.heap; rw [ht]; exact (by rw [(show sp_breakOf σ x = _ from sa_go1 (fun z9 => b_3 z9))]; exact hP)⟩, hS.F ht⟩) hS.2.2 dX1_breakOf_24

set_option maxHeartbeats 4000000 in
set_option maxRecDepth 100000 in
theorem c_X1_delivered (l : Launch) (G : va_G) (cI cZ cL : ClassId) (a : Nat → Nat) (σ : sa_St) (th : Int32) (hI : sa_I σ) (hJ : sa_J a) (o : Int32) : sa_Wr l yX1_delivered wsX1_delivered ({ frames := 2, cells := 0, slots := 0, locals := 47 }) G cI cZ cL (sa_W1 cI cZ a σ th) (sa_W1 cI cZ a (sp_delivered σ o).2.2 (nI (sp_delivered σ o).1)) (sa_A a) [.ref (a 0), .int (o)] ((sp_delivered σ o).2.1) := by
  obtain ⟨hnb, hno, hns, hgr, hor, hbr, hai⟩ := id hI
  refine Met.ofW (cc := cX1_delivered) (maxL := 2) (ret := (some .int)) (by decide) rfl ?_
  intro p e s m args below meth c s₁ B9 hml hv
  obtain ⟨rfl, hP, hK⟩ := hv
  have hx := B9.exec
  have hb := B9.bytes
  have hr := B9.returns
  have hlk := B9.notSynchronized
  have hts := atoms_spec (ws := wsX1_delivered) B9.pre
  have hown : s.vm.findClass RX1 = some m.cls := findClass_of_methodNamed B9.named
  have S : CallFix p m c cX1_delivered 2 s _ wsX1_delivered RX1 := ⟨hx, hb, hml, hown, hts⟩
  have hS : va_S (sa_A a) s.heap s.heap [] := va_S.rf
  have hl := lv_entry ([.ref (a 0), .int (o)]) (n := 2) (Nat.le_of_ble_eq_true rfl)
  rw [lg_entry_eq]
  generalize (lg_sl ([.ref (a 0), .int (o)]) ++ List.replicate (2 - (lg_sl ([.ref (a 0), .int (o)])).length) Slot.unset).toArray = ls at hl ⊢
  have hl : lv_has ls 2 [(0, .ref (a 0)), (1, .int (o))] := hl
  refine lv_aload_n hx hb dX1_delivered_0 rfl (lv_at hl 0 rfl) ?_
  refine lv_aload_n hx hb dX1_delivered_1 rfl (lv_at hl 0 rfl) ?_
  refine lv_iload_n hx hb dX1_delivered_2 rfl (lv_at hl 1 rfl) ?_
  refine sa_kRd (As := [.int (o)]) (rest := [.ref (a 0)]) S (c_X1_isOrder l G cI cZ cL a σ th hI o) (cwV 1 hts gX1_delivered_X1_isOrder rfl rfl rfl (by decide +kernel) ⟨Nat.le_of_ble_eq_true rfl, Nat.le_of_ble_eq_true rfl⟩) hP hK (ci := 1) rfl rfl rfl hl.1 (Nat.le_of_ble_eq_true rfl) rfl dX1_delivered_3 ⟨Nat.zero_le _, Nat.zero_le _⟩ ?_
  refine sa_spl (fun b_3 => ?_) (fun b_3 => ?_)
  · skip
    have ho : vp_in o (σ.1 1) := sa_inv (by omega) b_3
    refine lv_iconst (v := 1) hx hb dX1_delivered_6 (by decide) ?_
    refine lv_iconst (v := 1) hx hb dX1_delivered_7 (by decide) ?_
    refine sa_kWr (wd' := sa_W1 cI cZ a σ 0) (r := 1) (As := [.int (1), .int (1), .int (1)]) (rest := []) S (by have h := c_X1_goes l G cI cZ cL a σ th hJ 1 1 1; rw [show sa_gc 1 1 1 = 0 from by decide, show sa_b ((0 : Int32) = 0) = 1 from by decide] at h; exact h) (cwV 3 hts gX1_delivered_X1_goes rfl rfl rfl (by decide +kernel) ⟨Nat.le_of_ble_eq_true rfl, Nat.le_of_ble_eq_true rfl⟩) hP hK hS (fun _ h => h) (ci := 1) rfl rfl rfl hl.1 (Nat.le_of_ble_eq_true rfl) rfl dX1_delivered_8 ⟨Nat.zero_le _, Nat.zero_le _⟩ (fun H locs hP hS _ _ => ?_)
    refine lv_if_eq (tgt := 24) hx hb dX1_delivered_11 (by decide) (fun c9 => absurd c9 (by decide)) (fun _ => ?_)
    refine lv_aload_n hx hb dX1_delivered_14 rfl (lv_at hl 0 rfl) ?_
    refine lv_iload_n hx hb dX1_delivered_15 rfl (lv_at hl 1 rfl) ?_
    refine lv_iconst (v := 1) hx hb dX1_delivered_16 (by decide) ?_
    refine lv_iconst (v := 0) hx hb dX1_delivered_17 (by decide) ?_
    refine sa_kRd (As := [.int (o), .int (1), .int (0)]) (rest := []) S (c_X1_sums l G cI cZ cL a σ 0 hI o 1 0 ho) (cwV 3 hts gX1_delivered_X1_sums rfl rfl rfl (by decide +kernel) ⟨Nat.le_of_ble_eq_true rfl, Nat.le_of_ble_eq_true rfl⟩) hP hK (ci := 1) rfl rfl rfl hl.1 (Nat.le_of_ble_eq_true rfl) rfl dX1_delivered_18 ⟨Nat.zero_le _, Nat.zero_le _⟩ ?_
    refine lv_goto (tgt := 25) hx hb dX1_delivered_21 (by decide) ?_
    exact W.iret (v := sa_sum σ o 1 0 (σ.1 2)) hx hb hr (fun t9 ht _ => ⟨⟨_, (), rfl, (Eq.trans (b := (0, sa_aud σ o 1, σ).2.1) rfl (congrArg (fun z : sa_R => z.2.1) (show sp_delivered σ o = _ from sa_go0 b_3 trivial trivial)).symm), by show va_P G vwCl (sa_W1 cI cZ a (sp_delivered σ o).2.2 (nI (sp_delivered σ o).1)) t9.heap; rw [ht]; exact (by rw [(show sp_delivered σ o = _ from sa_go0 b_3 trivial trivial)]; exact hP)⟩, hS.F ht⟩) hS.2.2 dX1_delivered_25
  · skip
    refine lv_iconst (v := 1) hx hb dX1_delivered_6 (by decide) ?_
    refine lv_iconst (v := 1) hx hb dX1_delivered_7 (by decide) ?_
    refine sa_kWr (wd' := sa_W1 cI cZ a σ 1) (r := 0) (As := [.int (0), .int (1), .int (1)]) (rest := []) S (by have h := c_X1_goes l G cI cZ cL a σ th hJ 0 1 1; rw [show sa_gc 0 1 1 = 1 from by decide, show sa_b ((1 : Int32) = 0) = 0 from by decide] at h; exact h) (cwV 3 hts gX1_delivered_X1_goes rfl rfl rfl (by decide +kernel) ⟨Nat.le_of_ble_eq_true rfl, Nat.le_of_ble_eq_true rfl⟩) hP hK hS (fun _ h => h) (ci := 1) rfl rfl rfl hl.1 (Nat.le_of_ble_eq_true rfl) rfl dX1_delivered_8 ⟨Nat.zero_le _, Nat.zero_le _⟩ (fun H locs hP hS _ _ => ?_)
    refine lv_if_eq (tgt := 24) hx hb dX1_delivered_11 (by decide) (fun _ => ?_) (fun c9 => absurd (by decide) c9)
    refine lv_iconst (v := 0) hx hb dX1_delivered_24 (by decide) ?_
    exact W.iret (v := 0) hx hb hr (fun t9 ht _ => ⟨⟨_, (), rfl, (Eq.trans (b := ((1, 0, σ) : sa_R).2.1) rfl (congrArg (fun z : sa_R => z.2.1) (show sp_delivered σ o = _ from sa_go1 (fun z9 => b_3 z9))).symm), by show va_P G vwCl (sa_W1 cI cZ a (sp_delivered σ o).2.2 (nI (sp_delivered σ o).1)) t9.heap; rw [ht]; exact (by rw [(show sp_delivered σ o = _ from sa_go1 (fun z9 => b_3 z9))]; exact hP)⟩, hS.F ht⟩) hS.2.2 dX1_delivered_25

set_option maxHeartbeats 4000000 in
set_option maxRecDepth 100000 in
theorem c_X1_owed (l : Launch) (G : va_G) (cI cZ cL : ClassId) (a : Nat → Nat) (σ : sa_St) (th : Int32) (hI : sa_I σ) (hJ : sa_J a) (o : Int32) : sa_Wr l yX1_owed wsX1_owed ({ frames := 3, cells := 0, slots := 0, locals := 69 }) G cI cZ cL (sa_W1 cI cZ a σ th) (sa_W1 cI cZ a (sp_owed σ o).2.2 (nI (sp_owed σ o).1)) (sa_A a) [.ref (a 0), .int (o)] ((sp_owed σ o).2.1) := by
  obtain ⟨hnb, hno, hns, hgr, hor, hbr, hai⟩ := id hI
  refine Met.ofW (cc := cX1_owed) (maxL := 2) (ret := (some .int)) (by decide) rfl ?_
  intro p e s m args below meth c s₁ B9 hml hv
  obtain ⟨rfl, hP, hK⟩ := hv
  have hx := B9.exec
  have hb := B9.bytes
  have hr := B9.returns
  have hlk := B9.notSynchronized
  have hts := atoms_spec (ws := wsX1_owed) B9.pre
  have hown : s.vm.findClass RX1 = some m.cls := findClass_of_methodNamed B9.named
  have S : CallFix p m c cX1_owed 2 s _ wsX1_owed RX1 := ⟨hx, hb, hml, hown, hts⟩
  have hS : va_S (sa_A a) s.heap s.heap [] := va_S.rf
  have hl := lv_entry ([.ref (a 0), .int (o)]) (n := 2) (Nat.le_of_ble_eq_true rfl)
  rw [lg_entry_eq]
  generalize (lg_sl ([.ref (a 0), .int (o)]) ++ List.replicate (2 - (lg_sl ([.ref (a 0), .int (o)])).length) Slot.unset).toArray = ls at hl ⊢
  have hl : lv_has ls 2 [(0, .ref (a 0)), (1, .int (o))] := hl
  refine lv_aload_n hx hb dX1_owed_0 rfl (lv_at hl 0 rfl) ?_
  refine lv_aload_n hx hb dX1_owed_1 rfl (lv_at hl 0 rfl) ?_
  refine lv_iload_n hx hb dX1_owed_2 rfl (lv_at hl 1 rfl) ?_
  refine sa_kRd (As := [.int (o)]) (rest := [.ref (a 0)]) S (c_X1_isOrder l G cI cZ cL a σ th hI o) (cwV 1 hts gX1_owed_X1_isOrder rfl rfl rfl (by decide +kernel) ⟨Nat.le_of_ble_eq_true rfl, Nat.le_of_ble_eq_true rfl⟩) hP hK (ci := 1) rfl rfl rfl hl.1 (Nat.le_of_ble_eq_true rfl) rfl dX1_owed_3 ⟨Nat.zero_le _, Nat.zero_le _⟩ ?_
  refine sa_spl (fun b_3 => ?_) (fun b_3 => ?_)
  · skip
    have ho : vp_in o (σ.1 1) := sa_inv (by omega) b_3
    refine lv_iconst (v := 1) hx hb dX1_owed_6 (by decide) ?_
    refine lv_iconst (v := 1) hx hb dX1_owed_7 (by decide) ?_
    refine sa_kWr (wd' := sa_W1 cI cZ a σ 0) (r := 1) (As := [.int (1), .int (1), .int (1)]) (rest := []) S (by have h := c_X1_goes l G cI cZ cL a σ th hJ 1 1 1; rw [show sa_gc 1 1 1 = 0 from by decide, show sa_b ((0 : Int32) = 0) = 1 from by decide] at h; exact h) (cwV 3 hts gX1_owed_X1_goes rfl rfl rfl (by decide +kernel) ⟨Nat.le_of_ble_eq_true rfl, Nat.le_of_ble_eq_true rfl⟩) hP hK hS (fun _ h => h) (ci := 1) rfl rfl rfl hl.1 (Nat.le_of_ble_eq_true rfl) rfl dX1_owed_8 ⟨Nat.zero_le _, Nat.zero_le _⟩ (fun H locs hP hS _ _ => ?_)
    refine lv_if_eq (tgt := 22) hx hb dX1_owed_11 (by decide) (fun c9 => absurd c9 (by decide)) (fun _ => ?_)
    refine lv_aload_n hx hb dX1_owed_14 rfl (lv_at hl 0 rfl) ?_
    refine lv_iload_n hx hb dX1_owed_15 rfl (lv_at hl 1 rfl) ?_
    refine sa_kRd (As := [.int (o)]) (rest := []) S (c_X1_owes l G cI cZ cL a σ 0 hI o ho) (cwV 1 hts gX1_owed_X1_owes rfl rfl rfl (by decide +kernel) ⟨Nat.le_of_ble_eq_true rfl, Nat.le_of_ble_eq_true rfl⟩) hP hK (ci := 1) rfl rfl rfl hl.1 (Nat.le_of_ble_eq_true rfl) rfl dX1_owed_16 ⟨Nat.zero_le _, Nat.zero_le _⟩ ?_
    refine lv_goto (tgt := 23) hx hb dX1_owed_19 (by decide) ?_
    exact W.iret (v := sa_owes σ o) hx hb hr (fun t9 ht _ => ⟨⟨_, (), rfl, (Eq.trans (b := (0, sa_owes σ o, σ).2.1) rfl (congrArg (fun z : sa_R => z.2.1) (show sp_owed σ o = _ from sa_go0 b_3 trivial trivial)).symm), by show va_P G vwCl (sa_W1 cI cZ a (sp_owed σ o).2.2 (nI (sp_owed σ o).1)) t9.heap; rw [ht]; exact (by rw [(show sp_owed σ o = _ from sa_go0 b_3 trivial trivial)]; exact hP)⟩, hS.F ht⟩) hS.2.2 dX1_owed_23
  · skip
    refine lv_iconst (v := 1) hx hb dX1_owed_6 (by decide) ?_
    refine lv_iconst (v := 1) hx hb dX1_owed_7 (by decide) ?_
    refine sa_kWr (wd' := sa_W1 cI cZ a σ 1) (r := 0) (As := [.int (0), .int (1), .int (1)]) (rest := []) S (by have h := c_X1_goes l G cI cZ cL a σ th hJ 0 1 1; rw [show sa_gc 0 1 1 = 1 from by decide, show sa_b ((1 : Int32) = 0) = 0 from by decide] at h; exact h) (cwV 3 hts gX1_owed_X1_goes rfl rfl rfl (by decide +kernel) ⟨Nat.le_of_ble_eq_true rfl, Nat.le_of_ble_eq_true rfl⟩) hP hK hS (fun _ h => h) (ci := 1) rfl rfl rfl hl.1 (Nat.le_of_ble_eq_true rfl) rfl dX1_owed_8 ⟨Nat.zero_le _, Nat.zero_le _⟩ (fun H locs hP hS _ _ => ?_)
    refine lv_if_eq (tgt := 22) hx hb dX1_owed_11 (by decide) (fun _ => ?_) (fun c9 => absurd (by decide) c9)
    refine lv_iconst (v := 0) hx hb dX1_owed_22 (by decide) ?_
    exact W.iret (v := 0) hx hb hr (fun t9 ht _ => ⟨⟨_, (), rfl, (Eq.trans (b := ((1, 0, σ) : sa_R).2.1) rfl (congrArg (fun z : sa_R => z.2.1) (show sp_owed σ o = _ from sa_go1 (fun z9 => b_3 z9))).symm), by show va_P G vwCl (sa_W1 cI cZ a (sp_owed σ o).2.2 (nI (sp_owed σ o).1)) t9.heap; rw [ht]; exact (by rw [(show sp_owed σ o = _ from sa_go1 (fun z9 => b_3 z9))]; exact hP)⟩, hS.F ht⟩) hS.2.2 dX1_owed_23

set_option maxHeartbeats 4000000 in
set_option maxRecDepth 100000 in
theorem c_X1_rest (l : Launch) (G : va_G) (cI cZ cL : ClassId) (a : Nat → Nat) (σ : sa_St) (th : Int32) (hI : sa_I σ) (hJ : sa_J a) (o : Int32) : sa_Wr l yX1_rest wsX1_rest ({ frames := 4, cells := 0, slots := 0, locals := 91 }) G cI cZ cL (sa_W1 cI cZ a σ th) (sa_W1 cI cZ a (sp_rest σ o).2.2 (nI (sp_rest σ o).1)) (sa_A a) [.ref (a 0), .int (o)] ((sp_rest σ o).2.1) := by
  obtain ⟨hnb, hno, hns, hgr, hor, hbr, hai⟩ := id hI
  refine Met.ofW (cc := cX1_rest) (maxL := 2) (ret := (some .int)) (by decide) rfl ?_
  intro p e s m args below meth c s₁ B9 hml hv
  obtain ⟨rfl, hP, hK⟩ := hv
  have hx := B9.exec
  have hb := B9.bytes
  have hr := B9.returns
  have hlk := B9.notSynchronized
  have hts := atoms_spec (ws := wsX1_rest) B9.pre
  have hown : s.vm.findClass RX1 = some m.cls := findClass_of_methodNamed B9.named
  have S : CallFix p m c cX1_rest 2 s _ wsX1_rest RX1 := ⟨hx, hb, hml, hown, hts⟩
  have hS : va_S (sa_A a) s.heap s.heap [] := va_S.rf
  have hl := lv_entry ([.ref (a 0), .int (o)]) (n := 2) (Nat.le_of_ble_eq_true rfl)
  rw [lg_entry_eq]
  generalize (lg_sl ([.ref (a 0), .int (o)]) ++ List.replicate (2 - (lg_sl ([.ref (a 0), .int (o)])).length) Slot.unset).toArray = ls at hl ⊢
  have hl : lv_has ls 2 [(0, .ref (a 0)), (1, .int (o))] := hl
  refine lv_aload_n hx hb dX1_rest_0 rfl (lv_at hl 0 rfl) ?_
  refine lv_aload_n hx hb dX1_rest_1 rfl (lv_at hl 0 rfl) ?_
  refine lv_iload_n hx hb dX1_rest_2 rfl (lv_at hl 1 rfl) ?_
  refine sa_kRd (As := [.int (o)]) (rest := [.ref (a 0)]) S (c_X1_isOrder l G cI cZ cL a σ th hI o) (cwV 1 hts gX1_rest_X1_isOrder rfl rfl rfl (by decide +kernel) ⟨Nat.le_of_ble_eq_true rfl, Nat.le_of_ble_eq_true rfl⟩) hP hK (ci := 1) rfl rfl rfl hl.1 (Nat.le_of_ble_eq_true rfl) rfl dX1_rest_3 ⟨Nat.zero_le _, Nat.zero_le _⟩ ?_
  refine sa_spl (fun b_3 => ?_) (fun b_3 => ?_)
  · skip
    have ho : vp_in o (σ.1 1) := sa_inv (by omega) b_3
    refine lv_iconst (v := 1) hx hb dX1_rest_6 (by decide) ?_
    refine lv_iconst (v := 1) hx hb dX1_rest_7 (by decide) ?_
    refine sa_kWr (wd' := sa_W1 cI cZ a σ 0) (r := 1) (As := [.int (1), .int (1), .int (1)]) (rest := []) S (by have h := c_X1_goes l G cI cZ cL a σ th hJ 1 1 1; rw [show sa_gc 1 1 1 = 0 from by decide, show sa_b ((0 : Int32) = 0) = 1 from by decide] at h; exact h) (cwV 3 hts gX1_rest_X1_goes rfl rfl rfl (by decide +kernel) ⟨Nat.le_of_ble_eq_true rfl, Nat.le_of_ble_eq_true rfl⟩) hP hK hS (fun _ h => h) (ci := 1) rfl rfl rfl hl.1 (Nat.le_of_ble_eq_true rfl) rfl dX1_rest_8 ⟨Nat.zero_le _, Nat.zero_le _⟩ (fun H locs hP hS _ _ => ?_)
    refine lv_if_eq (tgt := 22) hx hb dX1_rest_11 (by decide) (fun c9 => absurd c9 (by decide)) (fun _ => ?_)
    refine lv_aload_n hx hb dX1_rest_14 rfl (lv_at hl 0 rfl) ?_
    refine lv_iload_n hx hb dX1_rest_15 rfl (lv_at hl 1 rfl) ?_
    refine sa_kRd (As := [.int (o)]) (rest := []) S (c_X1_left l G cI cZ cL a σ 0 hI o ho) (cwV 1 hts gX1_rest_X1_left rfl rfl rfl (by decide +kernel) ⟨Nat.le_of_ble_eq_true rfl, Nat.le_of_ble_eq_true rfl⟩) hP hK (ci := 1) rfl rfl rfl hl.1 (Nat.le_of_ble_eq_true rfl) rfl dX1_rest_16 ⟨Nat.zero_le _, Nat.zero_le _⟩ ?_
    refine lv_goto (tgt := 23) hx hb dX1_rest_19 (by decide) ?_
    exact W.iret (v := sa_left σ o) hx hb hr (fun t9 ht _ => ⟨⟨_, (), rfl, (Eq.trans (b := (0, sa_left σ o, σ).2.1) rfl (congrArg (fun z : sa_R => z.2.1) (show sp_rest σ o = _ from sa_go0 b_3 trivial trivial)).symm), by show va_P G vwCl (sa_W1 cI cZ a (sp_rest σ o).2.2 (nI (sp_rest σ o).1)) t9.heap; rw [ht]; exact (by rw [(show sp_rest σ o = _ from sa_go0 b_3 trivial trivial)]; exact hP)⟩, hS.F ht⟩) hS.2.2 dX1_rest_23
  · skip
    refine lv_iconst (v := 1) hx hb dX1_rest_6 (by decide) ?_
    refine lv_iconst (v := 1) hx hb dX1_rest_7 (by decide) ?_
    refine sa_kWr (wd' := sa_W1 cI cZ a σ 1) (r := 0) (As := [.int (0), .int (1), .int (1)]) (rest := []) S (by have h := c_X1_goes l G cI cZ cL a σ th hJ 0 1 1; rw [show sa_gc 0 1 1 = 1 from by decide, show sa_b ((1 : Int32) = 0) = 0 from by decide] at h; exact h) (cwV 3 hts gX1_rest_X1_goes rfl rfl rfl (by decide +kernel) ⟨Nat.le_of_ble_eq_true rfl, Nat.le_of_ble_eq_true rfl⟩) hP hK hS (fun _ h => h) (ci := 1) rfl rfl rfl hl.1 (Nat.le_of_ble_eq_true rfl) rfl dX1_rest_8 ⟨Nat.zero_le _, Nat.zero_le _⟩ (fun H locs hP hS _ _ => ?_)
    refine lv_if_eq (tgt := 22) hx hb dX1_rest_11 (by decide) (fun _ => ?_) (fun c9 => absurd (by decide) c9)
    refine lv_iconst (v := 0) hx hb dX1_rest_22 (by decide) ?_
    exact W.iret (v := 0) hx hb hr (fun t9 ht _ => ⟨⟨_, (), rfl, (Eq.trans (b := ((1, 0, σ) : sa_R).2.1) rfl (congrArg (fun z : sa_R => z.2.1) (show sp_rest σ o = _ from sa_go1 (fun z9 => b_3 z9))).symm), by show va_P G vwCl (sa_W1 cI cZ a (sp_rest σ o).2.2 (nI (sp_rest σ o).1)) t9.heap; rw [ht]; exact (by rw [(show sp_rest σ o = _ from sa_go1 (fun z9 => b_3 z9))]; exact hP)⟩, hS.F ht⟩) hS.2.2 dX1_rest_23

set_option maxHeartbeats 4000000 in
set_option maxRecDepth 100000 in
theorem c_X1_bill (l : Launch) (G : va_G) (cI cZ cL : ClassId) (a : Nat → Nat) (σ : sa_St) (th : Int32) (hI : sa_I σ) (hJ : sa_J a) (o : Int32) : sa_Wr l yX1_bill wsX1_bill ({ frames := 2, cells := 0, slots := 0, locals := 43 }) G cI cZ cL (sa_W1 cI cZ a σ th) (sa_W1 cI cZ a (sp_bill σ o).2.2 (nI (sp_bill σ o).1)) (sa_A a) [.ref (a 0), .int (o)] ((sp_bill σ o).2.1) := by
  obtain ⟨hnb, hno, hns, hgr, hor, hbr, hai⟩ := id hI
  refine Met.ofW (cc := cX1_bill) (maxL := 2) (ret := (some .int)) (by decide) rfl ?_
  intro p e s m args below meth c s₁ B9 hml hv
  obtain ⟨rfl, hP, hK⟩ := hv
  have hx := B9.exec
  have hb := B9.bytes
  have hr := B9.returns
  have hlk := B9.notSynchronized
  have hts := atoms_spec (ws := wsX1_bill) B9.pre
  have hown : s.vm.findClass RX1 = some m.cls := findClass_of_methodNamed B9.named
  have S : CallFix p m c cX1_bill 2 s _ wsX1_bill RX1 := ⟨hx, hb, hml, hown, hts⟩
  have hS : va_S (sa_A a) s.heap s.heap [] := va_S.rf
  have hl := lv_entry ([.ref (a 0), .int (o)]) (n := 2) (Nat.le_of_ble_eq_true rfl)
  rw [lg_entry_eq]
  generalize (lg_sl ([.ref (a 0), .int (o)]) ++ List.replicate (2 - (lg_sl ([.ref (a 0), .int (o)])).length) Slot.unset).toArray = ls at hl ⊢
  have hl : lv_has ls 2 [(0, .ref (a 0)), (1, .int (o))] := hl
  refine lv_aload_n hx hb dX1_bill_0 rfl (lv_at hl 0 rfl) ?_
  refine lv_aload_n hx hb dX1_bill_1 rfl (lv_at hl 0 rfl) ?_
  refine lv_iload_n hx hb dX1_bill_2 rfl (lv_at hl 1 rfl) ?_
  refine sa_kRd (As := [.int (o)]) (rest := [.ref (a 0)]) S (c_X1_isOrder l G cI cZ cL a σ th hI o) (cwV 1 hts gX1_bill_X1_isOrder rfl rfl rfl (by decide +kernel) ⟨Nat.le_of_ble_eq_true rfl, Nat.le_of_ble_eq_true rfl⟩) hP hK (ci := 1) rfl rfl rfl hl.1 (Nat.le_of_ble_eq_true rfl) rfl dX1_bill_3 ⟨Nat.zero_le _, Nat.zero_le _⟩ ?_
  refine sa_spl (fun b_3 => ?_) (fun b_3 => ?_)
  · skip
    have ho : vp_in o (σ.1 1) := sa_inv (by omega) b_3
    refine lv_iconst (v := 1) hx hb dX1_bill_6 (by decide) ?_
    refine lv_iconst (v := 1) hx hb dX1_bill_7 (by decide) ?_
    refine sa_kWr (wd' := sa_W1 cI cZ a σ 0) (r := 1) (As := [.int (1), .int (1), .int (1)]) (rest := []) S (by have h := c_X1_goes l G cI cZ cL a σ th hJ 1 1 1; rw [show sa_gc 1 1 1 = 0 from by decide, show sa_b ((0 : Int32) = 0) = 1 from by decide] at h; exact h) (cwV 3 hts gX1_bill_X1_goes rfl rfl rfl (by decide +kernel) ⟨Nat.le_of_ble_eq_true rfl, Nat.le_of_ble_eq_true rfl⟩) hP hK hS (fun _ h => h) (ci := 1) rfl rfl rfl hl.1 (Nat.le_of_ble_eq_true rfl) rfl dX1_bill_8 ⟨Nat.zero_le _, Nat.zero_le _⟩ (fun H locs hP hS _ _ => ?_)
    refine lv_if_eq (tgt := 22) hx hb dX1_bill_11 (by decide) (fun c9 => absurd c9 (by decide)) (fun _ => ?_)
    refine lv_aload_n hx hb dX1_bill_14 rfl (lv_at hl 0 rfl) ?_
    refine lv_iload_n hx hb dX1_bill_15 rfl (lv_at hl 1 rfl) ?_
    refine sa_kRd (As := [.int (o)]) (rest := []) S (c_X1_billOf l G cI cZ cL a σ 0 hI o ho) (cwV 1 hts gX1_bill_X1_billOf rfl rfl rfl (by decide +kernel) ⟨Nat.le_of_ble_eq_true rfl, Nat.le_of_ble_eq_true rfl⟩) hP hK (ci := 1) rfl rfl rfl hl.1 (Nat.le_of_ble_eq_true rfl) rfl dX1_bill_16 ⟨Nat.zero_le _, Nat.zero_le _⟩ ?_
    refine lv_goto (tgt := 23) hx hb dX1_bill_19 (by decide) ?_
    exact W.iret (v := sa_bil σ o (σ.1 2)) hx hb hr (fun t9 ht _ => ⟨⟨_, (), rfl, (Eq.trans (b := (0, sa_bil σ o (σ.1 2), σ).2.1) rfl (congrArg (fun z : sa_R => z.2.1) (show sp_bill σ o = _ from sa_go0 b_3 trivial trivial)).symm), by show va_P G vwCl (sa_W1 cI cZ a (sp_bill σ o).2.2 (nI (sp_bill σ o).1)) t9.heap; rw [ht]; exact (by rw [(show sp_bill σ o = _ from sa_go0 b_3 trivial trivial)]; exact hP)⟩, hS.F ht⟩) hS.2.2 dX1_bill_23
  · skip
    refine lv_iconst (v := 1) hx hb dX1_bill_6 (by decide) ?_
    refine lv_iconst (v := 1) hx hb dX1_bill_7 (by decide) ?_
    refine sa_kWr (wd' := sa_W1 cI cZ a σ 1) (r := 0) (As := [.int (0), .int (1), .int (1)]) (rest := []) S (by have h := c_X1_goes l G cI cZ cL a σ th hJ 0 1 1; rw [show sa_gc 0 1 1 = 1 from by decide, show sa_b ((1 : Int32) = 0) = 0 from by decide] at h; exact h) (cwV 3 hts gX1_bill_X1_goes rfl rfl rfl (by decide +kernel) ⟨Nat.le_of_ble_eq_true rfl, Nat.le_of_ble_eq_true rfl⟩) hP hK hS (fun _ h => h) (ci := 1) rfl rfl rfl hl.1 (Nat.le_of_ble_eq_true rfl) rfl dX1_bill_8 ⟨Nat.zero_le _, Nat.zero_le _⟩ (fun H locs hP hS _ _ => ?_)
    refine lv_if_eq (tgt := 22) hx hb dX1_bill_11 (by decide) (fun _ => ?_) (fun c9 => absurd (by decide) c9)
    refine lv_iconst (v := 0) hx hb dX1_bill_22 (by decide) ?_
    exact W.iret (v := 0) hx hb hr (fun t9 ht _ => ⟨⟨_, (), rfl, (Eq.trans (b := ((1, 0, σ) : sa_R).2.1) rfl (congrArg (fun z : sa_R => z.2.1) (show sp_bill σ o = _ from sa_go1 (fun z9 => b_3 z9))).symm), by show va_P G vwCl (sa_W1 cI cZ a (sp_bill σ o).2.2 (nI (sp_bill σ o).1)) t9.heap; rw [ht]; exact (by rw [(show sp_bill σ o = _ from sa_go1 (fun z9 => b_3 z9))]; exact hP)⟩, hS.F ht⟩) hS.2.2 dX1_bill_23

set_option maxHeartbeats 4000000 in
set_option maxRecDepth 100000 in
theorem c_X1_billTo (l : Launch) (G : va_G) (cI cZ cL : ClassId) (a : Nat → Nat) (σ : sa_St) (th : Int32) (hI : sa_I σ) (hJ : sa_J a) (x : Int32) : sa_Wr l yX1_billTo wsX1_billTo ({ frames := 1, cells := 0, slots := 0, locals := 23 }) G cI cZ cL (sa_W1 cI cZ a σ th) (sa_W1 cI cZ a (sp_billTo σ x).2.2 (nI (sp_billTo σ x).1)) (sa_A a) [.ref (a 0), .int (x)] ((sp_billTo σ x).2.1) := by
  obtain ⟨hnb, hno, hns, hgr, hor, hbr, hai⟩ := id hI
  refine Met.ofW (cc := cX1_billTo) (maxL := 5) (ret := (some .int)) (by decide) rfl ?_
  intro p e s m args below meth c s₁ B9 hml hv
  obtain ⟨rfl, hP, hK⟩ := hv
  have hx := B9.exec
  have hb := B9.bytes
  have hr := B9.returns
  have hlk := B9.notSynchronized
  have hts := atoms_spec (ws := wsX1_billTo) B9.pre
  have hown : s.vm.findClass RX1 = some m.cls := findClass_of_methodNamed B9.named
  have S : CallFix p m c cX1_billTo 5 s _ wsX1_billTo RX1 := ⟨hx, hb, hml, hown, hts⟩
  have hin : ∀ w ∈ wsX10, w ∈ wsX1_billTo := by decide +kernel
  have hS : va_S (sa_A a) s.heap s.heap [] := va_S.rf
  have hl := lv_entry ([.ref (a 0), .int (x)]) (n := 5) (Nat.le_of_ble_eq_true rfl)
  rw [lg_entry_eq]
  generalize (lg_sl ([.ref (a 0), .int (x)]) ++ List.replicate (5 - (lg_sl ([.ref (a 0), .int (x)])).length) Slot.unset).toArray = ls at hl ⊢
  have hl : lv_has ls 5 [(0, .ref (a 0)), (1, .int (x))] := hl
  refine lv_iconst (v := 0) hx hb dX1_billTo_0 (by decide) ?_
  refine lv_istore_n (lv' := [(2, .int (0)), (0, .ref (a 0)), (1, .int (x))]) hx hb dX1_billTo_1 rfl hl (by decide) rfl (fun ls hl => ?_)
  refine lv_aload_n hx hb dX1_billTo_2 rfl (lv_at hl 1 rfl) ?_
  refine lv_iload_n hx hb dX1_billTo_3 rfl (lv_at hl 2 rfl) ?_
  refine lv_iconst (v := 0) hx hb dX1_billTo_4 (by decide) ?_
  refine lv_bipush (v := 9) hx hb dX1_billTo_5 (by decide) ?_
  refine sa_kRs (As := [.int (x), .int (0), .int (9)]) (rest := [.ref (a 0)]) S (c_X1_in l x 0 9) (va_cwS 3 hts gX1_billTo_X1_in rfl rfl rfl (by decide +kernel) ⟨Nat.le_of_ble_eq_true rfl, Nat.le_of_ble_eq_true rfl⟩) rfl hl.1 (Nat.le_of_ble_eq_true rfl) rfl dX1_billTo_7 ⟨Nat.zero_le _, Nat.zero_le _⟩ ?_
  refine sa_spl (fun b_7 => ?_) (fun b_7 => ?_)
  · skip
    refine lv_iconst (v := 1) hx hb dX1_billTo_10 (by decide) ?_
    refine lv_iconst (v := 1) hx hb dX1_billTo_11 (by decide) ?_
    refine sa_kWr (wd' := sa_W1 cI cZ a σ 0) (r := 1) (As := [.int (1), .int (1), .int (1)]) (rest := []) S (by have h := c_X1_goes l G cI cZ cL a σ th hJ 1 1 1; rw [show sa_gc 1 1 1 = 0 from by decide, show sa_b ((0 : Int32) = 0) = 1 from by decide] at h; exact h) (cwV 3 hts gX1_billTo_X1_goes rfl rfl rfl (by decide +kernel) ⟨Nat.le_of_ble_eq_true rfl, Nat.le_of_ble_eq_true rfl⟩) hP hK hS (fun _ h => h) (ci := 1) rfl rfl rfl hl.1 (Nat.le_of_ble_eq_true rfl) rfl dX1_billTo_12 ⟨Nat.zero_le _, Nat.zero_le _⟩ (fun H locs hP hS _ _ => ?_)
    refine lv_istore_n (lv' := [(3, .int (1)), (2, .int (0)), (0, .ref (a 0)), (1, .int (x))]) hx hb dX1_billTo_15 rfl hl (by decide) rfl (fun ls hl => ?_)
    refine lv_iconst (v := 0) hx hb dX1_billTo_16 (by decide) ?_
    refine lv_istore (lv' := [(4, .int (0)), (3, .int (1)), (2, .int (0)), (0, .ref (a 0)), (1, .int (x))]) hx hb dX1_billTo_17 hl (by decide) rfl (fun ls hl => ?_)
    have loop : ∀ (n k : Nat), k + n = σ.1 1 → ∀ (x1 : Int32), x1 = sa_bito σ x k →   ∀ ls : Array Slot, lv_has ls 5 [(4, .int (nI k)), (3, .int (1)), (2, .int (x1)), (0, .ref (a 0)), (1, .int (x))] → W p l e (headSpec wsX1_billTo ({ frames := 1, cells := 0, slots := 0, locals := 23 })).room s m ([Value.ref (a 0), Value.int (x)] : List Value).toArray below meth c H locs 0 0 (MQ below (va_Qi (fun z (_ : Unit) => z = (sp_billTo σ x).2.1) (fun _ t => va_P G vwCl (sa_W1 cI cZ a (sp_billTo σ x).2.2 (nI (sp_billTo σ x).1)) t.heap) (sa_A a)) ([Value.ref (a 0), Value.int (x)] : List Value).toArray s 0 0 (sa_A a)) (F0 m 19 ls []) := by
      intro n
      induction n with
      | zero =>
        intro k hk x1 hx1  ls hl
        have hk2 : k = σ.1 1 := by omega
        subst hk2
        refine lv_iload hx hb dX1_billTo_19 (lv_at hl 0 rfl) ?_
        refine lv_aload_n hx hb dX1_billTo_21 rfl (lv_at hl 3 rfl) ?_
        refine sa_g1_orders S hin hK hP (by decide +kernel) dX1_billTo_22 ?_
        refine lv_icmp_ge (tgt := 62) hx hb dX1_billTo_25 (by decide) (fun _ => ?_) (fun c9 => absurd (nI_le (Nat.le_refl _) (by omega)) c9)
        refine lv_iload_n hx hb dX1_billTo_62 rfl (lv_at hl 2 rfl) ?_
        exact W.iret (v := x1) hx hb hr (fun t9 ht _ => ⟨⟨_, (), rfl, (Eq.trans (b := (0, sa_bito σ x (σ.1 1), σ).2.1) hx1 (congrArg (fun z : sa_R => z.2.1) (show sp_billTo σ x = _ from sa_go0 b_7 trivial trivial)).symm), by show va_P G vwCl (sa_W1 cI cZ a (sp_billTo σ x).2.2 (nI (sp_billTo σ x).1)) t9.heap; rw [ht]; exact (by rw [(show sp_billTo σ x = _ from sa_go0 b_7 trivial trivial)]; exact hP)⟩, hS.F ht⟩) hS.2.2 dX1_billTo_63
      | succ n ih =>
        intro k hk x1 hx1  ls hl
        have hkn : k < σ.1 1 := by omega
        refine lv_iload hx hb dX1_billTo_19 (lv_at hl 0 rfl) ?_
        refine lv_aload_n hx hb dX1_billTo_21 rfl (lv_at hl 3 rfl) ?_
        refine sa_g1_orders S hin hK hP (by decide +kernel) dX1_billTo_22 ?_
        refine lv_icmp_ge (tgt := 62) hx hb dX1_billTo_25 (by decide) (fun c9 => absurd c9 (nI_ge (by omega) (by omega))) (fun _ => ?_)
        refine lv_iload_n hx hb dX1_billTo_28 rfl (lv_at hl 1 rfl) ?_
        refine lv_if_eq (tgt := 62) hx hb dX1_billTo_29 (by decide) (fun c9 => absurd c9 (by decide)) (fun _ => ?_)
        refine lv_iload_n hx hb dX1_billTo_32 rfl (lv_at hl 2 rfl) ?_
        refine lv_aload_n hx hb dX1_billTo_33 rfl (lv_at hl 3 rfl) ?_
        refine sa_g1_advertiser S hin hK hP (by decide +kernel) dX1_billTo_34 ?_
        refine lv_iload hx hb dX1_billTo_37 (lv_at hl 0 rfl) ?_
        refine sa_ldk 4 S hK hP rfl (by omega) (by decide) dX1_billTo_39 ?_
        refine lv_iload_n hx hb dX1_billTo_40 rfl (lv_at hl 4 rfl) ?_
        refine lv_icmp_ne (tgt := 53) hx hb dX1_billTo_41 (by decide) (fun c_41 => ?_) (fun c_41 => ?_)
        · skip
          refine lv_iconst (v := 0) hx hb dX1_billTo_53 (by decide) ?_
          refine lv_iadd hx hb dX1_billTo_54 ?_
          refine lv_istore_n (lv' := [(2, .int (x1 + 0)), (4, .int (nI k)), (3, .int (1)), (0, .ref (a 0)), (1, .int (x))]) hx hb dX1_billTo_55 rfl hl (by decide) rfl (fun ls hl => ?_)
          refine lv_iinc (v := nI (k + 1)) (lv' := [(4, .int (nI (k + 1))), (2, .int (x1 + 0)), (3, .int (1)), (0, .ref (a 0)), (1, .int (x))]) hx hb dX1_billTo_56 hl (k := 1) rfl (nI_1 k) (by decide) rfl (fun ls hl => ?_)
          refine lv_goto (tgt := 19) hx hb dX1_billTo_59 (by decide) ?_
          exact ih (k + 1) (by omega) (x1 + 0) (by simp [sa_bito, hx1, c_41])  ls (lv_sub hl [0, 2, 1, 3, 4] rfl)
        · skip
          refine lv_aload_n hx hb dX1_billTo_44 rfl (lv_at hl 3 rfl) ?_
          refine lv_iload hx hb dX1_billTo_45 (lv_at hl 0 rfl) ?_
          refine sa_kRd (As := [.int (nI k)]) (rest := [.int (x1)]) S (c_X1_billOf l G cI cZ cL a σ 0 hI (nI k) (vp_in_nI (by omega) (by omega))) (cwV 1 hts gX1_billTo_X1_billOf rfl rfl rfl (by decide +kernel) ⟨Nat.le_of_ble_eq_true rfl, Nat.le_of_ble_eq_true rfl⟩) hP hK (ci := 1) rfl rfl rfl hl.1 (Nat.le_of_ble_eq_true rfl) rfl dX1_billTo_47 ⟨Nat.zero_le _, Nat.zero_le _⟩ ?_
          refine lv_goto (tgt := 54) hx hb dX1_billTo_50 (by decide) ?_
          refine lv_iadd hx hb dX1_billTo_54 ?_
          refine lv_istore_n (lv' := [(2, .int (x1 + (sa_bil σ (nI k) (σ.1 2)))), (4, .int (nI k)), (3, .int (1)), (0, .ref (a 0)), (1, .int (x))]) hx hb dX1_billTo_55 rfl hl (by decide) rfl (fun ls hl => ?_)
          refine lv_iinc (v := nI (k + 1)) (lv' := [(4, .int (nI (k + 1))), (2, .int (x1 + (sa_bil σ (nI k) (σ.1 2)))), (3, .int (1)), (0, .ref (a 0)), (1, .int (x))]) hx hb dX1_billTo_56 hl (k := 1) rfl (nI_1 k) (by decide) rfl (fun ls hl => ?_)
          refine lv_goto (tgt := 19) hx hb dX1_billTo_59 (by decide) ?_
          exact ih (k + 1) (by omega) (x1 + (sa_bil σ (nI k) (σ.1 2))) (by simp [sa_bito, hx1, c_41])  ls (lv_sub hl [0, 2, 1, 3, 4] rfl)
    exact loop (σ.1 1) 0 (Nat.zero_add _) 0 rfl  ls (lv_sub hl [0, 1, 2, 3, 4] rfl)
  · skip
    refine lv_iconst (v := 1) hx hb dX1_billTo_10 (by decide) ?_
    refine lv_iconst (v := 1) hx hb dX1_billTo_11 (by decide) ?_
    refine sa_kWr (wd' := sa_W1 cI cZ a σ 1) (r := 0) (As := [.int (0), .int (1), .int (1)]) (rest := []) S (by have h := c_X1_goes l G cI cZ cL a σ th hJ 0 1 1; rw [show sa_gc 0 1 1 = 1 from by decide, show sa_b ((1 : Int32) = 0) = 0 from by decide] at h; exact h) (cwV 3 hts gX1_billTo_X1_goes rfl rfl rfl (by decide +kernel) ⟨Nat.le_of_ble_eq_true rfl, Nat.le_of_ble_eq_true rfl⟩) hP hK hS (fun _ h => h) (ci := 1) rfl rfl rfl hl.1 (Nat.le_of_ble_eq_true rfl) rfl dX1_billTo_12 ⟨Nat.zero_le _, Nat.zero_le _⟩ (fun H locs hP hS _ _ => ?_)
    refine lv_istore_n (lv' := [(3, .int (0)), (2, .int (0)), (0, .ref (a 0)), (1, .int (x))]) hx hb dX1_billTo_15 rfl hl (by decide) rfl (fun ls hl => ?_)
    refine lv_iconst (v := 0) hx hb dX1_billTo_16 (by decide) ?_
    refine lv_istore (lv' := [(4, .int (0)), (3, .int (0)), (2, .int (0)), (0, .ref (a 0)), (1, .int (x))]) hx hb dX1_billTo_17 hl (by decide) rfl (fun ls hl => ?_)
    refine lv_iload hx hb dX1_billTo_19 (lv_at hl 0 rfl) ?_
    refine lv_aload_n hx hb dX1_billTo_21 rfl (lv_at hl 3 rfl) ?_
    refine sa_g1_orders S hin hK hP (by decide +kernel) dX1_billTo_22 ?_
    refine lv_icmp_ge (tgt := 62) hx hb dX1_billTo_25 (by decide) (fun c_25 => ?_) (fun c_25 => ?_)
    · skip
      have c_25 := Int32.not_lt.mpr c_25
      refine lv_iload_n hx hb dX1_billTo_62 rfl (lv_at hl 2 rfl) ?_
      exact W.iret (v := 0) hx hb hr (fun t9 ht _ => ⟨⟨_, (), rfl, (Eq.trans (b := ((1, 0, σ) : sa_R).2.1) rfl (congrArg (fun z : sa_R => z.2.1) (show sp_billTo σ x = _ from sa_go1 (fun z9 => b_7 z9))).symm), by show va_P G vwCl (sa_W1 cI cZ a (sp_billTo σ x).2.2 (nI (sp_billTo σ x).1)) t9.heap; rw [ht]; exact (by rw [(show sp_billTo σ x = _ from sa_go1 (fun z9 => b_7 z9))]; exact hP)⟩, hS.F ht⟩) hS.2.2 dX1_billTo_63
    · skip
      have c_25 := Int32.not_le.mp c_25
      refine lv_iload_n hx hb dX1_billTo_28 rfl (lv_at hl 1 rfl) ?_
      refine lv_if_eq (tgt := 62) hx hb dX1_billTo_29 (by decide) (fun _ => ?_) (fun c9 => absurd (by decide) c9)
      refine lv_iload_n hx hb dX1_billTo_62 rfl (lv_at hl 2 rfl) ?_
      exact W.iret (v := 0) hx hb hr (fun t9 ht _ => ⟨⟨_, (), rfl, (Eq.trans (b := ((1, 0, σ) : sa_R).2.1) rfl (congrArg (fun z : sa_R => z.2.1) (show sp_billTo σ x = _ from sa_go1 (fun z9 => b_7 z9))).symm), by show va_P G vwCl (sa_W1 cI cZ a (sp_billTo σ x).2.2 (nI (sp_billTo σ x).1)) t9.heap; rw [ht]; exact (by rw [(show sp_billTo σ x = _ from sa_go1 (fun z9 => b_7 z9))]; exact hP)⟩, hS.F ht⟩) hS.2.2 dX1_billTo_63

set_option maxHeartbeats 4000000 in
set_option maxRecDepth 100000 in
theorem c_X1_mostOwed (l : Launch) (G : va_G) (cI cZ cL : ClassId) (a : Nat → Nat) (σ : sa_St) (th : Int32) (hI : sa_I σ) (hJ : sa_J a) : sa_Wr l yX1_mostOwed wsX1_mostOwed ({ frames := 4, cells := 0, slots := 0, locals := 91 }) G cI cZ cL (sa_W1 cI cZ a σ th) (sa_W1 cI cZ a σ 0) (sa_A a) [.ref (a 0)] ((sa_mo σ (σ.1 1)).1) := by
  obtain ⟨hnb, hno, hns, hgr, hor, hbr, hai⟩ := id hI
  refine Met.ofW (cc := cX1_mostOwed) (maxL := 5) (ret := (some .int)) (by decide) rfl ?_
  intro p e s m args below meth c s₁ B9 hml hv
  obtain ⟨rfl, hP, hK⟩ := hv
  have hx := B9.exec
  have hb := B9.bytes
  have hr := B9.returns
  have hlk := B9.notSynchronized
  have hts := atoms_spec (ws := wsX1_mostOwed) B9.pre
  have hown : s.vm.findClass RX1 = some m.cls := findClass_of_methodNamed B9.named
  have S : CallFix p m c cX1_mostOwed 5 s _ wsX1_mostOwed RX1 := ⟨hx, hb, hml, hown, hts⟩
  have hin : ∀ w ∈ wsX10, w ∈ wsX1_mostOwed := by decide +kernel
  have hS : va_S (sa_A a) s.heap s.heap [] := va_S.rf
  have hl := lv_entry ([.ref (a 0)]) (n := 5) (Nat.le_of_ble_eq_true rfl)
  rw [lg_entry_eq]
  generalize (lg_sl ([.ref (a 0)]) ++ List.replicate (5 - (lg_sl ([.ref (a 0)])).length) Slot.unset).toArray = ls at hl ⊢
  have hl : lv_has ls 5 [(0, .ref (a 0))] := hl
  refine lv_iconst (v := (-1)) hx hb dX1_mostOwed_0 (by decide) ?_
  refine lv_istore_n (lv' := [(1, .int ((-1))), (0, .ref (a 0))]) hx hb dX1_mostOwed_1 rfl hl (by decide) rfl (fun ls hl => ?_)
  refine lv_iconst (v := 0) hx hb dX1_mostOwed_2 (by decide) ?_
  refine lv_istore_n (lv' := [(2, .int (0)), (1, .int ((-1))), (0, .ref (a 0))]) hx hb dX1_mostOwed_3 rfl hl (by decide) rfl (fun ls hl => ?_)
  refine lv_iconst (v := 0) hx hb dX1_mostOwed_4 (by decide) ?_
  refine lv_istore_n (lv' := [(3, .int (0)), (2, .int (0)), (1, .int ((-1))), (0, .ref (a 0))]) hx hb dX1_mostOwed_5 rfl hl (by decide) rfl (fun ls hl => ?_)
  have loop : ∀ (n k : Nat), k + n = σ.1 1 → ∀ (x2 : Int32), x2 = (sa_mo σ k).1 → ∀ (x3 : Int32), x3 = (sa_mo σ k).2 →   ∀ ls : Array Slot, lv_has ls 5 [(3, .int (nI k)), (2, .int (x3)), (1, .int (x2)), (0, .ref (a 0))] → W p l e (headSpec wsX1_mostOwed ({ frames := 4, cells := 0, slots := 0, locals := 91 })).room s m ([Value.ref (a 0)] : List Value).toArray below meth c s.heap [] 0 0 (MQ below (va_Qi (fun z (_ : Unit) => z = (sa_mo σ (σ.1 1)).1) (fun _ t => va_P G vwCl (sa_W1 cI cZ a σ 0) t.heap) (sa_A a)) ([Value.ref (a 0)] : List Value).toArray s 0 0 (sa_A a)) (F0 m 6 ls []) := by
    intro n
    induction n with
    | zero =>
      intro k hk x2 hx2 x3 hx3  ls hl
      have hk2 : k = σ.1 1 := by omega
      subst hk2
      refine lv_iload_n hx hb dX1_mostOwed_6 rfl (lv_at hl 0 rfl) ?_
      refine lv_aload_n hx hb dX1_mostOwed_7 rfl (lv_at hl 3 rfl) ?_
      refine sa_g1_orders S hin hK hP (by decide +kernel) dX1_mostOwed_8 ?_
      refine lv_icmp_ge (tgt := 52) hx hb dX1_mostOwed_11 (by decide) (fun _ => ?_) (fun c9 => absurd (nI_le (Nat.le_refl _) (by omega)) c9)
      refine lv_aload_n hx hb dX1_mostOwed_52 rfl (lv_at hl 3 rfl) ?_
      refine lv_iload_n hx hb dX1_mostOwed_53 rfl (lv_at hl 2 rfl) ?_
      refine sa_kWr (wd' := sa_W1 cI cZ a σ 0) (As := [.int (x2)]) (rest := []) S (c_X1_told l G cI cZ cL a σ th hJ x2) (cwV 1 hts gX1_mostOwed_X1_told rfl rfl rfl (by decide +kernel) ⟨Nat.le_of_ble_eq_true rfl, Nat.le_of_ble_eq_true rfl⟩) hP hK hS (fun _ h => h) (ci := 1) rfl rfl rfl hl.1 (Nat.le_of_ble_eq_true rfl) rfl dX1_mostOwed_54 ⟨Nat.zero_le _, Nat.zero_le _⟩ (fun H locs hP hS _ _ => ?_)
      exact W.iret (v := x2) hx hb hr (fun t9 ht _ => ⟨⟨_, (), rfl, hx2, by show va_P G vwCl (sa_W1 cI cZ a σ 0) t9.heap; rw [ht]; exact hP⟩, hS.F ht⟩) hS.2.2 dX1_mostOwed_57
    | succ n ih =>
      intro k hk x2 hx2 x3 hx3  ls hl
      have hkn : k < σ.1 1 := by omega
      refine lv_iload_n hx hb dX1_mostOwed_6 rfl (lv_at hl 0 rfl) ?_
      refine lv_aload_n hx hb dX1_mostOwed_7 rfl (lv_at hl 3 rfl) ?_
      refine sa_g1_orders S hin hK hP (by decide +kernel) dX1_mostOwed_8 ?_
      refine lv_icmp_ge (tgt := 52) hx hb dX1_mostOwed_11 (by decide) (fun c9 => absurd c9 (nI_ge (by omega) (by omega))) (fun _ => ?_)
      refine lv_aload_n hx hb dX1_mostOwed_14 rfl (lv_at hl 3 rfl) ?_
      refine lv_iload_n hx hb dX1_mostOwed_15 rfl (lv_at hl 0 rfl) ?_
      refine sa_kRd (As := [.int (nI k)]) (rest := []) S (c_X1_left l G cI cZ cL a σ th hI (nI k) (vp_in_nI (by omega) (by omega))) (cwV 1 hts gX1_mostOwed_X1_left rfl rfl rfl (by decide +kernel) ⟨Nat.le_of_ble_eq_true rfl, Nat.le_of_ble_eq_true rfl⟩) hP hK (ci := 1) rfl rfl rfl hl.1 (Nat.le_of_ble_eq_true rfl) rfl dX1_mostOwed_16 ⟨Nat.zero_le _, Nat.zero_le _⟩ ?_
      refine lv_istore (lv' := [(4, .int (sa_left σ (nI k))), (3, .int (nI k)), (2, .int (x3)), (1, .int (x2)), (0, .ref (a 0))]) hx hb dX1_mostOwed_19 hl (by decide) rfl (fun ls hl => ?_)
      refine lv_iload hx hb dX1_mostOwed_21 (lv_at hl 0 rfl) ?_
      refine lv_iload_n hx hb dX1_mostOwed_23 rfl (lv_at hl 2 rfl) ?_
      refine lv_icmp_le (tgt := 31) hx hb dX1_mostOwed_24 (by decide) (fun c_24 => ?_) (fun c_24 => ?_)
      · skip
        have c_24 := Int32.not_lt.mpr c_24
        refine lv_iload_n hx hb dX1_mostOwed_31 rfl (lv_at hl 3 rfl) ?_
        refine lv_istore_n (lv' := [(1, .int (x2)), (4, .int (sa_left σ (nI k))), (3, .int (nI k)), (2, .int (x3)), (0, .ref (a 0))]) hx hb dX1_mostOwed_32 rfl hl (by decide) rfl (fun ls hl => ?_)
        refine lv_iload hx hb dX1_mostOwed_33 (lv_at hl 1 rfl) ?_
        refine lv_iload_n hx hb dX1_mostOwed_35 rfl (lv_at hl 3 rfl) ?_
        refine lv_icmp_le (tgt := 44) hx hb dX1_mostOwed_36 (by decide) (fun _ => ?_) (fun c9 => absurd (Int32.not_le.mp c9) c_24)
        refine lv_iload_n hx hb dX1_mostOwed_44 rfl (lv_at hl 3 rfl) ?_
        refine lv_istore_n (lv' := [(2, .int (x3)), (1, .int (x2)), (4, .int (sa_left σ (nI k))), (3, .int (nI k)), (0, .ref (a 0))]) hx hb dX1_mostOwed_45 rfl hl (by decide) rfl (fun ls hl => ?_)
        refine lv_iinc (v := nI (k + 1)) (lv' := [(3, .int (nI (k + 1))), (2, .int (x3)), (1, .int (x2)), (4, .int (sa_left σ (nI k))), (0, .ref (a 0))]) hx hb dX1_mostOwed_46 hl (k := 3) rfl (nI_1 k) (by decide) rfl (fun ls hl => ?_)
        refine lv_goto (tgt := 6) hx hb dX1_mostOwed_49 (by decide) ?_
        exact ih (k + 1) (by omega) x2 (by simp only [hx2, hx3] at *; simp [sa_mo, c_24]) x3 (by simp only [hx2, hx3] at *; simp [sa_mo, c_24])  ls (lv_sub hl [0, 1, 2, 4] rfl)
      · skip
        have c_24 := Int32.not_le.mp c_24
        refine lv_iload_n hx hb dX1_mostOwed_27 rfl (lv_at hl 1 rfl) ?_
        refine lv_goto (tgt := 32) hx hb dX1_mostOwed_28 (by decide) ?_
        refine lv_istore_n (lv' := [(1, .int (nI k)), (4, .int (sa_left σ (nI k))), (3, .int (nI k)), (2, .int (x3)), (0, .ref (a 0))]) hx hb dX1_mostOwed_32 rfl hl (by decide) rfl (fun ls hl => ?_)
        refine lv_iload hx hb dX1_mostOwed_33 (lv_at hl 1 rfl) ?_
        refine lv_iload_n hx hb dX1_mostOwed_35 rfl (lv_at hl 3 rfl) ?_
        refine lv_icmp_le (tgt := 44) hx hb dX1_mostOwed_36 (by decide) (fun c9 => absurd c_24 (Int32.not_lt.mpr c9)) (fun _ => ?_)
        refine lv_iload hx hb dX1_mostOwed_39 (lv_at hl 1 rfl) ?_
        refine lv_goto (tgt := 45) hx hb dX1_mostOwed_41 (by decide) ?_
        refine lv_istore_n (lv' := [(2, .int (sa_left σ (nI k))), (1, .int (nI k)), (4, .int (sa_left σ (nI k))), (3, .int (nI k)), (0, .ref (a 0))]) hx hb dX1_mostOwed_45 rfl hl (by decide) rfl (fun ls hl => ?_)
        refine lv_iinc (v := nI (k + 1)) (lv' := [(3, .int (nI (k + 1))), (2, .int (sa_left σ (nI k))), (1, .int (nI k)), (4, .int (sa_left σ (nI k))), (0, .ref (a 0))]) hx hb dX1_mostOwed_46 hl (k := 3) rfl (nI_1 k) (by decide) rfl (fun ls hl => ?_)
        refine lv_goto (tgt := 6) hx hb dX1_mostOwed_49 (by decide) ?_
        exact ih (k + 1) (by omega) (nI k) (by simp only [hx2, hx3] at *; simp [sa_mo, c_24]) (sa_left σ (nI k)) (by simp only [hx2, hx3] at *; simp [sa_mo, c_24])  ls (lv_sub hl [0, 1, 2, 4] rfl)
  exact loop (σ.1 1) 0 (Nat.zero_add _) ((-1)) rfl 0 rfl  ls (lv_sub hl [0, 1, 2, 3] rfl)

set_option maxHeartbeats 4000000 in
set_option maxRecDepth 100000 in
theorem c_X1_fill (l : Launch) (G : va_G) (cI cZ cL : ClassId) (a : Nat → Nat) (σ : sa_St) (th : Int32) (hI : sa_I σ) (hJ : sa_J a) (o most : Int32) : sa_Wr l yX1_fill wsX1_fill ({ frames := 4, cells := 0, slots := 0, locals := 98 }) G cI cZ cL (sa_W1 cI cZ a σ th) (sa_W1 cI cZ a (sp_fill σ o most).2.2 (nI (sp_fill σ o most).1)) (sa_A a) [.ref (a 0), .int (o), .int (most)] ((sp_fill σ o most).2.1) := by
  obtain ⟨hnb, hno, hns, hgr, hor, hbr, hai⟩ := id hI
  refine Met.ofW (cc := cX1_fill) (maxL := 6) (ret := (some .int)) (by decide) rfl ?_
  intro p e s m args below meth c s₁ B9 hml hv
  obtain ⟨rfl, hP, hK⟩ := hv
  have hx := B9.exec
  have hb := B9.bytes
  have hr := B9.returns
  have hlk := B9.notSynchronized
  have hts := atoms_spec (ws := wsX1_fill) B9.pre
  have hown : s.vm.findClass RX1 = some m.cls := findClass_of_methodNamed B9.named
  have S : CallFix p m c cX1_fill 6 s _ wsX1_fill RX1 := ⟨hx, hb, hml, hown, hts⟩
  have hin : ∀ w ∈ wsX10, w ∈ wsX1_fill := by decide +kernel
  have hS : va_S (sa_A a) s.heap s.heap [] := va_S.rf
  have hl := lv_entry ([.ref (a 0), .int (o), .int (most)]) (n := 6) (Nat.le_of_ble_eq_true rfl)
  rw [lg_entry_eq]
  generalize (lg_sl ([.ref (a 0), .int (o), .int (most)]) ++ List.replicate (6 - (lg_sl ([.ref (a 0), .int (o), .int (most)])).length) Slot.unset).toArray = ls at hl ⊢
  have hl : lv_has ls 6 [(0, .ref (a 0)), (1, .int (o)), (2, .int (most))] := hl
  refine lv_aload_n hx hb dX1_fill_0 rfl (lv_at hl 0 rfl) ?_
  refine lv_iload_n hx hb dX1_fill_1 rfl (lv_at hl 1 rfl) ?_
  refine sa_kRd (As := [.int (o)]) (rest := []) S (c_X1_isOrder l G cI cZ cL a σ th hI o) (cwV 1 hts gX1_fill_X1_isOrder rfl rfl rfl (by decide +kernel) ⟨Nat.le_of_ble_eq_true rfl, Nat.le_of_ble_eq_true rfl⟩) hP hK (ci := 1) rfl rfl rfl hl.1 (Nat.le_of_ble_eq_true rfl) rfl dX1_fill_2 ⟨Nat.zero_le _, Nat.zero_le _⟩ ?_
  refine sa_spl (fun b_2 => ?_) (fun b_2 => ?_)
  · skip
    have ho : vp_in o (σ.1 1) := sa_inv (by omega) b_2
    refine lv_istore_n (lv' := [(3, .int (1)), (0, .ref (a 0)), (1, .int (o)), (2, .int (most))]) hx hb dX1_fill_5 rfl hl (by decide) rfl (fun ls hl => ?_)
    refine lv_aload_n hx hb dX1_fill_6 rfl (lv_at hl 1 rfl) ?_
    refine lv_iload_n hx hb dX1_fill_7 rfl (lv_at hl 0 rfl) ?_
    refine lv_iload_n hx hb dX1_fill_8 rfl (lv_at hl 3 rfl) ?_
    refine lv_iconst (v := 1) hx hb dX1_fill_9 (by decide) ?_
    refine lv_bipush (v := 24) hx hb dX1_fill_10 (by decide) ?_
    refine sa_kRs (As := [.int (most), .int (1), .int (24)]) (rest := [.int (1), .ref (a 0)]) S (c_X1_in l most 1 24) (va_cwS 3 hts gX1_fill_X1_in rfl rfl rfl (by decide +kernel) ⟨Nat.le_of_ble_eq_true rfl, Nat.le_of_ble_eq_true rfl⟩) rfl hl.1 (Nat.le_of_ble_eq_true rfl) rfl dX1_fill_12 ⟨Nat.zero_le _, Nat.zero_le _⟩ ?_
    refine sa_spl (fun b_12 => ?_) (fun b_12 => ?_)
    · skip
      refine lv_iload_n hx hb dX1_fill_15 rfl (lv_at hl 0 rfl) ?_
      refine lv_if_eq (tgt := 32) hx hb dX1_fill_16 (by decide) (fun c9 => absurd c9 (by decide)) (fun _ => ?_)
      refine lv_aload_n hx hb dX1_fill_19 rfl (lv_at hl 1 rfl) ?_
      refine sa_g1_closed S hin hK hP (by decide +kernel) dX1_fill_20 ?_
      refine lv_iload_n hx hb dX1_fill_23 rfl (lv_at hl 2 rfl) ?_
      refine sa_ldz 11 S hK hP rfl (sa_vm ho (by omega)) dX1_fill_24 ?_
      refine lv_if_ne (tgt := 32) hx hb dX1_fill_25 (by decide) (fun c_25 => ?_) (fun c_25 => ?_)
      · skip
        refine lv_iconst (v := 0) hx hb dX1_fill_32 (by decide) ?_
        refine sa_kWr (wd' := sa_W1 cI cZ a σ 3) (r := 0) (As := [.int (1), .int (1), .int (0)]) (rest := []) S (by have h := c_X1_goes l G cI cZ cL a σ th hJ 1 1 0; rw [show sa_gc 1 1 0 = 3 from by decide, show sa_b ((3 : Int32) = 0) = 0 from by decide] at h; exact h) (cwV 3 hts gX1_fill_X1_goes rfl rfl rfl (by decide +kernel) ⟨Nat.le_of_ble_eq_true rfl, Nat.le_of_ble_eq_true rfl⟩) hP hK hS (fun _ h => h) (ci := 1) rfl rfl rfl hl.1 (Nat.le_of_ble_eq_true rfl) rfl dX1_fill_33 ⟨Nat.zero_le _, Nat.zero_le _⟩ (fun H locs hP hS _ _ => ?_)
        refine lv_if_ne (tgt := 41) hx hb dX1_fill_36 (by decide) (fun c9 => absurd (by decide) c9) (fun _ => ?_)
        refine lv_iconst (v := 0) hx hb dX1_fill_39 (by decide) ?_
        exact W.iret (v := 0) hx hb hr (fun t9 ht _ => ⟨⟨_, (), rfl, (Eq.trans (b := ((3, 0, σ) : sa_R).2.1) rfl (congrArg (fun z : sa_R => z.2.1) (show sp_fill σ o most = _ from sa_go3 b_2 b_12 (fun z9 => c_25 z9))).symm), by show va_P G vwCl (sa_W1 cI cZ a (sp_fill σ o most).2.2 (nI (sp_fill σ o most).1)) t9.heap; rw [ht]; exact (by rw [(show sp_fill σ o most = _ from sa_go3 b_2 b_12 (fun z9 => c_25 z9))]; exact hP)⟩, hS.F ht⟩) hS.2.2 dX1_fill_40
      · skip
        refine lv_iconst (v := 1) hx hb dX1_fill_28 (by decide) ?_
        refine lv_goto (tgt := 33) hx hb dX1_fill_29 (by decide) ?_
        refine sa_kWr (wd' := sa_W1 cI cZ a σ 0) (r := 1) (As := [.int (1), .int (1), .int (1)]) (rest := []) S (by have h := c_X1_goes l G cI cZ cL a σ th hJ 1 1 1; rw [show sa_gc 1 1 1 = 0 from by decide, show sa_b ((0 : Int32) = 0) = 1 from by decide] at h; exact h) (cwV 3 hts gX1_fill_X1_goes rfl rfl rfl (by decide +kernel) ⟨Nat.le_of_ble_eq_true rfl, Nat.le_of_ble_eq_true rfl⟩) hP hK hS (fun _ h => h) (ci := 1) rfl rfl rfl hl.1 (Nat.le_of_ble_eq_true rfl) rfl dX1_fill_33 ⟨Nat.zero_le _, Nat.zero_le _⟩ (fun H locs hP hS _ _ => ?_)
        refine lv_if_ne (tgt := 41) hx hb dX1_fill_36 (by decide) (fun _ => ?_) (fun c9 => absurd c9 (by decide))
        refine lv_iconst (v := 0) hx hb dX1_fill_41 (by decide) ?_
        refine lv_istore (lv' := [(4, .int (0)), (3, .int (1)), (0, .ref (a 0)), (1, .int (o)), (2, .int (most))]) hx hb dX1_fill_42 hl (by decide) rfl (fun ls hl => ?_)
        obtain ⟨M, hM1, hM24, hMe⟩ := sa_most b_12
        subst hMe
        have loop : ∀ (n i : Nat) (τ : sa_St), i + n = M → sa_I τ → vp_in o (τ.1 1) → sa_fill o n i τ = sa_fill o (nI M).toNatClampNeg 0 σ → ∀ (H : Heap) (locs : List Loc), va_P G vwCl (sa_W1 cI cZ a τ 0) H → va_S (sa_A a) s.heap H locs → ∀ ls : Array Slot, lv_has ls 6 [(4, .int (nI i)), (3, .int (1)), (0, .ref (a 0)), (1, .int (o)), (2, .int (nI M))] → W p l e (headSpec wsX1_fill ({ frames := 4, cells := 0, slots := 0, locals := 98 })).room s m ([Value.ref (a 0), Value.int (o), Value.int ((nI M))] : List Value).toArray below meth c H locs 0 0 (MQ below (va_Qi (fun z (_ : Unit) => z = (sp_fill σ o (nI M)).2.1) (fun _ t => va_P G vwCl (sa_W1 cI cZ a (sp_fill σ o (nI M)).2.2 (nI (sp_fill σ o (nI M)).1)) t.heap) (sa_A a)) ([Value.ref (a 0), Value.int (o), Value.int ((nI M))] : List Value).toArray s 0 0 (sa_A a)) (F0 m 44 ls []) := by
          intro n
          induction n with
          | zero =>
            intro i τ hi hI ho hq H locs hP hS ls hl
            obtain ⟨hnb, hno, hns, hgr, hor, hbr, hai⟩ := id hI
            have hiM : M = i := by omega
            subst hiM
            refine lv_iload hx hb dX1_fill_44 (lv_at hl 0 rfl) ?_
            refine lv_iload_n hx hb dX1_fill_46 rfl (lv_at hl 4 rfl) ?_
            refine lv_icmp_ge (tgt := 112) hx hb dX1_fill_47 (by decide) (fun _ => ?_) (fun c9 => absurd (nI_le (Nat.le_refl _) (by omega)) c9)
            refine lv_iload hx hb dX1_fill_112 (lv_at hl 0 rfl) ?_
            exact W.iret (v := nI M) hx hb hr (fun t9 ht _ => ⟨⟨_, (), rfl, (Eq.trans (b := (0, sa_fill o (nI M).toNatClampNeg 0 σ).2.1) (congrArg Prod.fst hq) (congrArg (fun z : sa_R => z.2.1) (show sp_fill σ o (nI M) = _ from sa_go0 b_2 b_12 c_25)).symm), by show va_P G vwCl (sa_W1 cI cZ a (sp_fill σ o (nI M)).2.2 (nI (sp_fill σ o (nI M)).1)) t9.heap; rw [ht]; exact (by rw [(show sp_fill σ o (nI M) = _ from sa_go0 b_2 b_12 c_25)]; have e9 := congrArg Prod.snd hq; show va_P G vwCl (sa_W1 cI cZ a (sa_fill o (nI M).toNatClampNeg 0 σ).2 0) H; rw [← e9]; exact hP)⟩, hS.F ht⟩) hS.2.2 dX1_fill_114
          | succ n ih =>
            intro i τ hi hI ho hq H locs hP hS ls hl
            obtain ⟨hnb, hno, hns, hgr, hor, hbr, hai⟩ := id hI
            have hkn : i < M := by omega
            refine lv_iload hx hb dX1_fill_44 (lv_at hl 0 rfl) ?_
            refine lv_iload_n hx hb dX1_fill_46 rfl (lv_at hl 4 rfl) ?_
            refine lv_icmp_ge (tgt := 112) hx hb dX1_fill_47 (by decide) (fun c9 => absurd c9 (nI_ge (by omega) (by omega))) (fun _ => ?_)
            refine lv_aload_n hx hb dX1_fill_50 rfl (lv_at hl 2 rfl) ?_
            refine sa_g1_spots S hin hK hP (by decide +kernel) dX1_fill_51 ?_
            refine lv_sipush (v := 150) hx hb dX1_fill_54 (by decide) ?_
            refine lv_icmp_ge (tgt := 112) hx hb dX1_fill_57 (by decide) (fun c_57 => ?_) (fun c_57 => ?_)
            · skip
              have c_57 := Int32.not_lt.mpr c_57
              refine lv_iload hx hb dX1_fill_112 (lv_at hl 0 rfl) ?_
              exact W.iret (v := nI i) hx hb hr (fun t9 ht _ => ⟨⟨_, (), rfl, (Eq.trans (b := (0, sa_fill o (nI M).toNatClampNeg 0 σ).2.1) (congrArg Prod.fst ((sa_fill_n (fun z9 => c_57 (nI_lt z9.1 (by decide)))).symm.trans hq)) (congrArg (fun z : sa_R => z.2.1) (show sp_fill σ o (nI M) = _ from sa_go0 b_2 b_12 c_25)).symm), by show va_P G vwCl (sa_W1 cI cZ a (sp_fill σ o (nI M)).2.2 (nI (sp_fill σ o (nI M)).1)) t9.heap; rw [ht]; exact (by rw [(show sp_fill σ o (nI M) = _ from sa_go0 b_2 b_12 c_25)]; have e9 := congrArg Prod.snd ((sa_fill_n (fun z9 => c_57 (nI_lt z9.1 (by decide)))).symm.trans hq); show va_P G vwCl (sa_W1 cI cZ a (sa_fill o (nI M).toNatClampNeg 0 σ).2 0) H; rw [← e9]; exact hP)⟩, hS.F ht⟩) hS.2.2 dX1_fill_114
            · skip
              have c_57 := Int32.not_le.mp c_57
              have hs9 : τ.1 2 < 150 := sa_ltN (by omega) (by decide) c_57
              refine lv_aload_n hx hb dX1_fill_60 rfl (lv_at hl 2 rfl) ?_
              refine lv_iload_n hx hb dX1_fill_61 rfl (lv_at hl 3 rfl) ?_
              refine lv_iconst (v := 1) hx hb dX1_fill_62 (by decide) ?_
              refine lv_iconst (v := 0) hx hb dX1_fill_63 (by decide) ?_
              refine sa_kRd (As := [.int (o), .int (1), .int (0)]) (rest := []) S (c_X1_sums l G cI cZ cL a τ 0 hI o 1 0 ho) (cwV 3 hts gX1_fill_X1_sums rfl rfl rfl (by decide +kernel) ⟨Nat.le_of_ble_eq_true rfl, Nat.le_of_ble_eq_true rfl⟩) hP hK (ci := 1) rfl rfl rfl hl.1 (Nat.le_of_ble_eq_true rfl) rfl dX1_fill_64 ⟨Nat.zero_le _, Nat.zero_le _⟩ ?_
              refine lv_aload_n hx hb dX1_fill_67 rfl (lv_at hl 2 rfl) ?_
              refine lv_iload_n hx hb dX1_fill_68 rfl (lv_at hl 3 rfl) ?_
              refine lv_iconst (v := 0) hx hb dX1_fill_69 (by decide) ?_
              refine lv_iconst (v := 0) hx hb dX1_fill_70 (by decide) ?_
              refine sa_kRd (As := [.int (o), .int (0), .int (0)]) (rest := [.int (sa_sum τ o 1 0 (τ.1 2))]) S (c_X1_sums l G cI cZ cL a τ 0 hI o 0 0 ho) (cwV 3 hts gX1_fill_X1_sums rfl rfl rfl (by decide +kernel) ⟨Nat.le_of_ble_eq_true rfl, Nat.le_of_ble_eq_true rfl⟩) hP hK (ci := 1) rfl rfl rfl hl.1 (Nat.le_of_ble_eq_true rfl) rfl dX1_fill_71 ⟨Nat.zero_le _, Nat.zero_le _⟩ ?_
              refine lv_iadd hx hb dX1_fill_74 ?_
              refine lv_aload_n hx hb dX1_fill_75 rfl (lv_at hl 2 rfl) ?_
              refine sa_g1_promise S hin hK hP (by decide +kernel) dX1_fill_76 ?_
              refine lv_iload_n hx hb dX1_fill_79 rfl (lv_at hl 3 rfl) ?_
              refine sa_ld 9 S hK hP rfl (sa_vm ho (by omega)) dX1_fill_80 ?_
              refine lv_icmp_ge (tgt := 112) hx hb dX1_fill_81 (by decide) (fun c_81 => ?_) (fun c_81 => ?_)
              · skip
                have c_81 := Int32.not_lt.mpr c_81
                refine lv_iload hx hb dX1_fill_112 (lv_at hl 0 rfl) ?_
                exact W.iret (v := nI i) hx hb hr (fun t9 ht _ => ⟨⟨_, (), rfl, (Eq.trans (b := (0, sa_fill o (nI M).toNatClampNeg 0 σ).2.1) (congrArg Prod.fst ((sa_fill_n (fun z9 => c_81 z9.2.1)).symm.trans hq)) (congrArg (fun z : sa_R => z.2.1) (show sp_fill σ o (nI M) = _ from sa_go0 b_2 b_12 c_25)).symm), by show va_P G vwCl (sa_W1 cI cZ a (sp_fill σ o (nI M)).2.2 (nI (sp_fill σ o (nI M)).1)) t9.heap; rw [ht]; exact (by rw [(show sp_fill σ o (nI M) = _ from sa_go0 b_2 b_12 c_25)]; have e9 := congrArg Prod.snd ((sa_fill_n (fun z9 => c_81 z9.2.1)).symm.trans hq); show va_P G vwCl (sa_W1 cI cZ a (sa_fill o (nI M).toNatClampNeg 0 σ).2 0) H; rw [← e9]; exact hP)⟩, hS.F ht⟩) hS.2.2 dX1_fill_114
              · skip
                have c_81 := Int32.not_le.mp c_81
                refine lv_aload_n hx hb dX1_fill_84 rfl (lv_at hl 2 rfl) ?_
                refine lv_iload_n hx hb dX1_fill_85 rfl (lv_at hl 3 rfl) ?_
                refine sa_kRd (As := [.int (o)]) (rest := []) S (c_X1_best l G cI cZ cL a τ 0 hI o ho) (cwV 1 hts gX1_fill_X1_best rfl rfl rfl (by decide +kernel) ⟨Nat.le_of_ble_eq_true rfl, Nat.le_of_ble_eq_true rfl⟩) hP hK (ci := 1) rfl rfl rfl hl.1 (Nat.le_of_ble_eq_true rfl) rfl dX1_fill_86 ⟨Nat.zero_le _, Nat.zero_le _⟩ ?_
                refine lv_iconst (v := (-1)) hx hb dX1_fill_89 (by decide) ?_
                refine lv_icmp_eq (tgt := 112) hx hb dX1_fill_90 (by decide) (fun c_90 => ?_) (fun c_90 => ?_)
                · skip
                  refine lv_iload hx hb dX1_fill_112 (lv_at hl 0 rfl) ?_
                  exact W.iret (v := nI i) hx hb hr (fun t9 ht _ => ⟨⟨_, (), rfl, (Eq.trans (b := (0, sa_fill o (nI M).toNatClampNeg 0 σ).2.1) (congrArg Prod.fst ((sa_fill_n (fun z9 => z9.2.2 c_90)).symm.trans hq)) (congrArg (fun z : sa_R => z.2.1) (show sp_fill σ o (nI M) = _ from sa_go0 b_2 b_12 c_25)).symm), by show va_P G vwCl (sa_W1 cI cZ a (sp_fill σ o (nI M)).2.2 (nI (sp_fill σ o (nI M)).1)) t9.heap; rw [ht]; exact (by rw [(show sp_fill σ o (nI M) = _ from sa_go0 b_2 b_12 c_25)]; have e9 := congrArg Prod.snd ((sa_fill_n (fun z9 => z9.2.2 c_90)).symm.trans hq); show va_P G vwCl (sa_W1 cI cZ a (sa_fill o (nI M).toNatClampNeg 0 σ).2 0) H; rw [← e9]; exact hP)⟩, hS.F ht⟩) hS.2.2 dX1_fill_114
                · skip
                  have hbin : vp_in (sa_best τ o (τ.1 0)) (τ.1 0) := sa_best_in _ (by omega) c_90
                  refine lv_aload_n hx hb dX1_fill_93 rfl (lv_at hl 2 rfl) ?_
                  refine lv_iload_n hx hb dX1_fill_94 rfl (lv_at hl 3 rfl) ?_
                  refine lv_aload_n hx hb dX1_fill_95 rfl (lv_at hl 2 rfl) ?_
                  refine lv_iload_n hx hb dX1_fill_96 rfl (lv_at hl 3 rfl) ?_
                  refine sa_kRd (As := [.int (o)]) (rest := [.int (o), .ref (a 0)]) S (c_X1_best l G cI cZ cL a τ 0 hI o ho) (cwV 1 hts gX1_fill_X1_best rfl rfl rfl (by decide +kernel) ⟨Nat.le_of_ble_eq_true rfl, Nat.le_of_ble_eq_true rfl⟩) hP hK (ci := 1) rfl rfl rfl hl.1 (Nat.le_of_ble_eq_true rfl) rfl dX1_fill_97 ⟨Nat.zero_le _, Nat.zero_le _⟩ ?_
                  refine lv_iconst (v := 0) hx hb dX1_fill_100 (by decide) ?_
                  refine sa_kWr (wd' := sa_W1 cI cZ a (sa_add τ o (sa_best τ o (τ.1 0)) 0) 0) (As := [.int (o), .int (sa_best τ o (τ.1 0)), .int (0)]) (rest := []) S (c_X1_adds l G cI cZ cL a τ 0 hI hJ hs9 o (sa_best τ o (τ.1 0)) 0 (Or.inl rfl)) (cwV 3 hts gX1_fill_X1_adds rfl rfl rfl (by decide +kernel) ⟨Nat.le_of_ble_eq_true rfl, Nat.le_of_ble_eq_true rfl⟩) hP hK hS (fun _ h => h) (ci := 1) rfl rfl rfl hl.1 (Nat.le_of_ble_eq_true rfl) rfl dX1_fill_101 ⟨Nat.zero_le _, Nat.zero_le _⟩ (fun H locs hP hS _ _ => ?_)
                  refine lv_istore (lv' := [(5, .int (nI (τ.1 2))), (4, .int (nI i)), (3, .int (1)), (0, .ref (a 0)), (1, .int (o)), (2, .int (nI M))]) hx hb dX1_fill_104 hl (by decide) rfl (fun ls hl => ?_)
                  refine lv_iinc (v := nI (i + 1)) (lv' := [(4, .int (nI (i + 1))), (5, .int (nI (τ.1 2))), (3, .int (1)), (0, .ref (a 0)), (1, .int (o)), (2, .int (nI M))]) hx hb dX1_fill_106 hl (k := 1) rfl (nI_1 i) (by decide) rfl (fun ls hl => ?_)
                  refine lv_goto (tgt := 44) hx hb dX1_fill_109 (by decide) ?_
                  exact ih (i + 1) (sa_add τ o (sa_best τ o (τ.1 0)) 0) (by omega) (sa_I_add hI hs9 ho hbin) ho (by rw [← hq]; exact (sa_fill_y ⟨hs9, c_81, c_90⟩).symm) _ _ hP hS ls (lv_sub hl [0, 2, 3, 4, 5] rfl)
        exact loop M 0 σ (Nat.zero_add _) hI ho (by rw [nI_clamp (by omega)]) _ _ hP hS ls (lv_sub hl [0, 1, 2, 3, 4] rfl)
    · skip
      refine lv_iload_n hx hb dX1_fill_15 rfl (lv_at hl 0 rfl) ?_
      refine lv_if_eq (tgt := 32) hx hb dX1_fill_16 (by decide) (fun c9 => absurd c9 (by decide)) (fun _ => ?_)
      refine lv_aload_n hx hb dX1_fill_19 rfl (lv_at hl 1 rfl) ?_
      refine sa_g1_closed S hin hK hP (by decide +kernel) dX1_fill_20 ?_
      refine lv_iload_n hx hb dX1_fill_23 rfl (lv_at hl 2 rfl) ?_
      refine sa_ldz 11 S hK hP rfl (sa_vm ho (by omega)) dX1_fill_24 ?_
      refine lv_if_ne (tgt := 32) hx hb dX1_fill_25 (by decide) (fun c_25 => ?_) (fun c_25 => ?_)
      · skip
        refine lv_iconst (v := 0) hx hb dX1_fill_32 (by decide) ?_
        refine sa_kWr (wd' := sa_W1 cI cZ a σ 2) (r := 0) (As := [.int (1), .int (0), .int (0)]) (rest := []) S (by have h := c_X1_goes l G cI cZ cL a σ th hJ 1 0 0; rw [show sa_gc 1 0 0 = 2 from by decide, show sa_b ((2 : Int32) = 0) = 0 from by decide] at h; exact h) (cwV 3 hts gX1_fill_X1_goes rfl rfl rfl (by decide +kernel) ⟨Nat.le_of_ble_eq_true rfl, Nat.le_of_ble_eq_true rfl⟩) hP hK hS (fun _ h => h) (ci := 1) rfl rfl rfl hl.1 (Nat.le_of_ble_eq_true rfl) rfl dX1_fill_33 ⟨Nat.zero_le _, Nat.zero_le _⟩ (fun H locs hP hS _ _ => ?_)
        refine lv_if_ne (tgt := 41) hx hb dX1_fill_36 (by decide) (fun c9 => absurd (by decide) c9) (fun _ => ?_)
        refine lv_iconst (v := 0) hx hb dX1_fill_39 (by decide) ?_
        exact W.iret (v := 0) hx hb hr (fun t9 ht _ => ⟨⟨_, (), rfl, (Eq.trans (b := ((2, 0, σ) : sa_R).2.1) rfl (congrArg (fun z : sa_R => z.2.1) (show sp_fill σ o most = _ from sa_go2 b_2 (fun z9 => b_12 z9))).symm), by show va_P G vwCl (sa_W1 cI cZ a (sp_fill σ o most).2.2 (nI (sp_fill σ o most).1)) t9.heap; rw [ht]; exact (by rw [(show sp_fill σ o most = _ from sa_go2 b_2 (fun z9 => b_12 z9))]; exact hP)⟩, hS.F ht⟩) hS.2.2 dX1_fill_40
      · skip
        refine lv_iconst (v := 1) hx hb dX1_fill_28 (by decide) ?_
        refine lv_goto (tgt := 33) hx hb dX1_fill_29 (by decide) ?_
        refine sa_kWr (wd' := sa_W1 cI cZ a σ 2) (r := 0) (As := [.int (1), .int (0), .int (1)]) (rest := []) S (by have h := c_X1_goes l G cI cZ cL a σ th hJ 1 0 1; rw [show sa_gc 1 0 1 = 2 from by decide, show sa_b ((2 : Int32) = 0) = 0 from by decide] at h; exact h) (cwV 3 hts gX1_fill_X1_goes rfl rfl rfl (by decide +kernel) ⟨Nat.le_of_ble_eq_true rfl, Nat.le_of_ble_eq_true rfl⟩) hP hK hS (fun _ h => h) (ci := 1) rfl rfl rfl hl.1 (Nat.le_of_ble_eq_true rfl) rfl dX1_fill_33 ⟨Nat.zero_le _, Nat.zero_le _⟩ (fun H locs hP hS _ _ => ?_)
        refine lv_if_ne (tgt := 41) hx hb dX1_fill_36 (by decide) (fun c9 => absurd (by decide) c9) (fun _ => ?_)
        refine lv_iconst (v := 0) hx hb dX1_fill_39 (by decide) ?_
        exact W.iret (v := 0) hx hb hr (fun t9 ht _ => ⟨⟨_, (), rfl, (Eq.trans (b := ((2, 0, σ) : sa_R).2.1) rfl (congrArg (fun z : sa_R => z.2.1) (show sp_fill σ o most = _ from sa_go2 b_2 (fun z9 => b_12 z9))).symm), by show va_P G vwCl (sa_W1 cI cZ a (sp_fill σ o most).2.2 (nI (sp_fill σ o most).1)) t9.heap; rw [ht]; exact (by rw [(show sp_fill σ o most = _ from sa_go2 b_2 (fun z9 => b_12 z9))]; exact hP)⟩, hS.F ht⟩) hS.2.2 dX1_fill_40
  · skip
    refine lv_istore_n (lv' := [(3, .int (0)), (0, .ref (a 0)), (1, .int (o)), (2, .int (most))]) hx hb dX1_fill_5 rfl hl (by decide) rfl (fun ls hl => ?_)
    refine lv_aload_n hx hb dX1_fill_6 rfl (lv_at hl 1 rfl) ?_
    refine lv_iload_n hx hb dX1_fill_7 rfl (lv_at hl 0 rfl) ?_
    refine lv_iload_n hx hb dX1_fill_8 rfl (lv_at hl 3 rfl) ?_
    refine lv_iconst (v := 1) hx hb dX1_fill_9 (by decide) ?_
    refine lv_bipush (v := 24) hx hb dX1_fill_10 (by decide) ?_
    refine sa_kRs (As := [.int (most), .int (1), .int (24)]) (rest := [.int (0), .ref (a 0)]) S (c_X1_in l most 1 24) (va_cwS 3 hts gX1_fill_X1_in rfl rfl rfl (by decide +kernel) ⟨Nat.le_of_ble_eq_true rfl, Nat.le_of_ble_eq_true rfl⟩) rfl hl.1 (Nat.le_of_ble_eq_true rfl) rfl dX1_fill_12 ⟨Nat.zero_le _, Nat.zero_le _⟩ ?_
    refine sa_spl (fun b_12 => ?_) (fun b_12 => ?_)
    · skip
      refine lv_iload_n hx hb dX1_fill_15 rfl (lv_at hl 0 rfl) ?_
      refine lv_if_eq (tgt := 32) hx hb dX1_fill_16 (by decide) (fun _ => ?_) (fun c9 => absurd (by decide) c9)
      refine lv_iconst (v := 0) hx hb dX1_fill_32 (by decide) ?_
      refine sa_kWr (wd' := sa_W1 cI cZ a σ 1) (r := 0) (As := [.int (0), .int (1), .int (0)]) (rest := []) S (by have h := c_X1_goes l G cI cZ cL a σ th hJ 0 1 0; rw [show sa_gc 0 1 0 = 1 from by decide, show sa_b ((1 : Int32) = 0) = 0 from by decide] at h; exact h) (cwV 3 hts gX1_fill_X1_goes rfl rfl rfl (by decide +kernel) ⟨Nat.le_of_ble_eq_true rfl, Nat.le_of_ble_eq_true rfl⟩) hP hK hS (fun _ h => h) (ci := 1) rfl rfl rfl hl.1 (Nat.le_of_ble_eq_true rfl) rfl dX1_fill_33 ⟨Nat.zero_le _, Nat.zero_le _⟩ (fun H locs hP hS _ _ => ?_)
      refine lv_if_ne (tgt := 41) hx hb dX1_fill_36 (by decide) (fun c9 => absurd (by decide) c9) (fun _ => ?_)
      refine lv_iconst (v := 0) hx hb dX1_fill_39 (by decide) ?_
      exact W.iret (v := 0) hx hb hr (fun t9 ht _ => ⟨⟨_, (), rfl, (Eq.trans (b := ((1, 0, σ) : sa_R).2.1) rfl (congrArg (fun z : sa_R => z.2.1) (show sp_fill σ o most = _ from sa_go1 (fun z9 => b_2 z9))).symm), by show va_P G vwCl (sa_W1 cI cZ a (sp_fill σ o most).2.2 (nI (sp_fill σ o most).1)) t9.heap; rw [ht]; exact (by rw [(show sp_fill σ o most = _ from sa_go1 (fun z9 => b_2 z9))]; exact hP)⟩, hS.F ht⟩) hS.2.2 dX1_fill_40
    · skip
      refine lv_iload_n hx hb dX1_fill_15 rfl (lv_at hl 0 rfl) ?_
      refine lv_if_eq (tgt := 32) hx hb dX1_fill_16 (by decide) (fun _ => ?_) (fun c9 => absurd (by decide) c9)
      refine lv_iconst (v := 0) hx hb dX1_fill_32 (by decide) ?_
      refine sa_kWr (wd' := sa_W1 cI cZ a σ 1) (r := 0) (As := [.int (0), .int (0), .int (0)]) (rest := []) S (by have h := c_X1_goes l G cI cZ cL a σ th hJ 0 0 0; rw [show sa_gc 0 0 0 = 1 from by decide, show sa_b ((1 : Int32) = 0) = 0 from by decide] at h; exact h) (cwV 3 hts gX1_fill_X1_goes rfl rfl rfl (by decide +kernel) ⟨Nat.le_of_ble_eq_true rfl, Nat.le_of_ble_eq_true rfl⟩) hP hK hS (fun _ h => h) (ci := 1) rfl rfl rfl hl.1 (Nat.le_of_ble_eq_true rfl) rfl dX1_fill_33 ⟨Nat.zero_le _, Nat.zero_le _⟩ (fun H locs hP hS _ _ => ?_)
      refine lv_if_ne (tgt := 41) hx hb dX1_fill_36 (by decide) (fun c9 => absurd (by decide) c9) (fun _ => ?_)
      refine lv_iconst (v := 0) hx hb dX1_fill_39 (by decide) ?_
      exact W.iret (v := 0) hx hb hr (fun t9 ht _ => ⟨⟨_, (), rfl, (Eq.trans (b := ((1, 0, σ) : sa_R).2.1) rfl (congrArg (fun z : sa_R => z.2.1) (show sp_fill σ o most = _ from sa_go1 (fun z9 => b_2 z9))).symm), by show va_P G vwCl (sa_W1 cI cZ a (sp_fill σ o most).2.2 (nI (sp_fill σ o most).1)) t9.heap; rw [ht]; exact (by rw [(show sp_fill σ o most = _ from sa_go1 (fun z9 => b_2 z9))]; exact hP)⟩, hS.F ht⟩) hS.2.2 dX1_fill_40
