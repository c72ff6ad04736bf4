set_option maxHeartbeats 4000000 in
set_option maxRecDepth 100000 in
theorem c_X0_fill_ex (l : Launch) (lo : Nat) (hst : l.stackTraces = false) (G : va_G) (cI cZ cL : ClassId) (a : Nat → Nat) (σ : sa_St) (hI : sa_I σ) (o most : Int32) (hne : ¬ (sp_fill σ o most).1 = 0) : sa_Ex l yX0_fill wsX0_fill ({ frames := 8, cells := 1, slots := 6, locals := 132 }) (sa_Px lo G cI cZ cL (sa_W0 cI cZ a σ)) [.ref (a 0), .int (o), .int (most)] (fun E => ((sp_fill σ o most).1, E) ∈ [((1 : Nat), sa_E1), ((2 : Nat), sa_E2), ((3 : Nat), sa_E3)]) := by
  obtain ⟨hnb, hno, hns, hgr, hor, hbr, hai⟩ := id hI
  refine vx_ofW (cc := cX0_fill) (maxL := 5) (ret := (some .int)) (by decide) rfl ?_
  intro p e s m args below meth c s₁ B9 hml htab hv
  obtain ⟨rfl, ⟨hP, hK⟩, hT⟩ := hv
  have hx := B9.exec
  have hb := B9.bytes
  have hr := B9.returns
  have hlk := B9.notSynchronized
  have hts := atoms_spec (ws := wsX0_fill) B9.pre
  have hown : s.vm.findClass RX0 = some m.cls := findClass_of_methodNamed B9.named
  have S : CallFix p m c cX0_fill 5 s _ wsX0_fill RX0 := ⟨hx, hb, hml, hown, hts⟩
  have hin : ∀ w ∈ wsX00, w ∈ wsX0_fill := by decide +kernel
  have hl := lv_entry ([.ref (a 0), .int (o), .int (most)]) (n := 5) (Nat.le_of_ble_eq_true rfl)
  rw [lg_entry_eq]
  generalize (lg_sl ([.ref (a 0), .int (o), .int (most)]) ++ List.replicate (5 - (lg_sl ([.ref (a 0), .int (o), .int (most)])).length) Slot.unset).toArray = ls at hl ⊢
  have hl : lv_has ls 5 [(0, .ref (a 0)), (1, .int (o)), (2, .int (most))] := hl
  refine lv_aload_n hx hb dX0_fill_0 rfl (lv_at hl 0 rfl) ?_
  refine lv_iload_n hx hb dX0_fill_1 rfl (lv_at hl 1 rfl) ?_
  by_cases k_2 : sa_in o (σ.1 1)
  · skip
    have ho : vp_in o (σ.1 1) := sa_inv (by omega) k_2
    refine sa_kOkV (As := [.int (o)]) (rest := []) S (c_X0_checkOrder_ok l G cI cZ cL a σ hI o k_2) (cwV 1 hts gX0_fill_X0_checkOrder rfl rfl rfl (by decide +kernel) ⟨Nat.le_of_ble_eq_true rfl, Nat.le_of_ble_eq_true rfl⟩) hP hK (ci := 0) rfl rfl rfl hl.1 (Nat.le_of_ble_eq_true rfl) rfl dX0_fill_2 ⟨Nat.zero_le _, Nat.zero_le _⟩ ?_
    refine lv_iload_n hx hb dX0_fill_5 rfl (lv_at hl 2 rfl) ?_
    refine lv_iconst (v := 1) hx hb dX0_fill_6 (by decide) ?_
    refine lv_bipush (v := 24) hx hb dX0_fill_7 (by decide) ?_
    refine sa_kRs (As := [.int (most), .int (1), .int (24)]) (rest := []) S (c_X0_isWithin l most 1 24) (va_cwS 3 hts gX0_fill_X0_isWithin rfl rfl rfl (by decide +kernel) ⟨Nat.le_of_ble_eq_true rfl, Nat.le_of_ble_eq_true rfl⟩) rfl hl.1 (Nat.le_of_ble_eq_true rfl) rfl dX0_fill_9 ⟨Nat.zero_le _, Nat.zero_le _⟩ ?_
    by_cases k_12 : sa_w most 1 24
    · skip
      refine sa_kOkS (As := [.int (sa_b (sa_w most 1 24))]) (rest := []) S (c_X0_checkArgument_ok l (sa_b (sa_w most 1 24)) (by rw [sa_bt k_12]; decide)) (va_cwS 1 hts gX0_fill_X0_checkArgument rfl rfl rfl (by decide +kernel) ⟨Nat.le_of_ble_eq_true rfl, Nat.le_of_ble_eq_true rfl⟩) rfl hl.1 (Nat.le_of_ble_eq_true rfl) rfl dX0_fill_12 ⟨Nat.zero_le _, Nat.zero_le _⟩ ?_
      refine lv_aload_n hx hb dX0_fill_15 rfl (lv_at hl 0 rfl) ?_
      refine sa_g0_orderClosed S hin hK hP (by decide +kernel) dX0_fill_16 ?_
      refine lv_iload_n hx hb dX0_fill_19 rfl (lv_at hl 1 rfl) ?_
      refine sa_ldz 11 S hK hP rfl (sa_vm ho (by omega)) dX0_fill_20 ?_
      refine lv_if_ne (tgt := 28) hx hb dX0_fill_21 (by decide) (fun c_21 => ?_) (fun c_21 => ?_)
      · skip
        refine lv_iconst (v := 0) hx hb dX0_fill_28 (by decide) ?_
        exact sa_kExS (As := [.int (0)]) (rest := []) S (c_X0_checkState_ex l lo hst 0 rfl) (va_cwS 1 hts gX0_fill_X0_checkState rfl rfl rfl (by decide +kernel) ⟨Nat.le_of_ble_eq_true rfl, Nat.le_of_ble_eq_true rfl⟩) hT htab hlk (fun E hE => by subst hE; rw [show sp_fill σ o most = (3, 0, σ) from sa_go3 k_2 k_12 (fun z9 => c_21 z9)]; show ((3 : Nat), sa_E3) ∈ _; decide) rfl hl.1 (Nat.le_of_ble_eq_true rfl) rfl dX0_fill_29 ⟨Nat.le_refl _, Nat.le_refl _⟩
      · skip
        refine lv_iconst (v := 1) hx hb dX0_fill_24 (by decide) ?_
        refine lv_goto (tgt := 29) hx hb dX0_fill_25 (by decide) ?_
        exact (hne (congrArg Prod.fst (show sp_fill σ o most = (0, _) from sa_go0 k_2 k_12 c_21))).elim
    · skip
      exact sa_kExS (As := [.int (sa_b (sa_w most 1 24))]) (rest := []) S (c_X0_checkArgument_ex l lo hst (sa_b (sa_w most 1 24)) (sa_bf k_12)) (va_cwS 1 hts gX0_fill_X0_checkArgument rfl rfl rfl (by decide +kernel) ⟨Nat.le_of_ble_eq_true rfl, Nat.le_of_ble_eq_true rfl⟩) hT htab hlk (fun E hE => by subst hE; rw [show sp_fill σ o most = (2, 0, σ) from sa_go2 k_2 (fun z9 => k_12 z9)]; show ((2 : Nat), sa_E2) ∈ _; decide) rfl hl.1 (Nat.le_of_ble_eq_true rfl) rfl dX0_fill_12 ⟨Nat.le_refl _, Nat.le_refl _⟩
  · exact sa_kExV (As := [.int (o)]) (rest := []) S (c_X0_checkOrder_ex l lo hst G cI cZ cL a σ hI o k_2) (cwV 1 hts gX0_fill_X0_checkOrder rfl rfl rfl (by decide +kernel) ⟨Nat.le_of_ble_eq_true rfl, Nat.le_of_ble_eq_true rfl⟩) hP hK hT (ci := 0) rfl rfl htab hlk (fun E hE => by subst hE; rw [show sp_fill σ o most = (1, 0, σ) from sa_go1 (fun z9 => k_2 z9)]; show ((1 : Nat), sa_E1) ∈ _; decide) rfl hl.1 (Nat.le_of_ble_eq_true rfl) rfl dX0_fill_2 ⟨Nat.le_refl _, Nat.le_refl _⟩

set_option maxHeartbeats 4000000 in
set_option maxRecDepth 100000 in
theorem c_X0_fill_ok (l : Launch) (G : va_G) (cI cZ cL : ClassId) (a : Nat → Nat) (σ : sa_St) (hI : sa_I σ) (o : Int32) (M : Nat) (hJ : sa_J a) (hM1 : 1 ≤ M) (hM : M ≤ 24) (h1 : sa_iO σ o) (h3 : σ.2 11 o.toNatClampNeg = 0) : sa_Wr l yX0_fill wsX0_fill ({ frames := 8, cells := 0, slots := 0, locals := 132 }) G cI cZ cL (sa_W0 cI cZ a σ) (sa_W0 cI cZ a (sa_fill o M 0 σ).2) (sa_A a) [.ref (a 0), .int (o), .int (nI M)] ((sa_fill o M 0 σ).1) := by
  obtain ⟨hnb, hno, hns, hgr, hor, hbr, hai⟩ := id hI
  refine Met.ofW (cc := cX0_fill) (maxL := 5) (ret := (some .int)) (by decide) rfl ?_
  intro p e s m args below meth c s₁ B9 hml hv
  obtain ⟨rfl, hP, hK⟩ := hv
  have ho : vp_in o (σ.1 1) := sa_inv (by omega) h1
  have h2 : sa_w (nI M) 1 24 := ⟨show nI 1 ≤ nI M from nI_le hM1 (by omega), show nI M ≤ nI 24 from nI_le hM (by decide)⟩
  have hx := B9.exec
  have hb := B9.bytes
  have hr := B9.returns
  have hlk := B9.notSynchronized
  have hts := atoms_spec (ws := wsX0_fill) B9.pre
  have hown : s.vm.findClass RX0 = some m.cls := findClass_of_methodNamed B9.named
  have S : CallFix p m c cX0_fill 5 s _ wsX0_fill RX0 := ⟨hx, hb, hml, hown, hts⟩
  have hin : ∀ w ∈ wsX00, w ∈ wsX0_fill := by decide +kernel
  have hS : va_S (sa_A a) s.heap s.heap [] := va_S.rf
  have hl := lv_entry ([.ref (a 0), .int (o), .int (nI M)]) (n := 5) (Nat.le_of_ble_eq_true rfl)
  rw [lg_entry_eq]
  generalize (lg_sl ([.ref (a 0), .int (o), .int (nI M)]) ++ List.replicate (5 - (lg_sl ([.ref (a 0), .int (o), .int (nI M)])).length) Slot.unset).toArray = ls at hl ⊢
  have hl : lv_has ls 5 [(0, .ref (a 0)), (1, .int (o)), (2, .int (nI M))] := hl
  refine lv_aload_n hx hb dX0_fill_0 rfl (lv_at hl 0 rfl) ?_
  refine lv_iload_n hx hb dX0_fill_1 rfl (lv_at hl 1 rfl) ?_
  refine sa_kOkV (As := [.int (o)]) (rest := []) S (c_X0_checkOrder_ok l G cI cZ cL a σ hI o h1) (cwV 1 hts gX0_fill_X0_checkOrder rfl rfl rfl (by decide +kernel) ⟨Nat.le_of_ble_eq_true rfl, Nat.le_of_ble_eq_true rfl⟩) hP hK (ci := 0) rfl rfl rfl hl.1 (Nat.le_of_ble_eq_true rfl) rfl dX0_fill_2 ⟨Nat.zero_le _, Nat.zero_le _⟩ ?_
  refine lv_iload_n hx hb dX0_fill_5 rfl (lv_at hl 2 rfl) ?_
  refine lv_iconst (v := 1) hx hb dX0_fill_6 (by decide) ?_
  refine lv_bipush (v := 24) hx hb dX0_fill_7 (by decide) ?_
  refine sa_kRs (As := [.int (nI M), .int (1), .int (24)]) (rest := []) S (c_X0_isWithin l (nI M) 1 24) (va_cwS 3 hts gX0_fill_X0_isWithin rfl rfl rfl (by decide +kernel) ⟨Nat.le_of_ble_eq_true rfl, Nat.le_of_ble_eq_true rfl⟩) rfl hl.1 (Nat.le_of_ble_eq_true rfl) rfl dX0_fill_9 ⟨Nat.zero_le _, Nat.zero_le _⟩ ?_
  refine sa_kOkS (As := [.int (sa_b (sa_w (nI M) 1 24))]) (rest := []) S (c_X0_checkArgument_ok l (sa_b (sa_w (nI M) 1 24)) (by rw [sa_bt (h2)]; decide)) (va_cwS 1 hts gX0_fill_X0_checkArgument rfl rfl rfl (by decide +kernel) ⟨Nat.le_of_ble_eq_true rfl, Nat.le_of_ble_eq_true rfl⟩) rfl hl.1 (Nat.le_of_ble_eq_true rfl) rfl dX0_fill_12 ⟨Nat.zero_le _, Nat.zero_le _⟩ ?_
  refine lv_aload_n hx hb dX0_fill_15 rfl (lv_at hl 0 rfl) ?_
  refine sa_g0_orderClosed S hin hK hP (by decide +kernel) dX0_fill_16 ?_
  refine lv_iload_n hx hb dX0_fill_19 rfl (lv_at hl 1 rfl) ?_
  refine sa_ldz 11 S hK hP rfl (sa_vm ho (by omega)) dX0_fill_20 ?_
  refine lv_if_ne (tgt := 28) hx hb dX0_fill_21 (by decide) (fun c_21 => ?_) (fun c_21 => ?_)
  · skip
    refine lv_iconst (v := 0) hx hb dX0_fill_28 (by decide) ?_
    exact absurd h3 (fun z9 => c_21 z9)
  · skip
    refine lv_iconst (v := 1) hx hb dX0_fill_24 (by decide) ?_
    refine lv_goto (tgt := 29) hx hb dX0_fill_25 (by decide) ?_
    refine sa_kOkS (As := [.int (1)]) (rest := []) S (c_X0_checkState_ok l 1 (by decide)) (va_cwS 1 hts gX0_fill_X0_checkState rfl rfl rfl (by decide +kernel) ⟨Nat.le_of_ble_eq_true rfl, Nat.le_of_ble_eq_true rfl⟩) rfl hl.1 (Nat.le_of_ble_eq_true rfl) rfl dX0_fill_29 ⟨Nat.zero_le _, Nat.zero_le _⟩ ?_
    refine lv_iconst (v := 0) hx hb dX0_fill_32 (by decide) ?_
    refine lv_istore_n (lv' := [(3, .int (0)), (0, .ref (a 0)), (1, .int (o)), (2, .int (nI M))]) hx hb dX0_fill_33 rfl hl (by decide) rfl (fun ls hl => ?_)
    have loop : ∀ (n i : Nat) (τ : sa_St), i + n = M → sa_I τ → vp_in o (τ.1 1) → sa_fill o n i τ = sa_fill o M 0 σ → ∀ (H : Heap) (locs : List Loc), va_P G vwCl (sa_W0 cI cZ a τ) H → va_S (sa_A a) s.heap H locs → ∀ ls : Array Slot, lv_has ls 5 [(3, .int (nI i)), (0, .ref (a 0)), (1, .int (o)), (2, .int (nI M))] → W p l e (headSpec wsX0_fill ({ frames := 8, cells := 0, slots := 0, locals := 132 })).room s m ([Value.ref (a 0), Value.int (o), Value.int (nI M)] : List Value).toArray below meth c H locs 0 0 (MQ below (va_Qi (fun z (_ : Unit) => z = (sa_fill o M 0 σ).1) (fun _ t => va_P G vwCl (sa_W0 cI cZ a (sa_fill o M 0 σ).2) t.heap) (sa_A a)) ([Value.ref (a 0), Value.int (o), Value.int (nI M)] : List Value).toArray s 0 0 (sa_A a)) (F0 m 34 ls []) := by
      intro n
      induction n with
      | zero =>
        intro i τ hi hI ho hq H locs hP hS ls hl
        obtain ⟨hnb, hno, hns, hgr, hor, hbr, hai⟩ := id hI
        have hiM : M = i := by omega
        subst hiM
        refine lv_iload_n hx hb dX0_fill_34 rfl (lv_at hl 0 rfl) ?_
        refine lv_iload_n hx hb dX0_fill_35 rfl (lv_at hl 3 rfl) ?_
        refine lv_icmp_ge (tgt := 88) hx hb dX0_fill_36 (by decide) (fun _ => ?_) (fun c9 => absurd (nI_le (Nat.le_refl _) (by omega)) c9)
        refine lv_iload_n hx hb dX0_fill_88 rfl (lv_at hl 0 rfl) ?_
        exact W.iret (v := nI M) hx hb hr (fun t9 ht _ => ⟨⟨_, (), rfl, (congrArg Prod.fst hq), by show va_P G vwCl (sa_W0 cI cZ a (sa_fill o M 0 σ).2) t9.heap; rw [ht]; exact (by rw [← hq]; exact hP)⟩, hS.F ht⟩) hS.2.2 dX0_fill_89
      | succ n ih =>
        intro i τ hi hI ho hq H locs hP hS ls hl
        obtain ⟨hnb, hno, hns, hgr, hor, hbr, hai⟩ := id hI
        have hkn : i < M := by omega
        refine lv_iload_n hx hb dX0_fill_34 rfl (lv_at hl 0 rfl) ?_
        refine lv_iload_n hx hb dX0_fill_35 rfl (lv_at hl 3 rfl) ?_
        refine lv_icmp_ge (tgt := 88) hx hb dX0_fill_36 (by decide) (fun c9 => absurd c9 (nI_ge (by omega) (by omega))) (fun _ => ?_)
        refine lv_aload_n hx hb dX0_fill_39 rfl (lv_at hl 1 rfl) ?_
        refine sa_g0_spotCount S hin hK hP (by decide +kernel) dX0_fill_40 ?_
        refine lv_sipush (v := 150) hx hb dX0_fill_43 (by decide) ?_
        refine lv_icmp_ge (tgt := 88) hx hb dX0_fill_46 (by decide) (fun c_46 => ?_) (fun c_46 => ?_)
        · skip
          have c_46 := Int32.not_lt.mpr c_46
          refine lv_iload_n hx hb dX0_fill_88 rfl (lv_at hl 0 rfl) ?_
          exact W.iret (v := nI i) hx hb hr (fun t9 ht _ => ⟨⟨_, (), rfl, (by rw [← hq, sa_fill_n (fun z9 => c_46 (nI_lt z9.1 (by decide)))]), by show va_P G vwCl (sa_W0 cI cZ a (sa_fill o M 0 σ).2) t9.heap; rw [ht]; exact (by rw [← hq, sa_fill_n (fun z9 => c_46 (nI_lt z9.1 (by decide)))]; exact hP)⟩, hS.F ht⟩) hS.2.2 dX0_fill_89
        · skip
          have c_46 := Int32.not_le.mp c_46
          have hs9 : τ.1 2 < 150 := sa_ltN (by omega) (by decide) c_46
          refine lv_aload_n hx hb dX0_fill_49 rfl (lv_at hl 1 rfl) ?_
          refine lv_iload_n hx hb dX0_fill_50 rfl (lv_at hl 2 rfl) ?_
          refine sa_kRd (As := [.int (o)]) (rest := []) S (c_X0_isShortOfPromise l G cI cZ cL a τ hI o ho) (cwV 1 hts gX0_fill_X0_isShortOfPromise rfl rfl rfl (by decide +kernel) ⟨Nat.le_of_ble_eq_true rfl, Nat.le_of_ble_eq_true rfl⟩) hP hK (ci := 0) rfl rfl rfl hl.1 (Nat.le_of_ble_eq_true rfl) rfl dX0_fill_51 ⟨Nat.zero_le _, Nat.zero_le _⟩ ?_
          refine lv_if_eq (tgt := 88) hx hb dX0_fill_54 (by decide) (fun c_54 => ?_) (fun c_54 => ?_)
          · skip
            have c_54 := sa_b0 c_54
            refine lv_iload_n hx hb dX0_fill_88 rfl (lv_at hl 0 rfl) ?_
            exact W.iret (v := nI i) hx hb hr (fun t9 ht _ => ⟨⟨_, (), rfl, (by rw [← hq, sa_fill_n (fun z9 => c_54 z9.2.1)]), by show va_P G vwCl (sa_W0 cI cZ a (sa_fill o M 0 σ).2) t9.heap; rw [ht]; exact (by rw [← hq, sa_fill_n (fun z9 => c_54 z9.2.1)]; exact hP)⟩, hS.F ht⟩) hS.2.2 dX0_fill_89
          · skip
            have c_54 := sa_b1 c_54
            refine lv_aload_n hx hb dX0_fill_57 rfl (lv_at hl 1 rfl) ?_
            refine lv_iload_n hx hb dX0_fill_58 rfl (lv_at hl 2 rfl) ?_
            refine sa_kRd (As := [.int (o)]) (rest := []) S (c_X0_bestBreak l G cI cZ cL a τ hI o ho) (cwV 1 hts gX0_fill_X0_bestBreak rfl rfl rfl (by decide +kernel) ⟨Nat.le_of_ble_eq_true rfl, Nat.le_of_ble_eq_true rfl⟩) hP hK (ci := 0) rfl rfl rfl hl.1 (Nat.le_of_ble_eq_true rfl) rfl dX0_fill_59 ⟨Nat.zero_le _, Nat.zero_le _⟩ ?_
            refine lv_istore (lv' := [(4, .int (sa_best τ o (τ.1 0))), (3, .int (nI i)), (0, .ref (a 0)), (1, .int (o)), (2, .int (nI M))]) hx hb dX0_fill_62 hl (by decide) rfl (fun ls hl => ?_)
            refine lv_iload hx hb dX0_fill_64 (lv_at hl 0 rfl) ?_
            refine lv_iconst (v := (-1)) hx hb dX0_fill_66 (by decide) ?_
            refine lv_icmp_ne (tgt := 73) hx hb dX0_fill_67 (by decide) (fun c_67 => ?_) (fun c_67 => ?_)
            · skip
              have hbin : vp_in (sa_best τ o (τ.1 0)) (τ.1 0) := sa_best_in _ (by omega) c_67
              refine lv_aload_n hx hb dX0_fill_73 rfl (lv_at hl 2 rfl) ?_
              refine lv_iload_n hx hb dX0_fill_74 rfl (lv_at hl 3 rfl) ?_
              refine lv_iload hx hb dX0_fill_75 (lv_at hl 0 rfl) ?_
              refine lv_iconst (v := 0) hx hb dX0_fill_77 (by decide) ?_
              refine sa_kWr (wd' := sa_W0 cI cZ a (sa_add τ o (sa_best τ o (τ.1 0)) 0)) (As := [.int (o), .int (sa_best τ o (τ.1 0)), .int (0)]) (rest := []) S (c_X0_addSpot l G cI cZ cL a τ hI hJ hs9 o (sa_best τ o (τ.1 0)) 0 (Or.inl rfl)) (cwV 3 hts gX0_fill_X0_addSpot rfl rfl rfl (by decide +kernel) ⟨Nat.le_of_ble_eq_true rfl, Nat.le_of_ble_eq_true rfl⟩) hP hK hS (fun _ h => h) (ci := 0) rfl rfl rfl hl.1 (Nat.le_of_ble_eq_true rfl) rfl dX0_fill_78 ⟨Nat.zero_le _, Nat.zero_le _⟩ (fun H locs hP hS _ _ => ?_)
              refine lv_pop hx hb dX0_fill_81 rfl ?_
              refine lv_iinc (v := nI (i + 1)) (lv' := [(3, .int (nI (i + 1))), (4, .int (sa_best τ o (τ.1 0))), (0, .ref (a 0)), (1, .int (o)), (2, .int (nI M))]) hx hb dX0_fill_82 hl (k := 1) rfl (nI_1 i) (by decide) rfl (fun ls hl => ?_)
              refine lv_goto (tgt := 34) hx hb dX0_fill_85 (by decide) ?_
              exact ih (i + 1) (sa_add τ o (sa_best τ o (τ.1 0)) 0) (by omega) (sa_I_add hI hs9 ho hbin) ho (by rw [← hq]; exact (sa_fill_y ⟨hs9, c_54, c_67⟩).symm) _ _ hP hS ls (lv_sub hl [0, 2, 3, 4] rfl)
            · skip
              refine lv_goto (tgt := 88) hx hb dX0_fill_70 (by decide) ?_
              refine lv_iload_n hx hb dX0_fill_88 rfl (lv_at hl 1 rfl) ?_
              exact W.iret (v := nI i) hx hb hr (fun t9 ht _ => ⟨⟨_, (), rfl, (by rw [← hq, sa_fill_n (fun z9 => z9.2.2 c_67)]), by show va_P G vwCl (sa_W0 cI cZ a (sa_fill o M 0 σ).2) t9.heap; rw [ht]; exact (by rw [← hq, sa_fill_n (fun z9 => z9.2.2 c_67)]; exact hP)⟩, hS.F ht⟩) hS.2.2 dX0_fill_89
    exact loop M 0 σ (Nat.zero_add _) hI ho rfl _ _ hP hS ls (lv_sub hl [0, 1, 2, 3] rfl)
