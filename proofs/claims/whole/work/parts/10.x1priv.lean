set_option maxHeartbeats 4000000 in
set_option maxRecDepth 100000 in
theorem c_X1_in (l : Launch) (x lo hi : Int32) : sa_Rs l yX1_in wsX1_in ({ frames := 0, cells := 0, slots := 0, locals := 0 }) [.int (x), .int (lo), .int (hi)] (sa_b (sa_w x lo hi)) := by
  refine Met.ofW (cc := cX1_in) (maxL := 3) (ret := (some .boolean)) (by decide) rfl ?_
  intro p e s m args below meth c s₁ B9 hml hv
  obtain ⟨rfl, -⟩ := hv
  have hx := B9.exec
  have hb := B9.bytes
  have hr := B9.returns
  have hlk := B9.notSynchronized
  have hts := atoms_spec (ws := wsX1_in) B9.pre
  have hown : s.vm.findClass RX1 = some m.cls := findClass_of_methodNamed B9.named
  have S : CallFix p m c cX1_in 3 s _ wsX1_in RX1 := ⟨hx, hb, hml, hown, hts⟩
  have hl := lv_entry ([.int (x), .int (lo), .int (hi)]) (n := 3) (Nat.le_of_ble_eq_true rfl)
  rw [lg_entry_eq]
  generalize (lg_sl ([.int (x), .int (lo), .int (hi)]) ++ List.replicate (3 - (lg_sl ([.int (x), .int (lo), .int (hi)])).length) Slot.unset).toArray = ls at hl ⊢
  have hl : lv_has ls 3 [(0, .int (x)), (1, .int (lo)), (2, .int (hi))] := hl
  refine lv_iload_n hx hb dX1_in_0 rfl (lv_at hl 0 rfl) ?_
  refine lv_iload_n hx hb dX1_in_1 rfl (lv_at hl 1 rfl) ?_
  refine lv_icmp_lt (tgt := 14) hx hb dX1_in_2 (by decide) (fun c_2 => ?_) (fun c_2 => ?_)
  · skip
    refine lv_iconst (v := 0) hx hb dX1_in_14 (by decide) ?_
    exact W.zret (v := 0) (ty := .boolean) hx hb hr rfl (fun t9 ht _ => ⟨_, rfl, (sa_bf (by simp only [sa_w, ← Int32.not_lt]; simp [c_2])).symm, ht⟩) (fun _ h => nomatch h) dX1_in_15
  · skip
    refine lv_iload_n hx hb dX1_in_5 rfl (lv_at hl 0 rfl) ?_
    refine lv_iload_n hx hb dX1_in_6 rfl (lv_at hl 2 rfl) ?_
    refine lv_icmp_gt (tgt := 14) hx hb dX1_in_7 (by decide) (fun c_7 => ?_) (fun c_7 => ?_)
    · skip
      refine lv_iconst (v := 0) hx hb dX1_in_14 (by decide) ?_
      exact W.zret (v := 0) (ty := .boolean) hx hb hr rfl (fun t9 ht _ => ⟨_, rfl, (sa_bf (by simp only [sa_w, ← Int32.not_lt]; simp [c_2, c_7])).symm, ht⟩) (fun _ h => nomatch h) dX1_in_15
    · skip
      refine lv_iconst (v := 1) hx hb dX1_in_10 (by decide) ?_
      refine lv_goto (tgt := 15) hx hb dX1_in_11 (by decide) ?_
      exact W.zret (v := 1) (ty := .boolean) hx hb hr rfl (fun t9 ht _ => ⟨_, rfl, (sa_bt (by simp only [sa_w, ← Int32.not_lt]; simp [c_2, c_7])).symm, ht⟩) (fun _ h => nomatch h) dX1_in_15

set_option maxHeartbeats 4000000 in
set_option maxRecDepth 100000 in
theorem c_X1_isBreak (l : Launch) (G : va_G) (cI cZ cL : ClassId) (a : Nat → Nat) (σ : sa_St) (th : Int32) (hI : sa_I σ) (x : Int32) : sa_Rd l yX1_isBreak wsX1_isBreak ({ frames := 1, cells := 0, slots := 0, locals := 22 }) G cI cZ cL (sa_W1 cI cZ a σ th) [.ref (a 0), .int (x)] (sa_b (sa_in x (σ.1 0))) := by
  obtain ⟨hnb, hno, hns, hgr, hor, hbr, hai⟩ := id hI
  refine Met.ofW (cc := cX1_isBreak) (maxL := 2) (ret := (some .boolean)) (by decide) rfl ?_
  intro p e s m args below meth c s₁ B9 hml hv
  obtain ⟨rfl, hP, hK⟩ := hv
  have hx := B9.exec
  have hb := B9.bytes
  have hr := B9.returns
  have hlk := B9.notSynchronized
  have hts := atoms_spec (ws := wsX1_isBreak) B9.pre
  have hown : s.vm.findClass RX1 = some m.cls := findClass_of_methodNamed B9.named
  have S : CallFix p m c cX1_isBreak 2 s _ wsX1_isBreak RX1 := ⟨hx, hb, hml, hown, hts⟩
  have hin : ∀ w ∈ wsX10, w ∈ wsX1_isBreak := by decide +kernel
  have hl := lv_entry ([.ref (a 0), .int (x)]) (n := 2) (Nat.le_of_ble_eq_true rfl)
  rw [lg_entry_eq]
  generalize (lg_sl ([.ref (a 0), .int (x)]) ++ List.replicate (2 - (lg_sl ([.ref (a 0), .int (x)])).length) Slot.unset).toArray = ls at hl ⊢
  have hl : lv_has ls 2 [(0, .ref (a 0)), (1, .int (x))] := hl
  refine lv_iload_n hx hb dX1_isBreak_0 rfl (lv_at hl 1 rfl) ?_
  refine lv_iconst (v := 0) hx hb dX1_isBreak_1 (by decide) ?_
  refine lv_aload_n hx hb dX1_isBreak_2 rfl (lv_at hl 0 rfl) ?_
  refine sa_g1_breaks S hin hK hP (by decide +kernel) dX1_isBreak_3 ?_
  refine lv_iconst (v := 1) hx hb dX1_isBreak_6 (by decide) ?_
  refine lv_isub hx hb dX1_isBreak_7 ?_
  refine sa_kRs (As := [.int (x), .int (0), .int ((nI (σ.1 0)) - 1)]) (rest := []) S (c_X1_in l x 0 ((nI (σ.1 0)) - 1)) (va_cwS 3 hts gX1_isBreak_X1_in rfl rfl rfl (by decide +kernel) ⟨Nat.le_of_ble_eq_true rfl, Nat.le_of_ble_eq_true rfl⟩) rfl hl.1 (Nat.le_of_ble_eq_true rfl) rfl dX1_isBreak_8 ⟨Nat.zero_le _, Nat.zero_le _⟩ ?_
  exact W.zret (v := sa_b (sa_w x 0 ((nI (σ.1 0)) - 1))) (ty := .boolean) hx hb hr sa_narb (fun t9 ht _ => ⟨_, rfl, (sa_in_b (by omega)), ht⟩) (fun _ h => nomatch h) dX1_isBreak_11

set_option maxHeartbeats 4000000 in
set_option maxRecDepth 100000 in
theorem c_X1_isOrder (l : Launch) (G : va_G) (cI cZ cL : ClassId) (a : Nat → Nat) (σ : sa_St) (th : Int32) (hI : sa_I σ) (x : Int32) : sa_Rd l yX1_isOrder wsX1_isOrder ({ frames := 1, cells := 0, slots := 0, locals := 22 }) G cI cZ cL (sa_W1 cI cZ a σ th) [.ref (a 0), .int (x)] (sa_b (sa_in x (σ.1 1))) := by
  obtain ⟨hnb, hno, hns, hgr, hor, hbr, hai⟩ := id hI
  refine Met.ofW (cc := cX1_isOrder) (maxL := 2) (ret := (some .boolean)) (by decide) rfl ?_
  intro p e s m args below meth c s₁ B9 hml hv
  obtain ⟨rfl, hP, hK⟩ := hv
  have hx := B9.exec
  have hb := B9.bytes
  have hr := B9.returns
  have hlk := B9.notSynchronized
  have hts := atoms_spec (ws := wsX1_isOrder) B9.pre
  have hown : s.vm.findClass RX1 = some m.cls := findClass_of_methodNamed B9.named
  have S : CallFix p m c cX1_isOrder 2 s _ wsX1_isOrder RX1 := ⟨hx, hb, hml, hown, hts⟩
  have hin : ∀ w ∈ wsX10, w ∈ wsX1_isOrder := by decide +kernel
  have hl := lv_entry ([.ref (a 0), .int (x)]) (n := 2) (Nat.le_of_ble_eq_true rfl)
  rw [lg_entry_eq]
  generalize (lg_sl ([.ref (a 0), .int (x)]) ++ List.replicate (2 - (lg_sl ([.ref (a 0), .int (x)])).length) Slot.unset).toArray = ls at hl ⊢
  have hl : lv_has ls 2 [(0, .ref (a 0)), (1, .int (x))] := hl
  refine lv_iload_n hx hb dX1_isOrder_0 rfl (lv_at hl 1 rfl) ?_
  refine lv_iconst (v := 0) hx hb dX1_isOrder_1 (by decide) ?_
  refine lv_aload_n hx hb dX1_isOrder_2 rfl (lv_at hl 0 rfl) ?_
  refine sa_g1_orders S hin hK hP (by decide +kernel) dX1_isOrder_3 ?_
  refine lv_iconst (v := 1) hx hb dX1_isOrder_6 (by decide) ?_
  refine lv_isub hx hb dX1_isOrder_7 ?_
  refine sa_kRs (As := [.int (x), .int (0), .int ((nI (σ.1 1)) - 1)]) (rest := []) S (c_X1_in l x 0 ((nI (σ.1 1)) - 1)) (va_cwS 3 hts gX1_isOrder_X1_in rfl rfl rfl (by decide +kernel) ⟨Nat.le_of_ble_eq_true rfl, Nat.le_of_ble_eq_true rfl⟩) rfl hl.1 (Nat.le_of_ble_eq_true rfl) rfl dX1_isOrder_8 ⟨Nat.zero_le _, Nat.zero_le _⟩ ?_
  exact W.zret (v := sa_b (sa_w x 0 ((nI (σ.1 1)) - 1))) (ty := .boolean) hx hb hr sa_narb (fun t9 ht _ => ⟨_, rfl, (sa_in_b (by omega)), ht⟩) (fun _ h => nomatch h) dX1_isOrder_11

set_option maxHeartbeats 4000000 in
set_option maxRecDepth 100000 in
theorem c_X1_isSpot (l : Launch) (G : va_G) (cI cZ cL : ClassId) (a : Nat → Nat) (σ : sa_St) (th : Int32) (hI : sa_I σ) (x : Int32) : sa_Rd l yX1_isSpot wsX1_isSpot ({ frames := 1, cells := 0, slots := 0, locals := 22 }) G cI cZ cL (sa_W1 cI cZ a σ th) [.ref (a 0), .int (x)] (sa_b (sa_in x (σ.1 2))) := by
  obtain ⟨hnb, hno, hns, hgr, hor, hbr, hai⟩ := id hI
  refine Met.ofW (cc := cX1_isSpot) (maxL := 2) (ret := (some .boolean)) (by decide) rfl ?_
  intro p e s m args below meth c s₁ B9 hml hv
  obtain ⟨rfl, hP, hK⟩ := hv
  have hx := B9.exec
  have hb := B9.bytes
  have hr := B9.returns
  have hlk := B9.notSynchronized
  have hts := atoms_spec (ws := wsX1_isSpot) B9.pre
  have hown : s.vm.findClass RX1 = some m.cls := findClass_of_methodNamed B9.named
  have S : CallFix p m c cX1_isSpot 2 s _ wsX1_isSpot RX1 := ⟨hx, hb, hml, hown, hts⟩
  have hin : ∀ w ∈ wsX10, w ∈ wsX1_isSpot := by decide +kernel
  have hl := lv_entry ([.ref (a 0), .int (x)]) (n := 2) (Nat.le_of_ble_eq_true rfl)
  rw [lg_entry_eq]
  generalize (lg_sl ([.ref (a 0), .int (x)]) ++ List.replicate (2 - (lg_sl ([.ref (a 0), .int (x)])).length) Slot.unset).toArray = ls at hl ⊢
  have hl : lv_has ls 2 [(0, .ref (a 0)), (1, .int (x))] := hl
  refine lv_iload_n hx hb dX1_isSpot_0 rfl (lv_at hl 1 rfl) ?_
  refine lv_iconst (v := 0) hx hb dX1_isSpot_1 (by decide) ?_
  refine lv_aload_n hx hb dX1_isSpot_2 rfl (lv_at hl 0 rfl) ?_
  refine sa_g1_spots S hin hK hP (by decide +kernel) dX1_isSpot_3 ?_
  refine lv_iconst (v := 1) hx hb dX1_isSpot_6 (by decide) ?_
  refine lv_isub hx hb dX1_isSpot_7 ?_
  refine sa_kRs (As := [.int (x), .int (0), .int ((nI (σ.1 2)) - 1)]) (rest := []) S (c_X1_in l x 0 ((nI (σ.1 2)) - 1)) (va_cwS 3 hts gX1_isSpot_X1_in rfl rfl rfl (by decide +kernel) ⟨Nat.le_of_ble_eq_true rfl, Nat.le_of_ble_eq_true rfl⟩) rfl hl.1 (Nat.le_of_ble_eq_true rfl) rfl dX1_isSpot_8 ⟨Nat.zero_le _, Nat.zero_le _⟩ ?_
  exact W.zret (v := sa_b (sa_w x 0 ((nI (σ.1 2)) - 1))) (ty := .boolean) hx hb hr sa_narb (fun t9 ht _ => ⟨_, rfl, (sa_in_b (by omega)), ht⟩) (fun _ h => nomatch h) dX1_isSpot_11

set_option maxHeartbeats 4000000 in
set_option maxRecDepth 100000 in
theorem c_X1_stands (l : Launch) (G : va_G) (cI cZ cL : ClassId) (a : Nat → Nat) (σ : sa_St) (th : Int32) (k : Nat) (hk : k < 150) (at' : Int32) : sa_Rd l yX1_stands wsX1_stands ({ frames := 0, cells := 0, slots := 0, locals := 0 }) G cI cZ cL (sa_W1 cI cZ a σ th) [.ref (a 0), .int (nI k), .int (at')] (sa_b (sa_sd σ k at')) := by
  refine Met.ofW (cc := cX1_stands) (maxL := 3) (ret := (some .boolean)) (by decide) rfl ?_
  intro p e s m args below meth c s₁ B9 hml hv
  obtain ⟨rfl, hP, hK⟩ := hv
  have hx := B9.exec
  have hb := B9.bytes
  have hr := B9.returns
  have hlk := B9.notSynchronized
  have hts := atoms_spec (ws := wsX1_stands) B9.pre
  have hown : s.vm.findClass RX1 = some m.cls := findClass_of_methodNamed B9.named
  have S : CallFix p m c cX1_stands 3 s _ wsX1_stands RX1 := ⟨hx, hb, hml, hown, hts⟩
  have hin : ∀ w ∈ wsX10, w ∈ wsX1_stands := by decide +kernel
  have hl := lv_entry ([.ref (a 0), .int (nI k), .int (at')]) (n := 3) (Nat.le_of_ble_eq_true rfl)
  rw [lg_entry_eq]
  generalize (lg_sl ([.ref (a 0), .int (nI k), .int (at')]) ++ List.replicate (3 - (lg_sl ([.ref (a 0), .int (nI k), .int (at')])).length) Slot.unset).toArray = ls at hl ⊢
  have hl : lv_has ls 3 [(0, .ref (a 0)), (1, .int (nI k)), (2, .int (at'))] := hl
  refine lv_aload_n hx hb dX1_stands_0 rfl (lv_at hl 0 rfl) ?_
  refine sa_g1_where S hin hK hP (by decide +kernel) dX1_stands_1 ?_
  refine lv_iload_n hx hb dX1_stands_4 rfl (lv_at hl 1 rfl) ?_
  refine sa_ldk 13 S hK hP rfl (by omega) (by decide) dX1_stands_5 ?_
  refine lv_iload_n hx hb dX1_stands_6 rfl (lv_at hl 2 rfl) ?_
  refine lv_icmp_ne (tgt := 33) hx hb dX1_stands_7 (by decide) (fun c_7 => ?_) (fun c_7 => ?_)
  · skip
    refine lv_iconst (v := 0) hx hb dX1_stands_33 (by decide) ?_
    exact W.zret (v := 0) (ty := .boolean) hx hb hr rfl (fun t9 ht _ => ⟨_, rfl, (sa_bf (by simp [sa_sd, sa_sec, sa_rat, sa_adv, sa_cat, sa_cnt, sa_aud, sa_less, sa_w, sa_nx, c_7])).symm, ht⟩) (fun _ h => nomatch h) dX1_stands_34
  · skip
    refine lv_aload_n hx hb dX1_stands_10 rfl (lv_at hl 0 rfl) ?_
    refine sa_g1_state S hin hK hP (by decide +kernel) dX1_stands_11 ?_
    refine lv_iload_n hx hb dX1_stands_14 rfl (lv_at hl 1 rfl) ?_
    refine sa_ldk 14 S hK hP rfl (by omega) (by decide) dX1_stands_15 ?_
    refine lv_if_eq (tgt := 29) hx hb dX1_stands_16 (by decide) (fun c_16 => ?_) (fun c_16 => ?_)
    · skip
      refine lv_iconst (v := 1) hx hb dX1_stands_29 (by decide) ?_
      refine lv_goto (tgt := 34) hx hb dX1_stands_30 (by decide) ?_
      exact W.zret (v := 1) (ty := .boolean) hx hb hr rfl (fun t9 ht _ => ⟨_, rfl, (sa_bt (by simp [sa_sd, sa_sec, sa_rat, sa_adv, sa_cat, sa_cnt, sa_aud, sa_less, sa_w, sa_nx, c_7, c_16])).symm, ht⟩) (fun _ h => nomatch h) dX1_stands_34
    · skip
      refine lv_aload_n hx hb dX1_stands_19 rfl (lv_at hl 0 rfl) ?_
      refine sa_g1_state S hin hK hP (by decide +kernel) dX1_stands_20 ?_
      refine lv_iload_n hx hb dX1_stands_23 rfl (lv_at hl 1 rfl) ?_
      refine sa_ldk 14 S hK hP rfl (by omega) (by decide) dX1_stands_24 ?_
      refine lv_iconst (v := 1) hx hb dX1_stands_25 (by decide) ?_
      refine lv_icmp_ne (tgt := 33) hx hb dX1_stands_26 (by decide) (fun c_26 => ?_) (fun c_26 => ?_)
      · skip
        refine lv_iconst (v := 0) hx hb dX1_stands_33 (by decide) ?_
        exact W.zret (v := 0) (ty := .boolean) hx hb hr rfl (fun t9 ht _ => ⟨_, rfl, (sa_bf (by simp [sa_sd, sa_sec, sa_rat, sa_adv, sa_cat, sa_cnt, sa_aud, sa_less, sa_w, sa_nx, c_7, c_16, c_26])).symm, ht⟩) (fun _ h => nomatch h) dX1_stands_34
      · skip
        refine lv_iconst (v := 1) hx hb dX1_stands_29 (by decide) ?_
        refine lv_goto (tgt := 34) hx hb dX1_stands_30 (by decide) ?_
        exact W.zret (v := 1) (ty := .boolean) hx hb hr rfl (fun t9 ht _ => ⟨_, rfl, (sa_bt (by simp [sa_sd, sa_sec, sa_rat, sa_adv, sa_cat, sa_cnt, sa_aud, sa_less, sa_w, sa_nx, c_7, c_16, c_26])).symm, ht⟩) (fun _ h => nomatch h) dX1_stands_34

set_option maxHeartbeats 4000000 in
set_option maxRecDepth 100000 in
theorem c_X1_ratingFor (l : Launch) (G : va_G) (cI cZ cL : ClassId) (a : Nat → Nat) (σ : sa_St) (th : Int32) (hI : sa_I σ) (o at' : Int32) (ho : vp_in o (σ.1 1)) (hat : vp_in at' (σ.1 0)) : sa_Rd l yX1_ratingFor wsX1_ratingFor ({ frames := 0, cells := 0, slots := 0, locals := 0 }) G cI cZ cL (sa_W1 cI cZ a σ th) [.ref (a 0), .int (o), .int (at')] (sa_rat σ o at') := by
  obtain ⟨hnb, hno, hns, hgr, hor, hbr, hai⟩ := id hI
  refine Met.ofW (cc := cX1_ratingFor) (maxL := 3) (ret := (some .int)) (by decide) rfl ?_
  intro p e s m args below meth c s₁ B9 hml hv
  obtain ⟨rfl, hP, hK⟩ := hv
  have hx := B9.exec
  have hb := B9.bytes
  have hr := B9.returns
  have hlk := B9.notSynchronized
  have hts := atoms_spec (ws := wsX1_ratingFor) B9.pre
  have hown : s.vm.findClass RX1 = some m.cls := findClass_of_methodNamed B9.named
  have S : CallFix p m c cX1_ratingFor 3 s _ wsX1_ratingFor RX1 := ⟨hx, hb, hml, hown, hts⟩
  have hin : ∀ w ∈ wsX10, w ∈ wsX1_ratingFor := by decide +kernel
  have hl := lv_entry ([.ref (a 0), .int (o), .int (at')]) (n := 3) (Nat.le_of_ble_eq_true rfl)
  rw [lg_entry_eq]
  generalize (lg_sl ([.ref (a 0), .int (o), .int (at')]) ++ List.replicate (3 - (lg_sl ([.ref (a 0), .int (o), .int (at')])).length) Slot.unset).toArray = ls at hl ⊢
  have hl : lv_has ls 3 [(0, .ref (a 0)), (1, .int (o)), (2, .int (at'))] := hl
  refine lv_aload_n hx hb dX1_ratingFor_0 rfl (lv_at hl 0 rfl) ?_
  refine sa_g1_rating S hin hK hP (by decide +kernel) dX1_ratingFor_1 ?_
  refine lv_iconst (v := 3) hx hb dX1_ratingFor_4 (by decide) ?_
  refine lv_iload_n hx hb dX1_ratingFor_5 rfl (lv_at hl 2 rfl) ?_
  refine lv_imul hx hb dX1_ratingFor_6 ?_
  refine lv_aload_n hx hb dX1_ratingFor_7 rfl (lv_at hl 0 rfl) ?_
  refine sa_g1_group S hin hK hP (by decide +kernel) dX1_ratingFor_8 ?_
  refine lv_iload_n hx hb dX1_ratingFor_11 rfl (lv_at hl 1 rfl) ?_
  refine sa_ld 6 S hK hP rfl (sa_vm ho (by omega)) dX1_ratingFor_12 ?_
  refine lv_iadd hx hb dX1_ratingFor_13 ?_
  refine sa_ld 3 S hK hP rfl (by rw [Int32.mul_comm]; exact sa_cell (sa_vm hat hnb) (sa_grp hI ho)) dX1_ratingFor_14 ?_
  exact W.iret (v := σ.2 3 ((3 * at') + (σ.2 6 o.toNatClampNeg)).toNatClampNeg) hx hb hr (fun t9 ht _ => ⟨_, rfl, (by rw [Int32.mul_comm]), ht⟩) (fun _ h => nomatch h) dX1_ratingFor_15

set_option maxHeartbeats 4000000 in
set_option maxRecDepth 100000 in
theorem c_X1_roomWithout (l : Launch) (G : va_G) (cI cZ cL : ClassId) (a : Nat → Nat) (σ : sa_St) (th : Int32) (hI : sa_I σ) (at' w : Int32) (hat : vp_in at' (σ.1 0)) : sa_Rd l yX1_roomWithout wsX1_roomWithout ({ frames := 1, cells := 0, slots := 0, locals := 22 }) G cI cZ cL (sa_W1 cI cZ a σ th) [.ref (a 0), .int (at'), .int (w)] (sa_room σ at' w (σ.1 2)) := by
  obtain ⟨hnb, hno, hns, hgr, hor, hbr, hai⟩ := id hI
  refine Met.ofW (cc := cX1_roomWithout) (maxL := 5) (ret := (some .int)) (by decide) rfl ?_
  intro p e s m args below meth c s₁ B9 hml hv
  obtain ⟨rfl, hP, hK⟩ := hv
  have hx := B9.exec
  have hb := B9.bytes
  have hr := B9.returns
  have hlk := B9.notSynchronized
  have hts := atoms_spec (ws := wsX1_roomWithout) B9.pre
  have hown : s.vm.findClass RX1 = some m.cls := findClass_of_methodNamed B9.named
  have S : CallFix p m c cX1_roomWithout 5 s _ wsX1_roomWithout RX1 := ⟨hx, hb, hml, hown, hts⟩
  have hin : ∀ w ∈ wsX10, w ∈ wsX1_roomWithout := by decide +kernel
  have hl := lv_entry ([.ref (a 0), .int (at'), .int (w)]) (n := 5) (Nat.le_of_ble_eq_true rfl)
  rw [lg_entry_eq]
  generalize (lg_sl ([.ref (a 0), .int (at'), .int (w)]) ++ List.replicate (5 - (lg_sl ([.ref (a 0), .int (at'), .int (w)])).length) Slot.unset).toArray = ls at hl ⊢
  have hl : lv_has ls 5 [(0, .ref (a 0)), (1, .int (at')), (2, .int (w))] := hl
  refine lv_aload_n hx hb dX1_roomWithout_0 rfl (lv_at hl 0 rfl) ?_
  refine sa_g1_length S hin hK hP (by decide +kernel) dX1_roomWithout_1 ?_
  refine lv_iload_n hx hb dX1_roomWithout_4 rfl (lv_at hl 1 rfl) ?_
  refine sa_ld 1 S hK hP rfl (sa_vm hat (by omega)) dX1_roomWithout_5 ?_
  refine lv_istore_n (lv' := [(3, .int (σ.2 1 at'.toNatClampNeg)), (0, .ref (a 0)), (1, .int (at')), (2, .int (w))]) hx hb dX1_roomWithout_6 rfl hl (by decide) rfl (fun ls hl => ?_)
  refine lv_iconst (v := 0) hx hb dX1_roomWithout_7 (by decide) ?_
  refine lv_istore (lv' := [(4, .int (0)), (3, .int (σ.2 1 at'.toNatClampNeg)), (0, .ref (a 0)), (1, .int (at')), (2, .int (w))]) hx hb dX1_roomWithout_8 hl (by decide) rfl (fun ls hl => ?_)
  have loop : ∀ (n k : Nat), k + n = σ.1 2 → ∀ (x1 : Int32), x1 = sa_room σ at' w k →   ∀ ls : Array Slot, lv_has ls 5 [(4, .int (nI k)), (3, .int (x1)), (0, .ref (a 0)), (1, .int (at')), (2, .int (w))] → W p l e (headSpec wsX1_roomWithout ({ frames := 1, cells := 0, slots := 0, locals := 22 })).room s m ([Value.ref (a 0), Value.int (at'), Value.int (w)] : List Value).toArray below meth c s.heap [] 0 0 (MQ below (vp_Si (fun z => z = sa_room σ at' w (σ.1 2))) ([Value.ref (a 0), Value.int (at'), Value.int (w)] : List Value).toArray s 0 0 (fun _ => False)) (F0 m 10 ls []) := by
    intro n
    induction n with
    | zero =>
      intro k hk x1 hx1  ls hl
      have hk2 : k = σ.1 2 := by omega
      subst hk2
      refine lv_iload hx hb dX1_roomWithout_10 (lv_at hl 0 rfl) ?_
      refine lv_aload_n hx hb dX1_roomWithout_12 rfl (lv_at hl 2 rfl) ?_
      refine sa_g1_spots S hin hK hP (by decide +kernel) dX1_roomWithout_13 ?_
      refine lv_icmp_ge (tgt := 60) hx hb dX1_roomWithout_16 (by decide) (fun _ => ?_) (fun c9 => absurd (nI_le (Nat.le_refl _) (by omega)) c9)
      refine lv_iload_n hx hb dX1_roomWithout_60 rfl (lv_at hl 1 rfl) ?_
      exact W.iret (v := x1) hx hb hr (fun t9 ht _ => ⟨_, rfl, hx1, ht⟩) (fun _ h => nomatch h) dX1_roomWithout_61
    | succ n ih =>
      intro k hk x1 hx1  ls hl
      have hkn : k < σ.1 2 := by omega
      refine lv_iload hx hb dX1_roomWithout_10 (lv_at hl 0 rfl) ?_
      refine lv_aload_n hx hb dX1_roomWithout_12 rfl (lv_at hl 2 rfl) ?_
      refine sa_g1_spots S hin hK hP (by decide +kernel) dX1_roomWithout_13 ?_
      refine lv_icmp_ge (tgt := 60) hx hb dX1_roomWithout_16 (by decide) (fun c9 => absurd c9 (nI_ge (by omega) (by omega))) (fun _ => ?_)
      refine lv_iload_n hx hb dX1_roomWithout_19 rfl (lv_at hl 1 rfl) ?_
      refine lv_iload hx hb dX1_roomWithout_20 (lv_at hl 0 rfl) ?_
      refine lv_iload_n hx hb dX1_roomWithout_22 rfl (lv_at hl 4 rfl) ?_
      refine lv_icmp_eq (tgt := 51) hx hb dX1_roomWithout_23 (by decide) (fun c_23 => ?_) (fun c_23 => ?_)
      · skip
        refine lv_iconst (v := 0) hx hb dX1_roomWithout_51 (by decide) ?_
        refine lv_isub hx hb dX1_roomWithout_52 ?_
        refine lv_istore_n (lv' := [(3, .int (x1 - 0)), (4, .int (nI k)), (0, .ref (a 0)), (1, .int (at')), (2, .int (w))]) hx hb dX1_roomWithout_53 rfl hl (by decide) rfl (fun ls hl => ?_)
        refine lv_iinc (v := nI (k + 1)) (lv' := [(4, .int (nI (k + 1))), (3, .int (x1 - 0)), (0, .ref (a 0)), (1, .int (at')), (2, .int (w))]) hx hb dX1_roomWithout_54 hl (k := 1) rfl (nI_1 k) (by decide) rfl (fun ls hl => ?_)
        refine lv_goto (tgt := 10) hx hb dX1_roomWithout_57 (by decide) ?_
        exact ih (k + 1) (by omega) (x1 - 0) (by simp [sa_room, hx1, sa_sd, sa_sec, sa_rat, sa_adv, sa_cat, sa_cnt, sa_aud, sa_less, sa_w, sa_nx, c_23])  ls (lv_sub hl [0, 1, 2, 3, 4] rfl)
      · skip
        refine lv_aload_n hx hb dX1_roomWithout_26 rfl (lv_at hl 2 rfl) ?_
        refine lv_iload hx hb dX1_roomWithout_27 (lv_at hl 0 rfl) ?_
        refine lv_iload_n hx hb dX1_roomWithout_29 rfl (lv_at hl 3 rfl) ?_
        refine sa_kRd (As := [.int (nI k), .int (at')]) (rest := [.int (x1)]) S (c_X1_stands l G cI cZ cL a σ th k (by omega) at') (cwV 2 hts gX1_roomWithout_X1_stands rfl rfl rfl (by decide +kernel) ⟨Nat.le_of_ble_eq_true rfl, Nat.le_of_ble_eq_true rfl⟩) hP hK (ci := 1) rfl rfl rfl hl.1 (Nat.le_of_ble_eq_true rfl) rfl dX1_roomWithout_30 ⟨Nat.zero_le _, Nat.zero_le _⟩ ?_
        refine sa_spl (fun b_30 => ?_) (fun b_30 => ?_)
        · skip
          refine lv_if_eq (tgt := 51) hx hb dX1_roomWithout_33 (by decide) (fun c9 => absurd c9 (by decide)) (fun _ => ?_)
          refine lv_aload_n hx hb dX1_roomWithout_36 rfl (lv_at hl 2 rfl) ?_
          refine sa_g1_seconds S hin hK hP (by decide +kernel) dX1_roomWithout_37 ?_
          refine lv_aload_n hx hb dX1_roomWithout_40 rfl (lv_at hl 2 rfl) ?_
          refine sa_g1_order S hin hK hP (by decide +kernel) dX1_roomWithout_41 ?_
          refine lv_iload hx hb dX1_roomWithout_44 (lv_at hl 0 rfl) ?_
          refine sa_ldk 12 S hK hP rfl (by omega) (by decide) dX1_roomWithout_46 ?_
          refine sa_ld 7 S hK hP rfl (sa_vm (hor k (by omega)) (by omega)) dX1_roomWithout_47 ?_
          refine lv_goto (tgt := 52) hx hb dX1_roomWithout_48 (by decide) ?_
          refine lv_isub hx hb dX1_roomWithout_52 ?_
          refine lv_istore_n (lv' := [(3, .int (x1 - (σ.2 7 (σ.2 12 k).toNatClampNeg))), (4, .int (nI k)), (0, .ref (a 0)), (1, .int (at')), (2, .int (w))]) hx hb dX1_roomWithout_53 rfl hl (by decide) rfl (fun ls hl => ?_)
          refine lv_iinc (v := nI (k + 1)) (lv' := [(4, .int (nI (k + 1))), (3, .int (x1 - (σ.2 7 (σ.2 12 k).toNatClampNeg))), (0, .ref (a 0)), (1, .int (at')), (2, .int (w))]) hx hb dX1_roomWithout_54 hl (k := 1) rfl (nI_1 k) (by decide) rfl (fun ls hl => ?_)
          refine lv_goto (tgt := 10) hx hb dX1_roomWithout_57 (by decide) ?_
          exact ih (k + 1) (by omega) (x1 - (σ.2 7 (σ.2 12 k).toNatClampNeg)) (by simp [sa_room, hx1, sa_sd, sa_sec, sa_rat, sa_adv, sa_cat, sa_cnt, sa_aud, sa_less, sa_w, sa_nx, c_23, b_30])  ls (lv_sub hl [0, 1, 2, 3, 4] rfl)
        · skip
          refine lv_if_eq (tgt := 51) hx hb dX1_roomWithout_33 (by decide) (fun _ => ?_) (fun c9 => absurd (by decide) c9)
          refine lv_iconst (v := 0) hx hb dX1_roomWithout_51 (by decide) ?_
          refine lv_isub hx hb dX1_roomWithout_52 ?_
          refine lv_istore_n (lv' := [(3, .int (x1 - 0)), (4, .int (nI k)), (0, .ref (a 0)), (1, .int (at')), (2, .int (w))]) hx hb dX1_roomWithout_53 rfl hl (by decide) rfl (fun ls hl => ?_)
          refine lv_iinc (v := nI (k + 1)) (lv' := [(4, .int (nI (k + 1))), (3, .int (x1 - 0)), (0, .ref (a 0)), (1, .int (at')), (2, .int (w))]) hx hb dX1_roomWithout_54 hl (k := 1) rfl (nI_1 k) (by decide) rfl (fun ls hl => ?_)
          refine lv_goto (tgt := 10) hx hb dX1_roomWithout_57 (by decide) ?_
          exact ih (k + 1) (by omega) (x1 - 0) (by simp [sa_room, hx1, sa_sd, sa_sec, sa_rat, sa_adv, sa_cat, sa_cnt, sa_aud, sa_less, sa_w, sa_nx, c_23, b_30])  ls (lv_sub hl [0, 1, 2, 3, 4] rfl)
  exact loop (σ.1 2) 0 (Nat.zero_add _) (σ.2 1 at'.toNatClampNeg) rfl  ls (lv_sub hl [0, 1, 2, 3, 4] rfl)

set_option maxHeartbeats 4000000 in
set_option maxRecDepth 100000 in
theorem c_X1_sums (l : Launch) (G : va_G) (cI cZ cL : ClassId) (a : Nat → Nat) (σ : sa_St) (th : Int32) (hI : sa_I σ) (o st fr : Int32) (ho : vp_in o (σ.1 1)) : sa_Rd l yX1_sums wsX1_sums ({ frames := 1, cells := 0, slots := 0, locals := 22 }) G cI cZ cL (sa_W1 cI cZ a σ th) [.ref (a 0), .int (o), .int (st), .int (fr)] (sa_sum σ o st fr (σ.1 2)) := by
  obtain ⟨hnb, hno, hns, hgr, hor, hbr, hai⟩ := id hI
  refine Met.ofW (cc := cX1_sums) (maxL := 6) (ret := (some .int)) (by decide) rfl ?_
  intro p e s m args below meth c s₁ B9 hml hv
  obtain ⟨rfl, hP, hK⟩ := hv
  have hx := B9.exec
  have hb := B9.bytes
  have hr := B9.returns
  have hlk := B9.notSynchronized
  have hts := atoms_spec (ws := wsX1_sums) B9.pre
  have hown : s.vm.findClass RX1 = some m.cls := findClass_of_methodNamed B9.named
  have S : CallFix p m c cX1_sums 6 s _ wsX1_sums RX1 := ⟨hx, hb, hml, hown, hts⟩
  have hin : ∀ w ∈ wsX10, w ∈ wsX1_sums := by decide +kernel
  have hl := lv_entry ([.ref (a 0), .int (o), .int (st), .int (fr)]) (n := 6) (Nat.le_of_ble_eq_true rfl)
  rw [lg_entry_eq]
  generalize (lg_sl ([.ref (a 0), .int (o), .int (st), .int (fr)]) ++ List.replicate (6 - (lg_sl ([.ref (a 0), .int (o), .int (st), .int (fr)])).length) Slot.unset).toArray = ls at hl ⊢
  have hl : lv_has ls 6 [(0, .ref (a 0)), (1, .int (o)), (2, .int (st)), (3, .int (fr))] := hl
  refine lv_iconst (v := 0) hx hb dX1_sums_0 (by decide) ?_
  refine lv_istore (lv' := [(4, .int (0)), (0, .ref (a 0)), (1, .int (o)), (2, .int (st)), (3, .int (fr))]) hx hb dX1_sums_1 hl (by decide) rfl (fun ls hl => ?_)
  refine lv_iconst (v := 0) hx hb dX1_sums_3 (by decide) ?_
  refine lv_istore (lv' := [(5, .int (0)), (4, .int (0)), (0, .ref (a 0)), (1, .int (o)), (2, .int (st)), (3, .int (fr))]) hx hb dX1_sums_4 hl (by decide) rfl (fun ls hl => ?_)
  have loop : ∀ (n k : Nat), k + n = σ.1 2 → ∀ (x1 : Int32), x1 = sa_sum σ o st fr k →   ∀ ls : Array Slot, lv_has ls 6 [(5, .int (nI k)), (4, .int (x1)), (0, .ref (a 0)), (1, .int (o)), (2, .int (st)), (3, .int (fr))] → W p l e (headSpec wsX1_sums ({ frames := 1, cells := 0, slots := 0, locals := 22 })).room s m ([Value.ref (a 0), Value.int (o), Value.int (st), Value.int (fr)] : List Value).toArray below meth c s.heap [] 0 0 (MQ below (vp_Si (fun z => z = sa_sum σ o st fr (σ.1 2))) ([Value.ref (a 0), Value.int (o), Value.int (st), Value.int (fr)] : List Value).toArray s 0 0 (fun _ => False)) (F0 m 6 ls []) := by
    intro n
    induction n with
    | zero =>
      intro k hk x1 hx1  ls hl
      have hk2 : k = σ.1 2 := by omega
      subst hk2
      refine lv_iload hx hb dX1_sums_6 (lv_at hl 0 rfl) ?_
      refine lv_aload_n hx hb dX1_sums_8 rfl (lv_at hl 2 rfl) ?_
      refine sa_g1_spots S hin hK hP (by decide +kernel) dX1_sums_9 ?_
      refine lv_icmp_ge (tgt := 78) hx hb dX1_sums_12 (by decide) (fun _ => ?_) (fun c9 => absurd (nI_le (Nat.le_refl _) (by omega)) c9)
      refine lv_iload hx hb dX1_sums_78 (lv_at hl 1 rfl) ?_
      exact W.iret (v := x1) hx hb hr (fun t9 ht _ => ⟨_, rfl, hx1, ht⟩) (fun _ h => nomatch h) dX1_sums_80
    | succ n ih =>
      intro k hk x1 hx1  ls hl
      have hkn : k < σ.1 2 := by omega
      refine lv_iload hx hb dX1_sums_6 (lv_at hl 0 rfl) ?_
      refine lv_aload_n hx hb dX1_sums_8 rfl (lv_at hl 2 rfl) ?_
      refine sa_g1_spots S hin hK hP (by decide +kernel) dX1_sums_9 ?_
      refine lv_icmp_ge (tgt := 78) hx hb dX1_sums_12 (by decide) (fun c9 => absurd c9 (nI_ge (by omega) (by omega))) (fun _ => ?_)
      refine lv_iload hx hb dX1_sums_15 (lv_at hl 1 rfl) ?_
      refine lv_aload_n hx hb dX1_sums_17 rfl (lv_at hl 2 rfl) ?_
      refine sa_g1_order S hin hK hP (by decide +kernel) dX1_sums_18 ?_
      refine lv_iload hx hb dX1_sums_21 (lv_at hl 0 rfl) ?_
      refine sa_ldk 12 S hK hP rfl (by omega) (by decide) dX1_sums_23 ?_
      refine lv_iload_n hx hb dX1_sums_24 rfl (lv_at hl 3 rfl) ?_
      refine lv_icmp_ne (tgt := 68) hx hb dX1_sums_25 (by decide) (fun c_25 => ?_) (fun c_25 => ?_)
      · skip
        refine lv_iconst (v := 0) hx hb dX1_sums_68 (by decide) ?_
        refine lv_iadd hx hb dX1_sums_69 ?_
        refine lv_istore (lv' := [(4, .int (x1 + 0)), (5, .int (nI k)), (0, .ref (a 0)), (1, .int (o)), (2, .int (st)), (3, .int (fr))]) hx hb dX1_sums_70 hl (by decide) rfl (fun ls hl => ?_)
        refine lv_iinc (v := nI (k + 1)) (lv' := [(5, .int (nI (k + 1))), (4, .int (x1 + 0)), (0, .ref (a 0)), (1, .int (o)), (2, .int (st)), (3, .int (fr))]) hx hb dX1_sums_72 hl (k := 1) rfl (nI_1 k) (by decide) rfl (fun ls hl => ?_)
        refine lv_goto (tgt := 6) hx hb dX1_sums_75 (by decide) ?_
        exact ih (k + 1) (by omega) (x1 + 0) (by simp [sa_sum, hx1, sa_sd, sa_sec, sa_rat, sa_adv, sa_cat, sa_cnt, sa_aud, sa_less, sa_w, sa_nx, c_25])  ls (lv_sub hl [0, 1, 2, 3, 4, 5] rfl)
      · skip
        refine lv_aload_n hx hb dX1_sums_28 rfl (lv_at hl 2 rfl) ?_
        refine sa_g1_state S hin hK hP (by decide +kernel) dX1_sums_29 ?_
        refine lv_iload hx hb dX1_sums_32 (lv_at hl 0 rfl) ?_
        refine sa_ldk 14 S hK hP rfl (by omega) (by decide) dX1_sums_34 ?_
        refine lv_iload_n hx hb dX1_sums_35 rfl (lv_at hl 4 rfl) ?_
        refine lv_icmp_ne (tgt := 68) hx hb dX1_sums_36 (by decide) (fun c_36 => ?_) (fun c_36 => ?_)
        · skip
          refine lv_iconst (v := 0) hx hb dX1_sums_68 (by decide) ?_
          refine lv_iadd hx hb dX1_sums_69 ?_
          refine lv_istore (lv' := [(4, .int (x1 + 0)), (5, .int (nI k)), (0, .ref (a 0)), (1, .int (o)), (2, .int (st)), (3, .int (fr))]) hx hb dX1_sums_70 hl (by decide) rfl (fun ls hl => ?_)
          refine lv_iinc (v := nI (k + 1)) (lv' := [(5, .int (nI (k + 1))), (4, .int (x1 + 0)), (0, .ref (a 0)), (1, .int (o)), (2, .int (st)), (3, .int (fr))]) hx hb dX1_sums_72 hl (k := 1) rfl (nI_1 k) (by decide) rfl (fun ls hl => ?_)
          refine lv_goto (tgt := 6) hx hb dX1_sums_75 (by decide) ?_
          exact ih (k + 1) (by omega) (x1 + 0) (by simp [sa_sum, hx1, sa_sd, sa_sec, sa_rat, sa_adv, sa_cat, sa_cnt, sa_aud, sa_less, sa_w, sa_nx, c_25, c_36])  ls (lv_sub hl [0, 1, 2, 3, 4, 5] rfl)
        · skip
          refine lv_aload_n hx hb dX1_sums_39 rfl (lv_at hl 2 rfl) ?_
          refine sa_g1_free S hin hK hP (by decide +kernel) dX1_sums_40 ?_
          refine lv_iload hx hb dX1_sums_43 (lv_at hl 0 rfl) ?_
          refine sa_ldzk 15 S hK hP rfl (by omega) (by decide) dX1_sums_45 ?_
          refine lv_if_ne (tgt := 53) hx hb dX1_sums_46 (by decide) (fun c_46 => ?_) (fun c_46 => ?_)
          · skip
            refine lv_aload_n hx hb dX1_sums_53 rfl (lv_at hl 2 rfl) ?_
            refine lv_iload_n hx hb dX1_sums_54 rfl (lv_at hl 3 rfl) ?_
            refine lv_aload_n hx hb dX1_sums_55 rfl (lv_at hl 2 rfl) ?_
            refine sa_g1_where S hin hK hP (by decide +kernel) dX1_sums_56 ?_
            refine lv_iload hx hb dX1_sums_59 (lv_at hl 0 rfl) ?_
            refine sa_ldk 13 S hK hP rfl (by omega) (by decide) dX1_sums_61 ?_
            refine sa_kRd (As := [.int (o), .int (σ.2 13 k)]) (rest := [.int (x1)]) S (c_X1_ratingFor l G cI cZ cL a σ th hI o (σ.2 13 k) ho (hbr k (by omega))) (cwV 2 hts gX1_sums_X1_ratingFor rfl rfl rfl (by decide +kernel) ⟨Nat.le_of_ble_eq_true rfl, Nat.le_of_ble_eq_true rfl⟩) hP hK (ci := 1) rfl rfl rfl hl.1 (Nat.le_of_ble_eq_true rfl) rfl dX1_sums_62 ⟨Nat.zero_le _, Nat.zero_le _⟩ ?_
            refine lv_goto (tgt := 69) hx hb dX1_sums_65 (by decide) ?_
            refine lv_iadd hx hb dX1_sums_69 ?_
            refine lv_istore (lv' := [(4, .int (x1 + (sa_rat σ o (σ.2 13 k)))), (5, .int (nI k)), (0, .ref (a 0)), (1, .int (o)), (2, .int (st)), (3, .int (fr))]) hx hb dX1_sums_70 hl (by decide) rfl (fun ls hl => ?_)
            refine lv_iinc (v := nI (k + 1)) (lv' := [(5, .int (nI (k + 1))), (4, .int (x1 + (sa_rat σ o (σ.2 13 k)))), (0, .ref (a 0)), (1, .int (o)), (2, .int (st)), (3, .int (fr))]) hx hb dX1_sums_72 hl (k := 1) rfl (nI_1 k) (by decide) rfl (fun ls hl => ?_)
            refine lv_goto (tgt := 6) hx hb dX1_sums_75 (by decide) ?_
            exact ih (k + 1) (by omega) (x1 + (sa_rat σ o (σ.2 13 k))) (by simp [sa_sum, hx1, sa_sd, sa_sec, sa_rat, sa_adv, sa_cat, sa_cnt, sa_aud, sa_less, sa_w, sa_nx, c_25, c_36, c_46])  ls (lv_sub hl [0, 1, 2, 3, 4, 5] rfl)
          · skip
            refine lv_iload_n hx hb dX1_sums_49 rfl (lv_at hl 5 rfl) ?_
            refine lv_if_ne (tgt := 68) hx hb dX1_sums_50 (by decide) (fun c_50 => ?_) (fun c_50 => ?_)
            · skip
              refine lv_iconst (v := 0) hx hb dX1_sums_68 (by decide) ?_
              refine lv_iadd hx hb dX1_sums_69 ?_
              refine lv_istore (lv' := [(4, .int (x1 + 0)), (5, .int (nI k)), (0, .ref (a 0)), (1, .int (o)), (2, .int (st)), (3, .int (fr))]) hx hb dX1_sums_70 hl (by decide) rfl (fun ls hl => ?_)
              refine lv_iinc (v := nI (k + 1)) (lv' := [(5, .int (nI (k + 1))), (4, .int (x1 + 0)), (0, .ref (a 0)), (1, .int (o)), (2, .int (st)), (3, .int (fr))]) hx hb dX1_sums_72 hl (k := 1) rfl (nI_1 k) (by decide) rfl (fun ls hl => ?_)
              refine lv_goto (tgt := 6) hx hb dX1_sums_75 (by decide) ?_
              exact ih (k + 1) (by omega) (x1 + 0) (by simp [sa_sum, hx1, sa_sd, sa_sec, sa_rat, sa_adv, sa_cat, sa_cnt, sa_aud, sa_less, sa_w, sa_nx, c_25, c_36, c_46, c_50])  ls (lv_sub hl [0, 1, 2, 3, 4, 5] rfl)
            · skip
              refine lv_aload_n hx hb dX1_sums_53 rfl (lv_at hl 2 rfl) ?_
              refine lv_iload_n hx hb dX1_sums_54 rfl (lv_at hl 3 rfl) ?_
              refine lv_aload_n hx hb dX1_sums_55 rfl (lv_at hl 2 rfl) ?_
              refine sa_g1_where S hin hK hP (by decide +kernel) dX1_sums_56 ?_
              refine lv_iload hx hb dX1_sums_59 (lv_at hl 0 rfl) ?_
              refine sa_ldk 13 S hK hP rfl (by omega) (by decide) dX1_sums_61 ?_
              refine sa_kRd (As := [.int (o), .int (σ.2 13 k)]) (rest := [.int (x1)]) S (c_X1_ratingFor l G cI cZ cL a σ th hI o (σ.2 13 k) ho (hbr k (by omega))) (cwV 2 hts gX1_sums_X1_ratingFor rfl rfl rfl (by decide +kernel) ⟨Nat.le_of_ble_eq_true rfl, Nat.le_of_ble_eq_true rfl⟩) hP hK (ci := 1) rfl rfl rfl hl.1 (Nat.le_of_ble_eq_true rfl) rfl dX1_sums_62 ⟨Nat.zero_le _, Nat.zero_le _⟩ ?_
              refine lv_goto (tgt := 69) hx hb dX1_sums_65 (by decide) ?_
              refine lv_iadd hx hb dX1_sums_69 ?_
              refine lv_istore (lv' := [(4, .int (x1 + (sa_rat σ o (σ.2 13 k)))), (5, .int (nI k)), (0, .ref (a 0)), (1, .int (o)), (2, .int (st)), (3, .int (fr))]) hx hb dX1_sums_70 hl (by decide) rfl (fun ls hl => ?_)
              refine lv_iinc (v := nI (k + 1)) (lv' := [(5, .int (nI (k + 1))), (4, .int (x1 + (sa_rat σ o (σ.2 13 k)))), (0, .ref (a 0)), (1, .int (o)), (2, .int (st)), (3, .int (fr))]) hx hb dX1_sums_72 hl (k := 1) rfl (nI_1 k) (by decide) rfl (fun ls hl => ?_)
              refine lv_goto (tgt := 6) hx hb dX1_sums_75 (by decide) ?_
              exact ih (k + 1) (by omega) (x1 + (sa_rat σ o (σ.2 13 k))) (by simp [sa_sum, hx1, sa_sd, sa_sec, sa_rat, sa_adv, sa_cat, sa_cnt, sa_aud, sa_less, sa_w, sa_nx, c_25, c_36, c_46, c_50])  ls (lv_sub hl [0, 1, 2, 3, 4, 5] rfl)
  exact loop (σ.1 2) 0 (Nat.zero_add _) 0 rfl  ls (lv_sub hl [0, 1, 2, 3, 4, 5] rfl)

set_option maxHeartbeats 4000000 in
set_option maxRecDepth 100000 in
theorem c_X1_owes (l : Launch) (G : va_G) (cI cZ cL : ClassId) (a : Nat → Nat) (σ : sa_St) (th : Int32) (hI : sa_I σ) (o : Int32) (ho : vp_in o (σ.1 1)) : sa_Rd l yX1_owes wsX1_owes ({ frames := 2, cells := 0, slots := 0, locals := 47 }) G cI cZ cL (sa_W1 cI cZ a σ th) [.ref (a 0), .int (o)] (sa_owes σ o) := by
  obtain ⟨hnb, hno, hns, hgr, hor, hbr, hai⟩ := id hI
  refine Met.ofW (cc := cX1_owes) (maxL := 3) (ret := (some .int)) (by decide) rfl ?_
  intro p e s m args below meth c s₁ B9 hml hv
  obtain ⟨rfl, hP, hK⟩ := hv
  have hx := B9.exec
  have hb := B9.bytes
  have hr := B9.returns
  have hlk := B9.notSynchronized
  have hts := atoms_spec (ws := wsX1_owes) B9.pre
  have hown : s.vm.findClass RX1 = some m.cls := findClass_of_methodNamed B9.named
  have S : CallFix p m c cX1_owes 3 s _ wsX1_owes RX1 := ⟨hx, hb, hml, hown, hts⟩
  have hin : ∀ w ∈ wsX10, w ∈ wsX1_owes := by decide +kernel
  have hl := lv_entry ([.ref (a 0), .int (o)]) (n := 3) (Nat.le_of_ble_eq_true rfl)
  rw [lg_entry_eq]
  generalize (lg_sl ([.ref (a 0), .int (o)]) ++ List.replicate (3 - (lg_sl ([.ref (a 0), .int (o)])).length) Slot.unset).toArray = ls at hl ⊢
  have hl : lv_has ls 3 [(0, .ref (a 0)), (1, .int (o))] := hl
  refine lv_aload_n hx hb dX1_owes_0 rfl (lv_at hl 0 rfl) ?_
  refine sa_g1_promise S hin hK hP (by decide +kernel) dX1_owes_1 ?_
  refine lv_iload_n hx hb dX1_owes_4 rfl (lv_at hl 1 rfl) ?_
  refine sa_ld 9 S hK hP rfl (sa_vm ho (by omega)) dX1_owes_5 ?_
  refine lv_aload_n hx hb dX1_owes_6 rfl (lv_at hl 0 rfl) ?_
  refine lv_iload_n hx hb dX1_owes_7 rfl (lv_at hl 1 rfl) ?_
  refine lv_iconst (v := 1) hx hb dX1_owes_8 (by decide) ?_
  refine lv_iconst (v := 0) hx hb dX1_owes_9 (by decide) ?_
  refine sa_kRd (As := [.int (o), .int (1), .int (0)]) (rest := [.int (σ.2 9 o.toNatClampNeg)]) S (c_X1_sums l G cI cZ cL a σ th hI o 1 0 ho) (cwV 3 hts gX1_owes_X1_sums rfl rfl rfl (by decide +kernel) ⟨Nat.le_of_ble_eq_true rfl, Nat.le_of_ble_eq_true rfl⟩) hP hK (ci := 1) rfl rfl rfl hl.1 (Nat.le_of_ble_eq_true rfl) rfl dX1_owes_10 ⟨Nat.zero_le _, Nat.zero_le _⟩ ?_
  refine lv_isub hx hb dX1_owes_13 ?_
  refine lv_istore_n (lv' := [(2, .int ((σ.2 9 o.toNatClampNeg) - (sa_sum σ o 1 0 (σ.1 2)))), (0, .ref (a 0)), (1, .int (o))]) hx hb dX1_owes_14 rfl hl (by decide) rfl (fun ls hl => ?_)
  refine lv_aload_n hx hb dX1_owes_15 rfl (lv_at hl 1 rfl) ?_
  refine sa_g1_closed S hin hK hP (by decide +kernel) dX1_owes_16 ?_
  refine lv_iload_n hx hb dX1_owes_19 rfl (lv_at hl 2 rfl) ?_
  refine sa_ldz 11 S hK hP rfl (sa_vm ho (by omega)) dX1_owes_20 ?_
  refine lv_if_eq (tgt := 32) hx hb dX1_owes_21 (by decide) (fun c_21 => ?_) (fun c_21 => ?_)
  · skip
    refine lv_iconst (v := 0) hx hb dX1_owes_32 (by decide) ?_
    exact W.iret (v := 0) hx hb hr (fun t9 ht _ => ⟨_, rfl, (by unfold sa_owes; simp [sa_sd, sa_sec, sa_rat, sa_adv, sa_cat, sa_cnt, sa_aud, sa_less, sa_w, sa_nx, c_21]), ht⟩) (fun _ h => nomatch h) dX1_owes_33
  · skip
    refine lv_iload_n hx hb dX1_owes_24 rfl (lv_at hl 0 rfl) ?_
    refine lv_if_le (tgt := 32) hx hb dX1_owes_25 (by decide) (fun c_25 => ?_) (fun c_25 => ?_)
    · skip
      have c_25 := Int32.not_lt.mpr c_25
      refine lv_iconst (v := 0) hx hb dX1_owes_32 (by decide) ?_
      exact W.iret (v := 0) hx hb hr (fun t9 ht _ => ⟨_, rfl, (by unfold sa_owes; simp [sa_sd, sa_sec, sa_rat, sa_adv, sa_cat, sa_cnt, sa_aud, sa_less, sa_w, sa_nx, c_21, c_25]), ht⟩) (fun _ h => nomatch h) dX1_owes_33
    · skip
      have c_25 := Int32.not_le.mp c_25
      refine lv_iload_n hx hb dX1_owes_28 rfl (lv_at hl 0 rfl) ?_
      refine lv_goto (tgt := 33) hx hb dX1_owes_29 (by decide) ?_
      exact W.iret (v := (σ.2 9 o.toNatClampNeg) - (sa_sum σ o 1 0 (σ.1 2))) hx hb hr (fun t9 ht _ => ⟨_, rfl, (by unfold sa_owes; simp [sa_sd, sa_sec, sa_rat, sa_adv, sa_cat, sa_cnt, sa_aud, sa_less, sa_w, sa_nx, c_21, c_25]), ht⟩) (fun _ h => nomatch h) dX1_owes_33

set_option maxHeartbeats 4000000 in
set_option maxRecDepth 100000 in
theorem c_X1_left (l : Launch) (G : va_G) (cI cZ cL : ClassId) (a : Nat → Nat) (σ : sa_St) (th : Int32) (hI : sa_I σ) (o : Int32) (ho : vp_in o (σ.1 1)) : sa_Rd l yX1_left wsX1_left ({ frames := 3, cells := 0, slots := 0, locals := 69 }) G cI cZ cL (sa_W1 cI cZ a σ th) [.ref (a 0), .int (o)] (sa_left σ o) := by
  obtain ⟨hnb, hno, hns, hgr, hor, hbr, hai⟩ := id hI
  refine Met.ofW (cc := cX1_left) (maxL := 3) (ret := (some .int)) (by decide) rfl ?_
  intro p e s m args below meth c s₁ B9 hml hv
  obtain ⟨rfl, hP, hK⟩ := hv
  have hx := B9.exec
  have hb := B9.bytes
  have hr := B9.returns
  have hlk := B9.notSynchronized
  have hts := atoms_spec (ws := wsX1_left) B9.pre
  have hown : s.vm.findClass RX1 = some m.cls := findClass_of_methodNamed B9.named
  have S : CallFix p m c cX1_left 3 s _ wsX1_left RX1 := ⟨hx, hb, hml, hown, hts⟩
  have hl := lv_entry ([.ref (a 0), .int (o)]) (n := 3) (Nat.le_of_ble_eq_true rfl)
  rw [lg_entry_eq]
  generalize (lg_sl ([.ref (a 0), .int (o)]) ++ List.replicate (3 - (lg_sl ([.ref (a 0), .int (o)])).length) Slot.unset).toArray = ls at hl ⊢
  have hl : lv_has ls 3 [(0, .ref (a 0)), (1, .int (o))] := hl
  refine lv_aload_n hx hb dX1_left_0 rfl (lv_at hl 0 rfl) ?_
  refine lv_iload_n hx hb dX1_left_1 rfl (lv_at hl 1 rfl) ?_
  refine sa_kRd (As := [.int (o)]) (rest := []) S (c_X1_owes l G cI cZ cL a σ th hI o ho) (cwV 1 hts gX1_left_X1_owes rfl rfl rfl (by decide +kernel) ⟨Nat.le_of_ble_eq_true rfl, Nat.le_of_ble_eq_true rfl⟩) hP hK (ci := 1) rfl rfl rfl hl.1 (Nat.le_of_ble_eq_true rfl) rfl dX1_left_2 ⟨Nat.zero_le _, Nat.zero_le _⟩ ?_
  refine lv_aload_n hx hb dX1_left_5 rfl (lv_at hl 0 rfl) ?_
  refine lv_iload_n hx hb dX1_left_6 rfl (lv_at hl 1 rfl) ?_
  refine lv_iconst (v := 0) hx hb dX1_left_7 (by decide) ?_
  refine lv_iconst (v := 1) hx hb dX1_left_8 (by decide) ?_
  refine sa_kRd (As := [.int (o), .int (0), .int (1)]) (rest := [.int (sa_owes σ o)]) S (c_X1_sums l G cI cZ cL a σ th hI o 0 1 ho) (cwV 3 hts gX1_left_X1_sums rfl rfl rfl (by decide +kernel) ⟨Nat.le_of_ble_eq_true rfl, Nat.le_of_ble_eq_true rfl⟩) hP hK (ci := 1) rfl rfl rfl hl.1 (Nat.le_of_ble_eq_true rfl) rfl dX1_left_9 ⟨Nat.zero_le _, Nat.zero_le _⟩ ?_
  refine lv_isub hx hb dX1_left_12 ?_
  refine lv_istore_n (lv' := [(2, .int ((sa_owes σ o) - (sa_sum σ o 0 1 (σ.1 2)))), (0, .ref (a 0)), (1, .int (o))]) hx hb dX1_left_13 rfl hl (by decide) rfl (fun ls hl => ?_)
  refine lv_iload_n hx hb dX1_left_14 rfl (lv_at hl 0 rfl) ?_
  refine lv_if_le (tgt := 22) hx hb dX1_left_15 (by decide) (fun c_15 => ?_) (fun c_15 => ?_)
  · skip
    have c_15 := Int32.not_lt.mpr c_15
    refine lv_iconst (v := 0) hx hb dX1_left_22 (by decide) ?_
    exact W.iret (v := 0) hx hb hr (fun t9 ht _ => ⟨_, rfl, (by unfold sa_left; simp [c_15]), ht⟩) (fun _ h => nomatch h) dX1_left_23
  · skip
    have c_15 := Int32.not_le.mp c_15
    refine lv_iload_n hx hb dX1_left_18 rfl (lv_at hl 0 rfl) ?_
    refine lv_goto (tgt := 23) hx hb dX1_left_19 (by decide) ?_
    exact W.iret (v := (sa_owes σ o) - (sa_sum σ o 0 1 (σ.1 2))) hx hb hr (fun t9 ht _ => ⟨_, rfl, (by unfold sa_left; simp [c_15]), ht⟩) (fun _ h => nomatch h) dX1_left_23

set_option maxHeartbeats 4000000 in
set_option maxRecDepth 100000 in
theorem c_X1_isThere (l : Launch) (G : va_G) (cI cZ cL : ClassId) (a : Nat → Nat) (σ : sa_St) (th : Int32) (hI : sa_I σ) (o at' w rv : Int32) (ho : vp_in o (σ.1 1)) : sa_Rd l yX1_isThere wsX1_isThere ({ frames := 1, cells := 0, slots := 0, locals := 22 }) G cI cZ cL (sa_W1 cI cZ a σ th) [.ref (a 0), .int (o), .int (at'), .int (w), .int (rv)] (sa_b (sa_th σ o at' w rv (σ.1 2) = true)) := by
  obtain ⟨hnb, hno, hns, hgr, hor, hbr, hai⟩ := id hI
  refine Met.ofW (cc := cX1_isThere) (maxL := 9) (ret := (some .boolean)) (by decide) rfl ?_
  intro p e s m args below meth c s₁ B9 hml hv
  obtain ⟨rfl, hP, hK⟩ := hv
  have hx := B9.exec
  have hb := B9.bytes
  have hr := B9.returns
  have hlk := B9.notSynchronized
  have hts := atoms_spec (ws := wsX1_isThere) B9.pre
  have hown : s.vm.findClass RX1 = some m.cls := findClass_of_methodNamed B9.named
  have S : CallFix p m c cX1_isThere 9 s _ wsX1_isThere RX1 := ⟨hx, hb, hml, hown, hts⟩
  have hin : ∀ w ∈ wsX10, w ∈ wsX1_isThere := by decide +kernel
  have hl := lv_entry ([.ref (a 0), .int (o), .int (at'), .int (w), .int (rv)]) (n := 9) (Nat.le_of_ble_eq_true rfl)
  rw [lg_entry_eq]
  generalize (lg_sl ([.ref (a 0), .int (o), .int (at'), .int (w), .int (rv)]) ++ List.replicate (9 - (lg_sl ([.ref (a 0), .int (o), .int (at'), .int (w), .int (rv)])).length) Slot.unset).toArray = ls at hl ⊢
  have hl : lv_has ls 9 [(0, .ref (a 0)), (1, .int (o)), (2, .int (at')), (3, .int (w)), (4, .int (rv))] := hl
  refine lv_iconst (v := 0) hx hb dX1_isThere_0 (by decide) ?_
  refine lv_istore (lv' := [(5, .int (0)), (0, .ref (a 0)), (1, .int (o)), (2, .int (at')), (3, .int (w)), (4, .int (rv))]) hx hb dX1_isThere_1 hl (by decide) rfl (fun ls hl => ?_)
  refine lv_iconst (v := 0) hx hb dX1_isThere_3 (by decide) ?_
  refine lv_istore (lv' := [(6, .int (0)), (5, .int (0)), (0, .ref (a 0)), (1, .int (o)), (2, .int (at')), (3, .int (w)), (4, .int (rv))]) hx hb dX1_isThere_4 hl (by decide) rfl (fun ls hl => ?_)
  have loop : ∀ (n k : Nat), k + n = σ.1 2 →    ∀ ls : Array Slot, lv_has ls 9 [(6, .int (nI k)), (5, .int (sa_b (sa_th σ o at' w rv k = true))), (0, .ref (a 0)), (1, .int (o)), (2, .int (at')), (3, .int (w)), (4, .int (rv))] → W p l e (headSpec wsX1_isThere ({ frames := 1, cells := 0, slots := 0, locals := 22 })).room s m ([Value.ref (a 0), Value.int (o), Value.int (at'), Value.int (w), Value.int (rv)] : List Value).toArray below meth c s.heap [] 0 0 (MQ below (vp_Si (fun z => z = sa_b (sa_th σ o at' w rv (σ.1 2) = true))) ([Value.ref (a 0), Value.int (o), Value.int (at'), Value.int (w), Value.int (rv)] : List Value).toArray s 0 0 (fun _ => False)) (F0 m 6 ls []) := by
    intro n
    induction n with
    | zero =>
      intro k hk   ls hl
      have hk2 : k = σ.1 2 := by omega
      subst hk2
      refine lv_iload hx hb dX1_isThere_6 (lv_at hl 0 rfl) ?_
      refine lv_aload_n hx hb dX1_isThere_8 rfl (lv_at hl 2 rfl) ?_
      refine sa_g1_spots S hin hK hP (by decide +kernel) dX1_isThere_9 ?_
      refine lv_icmp_ge (tgt := 125) hx hb dX1_isThere_12 (by decide) (fun _ => ?_) (fun c9 => absurd (nI_le (Nat.le_refl _) (by omega)) c9)
      refine lv_iload hx hb dX1_isThere_125 (lv_at hl 1 rfl) ?_
      exact W.zret (v := sa_b (sa_th σ o at' w rv (σ.1 2) = true)) (ty := .boolean) hx hb hr sa_narb (fun t9 ht _ => ⟨_, rfl, rfl, ht⟩) (fun _ h => nomatch h) dX1_isThere_127
    | succ n ih =>
      intro k hk   ls hl
      have hkn : k < σ.1 2 := by omega
      refine lv_iload hx hb dX1_isThere_6 (lv_at hl 0 rfl) ?_
      refine lv_aload_n hx hb dX1_isThere_8 rfl (lv_at hl 2 rfl) ?_
      refine sa_g1_spots S hin hK hP (by decide +kernel) dX1_isThere_9 ?_
      refine lv_icmp_ge (tgt := 125) hx hb dX1_isThere_12 (by decide) (fun c9 => absurd c9 (nI_ge (by omega) (by omega))) (fun _ => ?_)
      refine lv_aload_n hx hb dX1_isThere_15 rfl (lv_at hl 2 rfl) ?_
      refine sa_g1_advertiser S hin hK hP (by decide +kernel) dX1_isThere_16 ?_
      refine lv_aload_n hx hb dX1_isThere_19 rfl (lv_at hl 2 rfl) ?_
      refine sa_g1_order S hin hK hP (by decide +kernel) dX1_isThere_20 ?_
      refine lv_iload hx hb dX1_isThere_23 (lv_at hl 0 rfl) ?_
      refine sa_ldk 12 S hK hP rfl (by omega) (by decide) dX1_isThere_25 ?_
      refine sa_ld 4 S hK hP rfl (sa_vm (hor k (by omega)) (by omega)) dX1_isThere_26 ?_
      refine lv_aload_n hx hb dX1_isThere_27 rfl (lv_at hl 2 rfl) ?_
      refine sa_g1_advertiser S hin hK hP (by decide +kernel) dX1_isThere_28 ?_
      refine lv_iload_n hx hb dX1_isThere_31 rfl (lv_at hl 3 rfl) ?_
      refine sa_ld 4 S hK hP rfl (sa_vm ho (by omega)) dX1_isThere_32 ?_
      refine lv_icmp_ne (tgt := 40) hx hb dX1_isThere_33 (by decide) (fun c_33 => ?_) (fun c_33 => ?_)
      · skip
        refine lv_iconst (v := 0) hx hb dX1_isThere_40 (by decide) ?_
        refine lv_istore (lv' := [(7, .int (0)), (6, .int (nI k)), (5, .int (sa_b (sa_th σ o at' w rv k = true))), (0, .ref (a 0)), (1, .int (o)), (2, .int (at')), (3, .int (w)), (4, .int (rv))]) hx hb dX1_isThere_41 hl (by decide) rfl (fun ls hl => ?_)
        refine lv_iload hx hb dX1_isThere_43 (lv_at hl 7 rfl) ?_
        refine lv_if_eq (tgt := 82) hx hb dX1_isThere_45 (by decide) (fun c_45 => ?_) (fun c_45 => ?_)
        · skip
          refine lv_iload hx hb dX1_isThere_82 (lv_at hl 0 rfl) ?_
          refine lv_istore (lv' := [(8, .int (0)), (7, .int (0)), (6, .int (nI k)), (5, .int (sa_b (sa_th σ o at' w rv k = true))), (0, .ref (a 0)), (1, .int (o)), (2, .int (at')), (3, .int (w)), (4, .int (rv))]) hx hb dX1_isThere_84 hl (by decide) rfl (fun ls hl => ?_)
          refine lv_iload hx hb dX1_isThere_86 (lv_at hl 3 rfl) ?_
          refine lv_if_ne (tgt := 112) hx hb dX1_isThere_88 (by decide) (fun c_88 => ?_) (fun c_88 => ?_)
          · skip
            have c_88 := sa_b1 c_88
            refine lv_iconst (v := 1) hx hb dX1_isThere_112 (by decide) ?_
            refine lv_goto (tgt := 117) hx hb dX1_isThere_113 (by decide) ?_
            refine lv_istore (lv' := [(5, .int (1)), (8, .int (0)), (7, .int (0)), (6, .int (nI k)), (0, .ref (a 0)), (1, .int (o)), (2, .int (at')), (3, .int (w)), (4, .int (rv))]) hx hb dX1_isThere_117 hl (by decide) rfl (fun ls hl => ?_)
            refine lv_iinc (v := nI (k + 1)) (lv' := [(6, .int (nI (k + 1))), (5, .int (1)), (8, .int (0)), (7, .int (0)), (0, .ref (a 0)), (1, .int (o)), (2, .int (at')), (3, .int (w)), (4, .int (rv))]) hx hb dX1_isThere_119 hl (k := 3) rfl (nI_1 k) (by decide) rfl (fun ls hl => ?_)
            refine lv_goto (tgt := 6) hx hb dX1_isThere_122 (by decide) ?_
            exact ih (k + 1) (by omega)   ls (by rw [show sa_b (sa_th σ o at' w rv (k + 1) = true) = 1 from sa_bt (by have z8 := c_88; (try simp only [Bool.not_eq_true] at z8); rw [show sa_th σ o at' w rv (k + 1) = (sa_th σ o at' w rv k || decide (¬ nI k = w ∧ sa_sd σ k at' ∧ sa_cnt σ k o rv)) from rfl, z8]; simp [sa_sd, sa_sec, sa_rat, sa_adv, sa_cat, sa_cnt, sa_aud, sa_less, sa_w, sa_nx, c_33, c_45])]; exact lv_sub hl [0, 1, 4, 5, 6, 7, 8] rfl)
          · skip
            have c_88 := sa_b0 c_88
            refine lv_iload hx hb dX1_isThere_91 (lv_at hl 2 rfl) ?_
            refine lv_iload_n hx hb dX1_isThere_93 rfl (lv_at hl 7 rfl) ?_
            refine lv_icmp_eq (tgt := 116) hx hb dX1_isThere_94 (by decide) (fun c_94 => ?_) (fun c_94 => ?_)
            · skip
              refine lv_iconst (v := 0) hx hb dX1_isThere_116 (by decide) ?_
              refine lv_istore (lv' := [(5, .int (0)), (8, .int (0)), (7, .int (0)), (6, .int (nI k)), (0, .ref (a 0)), (1, .int (o)), (2, .int (at')), (3, .int (w)), (4, .int (rv))]) hx hb dX1_isThere_117 hl (by decide) rfl (fun ls hl => ?_)
              refine lv_iinc (v := nI (k + 1)) (lv' := [(6, .int (nI (k + 1))), (5, .int (0)), (8, .int (0)), (7, .int (0)), (0, .ref (a 0)), (1, .int (o)), (2, .int (at')), (3, .int (w)), (4, .int (rv))]) hx hb dX1_isThere_119 hl (k := 3) rfl (nI_1 k) (by decide) rfl (fun ls hl => ?_)
              refine lv_goto (tgt := 6) hx hb dX1_isThere_122 (by decide) ?_
              exact ih (k + 1) (by omega)   ls (by rw [show sa_b (sa_th σ o at' w rv (k + 1) = true) = 0 from sa_bf (by have z8 := c_88; (try simp only [Bool.not_eq_true] at z8); rw [show sa_th σ o at' w rv (k + 1) = (sa_th σ o at' w rv k || decide (¬ nI k = w ∧ sa_sd σ k at' ∧ sa_cnt σ k o rv)) from rfl, z8]; simp [sa_sd, sa_sec, sa_rat, sa_adv, sa_cat, sa_cnt, sa_aud, sa_less, sa_w, sa_nx, c_33, c_45, c_94])]; exact lv_sub hl [0, 1, 4, 5, 6, 7, 8] rfl)
            · skip
              refine lv_aload_n hx hb dX1_isThere_97 rfl (lv_at hl 4 rfl) ?_
              refine lv_iload hx hb dX1_isThere_98 (lv_at hl 2 rfl) ?_
              refine lv_iload_n hx hb dX1_isThere_100 rfl (lv_at hl 6 rfl) ?_
              refine sa_kRd (As := [.int (nI k), .int (at')]) (rest := []) S (c_X1_stands l G cI cZ cL a σ th k (by omega) at') (cwV 2 hts gX1_isThere_X1_stands rfl rfl rfl (by decide +kernel) ⟨Nat.le_of_ble_eq_true rfl, Nat.le_of_ble_eq_true rfl⟩) hP hK (ci := 1) rfl rfl rfl hl.1 (Nat.le_of_ble_eq_true rfl) rfl dX1_isThere_101 ⟨Nat.zero_le _, Nat.zero_le _⟩ ?_
              refine sa_spl (fun b_101 => ?_) (fun b_101 => ?_)
              · skip
                refine lv_if_eq (tgt := 116) hx hb dX1_isThere_104 (by decide) (fun c9 => absurd c9 (by decide)) (fun _ => ?_)
                refine lv_iload hx hb dX1_isThere_107 (lv_at hl 0 rfl) ?_
                refine lv_if_eq (tgt := 116) hx hb dX1_isThere_109 (by decide) (fun _ => ?_) (fun c9 => absurd (by decide) c9)
                refine lv_iconst (v := 0) hx hb dX1_isThere_116 (by decide) ?_
                refine lv_istore (lv' := [(5, .int (0)), (8, .int (0)), (7, .int (0)), (6, .int (nI k)), (0, .ref (a 0)), (1, .int (o)), (2, .int (at')), (3, .int (w)), (4, .int (rv))]) hx hb dX1_isThere_117 hl (by decide) rfl (fun ls hl => ?_)
                refine lv_iinc (v := nI (k + 1)) (lv' := [(6, .int (nI (k + 1))), (5, .int (0)), (8, .int (0)), (7, .int (0)), (0, .ref (a 0)), (1, .int (o)), (2, .int (at')), (3, .int (w)), (4, .int (rv))]) hx hb dX1_isThere_119 hl (k := 3) rfl (nI_1 k) (by decide) rfl (fun ls hl => ?_)
                refine lv_goto (tgt := 6) hx hb dX1_isThere_122 (by decide) ?_
                exact ih (k + 1) (by omega)   ls (by rw [show sa_b (sa_th σ o at' w rv (k + 1) = true) = 0 from sa_bf (by have z8 := c_88; (try simp only [Bool.not_eq_true] at z8); rw [show sa_th σ o at' w rv (k + 1) = (sa_th σ o at' w rv k || decide (¬ nI k = w ∧ sa_sd σ k at' ∧ sa_cnt σ k o rv)) from rfl, z8]; simp [sa_sd, sa_sec, sa_rat, sa_adv, sa_cat, sa_cnt, sa_aud, sa_less, sa_w, sa_nx, c_33, c_45, c_94, b_101])]; exact lv_sub hl [0, 1, 4, 5, 6, 7, 8] rfl)
              · skip
                refine lv_if_eq (tgt := 116) hx hb dX1_isThere_104 (by decide) (fun _ => ?_) (fun c9 => absurd (by decide) c9)
                refine lv_iconst (v := 0) hx hb dX1_isThere_116 (by decide) ?_
                refine lv_istore (lv' := [(5, .int (0)), (8, .int (0)), (7, .int (0)), (6, .int (nI k)), (0, .ref (a 0)), (1, .int (o)), (2, .int (at')), (3, .int (w)), (4, .int (rv))]) hx hb dX1_isThere_117 hl (by decide) rfl (fun ls hl => ?_)
                refine lv_iinc (v := nI (k + 1)) (lv' := [(6, .int (nI (k + 1))), (5, .int (0)), (8, .int (0)), (7, .int (0)), (0, .ref (a 0)), (1, .int (o)), (2, .int (at')), (3, .int (w)), (4, .int (rv))]) hx hb dX1_isThere_119 hl (k := 3) rfl (nI_1 k) (by decide) rfl (fun ls hl => ?_)
                refine lv_goto (tgt := 6) hx hb dX1_isThere_122 (by decide) ?_
                exact ih (k + 1) (by omega)   ls (by rw [show sa_b (sa_th σ o at' w rv (k + 1) = true) = 0 from sa_bf (by have z8 := c_88; (try simp only [Bool.not_eq_true] at z8); rw [show sa_th σ o at' w rv (k + 1) = (sa_th σ o at' w rv k || decide (¬ nI k = w ∧ sa_sd σ k at' ∧ sa_cnt σ k o rv)) from rfl, z8]; simp [sa_sd, sa_sec, sa_rat, sa_adv, sa_cat, sa_cnt, sa_aud, sa_less, sa_w, sa_nx, c_33, c_45, c_94, b_101])]; exact lv_sub hl [0, 1, 4, 5, 6, 7, 8] rfl)
        · skip
          refine lv_iload hx hb dX1_isThere_48 (lv_at hl 0 rfl) ?_
          refine lv_if_ne (tgt := 78) hx hb dX1_isThere_50 (by decide) (fun c9 => absurd (by decide) c9) (fun _ => ?_)
          refine lv_aload_n hx hb dX1_isThere_53 rfl (lv_at hl 3 rfl) ?_
          refine sa_g1_category S hin hK hP (by decide +kernel) dX1_isThere_54 ?_
          refine lv_aload_n hx hb dX1_isThere_57 rfl (lv_at hl 3 rfl) ?_
          refine sa_g1_order S hin hK hP (by decide +kernel) dX1_isThere_58 ?_
          refine lv_iload hx hb dX1_isThere_61 (lv_at hl 1 rfl) ?_
          refine sa_ldk 12 S hK hP rfl (by omega) (by decide) dX1_isThere_63 ?_
          refine sa_ld 5 S hK hP rfl (sa_vm (hor k (by omega)) (by omega)) dX1_isThere_64 ?_
          refine lv_aload_n hx hb dX1_isThere_65 rfl (lv_at hl 3 rfl) ?_
          refine sa_g1_category S hin hK hP (by decide +kernel) dX1_isThere_66 ?_
          refine lv_iload_n hx hb dX1_isThere_69 rfl (lv_at hl 4 rfl) ?_
          refine sa_ld 5 S hK hP rfl (sa_vm ho (by omega)) dX1_isThere_70 ?_
          refine lv_icmp_ne (tgt := 78) hx hb dX1_isThere_71 (by decide) (fun c_71 => ?_) (fun c_71 => ?_)
          · skip
            refine lv_iconst (v := 0) hx hb dX1_isThere_78 (by decide) ?_
            refine lv_goto (tgt := 84) hx hb dX1_isThere_79 (by decide) ?_
            refine lv_istore (lv' := [(8, .int (0)), (7, .int (0)), (6, .int (nI k)), (5, .int (sa_b (sa_th σ o at' w rv k = true))), (0, .ref (a 0)), (1, .int (o)), (2, .int (at')), (3, .int (w)), (4, .int (rv))]) hx hb dX1_isThere_84 hl (by decide) rfl (fun ls hl => ?_)
            refine lv_iload hx hb dX1_isThere_86 (lv_at hl 3 rfl) ?_
            refine lv_if_ne (tgt := 112) hx hb dX1_isThere_88 (by decide) (fun c_88 => ?_) (fun c_88 => ?_)
            · skip
              have c_88 := sa_b1 c_88
              refine lv_iconst (v := 1) hx hb dX1_isThere_112 (by decide) ?_
              refine lv_goto (tgt := 117) hx hb dX1_isThere_113 (by decide) ?_
              refine lv_istore (lv' := [(5, .int (1)), (8, .int (0)), (7, .int (0)), (6, .int (nI k)), (0, .ref (a 0)), (1, .int (o)), (2, .int (at')), (3, .int (w)), (4, .int (rv))]) hx hb dX1_isThere_117 hl (by decide) rfl (fun ls hl => ?_)
              refine lv_iinc (v := nI (k + 1)) (lv' := [(6, .int (nI (k + 1))), (5, .int (1)), (8, .int (0)), (7, .int (0)), (0, .ref (a 0)), (1, .int (o)), (2, .int (at')), (3, .int (w)), (4, .int (rv))]) hx hb dX1_isThere_119 hl (k := 3) rfl (nI_1 k) (by decide) rfl (fun ls hl => ?_)
              refine lv_goto (tgt := 6) hx hb dX1_isThere_122 (by decide) ?_
              exact ih (k + 1) (by omega)   ls (by rw [show sa_b (sa_th σ o at' w rv (k + 1) = true) = 1 from sa_bt (by have z8 := c_88; (try simp only [Bool.not_eq_true] at z8); rw [show sa_th σ o at' w rv (k + 1) = (sa_th σ o at' w rv k || decide (¬ nI k = w ∧ sa_sd σ k at' ∧ sa_cnt σ k o rv)) from rfl, z8]; simp [sa_sd, sa_sec, sa_rat, sa_adv, sa_cat, sa_cnt, sa_aud, sa_less, sa_w, sa_nx, c_33, c_45, c_71])]; exact lv_sub hl [0, 1, 4, 5, 6, 7, 8] rfl)
            · skip
              have c_88 := sa_b0 c_88
              refine lv_iload hx hb dX1_isThere_91 (lv_at hl 2 rfl) ?_
              refine lv_iload_n hx hb dX1_isThere_93 rfl (lv_at hl 7 rfl) ?_
              refine lv_icmp_eq (tgt := 116) hx hb dX1_isThere_94 (by decide) (fun c_94 => ?_) (fun c_94 => ?_)
              · skip
                refine lv_iconst (v := 0) hx hb dX1_isThere_116 (by decide) ?_
                refine lv_istore (lv' := [(5, .int (0)), (8, .int (0)), (7, .int (0)), (6, .int (nI k)), (0, .ref (a 0)), (1, .int (o)), (2, .int (at')), (3, .int (w)), (4, .int (rv))]) hx hb dX1_isThere_117 hl (by decide) rfl (fun ls hl => ?_)
                refine lv_iinc (v := nI (k + 1)) (lv' := [(6, .int (nI (k + 1))), (5, .int (0)), (8, .int (0)), (7, .int (0)), (0, .ref (a 0)), (1, .int (o)), (2, .int (at')), (3, .int (w)), (4, .int (rv))]) hx hb dX1_isThere_119 hl (k := 3) rfl (nI_1 k) (by decide) rfl (fun ls hl => ?_)
                refine lv_goto (tgt := 6) hx hb dX1_isThere_122 (by decide) ?_
                exact ih (k + 1) (by omega)   ls (by rw [show sa_b (sa_th σ o at' w rv (k + 1) = true) = 0 from sa_bf (by have z8 := c_88; (try simp only [Bool.not_eq_true] at z8); rw [show sa_th σ o at' w rv (k + 1) = (sa_th σ o at' w rv k || decide (¬ nI k = w ∧ sa_sd σ k at' ∧ sa_cnt σ k o rv)) from rfl, z8]; simp [sa_sd, sa_sec, sa_rat, sa_adv, sa_cat, sa_cnt, sa_aud, sa_less, sa_w, sa_nx, c_33, c_45, c_71, c_94])]; exact lv_sub hl [0, 1, 4, 5, 6, 7, 8] rfl)
              · skip
                refine lv_aload_n hx hb dX1_isThere_97 rfl (lv_at hl 4 rfl) ?_
                refine lv_iload hx hb dX1_isThere_98 (lv_at hl 2 rfl) ?_
                refine lv_iload_n hx hb dX1_isThere_100 rfl (lv_at hl 6 rfl) ?_
                refine sa_kRd (As := [.int (nI k), .int (at')]) (rest := []) S (c_X1_stands l G cI cZ cL a σ th k (by omega) at') (cwV 2 hts gX1_isThere_X1_stands rfl rfl rfl (by decide +kernel) ⟨Nat.le_of_ble_eq_true rfl, Nat.le_of_ble_eq_true rfl⟩) hP hK (ci := 1) rfl rfl rfl hl.1 (Nat.le_of_ble_eq_true rfl) rfl dX1_isThere_101 ⟨Nat.zero_le _, Nat.zero_le _⟩ ?_
                refine sa_spl (fun b_101 => ?_) (fun b_101 => ?_)
                · skip
                  refine lv_if_eq (tgt := 116) hx hb dX1_isThere_104 (by decide) (fun c9 => absurd c9 (by decide)) (fun _ => ?_)
                  refine lv_iload hx hb dX1_isThere_107 (lv_at hl 0 rfl) ?_
                  refine lv_if_eq (tgt := 116) hx hb dX1_isThere_109 (by decide) (fun _ => ?_) (fun c9 => absurd (by decide) c9)
                  refine lv_iconst (v := 0) hx hb dX1_isThere_116 (by decide) ?_
                  refine lv_istore (lv' := [(5, .int (0)), (8, .int (0)), (7, .int (0)), (6, .int (nI k)), (0, .ref (a 0)), (1, .int (o)), (2, .int (at')), (3, .int (w)), (4, .int (rv))]) hx hb dX1_isThere_117 hl (by decide) rfl (fun ls hl => ?_)
                  refine lv_iinc (v := nI (k + 1)) (lv' := [(6, .int (nI (k + 1))), (5, .int (0)), (8, .int (0)), (7, .int (0)), (0, .ref (a 0)), (1, .int (o)), (2, .int (at')), (3, .int (w)), (4, .int (rv))]) hx hb dX1_isThere_119 hl (k := 3) rfl (nI_1 k) (by decide) rfl (fun ls hl => ?_)
                  refine lv_goto (tgt := 6) hx hb dX1_isThere_122 (by decide) ?_
                  exact ih (k + 1) (by omega)   ls (by rw [show sa_b (sa_th σ o at' w rv (k + 1) = true) = 0 from sa_bf (by have z8 := c_88; (try simp only [Bool.not_eq_true] at z8); rw [show sa_th σ o at' w rv (k + 1) = (sa_th σ o at' w rv k || decide (¬ nI k = w ∧ sa_sd σ k at' ∧ sa_cnt σ k o rv)) from rfl, z8]; simp [sa_sd, sa_sec, sa_rat, sa_adv, sa_cat, sa_cnt, sa_aud, sa_less, sa_w, sa_nx, c_33, c_45, c_71, c_94, b_101])]; exact lv_sub hl [0, 1, 4, 5, 6, 7, 8] rfl)
                · skip
                  refine lv_if_eq (tgt := 116) hx hb dX1_isThere_104 (by decide) (fun _ => ?_) (fun c9 => absurd (by decide) c9)
                  refine lv_iconst (v := 0) hx hb dX1_isThere_116 (by decide) ?_
                  refine lv_istore (lv' := [(5, .int (0)), (8, .int (0)), (7, .int (0)), (6, .int (nI k)), (0, .ref (a 0)), (1, .int (o)), (2, .int (at')), (3, .int (w)), (4, .int (rv))]) hx hb dX1_isThere_117 hl (by decide) rfl (fun ls hl => ?_)
                  refine lv_iinc (v := nI (k + 1)) (lv' := [(6, .int (nI (k + 1))), (5, .int (0)), (8, .int (0)), (7, .int (0)), (0, .ref (a 0)), (1, .int (o)), (2, .int (at')), (3, .int (w)), (4, .int (rv))]) hx hb dX1_isThere_119 hl (k := 3) rfl (nI_1 k) (by decide) rfl (fun ls hl => ?_)
                  refine lv_goto (tgt := 6) hx hb dX1_isThere_122 (by decide) ?_
                  exact ih (k + 1) (by omega)   ls (by rw [show sa_b (sa_th σ o at' w rv (k + 1) = true) = 0 from sa_bf (by have z8 := c_88; (try simp only [Bool.not_eq_true] at z8); rw [show sa_th σ o at' w rv (k + 1) = (sa_th σ o at' w rv k || decide (¬ nI k = w ∧ sa_sd σ k at' ∧ sa_cnt σ k o rv)) from rfl, z8]; simp [sa_sd, sa_sec, sa_rat, sa_adv, sa_cat, sa_cnt, sa_aud, sa_less, sa_w, sa_nx, c_33, c_45, c_71, c_94, b_101])]; exact lv_sub hl [0, 1, 4, 5, 6, 7, 8] rfl)
          · skip
            refine lv_iconst (v := 1) hx hb dX1_isThere_74 (by decide) ?_
            refine lv_goto (tgt := 84) hx hb dX1_isThere_75 (by decide) ?_
            refine lv_istore (lv' := [(8, .int (1)), (7, .int (0)), (6, .int (nI k)), (5, .int (sa_b (sa_th σ o at' w rv k = true))), (0, .ref (a 0)), (1, .int (o)), (2, .int (at')), (3, .int (w)), (4, .int (rv))]) hx hb dX1_isThere_84 hl (by decide) rfl (fun ls hl => ?_)
            refine lv_iload hx hb dX1_isThere_86 (lv_at hl 3 rfl) ?_
            refine lv_if_ne (tgt := 112) hx hb dX1_isThere_88 (by decide) (fun c_88 => ?_) (fun c_88 => ?_)
            · skip
              have c_88 := sa_b1 c_88
              refine lv_iconst (v := 1) hx hb dX1_isThere_112 (by decide) ?_
              refine lv_goto (tgt := 117) hx hb dX1_isThere_113 (by decide) ?_
              refine lv_istore (lv' := [(5, .int (1)), (8, .int (1)), (7, .int (0)), (6, .int (nI k)), (0, .ref (a 0)), (1, .int (o)), (2, .int (at')), (3, .int (w)), (4, .int (rv))]) hx hb dX1_isThere_117 hl (by decide) rfl (fun ls hl => ?_)
              refine lv_iinc (v := nI (k + 1)) (lv' := [(6, .int (nI (k + 1))), (5, .int (1)), (8, .int (1)), (7, .int (0)), (0, .ref (a 0)), (1, .int (o)), (2, .int (at')), (3, .int (w)), (4, .int (rv))]) hx hb dX1_isThere_119 hl (k := 3) rfl (nI_1 k) (by decide) rfl (fun ls hl => ?_)
              refine lv_goto (tgt := 6) hx hb dX1_isThere_122 (by decide) ?_
              exact ih (k + 1) (by omega)   ls (by rw [show sa_b (sa_th σ o at' w rv (k + 1) = true) = 1 from sa_bt (by have z8 := c_88; (try simp only [Bool.not_eq_true] at z8); rw [show sa_th σ o at' w rv (k + 1) = (sa_th σ o at' w rv k || decide (¬ nI k = w ∧ sa_sd σ k at' ∧ sa_cnt σ k o rv)) from rfl, z8]; simp [sa_sd, sa_sec, sa_rat, sa_adv, sa_cat, sa_cnt, sa_aud, sa_less, sa_w, sa_nx, c_33, c_45, c_71])]; exact lv_sub hl [0, 1, 4, 5, 6, 7, 8] rfl)
            · skip
              have c_88 := sa_b0 c_88
              refine lv_iload hx hb dX1_isThere_91 (lv_at hl 2 rfl) ?_
              refine lv_iload_n hx hb dX1_isThere_93 rfl (lv_at hl 7 rfl) ?_
              refine lv_icmp_eq (tgt := 116) hx hb dX1_isThere_94 (by decide) (fun c_94 => ?_) (fun c_94 => ?_)
              · skip
                refine lv_iconst (v := 0) hx hb dX1_isThere_116 (by decide) ?_
                refine lv_istore (lv' := [(5, .int (0)), (8, .int (1)), (7, .int (0)), (6, .int (nI k)), (0, .ref (a 0)), (1, .int (o)), (2, .int (at')), (3, .int (w)), (4, .int (rv))]) hx hb dX1_isThere_117 hl (by decide) rfl (fun ls hl => ?_)
                refine lv_iinc (v := nI (k + 1)) (lv' := [(6, .int (nI (k + 1))), (5, .int (0)), (8, .int (1)), (7, .int (0)), (0, .ref (a 0)), (1, .int (o)), (2, .int (at')), (3, .int (w)), (4, .int (rv))]) hx hb dX1_isThere_119 hl (k := 3) rfl (nI_1 k) (by decide) rfl (fun ls hl => ?_)
                refine lv_goto (tgt := 6) hx hb dX1_isThere_122 (by decide) ?_
                exact ih (k + 1) (by omega)   ls (by rw [show sa_b (sa_th σ o at' w rv (k + 1) = true) = 0 from sa_bf (by have z8 := c_88; (try simp only [Bool.not_eq_true] at z8); rw [show sa_th σ o at' w rv (k + 1) = (sa_th σ o at' w rv k || decide (¬ nI k = w ∧ sa_sd σ k at' ∧ sa_cnt σ k o rv)) from rfl, z8]; simp [sa_sd, sa_sec, sa_rat, sa_adv, sa_cat, sa_cnt, sa_aud, sa_less, sa_w, sa_nx, c_33, c_45, c_71, c_94])]; exact lv_sub hl [0, 1, 4, 5, 6, 7, 8] rfl)
              · skip
                refine lv_aload_n hx hb dX1_isThere_97 rfl (lv_at hl 4 rfl) ?_
                refine lv_iload hx hb dX1_isThere_98 (lv_at hl 2 rfl) ?_
                refine lv_iload_n hx hb dX1_isThere_100 rfl (lv_at hl 6 rfl) ?_
                refine sa_kRd (As := [.int (nI k), .int (at')]) (rest := []) S (c_X1_stands l G cI cZ cL a σ th k (by omega) at') (cwV 2 hts gX1_isThere_X1_stands rfl rfl rfl (by decide +kernel) ⟨Nat.le_of_ble_eq_true rfl, Nat.le_of_ble_eq_true rfl⟩) hP hK (ci := 1) rfl rfl rfl hl.1 (Nat.le_of_ble_eq_true rfl) rfl dX1_isThere_101 ⟨Nat.zero_le _, Nat.zero_le _⟩ ?_
                refine sa_spl (fun b_101 => ?_) (fun b_101 => ?_)
                · skip
                  refine lv_if_eq (tgt := 116) hx hb dX1_isThere_104 (by decide) (fun c9 => absurd c9 (by decide)) (fun _ => ?_)
                  refine lv_iload hx hb dX1_isThere_107 (lv_at hl 0 rfl) ?_
                  refine lv_if_eq (tgt := 116) hx hb dX1_isThere_109 (by decide) (fun c9 => absurd c9 (by decide)) (fun _ => ?_)
                  refine lv_iconst (v := 1) hx hb dX1_isThere_112 (by decide) ?_
                  refine lv_goto (tgt := 117) hx hb dX1_isThere_113 (by decide) ?_
                  refine lv_istore (lv' := [(5, .int (1)), (8, .int (1)), (7, .int (0)), (6, .int (nI k)), (0, .ref (a 0)), (1, .int (o)), (2, .int (at')), (3, .int (w)), (4, .int (rv))]) hx hb dX1_isThere_117 hl (by decide) rfl (fun ls hl => ?_)
                  refine lv_iinc (v := nI (k + 1)) (lv' := [(6, .int (nI (k + 1))), (5, .int (1)), (8, .int (1)), (7, .int (0)), (0, .ref (a 0)), (1, .int (o)), (2, .int (at')), (3, .int (w)), (4, .int (rv))]) hx hb dX1_isThere_119 hl (k := 3) rfl (nI_1 k) (by decide) rfl (fun ls hl => ?_)
                  refine lv_goto (tgt := 6) hx hb dX1_isThere_122 (by decide) ?_
                  exact ih (k + 1) (by omega)   ls (by rw [show sa_b (sa_th σ o at' w rv (k + 1) = true) = 1 from sa_bt (by have z8 := c_88; (try simp only [Bool.not_eq_true] at z8); rw [show sa_th σ o at' w rv (k + 1) = (sa_th σ o at' w rv k || decide (¬ nI k = w ∧ sa_sd σ k at' ∧ sa_cnt σ k o rv)) from rfl, z8]; simp [sa_sd, sa_sec, sa_rat, sa_adv, sa_cat, sa_cnt, sa_aud, sa_less, sa_w, sa_nx, c_33, c_45, c_71, c_94, b_101])]; exact lv_sub hl [0, 1, 4, 5, 6, 7, 8] rfl)
                · skip
                  refine lv_if_eq (tgt := 116) hx hb dX1_isThere_104 (by decide) (fun _ => ?_) (fun c9 => absurd (by decide) c9)
                  refine lv_iconst (v := 0) hx hb dX1_isThere_116 (by decide) ?_
                  refine lv_istore (lv' := [(5, .int (0)), (8, .int (1)), (7, .int (0)), (6, .int (nI k)), (0, .ref (a 0)), (1, .int (o)), (2, .int (at')), (3, .int (w)), (4, .int (rv))]) hx hb dX1_isThere_117 hl (by decide) rfl (fun ls hl => ?_)
                  refine lv_iinc (v := nI (k + 1)) (lv' := [(6, .int (nI (k + 1))), (5, .int (0)), (8, .int (1)), (7, .int (0)), (0, .ref (a 0)), (1, .int (o)), (2, .int (at')), (3, .int (w)), (4, .int (rv))]) hx hb dX1_isThere_119 hl (k := 3) rfl (nI_1 k) (by decide) rfl (fun ls hl => ?_)
                  refine lv_goto (tgt := 6) hx hb dX1_isThere_122 (by decide) ?_
                  exact ih (k + 1) (by omega)   ls (by rw [show sa_b (sa_th σ o at' w rv (k + 1) = true) = 0 from sa_bf (by have z8 := c_88; (try simp only [Bool.not_eq_true] at z8); rw [show sa_th σ o at' w rv (k + 1) = (sa_th σ o at' w rv k || decide (¬ nI k = w ∧ sa_sd σ k at' ∧ sa_cnt σ k o rv)) from rfl, z8]; simp [sa_sd, sa_sec, sa_rat, sa_adv, sa_cat, sa_cnt, sa_aud, sa_less, sa_w, sa_nx, c_33, c_45, c_71, c_94, b_101])]; exact lv_sub hl [0, 1, 4, 5, 6, 7, 8] rfl)
      · skip
        refine lv_iconst (v := 1) hx hb dX1_isThere_36 (by decide) ?_
        refine lv_goto (tgt := 41) hx hb dX1_isThere_37 (by decide) ?_
        refine lv_istore (lv' := [(7, .int (1)), (6, .int (nI k)), (5, .int (sa_b (sa_th σ o at' w rv k = true))), (0, .ref (a 0)), (1, .int (o)), (2, .int (at')), (3, .int (w)), (4, .int (rv))]) hx hb dX1_isThere_41 hl (by decide) rfl (fun ls hl => ?_)
        refine lv_iload hx hb dX1_isThere_43 (lv_at hl 7 rfl) ?_
        refine lv_if_eq (tgt := 82) hx hb dX1_isThere_45 (by decide) (fun c_45 => ?_) (fun c_45 => ?_)
        · skip
          refine lv_iload hx hb dX1_isThere_82 (lv_at hl 0 rfl) ?_
          refine lv_istore (lv' := [(8, .int (1)), (7, .int (1)), (6, .int (nI k)), (5, .int (sa_b (sa_th σ o at' w rv k = true))), (0, .ref (a 0)), (1, .int (o)), (2, .int (at')), (3, .int (w)), (4, .int (rv))]) hx hb dX1_isThere_84 hl (by decide) rfl (fun ls hl => ?_)
          refine lv_iload hx hb dX1_isThere_86 (lv_at hl 3 rfl) ?_
          refine lv_if_ne (tgt := 112) hx hb dX1_isThere_88 (by decide) (fun c_88 => ?_) (fun c_88 => ?_)
          · skip
            have c_88 := sa_b1 c_88
            refine lv_iconst (v := 1) hx hb dX1_isThere_112 (by decide) ?_
            refine lv_goto (tgt := 117) hx hb dX1_isThere_113 (by decide) ?_
            refine lv_istore (lv' := [(5, .int (1)), (8, .int (1)), (7, .int (1)), (6, .int (nI k)), (0, .ref (a 0)), (1, .int (o)), (2, .int (at')), (3, .int (w)), (4, .int (rv))]) hx hb dX1_isThere_117 hl (by decide) rfl (fun ls hl => ?_)
            refine lv_iinc (v := nI (k + 1)) (lv' := [(6, .int (nI (k + 1))), (5, .int (1)), (8, .int (1)), (7, .int (1)), (0, .ref (a 0)), (1, .int (o)), (2, .int (at')), (3, .int (w)), (4, .int (rv))]) hx hb dX1_isThere_119 hl (k := 3) rfl (nI_1 k) (by decide) rfl (fun ls hl => ?_)
            refine lv_goto (tgt := 6) hx hb dX1_isThere_122 (by decide) ?_
            exact ih (k + 1) (by omega)   ls (by rw [show sa_b (sa_th σ o at' w rv (k + 1) = true) = 1 from sa_bt (by have z8 := c_88; (try simp only [Bool.not_eq_true] at z8); rw [show sa_th σ o at' w rv (k + 1) = (sa_th σ o at' w rv k || decide (¬ nI k = w ∧ sa_sd σ k at' ∧ sa_cnt σ k o rv)) from rfl, z8]; simp [sa_sd, sa_sec, sa_rat, sa_adv, sa_cat, sa_cnt, sa_aud, sa_less, sa_w, sa_nx, c_33, c_45])]; exact lv_sub hl [0, 1, 4, 5, 6, 7, 8] rfl)
          · skip
            have c_88 := sa_b0 c_88
            refine lv_iload hx hb dX1_isThere_91 (lv_at hl 2 rfl) ?_
            refine lv_iload_n hx hb dX1_isThere_93 rfl (lv_at hl 7 rfl) ?_
            refine lv_icmp_eq (tgt := 116) hx hb dX1_isThere_94 (by decide) (fun c_94 => ?_) (fun c_94 => ?_)
            · skip
              refine lv_iconst (v := 0) hx hb dX1_isThere_116 (by decide) ?_
              refine lv_istore (lv' := [(5, .int (0)), (8, .int (1)), (7, .int (1)), (6, .int (nI k)), (0, .ref (a 0)), (1, .int (o)), (2, .int (at')), (3, .int (w)), (4, .int (rv))]) hx hb dX1_isThere_117 hl (by decide) rfl (fun ls hl => ?_)
              refine lv_iinc (v := nI (k + 1)) (lv' := [(6, .int (nI (k + 1))), (5, .int (0)), (8, .int (1)), (7, .int (1)), (0, .ref (a 0)), (1, .int (o)), (2, .int (at')), (3, .int (w)), (4, .int (rv))]) hx hb dX1_isThere_119 hl (k := 3) rfl (nI_1 k) (by decide) rfl (fun ls hl => ?_)
              refine lv_goto (tgt := 6) hx hb dX1_isThere_122 (by decide) ?_
              exact ih (k + 1) (by omega)   ls (by rw [show sa_b (sa_th σ o at' w rv (k + 1) = true) = 0 from sa_bf (by have z8 := c_88; (try simp only [Bool.not_eq_true] at z8); rw [show sa_th σ o at' w rv (k + 1) = (sa_th σ o at' w rv k || decide (¬ nI k = w ∧ sa_sd σ k at' ∧ sa_cnt σ k o rv)) from rfl, z8]; simp [sa_sd, sa_sec, sa_rat, sa_adv, sa_cat, sa_cnt, sa_aud, sa_less, sa_w, sa_nx, c_33, c_45, c_94])]; exact lv_sub hl [0, 1, 4, 5, 6, 7, 8] rfl)
            · skip
              refine lv_aload_n hx hb dX1_isThere_97 rfl (lv_at hl 4 rfl) ?_
              refine lv_iload hx hb dX1_isThere_98 (lv_at hl 2 rfl) ?_
              refine lv_iload_n hx hb dX1_isThere_100 rfl (lv_at hl 6 rfl) ?_
              refine sa_kRd (As := [.int (nI k), .int (at')]) (rest := []) S (c_X1_stands l G cI cZ cL a σ th k (by omega) at') (cwV 2 hts gX1_isThere_X1_stands rfl rfl rfl (by decide +kernel) ⟨Nat.le_of_ble_eq_true rfl, Nat.le_of_ble_eq_true rfl⟩) hP hK (ci := 1) rfl rfl rfl hl.1 (Nat.le_of_ble_eq_true rfl) rfl dX1_isThere_101 ⟨Nat.zero_le _, Nat.zero_le _⟩ ?_
              refine sa_spl (fun b_101 => ?_) (fun b_101 => ?_)
              · skip
                refine lv_if_eq (tgt := 116) hx hb dX1_isThere_104 (by decide) (fun c9 => absurd c9 (by decide)) (fun _ => ?_)
                refine lv_iload hx hb dX1_isThere_107 (lv_at hl 0 rfl) ?_
                refine lv_if_eq (tgt := 116) hx hb dX1_isThere_109 (by decide) (fun c9 => absurd c9 (by decide)) (fun _ => ?_)
                refine lv_iconst (v := 1) hx hb dX1_isThere_112 (by decide) ?_
                refine lv_goto (tgt := 117) hx hb dX1_isThere_113 (by decide) ?_
                refine lv_istore (lv' := [(5, .int (1)), (8, .int (1)), (7, .int (1)), (6, .int (nI k)), (0, .ref (a 0)), (1, .int (o)), (2, .int (at')), (3, .int (w)), (4, .int (rv))]) hx hb dX1_isThere_117 hl (by decide) rfl (fun ls hl => ?_)
                refine lv_iinc (v := nI (k + 1)) (lv' := [(6, .int (nI (k + 1))), (5, .int (1)), (8, .int (1)), (7, .int (1)), (0, .ref (a 0)), (1, .int (o)), (2, .int (at')), (3, .int (w)), (4, .int (rv))]) hx hb dX1_isThere_119 hl (k := 3) rfl (nI_1 k) (by decide) rfl (fun ls hl => ?_)
                refine lv_goto (tgt := 6) hx hb dX1_isThere_122 (by decide) ?_
                exact ih (k + 1) (by omega)   ls (by rw [show sa_b (sa_th σ o at' w rv (k + 1) = true) = 1 from sa_bt (by have z8 := c_88; (try simp only [Bool.not_eq_true] at z8); rw [show sa_th σ o at' w rv (k + 1) = (sa_th σ o at' w rv k || decide (¬ nI k = w ∧ sa_sd σ k at' ∧ sa_cnt σ k o rv)) from rfl, z8]; simp [sa_sd, sa_sec, sa_rat, sa_adv, sa_cat, sa_cnt, sa_aud, sa_less, sa_w, sa_nx, c_33, c_45, c_94, b_101])]; exact lv_sub hl [0, 1, 4, 5, 6, 7, 8] rfl)
              · skip
                refine lv_if_eq (tgt := 116) hx hb dX1_isThere_104 (by decide) (fun _ => ?_) (fun c9 => absurd (by decide) c9)
                refine lv_iconst (v := 0) hx hb dX1_isThere_116 (by decide) ?_
                refine lv_istore (lv' := [(5, .int (0)), (8, .int (1)), (7, .int (1)), (6, .int (nI k)), (0, .ref (a 0)), (1, .int (o)), (2, .int (at')), (3, .int (w)), (4, .int (rv))]) hx hb dX1_isThere_117 hl (by decide) rfl (fun ls hl => ?_)
                refine lv_iinc (v := nI (k + 1)) (lv' := [(6, .int (nI (k + 1))), (5, .int (0)), (8, .int (1)), (7, .int (1)), (0, .ref (a 0)), (1, .int (o)), (2, .int (at')), (3, .int (w)), (4, .int (rv))]) hx hb dX1_isThere_119 hl (k := 3) rfl (nI_1 k) (by decide) rfl (fun ls hl => ?_)
                refine lv_goto (tgt := 6) hx hb dX1_isThere_122 (by decide) ?_
                exact ih (k + 1) (by omega)   ls (by rw [show sa_b (sa_th σ o at' w rv (k + 1) = true) = 0 from sa_bf (by have z8 := c_88; (try simp only [Bool.not_eq_true] at z8); rw [show sa_th σ o at' w rv (k + 1) = (sa_th σ o at' w rv k || decide (¬ nI k = w ∧ sa_sd σ k at' ∧ sa_cnt σ k o rv)) from rfl, z8]; simp [sa_sd, sa_sec, sa_rat, sa_adv, sa_cat, sa_cnt, sa_aud, sa_less, sa_w, sa_nx, c_33, c_45, c_94, b_101])]; exact lv_sub hl [0, 1, 4, 5, 6, 7, 8] rfl)
        · skip
          refine lv_iload hx hb dX1_isThere_48 (lv_at hl 0 rfl) ?_
          refine lv_if_ne (tgt := 78) hx hb dX1_isThere_50 (by decide) (fun _ => ?_) (fun c9 => absurd c9 (by decide))
          refine lv_iconst (v := 0) hx hb dX1_isThere_78 (by decide) ?_
          refine lv_goto (tgt := 84) hx hb dX1_isThere_79 (by decide) ?_
          refine lv_istore (lv' := [(8, .int (0)), (7, .int (1)), (6, .int (nI k)), (5, .int (sa_b (sa_th σ o at' w rv k = true))), (0, .ref (a 0)), (1, .int (o)), (2, .int (at')), (3, .int (w)), (4, .int (rv))]) hx hb dX1_isThere_84 hl (by decide) rfl (fun ls hl => ?_)
          refine lv_iload hx hb dX1_isThere_86 (lv_at hl 3 rfl) ?_
          refine lv_if_ne (tgt := 112) hx hb dX1_isThere_88 (by decide) (fun c_88 => ?_) (fun c_88 => ?_)
          · skip
            have c_88 := sa_b1 c_88
            refine lv_iconst (v := 1) hx hb dX1_isThere_112 (by decide) ?_
            refine lv_goto (tgt := 117) hx hb dX1_isThere_113 (by decide) ?_
            refine lv_istore (lv' := [(5, .int (1)), (8, .int (0)), (7, .int (1)), (6, .int (nI k)), (0, .ref (a 0)), (1, .int (o)), (2, .int (at')), (3, .int (w)), (4, .int (rv))]) hx hb dX1_isThere_117 hl (by decide) rfl (fun ls hl => ?_)
            refine lv_iinc (v := nI (k + 1)) (lv' := [(6, .int (nI (k + 1))), (5, .int (1)), (8, .int (0)), (7, .int (1)), (0, .ref (a 0)), (1, .int (o)), (2, .int (at')), (3, .int (w)), (4, .int (rv))]) hx hb dX1_isThere_119 hl (k := 3) rfl (nI_1 k) (by decide) rfl (fun ls hl => ?_)
            refine lv_goto (tgt := 6) hx hb dX1_isThere_122 (by decide) ?_
            exact ih (k + 1) (by omega)   ls (by rw [show sa_b (sa_th σ o at' w rv (k + 1) = true) = 1 from sa_bt (by have z8 := c_88; (try simp only [Bool.not_eq_true] at z8); rw [show sa_th σ o at' w rv (k + 1) = (sa_th σ o at' w rv k || decide (¬ nI k = w ∧ sa_sd σ k at' ∧ sa_cnt σ k o rv)) from rfl, z8]; simp [sa_sd, sa_sec, sa_rat, sa_adv, sa_cat, sa_cnt, sa_aud, sa_less, sa_w, sa_nx, c_33, c_45])]; exact lv_sub hl [0, 1, 4, 5, 6, 7, 8] rfl)
          · skip
            have c_88 := sa_b0 c_88
            refine lv_iload hx hb dX1_isThere_91 (lv_at hl 2 rfl) ?_
            refine lv_iload_n hx hb dX1_isThere_93 rfl (lv_at hl 7 rfl) ?_
            refine lv_icmp_eq (tgt := 116) hx hb dX1_isThere_94 (by decide) (fun c_94 => ?_) (fun c_94 => ?_)
            · skip
              refine lv_iconst (v := 0) hx hb dX1_isThere_116 (by decide) ?_
              refine lv_istore (lv' := [(5, .int (0)), (8, .int (0)), (7, .int (1)), (6, .int (nI k)), (0, .ref (a 0)), (1, .int (o)), (2, .int (at')), (3, .int (w)), (4, .int (rv))]) hx hb dX1_isThere_117 hl (by decide) rfl (fun ls hl => ?_)
              refine lv_iinc (v := nI (k + 1)) (lv' := [(6, .int (nI (k + 1))), (5, .int (0)), (8, .int (0)), (7, .int (1)), (0, .ref (a 0)), (1, .int (o)), (2, .int (at')), (3, .int (w)), (4, .int (rv))]) hx hb dX1_isThere_119 hl (k := 3) rfl (nI_1 k) (by decide) rfl (fun ls hl => ?_)
              refine lv_goto (tgt := 6) hx hb dX1_isThere_122 (by decide) ?_
              exact ih (k + 1) (by omega)   ls (by rw [show sa_b (sa_th σ o at' w rv (k + 1) = true) = 0 from sa_bf (by have z8 := c_88; (try simp only [Bool.not_eq_true] at z8); rw [show sa_th σ o at' w rv (k + 1) = (sa_th σ o at' w rv k || decide (¬ nI k = w ∧ sa_sd σ k at' ∧ sa_cnt σ k o rv)) from rfl, z8]; simp [sa_sd, sa_sec, sa_rat, sa_adv, sa_cat, sa_cnt, sa_aud, sa_less, sa_w, sa_nx, c_33, c_45, c_94])]; exact lv_sub hl [0, 1, 4, 5, 6, 7, 8] rfl)
            · skip
              refine lv_aload_n hx hb dX1_isThere_97 rfl (lv_at hl 4 rfl) ?_
              refine lv_iload hx hb dX1_isThere_98 (lv_at hl 2 rfl) ?_
              refine lv_iload_n hx hb dX1_isThere_100 rfl (lv_at hl 6 rfl) ?_
              refine sa_kRd (As := [.int (nI k), .int (at')]) (rest := []) S (c_X1_stands l G cI cZ cL a σ th k (by omega) at') (cwV 2 hts gX1_isThere_X1_stands rfl rfl rfl (by decide +kernel) ⟨Nat.le_of_ble_eq_true rfl, Nat.le_of_ble_eq_true rfl⟩) hP hK (ci := 1) rfl rfl rfl hl.1 (Nat.le_of_ble_eq_true rfl) rfl dX1_isThere_101 ⟨Nat.zero_le _, Nat.zero_le _⟩ ?_
              refine sa_spl (fun b_101 => ?_) (fun b_101 => ?_)
              · skip
                refine lv_if_eq (tgt := 116) hx hb dX1_isThere_104 (by decide) (fun c9 => absurd c9 (by decide)) (fun _ => ?_)
                refine lv_iload hx hb dX1_isThere_107 (lv_at hl 0 rfl) ?_
                refine lv_if_eq (tgt := 116) hx hb dX1_isThere_109 (by decide) (fun _ => ?_) (fun c9 => absurd (by decide) c9)
                refine lv_iconst (v := 0) hx hb dX1_isThere_116 (by decide) ?_
                refine lv_istore (lv' := [(5, .int (0)), (8, .int (0)), (7, .int (1)), (6, .int (nI k)), (0, .ref (a 0)), (1, .int (o)), (2, .int (at')), (3, .int (w)), (4, .int (rv))]) hx hb dX1_isThere_117 hl (by decide) rfl (fun ls hl => ?_)
                refine lv_iinc (v := nI (k + 1)) (lv' := [(6, .int (nI (k + 1))), (5, .int (0)), (8, .int (0)), (7, .int (1)), (0, .ref (a 0)), (1, .int (o)), (2, .int (at')), (3, .int (w)), (4, .int (rv))]) hx hb dX1_isThere_119 hl (k := 3) rfl (nI_1 k) (by decide) rfl (fun ls hl => ?_)
                refine lv_goto (tgt := 6) hx hb dX1_isThere_122 (by decide) ?_
                exact ih (k + 1) (by omega)   ls (by rw [show sa_b (sa_th σ o at' w rv (k + 1) = true) = 0 from sa_bf (by have z8 := c_88; (try simp only [Bool.not_eq_true] at z8); rw [show sa_th σ o at' w rv (k + 1) = (sa_th σ o at' w rv k || decide (¬ nI k = w ∧ sa_sd σ k at' ∧ sa_cnt σ k o rv)) from rfl, z8]; simp [sa_sd, sa_sec, sa_rat, sa_adv, sa_cat, sa_cnt, sa_aud, sa_less, sa_w, sa_nx, c_33, c_45, c_94, b_101])]; exact lv_sub hl [0, 1, 4, 5, 6, 7, 8] rfl)
              · skip
                refine lv_if_eq (tgt := 116) hx hb dX1_isThere_104 (by decide) (fun _ => ?_) (fun c9 => absurd (by decide) c9)
                refine lv_iconst (v := 0) hx hb dX1_isThere_116 (by decide) ?_
                refine lv_istore (lv' := [(5, .int (0)), (8, .int (0)), (7, .int (1)), (6, .int (nI k)), (0, .ref (a 0)), (1, .int (o)), (2, .int (at')), (3, .int (w)), (4, .int (rv))]) hx hb dX1_isThere_117 hl (by decide) rfl (fun ls hl => ?_)
                refine lv_iinc (v := nI (k + 1)) (lv' := [(6, .int (nI (k + 1))), (5, .int (0)), (8, .int (0)), (7, .int (1)), (0, .ref (a 0)), (1, .int (o)), (2, .int (at')), (3, .int (w)), (4, .int (rv))]) hx hb dX1_isThere_119 hl (k := 3) rfl (nI_1 k) (by decide) rfl (fun ls hl => ?_)
                refine lv_goto (tgt := 6) hx hb dX1_isThere_122 (by decide) ?_
                exact ih (k + 1) (by omega)   ls (by rw [show sa_b (sa_th σ o at' w rv (k + 1) = true) = 0 from sa_bf (by have z8 := c_88; (try simp only [Bool.not_eq_true] at z8); rw [show sa_th σ o at' w rv (k + 1) = (sa_th σ o at' w rv k || decide (¬ nI k = w ∧ sa_sd σ k at' ∧ sa_cnt σ k o rv)) from rfl, z8]; simp [sa_sd, sa_sec, sa_rat, sa_adv, sa_cat, sa_cnt, sa_aud, sa_less, sa_w, sa_nx, c_33, c_45, c_94, b_101])]; exact lv_sub hl [0, 1, 4, 5, 6, 7, 8] rfl)
  exact loop (σ.1 2) 0 (Nat.zero_add _)   ls (by rw [show sa_b (sa_th σ o at' w rv 0 = true) = 0 from rfl]; exact lv_sub hl [0, 1, 2, 3, 4, 5, 6] rfl)

set_option maxHeartbeats 4000000 in
set_option maxRecDepth 100000 in
theorem c_X1_why (l : Launch) (G : va_G) (cI cZ cL : ClassId) (a : Nat → Nat) (σ : sa_St) (th : Int32) (hI : sa_I σ) (o at' w : Int32) (ho : vp_in o (σ.1 1)) (hat : vp_in at' (σ.1 0)) : sa_Rd l yX1_why wsX1_why ({ frames := 2, cells := 0, slots := 0, locals := 50 }) G cI cZ cL (sa_W1 cI cZ a σ th) [.ref (a 0), .int (o), .int (at'), .int (w)] (sa_why σ o at' w) := by
  obtain ⟨hnb, hno, hns, hgr, hor, hbr, hai⟩ := id hI
  refine Met.ofW (cc := cX1_why) (maxL := 5) (ret := (some .int)) (by decide) rfl ?_
  intro p e s m args below meth c s₁ B9 hml hv
  obtain ⟨rfl, hP, hK⟩ := hv
  have hx := B9.exec
  have hb := B9.bytes
  have hr := B9.returns
  have hlk := B9.notSynchronized
  have hts := atoms_spec (ws := wsX1_why) B9.pre
  have hown : s.vm.findClass RX1 = some m.cls := findClass_of_methodNamed B9.named
  have S : CallFix p m c cX1_why 5 s _ wsX1_why RX1 := ⟨hx, hb, hml, hown, hts⟩
  have hin : ∀ w ∈ wsX10, w ∈ wsX1_why := by decide +kernel
  have hl := lv_entry ([.ref (a 0), .int (o), .int (at'), .int (w)]) (n := 5) (Nat.le_of_ble_eq_true rfl)
  rw [lg_entry_eq]
  generalize (lg_sl ([.ref (a 0), .int (o), .int (at'), .int (w)]) ++ List.replicate (5 - (lg_sl ([.ref (a 0), .int (o), .int (at'), .int (w)])).length) Slot.unset).toArray = ls at hl ⊢
  have hl : lv_has ls 5 [(0, .ref (a 0)), (1, .int (o)), (2, .int (at')), (3, .int (w))] := hl
  refine lv_aload_n hx hb dX1_why_0 rfl (lv_at hl 0 rfl) ?_
  refine sa_g1_aired S hin hK hP (by decide +kernel) dX1_why_1 ?_
  refine lv_iload_n hx hb dX1_why_4 rfl (lv_at hl 2 rfl) ?_
  refine sa_ldz 2 S hK hP rfl (sa_vm hat (by omega)) dX1_why_5 ?_
  refine lv_if_eq (tgt := 11) hx hb dX1_why_6 (by decide) (fun c_6 => ?_) (fun c_6 => ?_)
  · skip
    refine lv_aload_n hx hb dX1_why_11 rfl (lv_at hl 0 rfl) ?_
    refine lv_iload_n hx hb dX1_why_12 rfl (lv_at hl 2 rfl) ?_
    refine lv_iload_n hx hb dX1_why_13 rfl (lv_at hl 3 rfl) ?_
    refine sa_kRd (As := [.int (at'), .int (w)]) (rest := []) S (c_X1_roomWithout l G cI cZ cL a σ th hI at' w hat) (cwV 2 hts gX1_why_X1_roomWithout rfl rfl rfl (by decide +kernel) ⟨Nat.le_of_ble_eq_true rfl, Nat.le_of_ble_eq_true rfl⟩) hP hK (ci := 1) rfl rfl rfl hl.1 (Nat.le_of_ble_eq_true rfl) rfl dX1_why_14 ⟨Nat.zero_le _, Nat.zero_le _⟩ ?_
    refine lv_aload_n hx hb dX1_why_17 rfl (lv_at hl 0 rfl) ?_
    refine sa_g1_seconds S hin hK hP (by decide +kernel) dX1_why_18 ?_
    refine lv_iload_n hx hb dX1_why_21 rfl (lv_at hl 1 rfl) ?_
    refine sa_ld 7 S hK hP rfl (sa_vm ho (by omega)) dX1_why_22 ?_
    refine lv_icmp_ge (tgt := 28) hx hb dX1_why_23 (by decide) (fun c_23 => ?_) (fun c_23 => ?_)
    · skip
      have c_23 := Int32.not_lt.mpr c_23
      refine lv_aload_n hx hb dX1_why_28 rfl (lv_at hl 0 rfl) ?_
      refine lv_iload_n hx hb dX1_why_29 rfl (lv_at hl 1 rfl) ?_
      refine lv_iload_n hx hb dX1_why_30 rfl (lv_at hl 2 rfl) ?_
      refine sa_kRd (As := [.int (o), .int (at')]) (rest := []) S (c_X1_ratingFor l G cI cZ cL a σ th hI o at' ho hat) (cwV 2 hts gX1_why_X1_ratingFor rfl rfl rfl (by decide +kernel) ⟨Nat.le_of_ble_eq_true rfl, Nat.le_of_ble_eq_true rfl⟩) hP hK (ci := 1) rfl rfl rfl hl.1 (Nat.le_of_ble_eq_true rfl) rfl dX1_why_31 ⟨Nat.zero_le _, Nat.zero_le _⟩ ?_
      refine lv_aload_n hx hb dX1_why_34 rfl (lv_at hl 0 rfl) ?_
      refine sa_g1_floor S hin hK hP (by decide +kernel) dX1_why_35 ?_
      refine lv_iload_n hx hb dX1_why_38 rfl (lv_at hl 1 rfl) ?_
      refine sa_ld 10 S hK hP rfl (sa_vm ho (by omega)) dX1_why_39 ?_
      refine lv_icmp_ge (tgt := 45) hx hb dX1_why_40 (by decide) (fun c_40 => ?_) (fun c_40 => ?_)
      · skip
        have c_40 := Int32.not_lt.mpr c_40
        refine lv_aload_n hx hb dX1_why_45 rfl (lv_at hl 0 rfl) ?_
        refine lv_iload_n hx hb dX1_why_46 rfl (lv_at hl 1 rfl) ?_
        refine lv_iload_n hx hb dX1_why_47 rfl (lv_at hl 2 rfl) ?_
        refine lv_iload_n hx hb dX1_why_48 rfl (lv_at hl 3 rfl) ?_
        refine lv_iconst (v := 0) hx hb dX1_why_49 (by decide) ?_
        refine sa_kRd (As := [.int (o), .int (at'), .int (w), .int (0)]) (rest := []) S (c_X1_isThere l G cI cZ cL a σ th hI o at' w 0 ho) (cwV 4 hts gX1_why_X1_isThere rfl rfl rfl (by decide +kernel) ⟨Nat.le_of_ble_eq_true rfl, Nat.le_of_ble_eq_true rfl⟩) hP hK (ci := 1) rfl rfl rfl hl.1 (Nat.le_of_ble_eq_true rfl) rfl dX1_why_50 ⟨Nat.zero_le _, Nat.zero_le _⟩ ?_
        refine sa_spl (fun b_50 => ?_) (fun b_50 => ?_)
        · skip
          refine lv_if_eq (tgt := 58) hx hb dX1_why_53 (by decide) (fun c9 => absurd c9 (by decide)) (fun _ => ?_)
          refine lv_iconst (v := 4) hx hb dX1_why_56 (by decide) ?_
          exact W.iret (v := 4) hx hb hr (fun t9 ht _ => ⟨_, rfl, (by unfold sa_why; simp [sa_nx, c_6, c_23, c_40, b_50]), ht⟩) (fun _ h => nomatch h) dX1_why_57
        · skip
          refine lv_if_eq (tgt := 58) hx hb dX1_why_53 (by decide) (fun _ => ?_) (fun c9 => absurd (by decide) c9)
          refine lv_iload_n hx hb dX1_why_58 rfl (lv_at hl 2 rfl) ?_
          refine lv_if_le (tgt := 75) hx hb dX1_why_59 (by decide) (fun c_59 => ?_) (fun c_59 => ?_)
          · skip
            have c_59 := Int32.not_lt.mpr c_59
            refine lv_iload_n hx hb dX1_why_75 rfl (lv_at hl 2 rfl) ?_
            refine lv_iconst (v := 1) hx hb dX1_why_76 (by decide) ?_
            refine lv_iadd hx hb dX1_why_77 ?_
            refine lv_aload_n hx hb dX1_why_78 rfl (lv_at hl 0 rfl) ?_
            refine sa_g1_breaks S hin hK hP (by decide +kernel) dX1_why_79 ?_
            refine lv_icmp_ge (tgt := 102) hx hb dX1_why_82 (by decide) (fun c_82 => ?_) (fun c_82 => ?_)
            · skip
              have c_82 := Int32.not_lt.mpr c_82
              refine lv_iconst (v := 0) hx hb dX1_why_102 (by decide) ?_
              refine lv_istore (lv' := [(4, .int (0)), (0, .ref (a 0)), (1, .int (o)), (2, .int (at')), (3, .int (w))]) hx hb dX1_why_103 hl (by decide) rfl (fun ls hl => ?_)
              refine lv_aload_n hx hb dX1_why_105 rfl (lv_at hl 1 rfl) ?_
              refine lv_iload_n hx hb dX1_why_106 rfl (lv_at hl 2 rfl) ?_
              refine lv_iload_n hx hb dX1_why_107 rfl (lv_at hl 3 rfl) ?_
              refine lv_iload_n hx hb dX1_why_108 rfl (lv_at hl 4 rfl) ?_
              refine lv_iconst (v := 1) hx hb dX1_why_109 (by decide) ?_
              refine sa_kRd (As := [.int (o), .int (at'), .int (w), .int (1)]) (rest := []) S (c_X1_isThere l G cI cZ cL a σ th hI o at' w 1 ho) (cwV 4 hts gX1_why_X1_isThere rfl rfl rfl (by decide +kernel) ⟨Nat.le_of_ble_eq_true rfl, Nat.le_of_ble_eq_true rfl⟩) hP hK (ci := 1) rfl rfl rfl hl.1 (Nat.le_of_ble_eq_true rfl) rfl dX1_why_110 ⟨Nat.zero_le _, Nat.zero_le _⟩ ?_
              refine sa_spl (fun b_110 => ?_) (fun b_110 => ?_)
              · skip
                refine lv_if_eq (tgt := 120) hx hb dX1_why_113 (by decide) (fun c9 => absurd c9 (by decide)) (fun _ => ?_)
                refine lv_iconst (v := 5) hx hb dX1_why_116 (by decide) ?_
                refine lv_goto (tgt := 131) hx hb dX1_why_117 (by decide) ?_
                exact W.iret (v := 5) hx hb hr (fun t9 ht _ => ⟨_, rfl, (by unfold sa_why; simp [sa_nx, c_6, c_23, c_40, b_50, c_59, c_82, b_110]), ht⟩) (fun _ h => nomatch h) dX1_why_131
              · skip
                refine lv_if_eq (tgt := 120) hx hb dX1_why_113 (by decide) (fun _ => ?_) (fun c9 => absurd (by decide) c9)
                refine lv_iload hx hb dX1_why_120 (lv_at hl 0 rfl) ?_
                refine lv_if_eq (tgt := 130) hx hb dX1_why_122 (by decide) (fun _ => ?_) (fun c9 => absurd (by decide) c9)
                refine lv_iconst (v := 0) hx hb dX1_why_130 (by decide) ?_
                exact W.iret (v := 0) hx hb hr (fun t9 ht _ => ⟨_, rfl, (by unfold sa_why; simp [sa_nx, c_6, c_23, c_40, b_50, c_59, c_82, b_110]), ht⟩) (fun _ h => nomatch h) dX1_why_131
            · skip
              have c_82 := Int32.not_le.mp c_82
              refine lv_aload_n hx hb dX1_why_85 rfl (lv_at hl 0 rfl) ?_
              refine lv_iload_n hx hb dX1_why_86 rfl (lv_at hl 1 rfl) ?_
              refine lv_iload_n hx hb dX1_why_87 rfl (lv_at hl 2 rfl) ?_
              refine lv_iconst (v := 1) hx hb dX1_why_88 (by decide) ?_
              refine lv_iadd hx hb dX1_why_89 ?_
              refine lv_iload_n hx hb dX1_why_90 rfl (lv_at hl 3 rfl) ?_
              refine lv_iconst (v := 1) hx hb dX1_why_91 (by decide) ?_
              refine sa_kRd (As := [.int (o), .int (at' + 1), .int (w), .int (1)]) (rest := []) S (c_X1_isThere l G cI cZ cL a σ th hI o (at' + 1) w 1 ho) (cwV 4 hts gX1_why_X1_isThere rfl rfl rfl (by decide +kernel) ⟨Nat.le_of_ble_eq_true rfl, Nat.le_of_ble_eq_true rfl⟩) hP hK (ci := 1) rfl rfl rfl hl.1 (Nat.le_of_ble_eq_true rfl) rfl dX1_why_92 ⟨Nat.zero_le _, Nat.zero_le _⟩ ?_
              refine sa_spl (fun b_92 => ?_) (fun b_92 => ?_)
              · skip
                refine lv_if_eq (tgt := 102) hx hb dX1_why_95 (by decide) (fun c9 => absurd c9 (by decide)) (fun _ => ?_)
                refine lv_iconst (v := 1) hx hb dX1_why_98 (by decide) ?_
                refine lv_goto (tgt := 103) hx hb dX1_why_99 (by decide) ?_
                refine lv_istore (lv' := [(4, .int (1)), (0, .ref (a 0)), (1, .int (o)), (2, .int (at')), (3, .int (w))]) hx hb dX1_why_103 hl (by decide) rfl (fun ls hl => ?_)
                refine lv_aload_n hx hb dX1_why_105 rfl (lv_at hl 1 rfl) ?_
                refine lv_iload_n hx hb dX1_why_106 rfl (lv_at hl 2 rfl) ?_
                refine lv_iload_n hx hb dX1_why_107 rfl (lv_at hl 3 rfl) ?_
                refine lv_iload_n hx hb dX1_why_108 rfl (lv_at hl 4 rfl) ?_
                refine lv_iconst (v := 1) hx hb dX1_why_109 (by decide) ?_
                refine sa_kRd (As := [.int (o), .int (at'), .int (w), .int (1)]) (rest := []) S (c_X1_isThere l G cI cZ cL a σ th hI o at' w 1 ho) (cwV 4 hts gX1_why_X1_isThere rfl rfl rfl (by decide +kernel) ⟨Nat.le_of_ble_eq_true rfl, Nat.le_of_ble_eq_true rfl⟩) hP hK (ci := 1) rfl rfl rfl hl.1 (Nat.le_of_ble_eq_true rfl) rfl dX1_why_110 ⟨Nat.zero_le _, Nat.zero_le _⟩ ?_
                refine sa_spl (fun b_110 => ?_) (fun b_110 => ?_)
                · skip
                  refine lv_if_eq (tgt := 120) hx hb dX1_why_113 (by decide) (fun c9 => absurd c9 (by decide)) (fun _ => ?_)
                  refine lv_iconst (v := 5) hx hb dX1_why_116 (by decide) ?_
                  refine lv_goto (tgt := 131) hx hb dX1_why_117 (by decide) ?_
                  exact W.iret (v := 5) hx hb hr (fun t9 ht _ => ⟨_, rfl, (by unfold sa_why; simp [sa_nx, c_6, c_23, c_40, b_50, c_59, c_82, b_92, b_110]), ht⟩) (fun _ h => nomatch h) dX1_why_131
                · skip
                  refine lv_if_eq (tgt := 120) hx hb dX1_why_113 (by decide) (fun _ => ?_) (fun c9 => absurd (by decide) c9)
                  refine lv_iload hx hb dX1_why_120 (lv_at hl 0 rfl) ?_
                  refine lv_if_eq (tgt := 130) hx hb dX1_why_122 (by decide) (fun c9 => absurd c9 (by decide)) (fun _ => ?_)
                  refine lv_bipush (v := 6) hx hb dX1_why_125 (by decide) ?_
                  refine lv_goto (tgt := 131) hx hb dX1_why_127 (by decide) ?_
                  exact W.iret (v := 6) hx hb hr (fun t9 ht _ => ⟨_, rfl, (by unfold sa_why; simp [sa_nx, c_6, c_23, c_40, b_50, c_59, c_82, b_92, b_110]), ht⟩) (fun _ h => nomatch h) dX1_why_131
              · skip
                refine lv_if_eq (tgt := 102) hx hb dX1_why_95 (by decide) (fun _ => ?_) (fun c9 => absurd (by decide) c9)
                refine lv_iconst (v := 0) hx hb dX1_why_102 (by decide) ?_
                refine lv_istore (lv' := [(4, .int (0)), (0, .ref (a 0)), (1, .int (o)), (2, .int (at')), (3, .int (w))]) hx hb dX1_why_103 hl (by decide) rfl (fun ls hl => ?_)
                refine lv_aload_n hx hb dX1_why_105 rfl (lv_at hl 1 rfl) ?_
                refine lv_iload_n hx hb dX1_why_106 rfl (lv_at hl 2 rfl) ?_
                refine lv_iload_n hx hb dX1_why_107 rfl (lv_at hl 3 rfl) ?_
                refine lv_iload_n hx hb dX1_why_108 rfl (lv_at hl 4 rfl) ?_
                refine lv_iconst (v := 1) hx hb dX1_why_109 (by decide) ?_
                refine sa_kRd (As := [.int (o), .int (at'), .int (w), .int (1)]) (rest := []) S (c_X1_isThere l G cI cZ cL a σ th hI o at' w 1 ho) (cwV 4 hts gX1_why_X1_isThere rfl rfl rfl (by decide +kernel) ⟨Nat.le_of_ble_eq_true rfl, Nat.le_of_ble_eq_true rfl⟩) hP hK (ci := 1) rfl rfl rfl hl.1 (Nat.le_of_ble_eq_true rfl) rfl dX1_why_110 ⟨Nat.zero_le _, Nat.zero_le _⟩ ?_
                refine sa_spl (fun b_110 => ?_) (fun b_110 => ?_)
                · skip
                  refine lv_if_eq (tgt := 120) hx hb dX1_why_113 (by decide) (fun c9 => absurd c9 (by decide)) (fun _ => ?_)
                  refine lv_iconst (v := 5) hx hb dX1_why_116 (by decide) ?_
                  refine lv_goto (tgt := 131) hx hb dX1_why_117 (by decide) ?_
                  exact W.iret (v := 5) hx hb hr (fun t9 ht _ => ⟨_, rfl, (by unfold sa_why; simp [sa_nx, c_6, c_23, c_40, b_50, c_59, c_82, b_92, b_110]), ht⟩) (fun _ h => nomatch h) dX1_why_131
                · skip
                  refine lv_if_eq (tgt := 120) hx hb dX1_why_113 (by decide) (fun _ => ?_) (fun c9 => absurd (by decide) c9)
                  refine lv_iload hx hb dX1_why_120 (lv_at hl 0 rfl) ?_
                  refine lv_if_eq (tgt := 130) hx hb dX1_why_122 (by decide) (fun _ => ?_) (fun c9 => absurd (by decide) c9)
                  refine lv_iconst (v := 0) hx hb dX1_why_130 (by decide) ?_
                  exact W.iret (v := 0) hx hb hr (fun t9 ht _ => ⟨_, rfl, (by unfold sa_why; simp [sa_nx, c_6, c_23, c_40, b_50, c_59, c_82, b_92, b_110]), ht⟩) (fun _ h => nomatch h) dX1_why_131
          · skip
            have c_59 := Int32.not_le.mp c_59
            refine lv_aload_n hx hb dX1_why_62 rfl (lv_at hl 0 rfl) ?_
            refine lv_iload_n hx hb dX1_why_63 rfl (lv_at hl 1 rfl) ?_
            refine lv_iload_n hx hb dX1_why_64 rfl (lv_at hl 2 rfl) ?_
            refine lv_iconst (v := 1) hx hb dX1_why_65 (by decide) ?_
            refine lv_isub hx hb dX1_why_66 ?_
            refine lv_iload_n hx hb dX1_why_67 rfl (lv_at hl 3 rfl) ?_
            refine lv_iconst (v := 1) hx hb dX1_why_68 (by decide) ?_
            refine sa_kRd (As := [.int (o), .int (at' - 1), .int (w), .int (1)]) (rest := []) S (c_X1_isThere l G cI cZ cL a σ th hI o (at' - 1) w 1 ho) (cwV 4 hts gX1_why_X1_isThere rfl rfl rfl (by decide +kernel) ⟨Nat.le_of_ble_eq_true rfl, Nat.le_of_ble_eq_true rfl⟩) hP hK (ci := 1) rfl rfl rfl hl.1 (Nat.le_of_ble_eq_true rfl) rfl dX1_why_69 ⟨Nat.zero_le _, Nat.zero_le _⟩ ?_
            refine sa_spl (fun b_69 => ?_) (fun b_69 => ?_)
            · skip
              refine lv_if_ne (tgt := 98) hx hb dX1_why_72 (by decide) (fun _ => ?_) (fun c9 => absurd c9 (by decide))
              refine lv_iconst (v := 1) hx hb dX1_why_98 (by decide) ?_
              refine lv_goto (tgt := 103) hx hb dX1_why_99 (by decide) ?_
              refine lv_istore (lv' := [(4, .int (1)), (0, .ref (a 0)), (1, .int (o)), (2, .int (at')), (3, .int (w))]) hx hb dX1_why_103 hl (by decide) rfl (fun ls hl => ?_)
              refine lv_aload_n hx hb dX1_why_105 rfl (lv_at hl 1 rfl) ?_
              refine lv_iload_n hx hb dX1_why_106 rfl (lv_at hl 2 rfl) ?_
              refine lv_iload_n hx hb dX1_why_107 rfl (lv_at hl 3 rfl) ?_
              refine lv_iload_n hx hb dX1_why_108 rfl (lv_at hl 4 rfl) ?_
              refine lv_iconst (v := 1) hx hb dX1_why_109 (by decide) ?_
              refine sa_kRd (As := [.int (o), .int (at'), .int (w), .int (1)]) (rest := []) S (c_X1_isThere l G cI cZ cL a σ th hI o at' w 1 ho) (cwV 4 hts gX1_why_X1_isThere rfl rfl rfl (by decide +kernel) ⟨Nat.le_of_ble_eq_true rfl, Nat.le_of_ble_eq_true rfl⟩) hP hK (ci := 1) rfl rfl rfl hl.1 (Nat.le_of_ble_eq_true rfl) rfl dX1_why_110 ⟨Nat.zero_le _, Nat.zero_le _⟩ ?_
              refine sa_spl (fun b_110 => ?_) (fun b_110 => ?_)
              · skip
                refine lv_if_eq (tgt := 120) hx hb dX1_why_113 (by decide) (fun c9 => absurd c9 (by decide)) (fun _ => ?_)
                refine lv_iconst (v := 5) hx hb dX1_why_116 (by decide) ?_
                refine lv_goto (tgt := 131) hx hb dX1_why_117 (by decide) ?_
                exact W.iret (v := 5) hx hb hr (fun t9 ht _ => ⟨_, rfl, (by unfold sa_why; simp [sa_nx, c_6, c_23, c_40, b_50, c_59, b_69, b_110]), ht⟩) (fun _ h => nomatch h) dX1_why_131
              · skip
                refine lv_if_eq (tgt := 120) hx hb dX1_why_113 (by decide) (fun _ => ?_) (fun c9 => absurd (by decide) c9)
                refine lv_iload hx hb dX1_why_120 (lv_at hl 0 rfl) ?_
                refine lv_if_eq (tgt := 130) hx hb dX1_why_122 (by decide) (fun c9 => absurd c9 (by decide)) (fun _ => ?_)
                refine lv_bipush (v := 6) hx hb dX1_why_125 (by decide) ?_
                refine lv_goto (tgt := 131) hx hb dX1_why_127 (by decide) ?_
                exact W.iret (v := 6) hx hb hr (fun t9 ht _ => ⟨_, rfl, (by unfold sa_why; simp [sa_nx, c_6, c_23, c_40, b_50, c_59, b_69, b_110]), ht⟩) (fun _ h => nomatch h) dX1_why_131
            · skip
              refine lv_if_ne (tgt := 98) hx hb dX1_why_72 (by decide) (fun c9 => absurd (by decide) c9) (fun _ => ?_)
              refine lv_iload_n hx hb dX1_why_75 rfl (lv_at hl 2 rfl) ?_
              refine lv_iconst (v := 1) hx hb dX1_why_76 (by decide) ?_
              refine lv_iadd hx hb dX1_why_77 ?_
              refine lv_aload_n hx hb dX1_why_78 rfl (lv_at hl 0 rfl) ?_
              refine sa_g1_breaks S hin hK hP (by decide +kernel) dX1_why_79 ?_
              refine lv_icmp_ge (tgt := 102) hx hb dX1_why_82 (by decide) (fun c_82 => ?_) (fun c_82 => ?_)
              · skip
                have c_82 := Int32.not_lt.mpr c_82
                refine lv_iconst (v := 0) hx hb dX1_why_102 (by decide) ?_
                refine lv_istore (lv' := [(4, .int (0)), (0, .ref (a 0)), (1, .int (o)), (2, .int (at')), (3, .int (w))]) hx hb dX1_why_103 hl (by decide) rfl (fun ls hl => ?_)
                refine lv_aload_n hx hb dX1_why_105 rfl (lv_at hl 1 rfl) ?_
                refine lv_iload_n hx hb dX1_why_106 rfl (lv_at hl 2 rfl) ?_
                refine lv_iload_n hx hb dX1_why_107 rfl (lv_at hl 3 rfl) ?_
                refine lv_iload_n hx hb dX1_why_108 rfl (lv_at hl 4 rfl) ?_
                refine lv_iconst (v := 1) hx hb dX1_why_109 (by decide) ?_
                refine sa_kRd (As := [.int (o), .int (at'), .int (w), .int (1)]) (rest := []) S (c_X1_isThere l G cI cZ cL a σ th hI o at' w 1 ho) (cwV 4 hts gX1_why_X1_isThere rfl rfl rfl (by decide +kernel) ⟨Nat.le_of_ble_eq_true rfl, Nat.le_of_ble_eq_true rfl⟩) hP hK (ci := 1) rfl rfl rfl hl.1 (Nat.le_of_ble_eq_true rfl) rfl dX1_why_110 ⟨Nat.zero_le _, Nat.zero_le _⟩ ?_
                refine sa_spl (fun b_110 => ?_) (fun b_110 => ?_)
                · skip
                  refine lv_if_eq (tgt := 120) hx hb dX1_why_113 (by decide) (fun c9 => absurd c9 (by decide)) (fun _ => ?_)
                  refine lv_iconst (v := 5) hx hb dX1_why_116 (by decide) ?_
                  refine lv_goto (tgt := 131) hx hb dX1_why_117 (by decide) ?_
                  exact W.iret (v := 5) hx hb hr (fun t9 ht _ => ⟨_, rfl, (by unfold sa_why; simp [sa_nx, c_6, c_23, c_40, b_50, c_59, b_69, c_82, b_110]), ht⟩) (fun _ h => nomatch h) dX1_why_131
                · skip
                  refine lv_if_eq (tgt := 120) hx hb dX1_why_113 (by decide) (fun _ => ?_) (fun c9 => absurd (by decide) c9)
                  refine lv_iload hx hb dX1_why_120 (lv_at hl 0 rfl) ?_
                  refine lv_if_eq (tgt := 130) hx hb dX1_why_122 (by decide) (fun _ => ?_) (fun c9 => absurd (by decide) c9)
                  refine lv_iconst (v := 0) hx hb dX1_why_130 (by decide) ?_
                  exact W.iret (v := 0) hx hb hr (fun t9 ht _ => ⟨_, rfl, (by unfold sa_why; simp [sa_nx, c_6, c_23, c_40, b_50, c_59, b_69, c_82, b_110]), ht⟩) (fun _ h => nomatch h) dX1_why_131
              · skip
                have c_82 := Int32.not_le.mp c_82
                refine lv_aload_n hx hb dX1_why_85 rfl (lv_at hl 0 rfl) ?_
                refine lv_iload_n hx hb dX1_why_86 rfl (lv_at hl 1 rfl) ?_
                refine lv_iload_n hx hb dX1_why_87 rfl (lv_at hl 2 rfl) ?_
                refine lv_iconst (v := 1) hx hb dX1_why_88 (by decide) ?_
                refine lv_iadd hx hb dX1_why_89 ?_
                refine lv_iload_n hx hb dX1_why_90 rfl (lv_at hl 3 rfl) ?_
                refine lv_iconst (v := 1) hx hb dX1_why_91 (by decide) ?_
                refine sa_kRd (As := [.int (o), .int (at' + 1), .int (w), .int (1)]) (rest := []) S (c_X1_isThere l G cI cZ cL a σ th hI o (at' + 1) w 1 ho) (cwV 4 hts gX1_why_X1_isThere rfl rfl rfl (by decide +kernel) ⟨Nat.le_of_ble_eq_true rfl, Nat.le_of_ble_eq_true rfl⟩) hP hK (ci := 1) rfl rfl rfl hl.1 (Nat.le_of_ble_eq_true rfl) rfl dX1_why_92 ⟨Nat.zero_le _, Nat.zero_le _⟩ ?_
                refine sa_spl (fun b_92 => ?_) (fun b_92 => ?_)
                · skip
                  refine lv_if_eq (tgt := 102) hx hb dX1_why_95 (by decide) (fun c9 => absurd c9 (by decide)) (fun _ => ?_)
                  refine lv_iconst (v := 1) hx hb dX1_why_98 (by decide) ?_
                  refine lv_goto (tgt := 103) hx hb dX1_why_99 (by decide) ?_
                  refine lv_istore (lv' := [(4, .int (1)), (0, .ref (a 0)), (1, .int (o)), (2, .int (at')), (3, .int (w))]) hx hb dX1_why_103 hl (by decide) rfl (fun ls hl => ?_)
                  refine lv_aload_n hx hb dX1_why_105 rfl (lv_at hl 1 rfl) ?_
                  refine lv_iload_n hx hb dX1_why_106 rfl (lv_at hl 2 rfl) ?_
                  refine lv_iload_n hx hb dX1_why_107 rfl (lv_at hl 3 rfl) ?_
                  refine lv_iload_n hx hb dX1_why_108 rfl (lv_at hl 4 rfl) ?_
                  refine lv_iconst (v := 1) hx hb dX1_why_109 (by decide) ?_
                  refine sa_kRd (As := [.int (o), .int (at'), .int (w), .int (1)]) (rest := []) S (c_X1_isThere l G cI cZ cL a σ th hI o at' w 1 ho) (cwV 4 hts gX1_why_X1_isThere rfl rfl rfl (by decide +kernel) ⟨Nat.le_of_ble_eq_true rfl, Nat.le_of_ble_eq_true rfl⟩) hP hK (ci := 1) rfl rfl rfl hl.1 (Nat.le_of_ble_eq_true rfl) rfl dX1_why_110 ⟨Nat.zero_le _, Nat.zero_le _⟩ ?_
                  refine sa_spl (fun b_110 => ?_) (fun b_110 => ?_)
                  · skip
                    refine lv_if_eq (tgt := 120) hx hb dX1_why_113 (by decide) (fun c9 => absurd c9 (by decide)) (fun _ => ?_)
                    refine lv_iconst (v := 5) hx hb dX1_why_116 (by decide) ?_
                    refine lv_goto (tgt := 131) hx hb dX1_why_117 (by decide) ?_
                    exact W.iret (v := 5) hx hb hr (fun t9 ht _ => ⟨_, rfl, (by unfold sa_why; simp [sa_nx, c_6, c_23, c_40, b_50, c_59, b_69, c_82, b_92, b_110]), ht⟩) (fun _ h => nomatch h) dX1_why_131
                  · skip
                    refine lv_if_eq (tgt := 120) hx hb dX1_why_113 (by decide) (fun _ => ?_) (fun c9 => absurd (by decide) c9)
                    refine lv_iload hx hb dX1_why_120 (lv_at hl 0 rfl) ?_
                    refine lv_if_eq (tgt := 130) hx hb dX1_why_122 (by decide) (fun c9 => absurd c9 (by decide)) (fun _ => ?_)
                    refine lv_bipush (v := 6) hx hb dX1_why_125 (by decide) ?_
                    refine lv_goto (tgt := 131) hx hb dX1_why_127 (by decide) ?_
                    exact W.iret (v := 6) hx hb hr (fun t9 ht _ => ⟨_, rfl, (by unfold sa_why; simp [sa_nx, c_6, c_23, c_40, b_50, c_59, b_69, c_82, b_92, b_110]), ht⟩) (fun _ h => nomatch h) dX1_why_131
                · skip
                  refine lv_if_eq (tgt := 102) hx hb dX1_why_95 (by decide) (fun _ => ?_) (fun c9 => absurd (by decide) c9)
                  refine lv_iconst (v := 0) hx hb dX1_why_102 (by decide) ?_
                  refine lv_istore (lv' := [(4, .int (0)), (0, .ref (a 0)), (1, .int (o)), (2, .int (at')), (3, .int (w))]) hx hb dX1_why_103 hl (by decide) rfl (fun ls hl => ?_)
                  refine lv_aload_n hx hb dX1_why_105 rfl (lv_at hl 1 rfl) ?_
                  refine lv_iload_n hx hb dX1_why_106 rfl (lv_at hl 2 rfl) ?_
                  refine lv_iload_n hx hb dX1_why_107 rfl (lv_at hl 3 rfl) ?_
                  refine lv_iload_n hx hb dX1_why_108 rfl (lv_at hl 4 rfl) ?_
                  refine lv_iconst (v := 1) hx hb dX1_why_109 (by decide) ?_
                  refine sa_kRd (As := [.int (o), .int (at'), .int (w), .int (1)]) (rest := []) S (c_X1_isThere l G cI cZ cL a σ th hI o at' w 1 ho) (cwV 4 hts gX1_why_X1_isThere rfl rfl rfl (by decide +kernel) ⟨Nat.le_of_ble_eq_true rfl, Nat.le_of_ble_eq_true rfl⟩) hP hK (ci := 1) rfl rfl rfl hl.1 (Nat.le_of_ble_eq_true rfl) rfl dX1_why_110 ⟨Nat.zero_le _, Nat.zero_le _⟩ ?_
                  refine sa_spl (fun b_110 => ?_) (fun b_110 => ?_)
                  · skip
                    refine lv_if_eq (tgt := 120) hx hb dX1_why_113 (by decide) (fun c9 => absurd c9 (by decide)) (fun _ => ?_)
                    refine lv_iconst (v := 5) hx hb dX1_why_116 (by decide) ?_
                    refine lv_goto (tgt := 131) hx hb dX1_why_117 (by decide) ?_
                    exact W.iret (v := 5) hx hb hr (fun t9 ht _ => ⟨_, rfl, (by unfold sa_why; simp [sa_nx, c_6, c_23, c_40, b_50, c_59, b_69, c_82, b_92, b_110]), ht⟩) (fun _ h => nomatch h) dX1_why_131
                  · skip
                    refine lv_if_eq (tgt := 120) hx hb dX1_why_113 (by decide) (fun _ => ?_) (fun c9 => absurd (by decide) c9)
                    refine lv_iload hx hb dX1_why_120 (lv_at hl 0 rfl) ?_
                    refine lv_if_eq (tgt := 130) hx hb dX1_why_122 (by decide) (fun _ => ?_) (fun c9 => absurd (by decide) c9)
                    refine lv_iconst (v := 0) hx hb dX1_why_130 (by decide) ?_
                    exact W.iret (v := 0) hx hb hr (fun t9 ht _ => ⟨_, rfl, (by unfold sa_why; simp [sa_nx, c_6, c_23, c_40, b_50, c_59, b_69, c_82, b_92, b_110]), ht⟩) (fun _ h => nomatch h) dX1_why_131
      · skip
        have c_40 := Int32.not_le.mp c_40
        refine lv_iconst (v := 3) hx hb dX1_why_43 (by decide) ?_
        exact W.iret (v := 3) hx hb hr (fun t9 ht _ => ⟨_, rfl, (by unfold sa_why; simp [sa_nx, c_6, c_23, c_40]), ht⟩) (fun _ h => nomatch h) dX1_why_44
    · skip
      have c_23 := Int32.not_le.mp c_23
      refine lv_iconst (v := 2) hx hb dX1_why_26 (by decide) ?_
      exact W.iret (v := 2) hx hb hr (fun t9 ht _ => ⟨_, rfl, (by unfold sa_why; simp [sa_nx, c_6, c_23]), ht⟩) (fun _ h => nomatch h) dX1_why_27
  · skip
    refine lv_iconst (v := 1) hx hb dX1_why_9 (by decide) ?_
    exact W.iret (v := 1) hx hb hr (fun t9 ht _ => ⟨_, rfl, (by unfold sa_why; simp [sa_nx, c_6]), ht⟩) (fun _ h => nomatch h) dX1_why_10

set_option maxHeartbeats 4000000 in
set_option maxRecDepth 100000 in
theorem c_X1_best (l : Launch) (G : va_G) (cI cZ cL : ClassId) (a : Nat → Nat) (σ : sa_St) (th : Int32) (hI : sa_I σ) (o : Int32) (ho : vp_in o (σ.1 1)) : sa_Rd l yX1_best wsX1_best ({ frames := 3, cells := 0, slots := 0, locals := 74 }) G cI cZ cL (sa_W1 cI cZ a σ th) [.ref (a 0), .int (o)] (sa_best σ o (σ.1 0)) := by
  obtain ⟨hnb, hno, hns, hgr, hor, hbr, hai⟩ := id hI
  refine Met.ofW (cc := cX1_best) (maxL := 5) (ret := (some .int)) (by decide) rfl ?_
  intro p e s m args below meth c s₁ B9 hml hv
  obtain ⟨rfl, hP, hK⟩ := hv
  have hx := B9.exec
  have hb := B9.bytes
  have hr := B9.returns
  have hlk := B9.notSynchronized
  have hts := atoms_spec (ws := wsX1_best) B9.pre
  have hown : s.vm.findClass RX1 = some m.cls := findClass_of_methodNamed B9.named
  have S : CallFix p m c cX1_best 5 s _ wsX1_best RX1 := ⟨hx, hb, hml, hown, hts⟩
  have hin : ∀ w ∈ wsX10, w ∈ wsX1_best := by decide +kernel
  have hl := lv_entry ([.ref (a 0), .int (o)]) (n := 5) (Nat.le_of_ble_eq_true rfl)
  rw [lg_entry_eq]
  generalize (lg_sl ([.ref (a 0), .int (o)]) ++ List.replicate (5 - (lg_sl ([.ref (a 0), .int (o)])).length) Slot.unset).toArray = ls at hl ⊢
  have hl : lv_has ls 5 [(0, .ref (a 0)), (1, .int (o))] := hl
  refine lv_iconst (v := (-1)) hx hb dX1_best_0 (by decide) ?_
  refine lv_istore_n (lv' := [(2, .int ((-1))), (0, .ref (a 0)), (1, .int (o))]) hx hb dX1_best_1 rfl hl (by decide) rfl (fun ls hl => ?_)
  refine lv_iconst (v := 0) hx hb dX1_best_2 (by decide) ?_
  refine lv_istore_n (lv' := [(3, .int (0)), (2, .int ((-1))), (0, .ref (a 0)), (1, .int (o))]) hx hb dX1_best_3 rfl hl (by decide) rfl (fun ls hl => ?_)
  have loop : ∀ (n k : Nat), k + n = σ.1 0 → ∀ (x2 : Int32), x2 = sa_best σ o k →   ∀ ls : Array Slot, lv_has ls 5 [(3, .int (nI k)), (2, .int (x2)), (0, .ref (a 0)), (1, .int (o))] → W p l e (headSpec wsX1_best ({ frames := 3, cells := 0, slots := 0, locals := 74 })).room s m ([Value.ref (a 0), Value.int (o)] : List Value).toArray below meth c s.heap [] 0 0 (MQ below (vp_Si (fun z => z = sa_best σ o (σ.1 0))) ([Value.ref (a 0), Value.int (o)] : List Value).toArray s 0 0 (fun _ => False)) (F0 m 4 ls []) := by
    intro n
    induction n with
    | zero =>
      intro k hk x2 hx2  ls hl
      have hk2 : k = σ.1 0 := by omega
      subst hk2
      refine lv_iload_n hx hb dX1_best_4 rfl (lv_at hl 0 rfl) ?_
      refine lv_aload_n hx hb dX1_best_5 rfl (lv_at hl 2 rfl) ?_
      refine sa_g1_breaks S hin hK hP (by decide +kernel) dX1_best_6 ?_
      refine lv_icmp_ge (tgt := 66) hx hb dX1_best_9 (by decide) (fun _ => ?_) (fun c9 => absurd (nI_le (Nat.le_refl _) (by omega)) c9)
      refine lv_iload_n hx hb dX1_best_66 rfl (lv_at hl 1 rfl) ?_
      exact W.iret (v := x2) hx hb hr (fun t9 ht _ => ⟨_, rfl, hx2, ht⟩) (fun _ h => nomatch h) dX1_best_67
    | succ n ih =>
      intro k hk x2 hx2  ls hl
      have hkn : k < σ.1 0 := by omega
      refine lv_iload_n hx hb dX1_best_4 rfl (lv_at hl 0 rfl) ?_
      refine lv_aload_n hx hb dX1_best_5 rfl (lv_at hl 2 rfl) ?_
      refine sa_g1_breaks S hin hK hP (by decide +kernel) dX1_best_6 ?_
      refine lv_icmp_ge (tgt := 66) hx hb dX1_best_9 (by decide) (fun c9 => absurd c9 (nI_ge (by omega) (by omega))) (fun _ => ?_)
      refine lv_aload_n hx hb dX1_best_12 rfl (lv_at hl 2 rfl) ?_
      refine lv_iload_n hx hb dX1_best_13 rfl (lv_at hl 3 rfl) ?_
      refine lv_iload_n hx hb dX1_best_14 rfl (lv_at hl 0 rfl) ?_
      refine lv_iconst (v := (-1)) hx hb dX1_best_15 (by decide) ?_
      refine sa_kRd (As := [.int (o), .int (nI k), .int ((-1))]) (rest := []) S (c_X1_why l G cI cZ cL a σ th hI o (nI k) ((-1)) ho (vp_in_nI (by omega) (by omega))) (cwV 3 hts gX1_best_X1_why rfl rfl rfl (by decide +kernel) ⟨Nat.le_of_ble_eq_true rfl, Nat.le_of_ble_eq_true rfl⟩) hP hK (ci := 1) rfl rfl rfl hl.1 (Nat.le_of_ble_eq_true rfl) rfl dX1_best_16 ⟨Nat.zero_le _, Nat.zero_le _⟩ ?_
      refine lv_if_ne (tgt := 46) hx hb dX1_best_19 (by decide) (fun c_19 => ?_) (fun c_19 => ?_)
      · skip
        refine lv_iconst (v := 0) hx hb dX1_best_46 (by decide) ?_
        refine lv_istore (lv' := [(4, .int (0)), (3, .int (nI k)), (2, .int (x2)), (0, .ref (a 0)), (1, .int (o))]) hx hb dX1_best_47 hl (by decide) rfl (fun ls hl => ?_)
        refine lv_iload hx hb dX1_best_49 (lv_at hl 0 rfl) ?_
        refine lv_if_eq (tgt := 58) hx hb dX1_best_51 (by decide) (fun _ => ?_) (fun c9 => absurd (by decide) c9)
        refine lv_iload_n hx hb dX1_best_58 rfl (lv_at hl 2 rfl) ?_
        refine lv_istore_n (lv' := [(2, .int (x2)), (4, .int (0)), (3, .int (nI k)), (0, .ref (a 0)), (1, .int (o))]) hx hb dX1_best_59 rfl hl (by decide) rfl (fun ls hl => ?_)
        refine lv_iinc (v := nI (k + 1)) (lv' := [(3, .int (nI (k + 1))), (2, .int (x2)), (4, .int (0)), (0, .ref (a 0)), (1, .int (o))]) hx hb dX1_best_60 hl (k := 2) rfl (nI_1 k) (by decide) rfl (fun ls hl => ?_)
        refine lv_goto (tgt := 4) hx hb dX1_best_63 (by decide) ?_
        exact ih (k + 1) (by omega) x2 (by simp only [hx2] at *; simp [sa_best, sa_sd, sa_sec, sa_rat, sa_adv, sa_cat, sa_cnt, sa_aud, sa_less, sa_w, sa_nx, c_19])  ls (lv_sub hl [0, 1, 3, 4] rfl)
      · skip
        refine lv_iload_n hx hb dX1_best_22 rfl (lv_at hl 1 rfl) ?_
        refine lv_iconst (v := (-1)) hx hb dX1_best_23 (by decide) ?_
        refine lv_icmp_eq (tgt := 42) hx hb dX1_best_24 (by decide) (fun c_24 => ?_) (fun c_24 => ?_)
        · skip
          refine lv_iconst (v := 1) hx hb dX1_best_42 (by decide) ?_
          refine lv_goto (tgt := 47) hx hb dX1_best_43 (by decide) ?_
          refine lv_istore (lv' := [(4, .int (1)), (3, .int (nI k)), (2, .int (x2)), (0, .ref (a 0)), (1, .int (o))]) hx hb dX1_best_47 hl (by decide) rfl (fun ls hl => ?_)
          refine lv_iload hx hb dX1_best_49 (lv_at hl 0 rfl) ?_
          refine lv_if_eq (tgt := 58) hx hb dX1_best_51 (by decide) (fun c9 => absurd c9 (by decide)) (fun _ => ?_)
          refine lv_iload_n hx hb dX1_best_54 rfl (lv_at hl 1 rfl) ?_
          refine lv_goto (tgt := 59) hx hb dX1_best_55 (by decide) ?_
          refine lv_istore_n (lv' := [(2, .int (nI k)), (4, .int (1)), (3, .int (nI k)), (0, .ref (a 0)), (1, .int (o))]) hx hb dX1_best_59 rfl hl (by decide) rfl (fun ls hl => ?_)
          refine lv_iinc (v := nI (k + 1)) (lv' := [(3, .int (nI (k + 1))), (2, .int (nI k)), (4, .int (1)), (0, .ref (a 0)), (1, .int (o))]) hx hb dX1_best_60 hl (k := 2) rfl (nI_1 k) (by decide) rfl (fun ls hl => ?_)
          refine lv_goto (tgt := 4) hx hb dX1_best_63 (by decide) ?_
          exact ih (k + 1) (by omega) (nI k) (by simp only [hx2] at *; simp [sa_best, sa_sd, sa_sec, sa_rat, sa_adv, sa_cat, sa_cnt, sa_aud, sa_less, sa_w, sa_nx, c_19, c_24])  ls (lv_sub hl [0, 1, 3, 4] rfl)
        · skip
          have hf9 : vp_in x2 (σ.1 0) := by rw [hx2] at *; exact sa_vm (sa_best_in k (by omega) c_24) (by omega)
          refine lv_aload_n hx hb dX1_best_27 rfl (lv_at hl 2 rfl) ?_
          refine lv_iload_n hx hb dX1_best_28 rfl (lv_at hl 3 rfl) ?_
          refine lv_iload_n hx hb dX1_best_29 rfl (lv_at hl 0 rfl) ?_
          refine sa_kRd (As := [.int (o), .int (nI k)]) (rest := []) S (c_X1_ratingFor l G cI cZ cL a σ th hI o (nI k) ho (vp_in_nI (by omega) (by omega))) (cwV 2 hts gX1_best_X1_ratingFor rfl rfl rfl (by decide +kernel) ⟨Nat.le_of_ble_eq_true rfl, Nat.le_of_ble_eq_true rfl⟩) hP hK (ci := 1) rfl rfl rfl hl.1 (Nat.le_of_ble_eq_true rfl) rfl dX1_best_30 ⟨Nat.zero_le _, Nat.zero_le _⟩ ?_
          refine lv_aload_n hx hb dX1_best_33 rfl (lv_at hl 2 rfl) ?_
          refine lv_iload_n hx hb dX1_best_34 rfl (lv_at hl 3 rfl) ?_
          refine lv_iload_n hx hb dX1_best_35 rfl (lv_at hl 1 rfl) ?_
          refine sa_kRd (As := [.int (o), .int (x2)]) (rest := [.int (sa_rat σ o (nI k))]) S (c_X1_ratingFor l G cI cZ cL a σ th hI o x2 ho hf9) (cwV 2 hts gX1_best_X1_ratingFor rfl rfl rfl (by decide +kernel) ⟨Nat.le_of_ble_eq_true rfl, Nat.le_of_ble_eq_true rfl⟩) hP hK (ci := 1) rfl rfl rfl hl.1 (Nat.le_of_ble_eq_true rfl) rfl dX1_best_36 ⟨Nat.zero_le _, Nat.zero_le _⟩ ?_
          refine lv_icmp_le (tgt := 46) hx hb dX1_best_39 (by decide) (fun c_39 => ?_) (fun c_39 => ?_)
          · skip
            have c_39 := Int32.not_lt.mpr c_39
            refine lv_iconst (v := 0) hx hb dX1_best_46 (by decide) ?_
            refine lv_istore (lv' := [(4, .int (0)), (3, .int (nI k)), (2, .int (x2)), (0, .ref (a 0)), (1, .int (o))]) hx hb dX1_best_47 hl (by decide) rfl (fun ls hl => ?_)
            refine lv_iload hx hb dX1_best_49 (lv_at hl 0 rfl) ?_
            refine lv_if_eq (tgt := 58) hx hb dX1_best_51 (by decide) (fun _ => ?_) (fun c9 => absurd (by decide) c9)
            refine lv_iload_n hx hb dX1_best_58 rfl (lv_at hl 2 rfl) ?_
            refine lv_istore_n (lv' := [(2, .int (x2)), (4, .int (0)), (3, .int (nI k)), (0, .ref (a 0)), (1, .int (o))]) hx hb dX1_best_59 rfl hl (by decide) rfl (fun ls hl => ?_)
            refine lv_iinc (v := nI (k + 1)) (lv' := [(3, .int (nI (k + 1))), (2, .int (x2)), (4, .int (0)), (0, .ref (a 0)), (1, .int (o))]) hx hb dX1_best_60 hl (k := 2) rfl (nI_1 k) (by decide) rfl (fun ls hl => ?_)
            refine lv_goto (tgt := 4) hx hb dX1_best_63 (by decide) ?_
            exact ih (k + 1) (by omega) x2 (by simp only [hx2] at *; simp [sa_best, sa_sd, sa_sec, sa_rat, sa_adv, sa_cat, sa_cnt, sa_aud, sa_less, sa_w, sa_nx, c_19, c_24, c_39])  ls (lv_sub hl [0, 1, 3, 4] rfl)
          · skip
            have c_39 := Int32.not_le.mp c_39
            refine lv_iconst (v := 1) hx hb dX1_best_42 (by decide) ?_
            refine lv_goto (tgt := 47) hx hb dX1_best_43 (by decide) ?_
            refine lv_istore (lv' := [(4, .int (1)), (3, .int (nI k)), (2, .int (x2)), (0, .ref (a 0)), (1, .int (o))]) hx hb dX1_best_47 hl (by decide) rfl (fun ls hl => ?_)
            refine lv_iload hx hb dX1_best_49 (lv_at hl 0 rfl) ?_
            refine lv_if_eq (tgt := 58) hx hb dX1_best_51 (by decide) (fun c9 => absurd c9 (by decide)) (fun _ => ?_)
            refine lv_iload_n hx hb dX1_best_54 rfl (lv_at hl 1 rfl) ?_
            refine lv_goto (tgt := 59) hx hb dX1_best_55 (by decide) ?_
            refine lv_istore_n (lv' := [(2, .int (nI k)), (4, .int (1)), (3, .int (nI k)), (0, .ref (a 0)), (1, .int (o))]) hx hb dX1_best_59 rfl hl (by decide) rfl (fun ls hl => ?_)
            refine lv_iinc (v := nI (k + 1)) (lv' := [(3, .int (nI (k + 1))), (2, .int (nI k)), (4, .int (1)), (0, .ref (a 0)), (1, .int (o))]) hx hb dX1_best_60 hl (k := 2) rfl (nI_1 k) (by decide) rfl (fun ls hl => ?_)
            refine lv_goto (tgt := 4) hx hb dX1_best_63 (by decide) ?_
            exact ih (k + 1) (by omega) (nI k) (by simp only [hx2] at *; simp [sa_best, sa_sd, sa_sec, sa_rat, sa_adv, sa_cat, sa_cnt, sa_aud, sa_less, sa_w, sa_nx, c_19, c_24, c_39])  ls (lv_sub hl [0, 1, 3, 4] rfl)
  exact loop (σ.1 0) 0 (Nat.zero_add _) ((-1)) rfl  ls (lv_sub hl [0, 1, 2, 3] rfl)

set_option maxHeartbeats 4000000 in
set_option maxRecDepth 100000 in
theorem c_X1_billOf (l : Launch) (G : va_G) (cI cZ cL : ClassId) (a : Nat → Nat) (σ : sa_St) (th : Int32) (hI : sa_I σ) (o : Int32) (ho : vp_in o (σ.1 1)) : sa_Rd l yX1_billOf wsX1_billOf ({ frames := 0, cells := 0, slots := 0, locals := 0 }) G cI cZ cL (sa_W1 cI cZ a σ th) [.ref (a 0), .int (o)] (sa_bil σ o (σ.1 2)) := by
  obtain ⟨hnb, hno, hns, hgr, hor, hbr, hai⟩ := id hI
  refine Met.ofW (cc := cX1_billOf) (maxL := 4) (ret := (some .int)) (by decide) rfl ?_
  intro p e s m args below meth c s₁ B9 hml hv
  obtain ⟨rfl, hP, hK⟩ := hv
  have hx := B9.exec
  have hb := B9.bytes
  have hr := B9.returns
  have hlk := B9.notSynchronized
  have hts := atoms_spec (ws := wsX1_billOf) B9.pre
  have hown : s.vm.findClass RX1 = some m.cls := findClass_of_methodNamed B9.named
  have S : CallFix p m c cX1_billOf 4 s _ wsX1_billOf RX1 := ⟨hx, hb, hml, hown, hts⟩
  have hin : ∀ w ∈ wsX10, w ∈ wsX1_billOf := by decide +kernel
  have hl := lv_entry ([.ref (a 0), .int (o)]) (n := 4) (Nat.le_of_ble_eq_true rfl)
  rw [lg_entry_eq]
  generalize (lg_sl ([.ref (a 0), .int (o)]) ++ List.replicate (4 - (lg_sl ([.ref (a 0), .int (o)])).length) Slot.unset).toArray = ls at hl ⊢
  have hl : lv_has ls 4 [(0, .ref (a 0)), (1, .int (o))] := hl
  refine lv_iconst (v := 0) hx hb dX1_billOf_0 (by decide) ?_
  refine lv_istore_n (lv' := [(2, .int (0)), (0, .ref (a 0)), (1, .int (o))]) hx hb dX1_billOf_1 rfl hl (by decide) rfl (fun ls hl => ?_)
  refine lv_iconst (v := 0) hx hb dX1_billOf_2 (by decide) ?_
  refine lv_istore_n (lv' := [(3, .int (0)), (2, .int (0)), (0, .ref (a 0)), (1, .int (o))]) hx hb dX1_billOf_3 rfl hl (by decide) rfl (fun ls hl => ?_)
  have loop : ∀ (n k : Nat), k + n = σ.1 2 → ∀ (x1 : Int32), x1 = sa_bil σ o k →   ∀ ls : Array Slot, lv_has ls 4 [(3, .int (nI k)), (2, .int (x1)), (0, .ref (a 0)), (1, .int (o))] → W p l e (headSpec wsX1_billOf ({ frames := 0, cells := 0, slots := 0, locals := 0 })).room s m ([Value.ref (a 0), Value.int (o)] : List Value).toArray below meth c s.heap [] 0 0 (MQ below (vp_Si (fun z => z = sa_bil σ o (σ.1 2))) ([Value.ref (a 0), Value.int (o)] : List Value).toArray s 0 0 (fun _ => False)) (F0 m 4 ls []) := by
    intro n
    induction n with
    | zero =>
      intro k hk x1 hx1  ls hl
      have hk2 : k = σ.1 2 := by omega
      subst hk2
      refine lv_iload_n hx hb dX1_billOf_4 rfl (lv_at hl 0 rfl) ?_
      refine lv_aload_n hx hb dX1_billOf_5 rfl (lv_at hl 2 rfl) ?_
      refine sa_g1_spots S hin hK hP (by decide +kernel) dX1_billOf_6 ?_
      refine lv_icmp_ge (tgt := 60) hx hb dX1_billOf_9 (by decide) (fun _ => ?_) (fun c9 => absurd (nI_le (Nat.le_refl _) (by omega)) c9)
      refine lv_iload_n hx hb dX1_billOf_60 rfl (lv_at hl 1 rfl) ?_
      exact W.iret (v := x1) hx hb hr (fun t9 ht _ => ⟨_, rfl, hx1, ht⟩) (fun _ h => nomatch h) dX1_billOf_61
    | succ n ih =>
      intro k hk x1 hx1  ls hl
      have hkn : k < σ.1 2 := by omega
      refine lv_iload_n hx hb dX1_billOf_4 rfl (lv_at hl 0 rfl) ?_
      refine lv_aload_n hx hb dX1_billOf_5 rfl (lv_at hl 2 rfl) ?_
      refine sa_g1_spots S hin hK hP (by decide +kernel) dX1_billOf_6 ?_
      refine lv_icmp_ge (tgt := 60) hx hb dX1_billOf_9 (by decide) (fun c9 => absurd c9 (nI_ge (by omega) (by omega))) (fun _ => ?_)
      refine lv_iload_n hx hb dX1_billOf_12 rfl (lv_at hl 1 rfl) ?_
      refine lv_aload_n hx hb dX1_billOf_13 rfl (lv_at hl 2 rfl) ?_
      refine sa_g1_order S hin hK hP (by decide +kernel) dX1_billOf_14 ?_
      refine lv_iload_n hx hb dX1_billOf_17 rfl (lv_at hl 0 rfl) ?_
      refine sa_ldk 12 S hK hP rfl (by omega) (by decide) dX1_billOf_18 ?_
      refine lv_iload_n hx hb dX1_billOf_19 rfl (lv_at hl 3 rfl) ?_
      refine lv_icmp_ne (tgt := 51) hx hb dX1_billOf_20 (by decide) (fun c_20 => ?_) (fun c_20 => ?_)
      · skip
        refine lv_iconst (v := 0) hx hb dX1_billOf_51 (by decide) ?_
        refine lv_iadd hx hb dX1_billOf_52 ?_
        refine lv_istore_n (lv' := [(2, .int (x1 + 0)), (3, .int (nI k)), (0, .ref (a 0)), (1, .int (o))]) hx hb dX1_billOf_53 rfl hl (by decide) rfl (fun ls hl => ?_)
        refine lv_iinc (v := nI (k + 1)) (lv' := [(3, .int (nI (k + 1))), (2, .int (x1 + 0)), (0, .ref (a 0)), (1, .int (o))]) hx hb dX1_billOf_54 hl (k := 1) rfl (nI_1 k) (by decide) rfl (fun ls hl => ?_)
        refine lv_goto (tgt := 4) hx hb dX1_billOf_57 (by decide) ?_
        exact ih (k + 1) (by omega) (x1 + 0) (by simp [sa_bil, hx1, sa_sd, sa_sec, sa_rat, sa_adv, sa_cat, sa_cnt, sa_aud, sa_less, sa_w, sa_nx, c_20])  ls (lv_sub hl [0, 1, 2, 3] rfl)
      · skip
        refine lv_aload_n hx hb dX1_billOf_23 rfl (lv_at hl 2 rfl) ?_
        refine sa_g1_state S hin hK hP (by decide +kernel) dX1_billOf_24 ?_
        refine lv_iload_n hx hb dX1_billOf_27 rfl (lv_at hl 0 rfl) ?_
        refine sa_ldk 14 S hK hP rfl (by omega) (by decide) dX1_billOf_28 ?_
        refine lv_iconst (v := 1) hx hb dX1_billOf_29 (by decide) ?_
        refine lv_icmp_ne (tgt := 51) hx hb dX1_billOf_30 (by decide) (fun c_30 => ?_) (fun c_30 => ?_)
        · skip
          refine lv_iconst (v := 0) hx hb dX1_billOf_51 (by decide) ?_
          refine lv_iadd hx hb dX1_billOf_52 ?_
          refine lv_istore_n (lv' := [(2, .int (x1 + 0)), (3, .int (nI k)), (0, .ref (a 0)), (1, .int (o))]) hx hb dX1_billOf_53 rfl hl (by decide) rfl (fun ls hl => ?_)
          refine lv_iinc (v := nI (k + 1)) (lv' := [(3, .int (nI (k + 1))), (2, .int (x1 + 0)), (0, .ref (a 0)), (1, .int (o))]) hx hb dX1_billOf_54 hl (k := 1) rfl (nI_1 k) (by decide) rfl (fun ls hl => ?_)
          refine lv_goto (tgt := 4) hx hb dX1_billOf_57 (by decide) ?_
          exact ih (k + 1) (by omega) (x1 + 0) (by simp [sa_bil, hx1, sa_sd, sa_sec, sa_rat, sa_adv, sa_cat, sa_cnt, sa_aud, sa_less, sa_w, sa_nx, c_20, c_30])  ls (lv_sub hl [0, 1, 2, 3] rfl)
        · skip
          refine lv_aload_n hx hb dX1_billOf_33 rfl (lv_at hl 2 rfl) ?_
          refine sa_g1_free S hin hK hP (by decide +kernel) dX1_billOf_34 ?_
          refine lv_iload_n hx hb dX1_billOf_37 rfl (lv_at hl 0 rfl) ?_
          refine sa_ldzk 15 S hK hP rfl (by omega) (by decide) dX1_billOf_38 ?_
          refine lv_if_ne (tgt := 51) hx hb dX1_billOf_39 (by decide) (fun c_39 => ?_) (fun c_39 => ?_)
          · skip
            refine lv_iconst (v := 0) hx hb dX1_billOf_51 (by decide) ?_
            refine lv_iadd hx hb dX1_billOf_52 ?_
            refine lv_istore_n (lv' := [(2, .int (x1 + 0)), (3, .int (nI k)), (0, .ref (a 0)), (1, .int (o))]) hx hb dX1_billOf_53 rfl hl (by decide) rfl (fun ls hl => ?_)
            refine lv_iinc (v := nI (k + 1)) (lv' := [(3, .int (nI (k + 1))), (2, .int (x1 + 0)), (0, .ref (a 0)), (1, .int (o))]) hx hb dX1_billOf_54 hl (k := 1) rfl (nI_1 k) (by decide) rfl (fun ls hl => ?_)
            refine lv_goto (tgt := 4) hx hb dX1_billOf_57 (by decide) ?_
            exact ih (k + 1) (by omega) (x1 + 0) (by simp [sa_bil, hx1, sa_sd, sa_sec, sa_rat, sa_adv, sa_cat, sa_cnt, sa_aud, sa_less, sa_w, sa_nx, c_20, c_30, c_39])  ls (lv_sub hl [0, 1, 2, 3] rfl)
          · skip
            refine lv_aload_n hx hb dX1_billOf_42 rfl (lv_at hl 2 rfl) ?_
            refine sa_g1_price S hin hK hP (by decide +kernel) dX1_billOf_43 ?_
            refine lv_iload_n hx hb dX1_billOf_46 rfl (lv_at hl 3 rfl) ?_
            refine sa_ld 8 S hK hP rfl (sa_vm ho (by omega)) dX1_billOf_47 ?_
            refine lv_goto (tgt := 52) hx hb dX1_billOf_48 (by decide) ?_
            refine lv_iadd hx hb dX1_billOf_52 ?_
            refine lv_istore_n (lv' := [(2, .int (x1 + (σ.2 8 o.toNatClampNeg))), (3, .int (nI k)), (0, .ref (a 0)), (1, .int (o))]) hx hb dX1_billOf_53 rfl hl (by decide) rfl (fun ls hl => ?_)
            refine lv_iinc (v := nI (k + 1)) (lv' := [(3, .int (nI (k + 1))), (2, .int (x1 + (σ.2 8 o.toNatClampNeg))), (0, .ref (a 0)), (1, .int (o))]) hx hb dX1_billOf_54 hl (k := 1) rfl (nI_1 k) (by decide) rfl (fun ls hl => ?_)
            refine lv_goto (tgt := 4) hx hb dX1_billOf_57 (by decide) ?_
            exact ih (k + 1) (by omega) (x1 + (σ.2 8 o.toNatClampNeg)) (by simp [sa_bil, hx1, sa_sd, sa_sec, sa_rat, sa_adv, sa_cat, sa_cnt, sa_aud, sa_less, sa_w, sa_nx, c_20, c_30, c_39])  ls (lv_sub hl [0, 1, 2, 3] rfl)
  exact loop (σ.1 2) 0 (Nat.zero_add _) 0 rfl  ls (lv_sub hl [0, 1, 2, 3] rfl)

set_option maxHeartbeats 4000000 in
set_option maxRecDepth 100000 in
theorem c_X1_goes (l : Launch) (G : va_G) (cI cZ cL : ClassId) (a : Nat → Nat) (σ : sa_St) (th : Int32) (hJ : sa_J a) (x1 x2 x3 : Int32) : sa_Wr l yX1_goes wsX1_goes ({ frames := 0, cells := 0, slots := 0, locals := 0 }) G cI cZ cL (sa_W1 cI cZ a σ th) (sa_W1 cI cZ a σ (sa_gc x1 x2 x3)) (sa_A a) [.ref (a 0), .int (x1), .int (x2), .int (x3)] (sa_b (sa_gc x1 x2 x3 = 0)) := by
  refine Met.ofW (cc := cX1_goes) (maxL := 4) (ret := (some .boolean)) (by decide) rfl ?_
  intro p e s m args below meth c s₁ B9 hml hv
  obtain ⟨rfl, hP, hK⟩ := hv
  have hx := B9.exec
  have hb := B9.bytes
  have hr := B9.returns
  have hlk := B9.notSynchronized
  have hts := atoms_spec (ws := wsX1_goes) B9.pre
  have hown : s.vm.findClass RX1 = some m.cls := findClass_of_methodNamed B9.named
  have S : CallFix p m c cX1_goes 4 s _ wsX1_goes RX1 := ⟨hx, hb, hml, hown, hts⟩
  have hin : ∀ w ∈ wsX10, w ∈ wsX1_goes := by decide +kernel
  have hS : va_S (sa_A a) s.heap s.heap [] := va_S.rf
  have hl := lv_entry ([.ref (a 0), .int (x1), .int (x2), .int (x3)]) (n := 4) (Nat.le_of_ble_eq_true rfl)
  rw [lg_entry_eq]
  generalize (lg_sl ([.ref (a 0), .int (x1), .int (x2), .int (x3)]) ++ List.replicate (4 - (lg_sl ([.ref (a 0), .int (x1), .int (x2), .int (x3)])).length) Slot.unset).toArray = ls at hl ⊢
  have hl : lv_has ls 4 [(0, .ref (a 0)), (1, .int (x1)), (2, .int (x2)), (3, .int (x3))] := hl
  refine lv_aload_n hx hb dX1_goes_0 rfl (lv_at hl 0 rfl) ?_
  refine lv_iload_n hx hb dX1_goes_1 rfl (lv_at hl 1 rfl) ?_
  refine lv_if_ne (tgt := 9) hx hb dX1_goes_2 (by decide) (fun c_2 => ?_) (fun c_2 => ?_)
  · skip
    refine lv_iload_n hx hb dX1_goes_9 rfl (lv_at hl 2 rfl) ?_
    refine lv_if_ne (tgt := 17) hx hb dX1_goes_10 (by decide) (fun c_10 => ?_) (fun c_10 => ?_)
    · skip
      refine lv_iload_n hx hb dX1_goes_17 rfl (lv_at hl 3 rfl) ?_
      refine lv_if_ne (tgt := 25) hx hb dX1_goes_18 (by decide) (fun c_18 => ?_) (fun c_18 => ?_)
      · skip
        refine lv_iconst (v := 0) hx hb dX1_goes_25 (by decide) ?_
        refine sa_p1_thrown S hin hK hP (sa_D1 hJ) hS (by decide +kernel) dX1_goes_26 (fun H locs hP hS => ?_)
        refine lv_aload_n hx hb dX1_goes_29 rfl (lv_at hl 0 rfl) ?_
        refine sa_g1_thrown S hin hK hP (by decide +kernel) dX1_goes_30 ?_
        refine lv_if_ne (tgt := 40) hx hb dX1_goes_33 (by decide) (fun c9 => absurd (by decide) c9) (fun _ => ?_)
        refine lv_iconst (v := 1) hx hb dX1_goes_36 (by decide) ?_
        refine lv_goto (tgt := 41) hx hb dX1_goes_37 (by decide) ?_
        exact W.zret (v := 1) (ty := .boolean) hx hb hr rfl (fun t9 ht _ => ⟨⟨_, (), rfl, (by rw [show sa_gc x1 x2 x3 = 0 from (by simp [sa_gc, c_2, c_10, c_18])]; rfl), by show va_P G vwCl (sa_W1 cI cZ a σ (sa_gc x1 x2 x3)) t9.heap; rw [ht]; exact (by rw [show sa_gc x1 x2 x3 = 0 from (by simp [sa_gc, c_2, c_10, c_18])]; exact hP)⟩, hS.F ht⟩) hS.2.2 dX1_goes_41
      · skip
        refine lv_iconst (v := 3) hx hb dX1_goes_21 (by decide) ?_
        refine lv_goto (tgt := 26) hx hb dX1_goes_22 (by decide) ?_
        refine sa_p1_thrown S hin hK hP (sa_D1 hJ) hS (by decide +kernel) dX1_goes_26 (fun H locs hP hS => ?_)
        refine lv_aload_n hx hb dX1_goes_29 rfl (lv_at hl 0 rfl) ?_
        refine sa_g1_thrown S hin hK hP (by decide +kernel) dX1_goes_30 ?_
        refine lv_if_ne (tgt := 40) hx hb dX1_goes_33 (by decide) (fun _ => ?_) (fun c9 => absurd c9 (by decide))
        refine lv_iconst (v := 0) hx hb dX1_goes_40 (by decide) ?_
        exact W.zret (v := 0) (ty := .boolean) hx hb hr rfl (fun t9 ht _ => ⟨⟨_, (), rfl, (by rw [show sa_gc x1 x2 x3 = 3 from (by simp [sa_gc, c_2, c_10, c_18])]; rfl), by show va_P G vwCl (sa_W1 cI cZ a σ (sa_gc x1 x2 x3)) t9.heap; rw [ht]; exact (by rw [show sa_gc x1 x2 x3 = 3 from (by simp [sa_gc, c_2, c_10, c_18])]; exact hP)⟩, hS.F ht⟩) hS.2.2 dX1_goes_41
    · skip
      refine lv_iconst (v := 2) hx hb dX1_goes_13 (by decide) ?_
      refine lv_goto (tgt := 26) hx hb dX1_goes_14 (by decide) ?_
      refine sa_p1_thrown S hin hK hP (sa_D1 hJ) hS (by decide +kernel) dX1_goes_26 (fun H locs hP hS => ?_)
      refine lv_aload_n hx hb dX1_goes_29 rfl (lv_at hl 0 rfl) ?_
      refine sa_g1_thrown S hin hK hP (by decide +kernel) dX1_goes_30 ?_
      refine lv_if_ne (tgt := 40) hx hb dX1_goes_33 (by decide) (fun _ => ?_) (fun c9 => absurd c9 (by decide))
      refine lv_iconst (v := 0) hx hb dX1_goes_40 (by decide) ?_
      exact W.zret (v := 0) (ty := .boolean) hx hb hr rfl (fun t9 ht _ => ⟨⟨_, (), rfl, (by rw [show sa_gc x1 x2 x3 = 2 from (by simp [sa_gc, c_2, c_10])]; rfl), by show va_P G vwCl (sa_W1 cI cZ a σ (sa_gc x1 x2 x3)) t9.heap; rw [ht]; exact (by rw [show sa_gc x1 x2 x3 = 2 from (by simp [sa_gc, c_2, c_10])]; exact hP)⟩, hS.F ht⟩) hS.2.2 dX1_goes_41
  · skip
    refine lv_iconst (v := 1) hx hb dX1_goes_5 (by decide) ?_
    refine lv_goto (tgt := 26) hx hb dX1_goes_6 (by decide) ?_
    refine sa_p1_thrown S hin hK hP (sa_D1 hJ) hS (by decide +kernel) dX1_goes_26 (fun H locs hP hS => ?_)
    refine lv_aload_n hx hb dX1_goes_29 rfl (lv_at hl 0 rfl) ?_
    refine sa_g1_thrown S hin hK hP (by decide +kernel) dX1_goes_30 ?_
    refine lv_if_ne (tgt := 40) hx hb dX1_goes_33 (by decide) (fun _ => ?_) (fun c9 => absurd c9 (by decide))
    refine lv_iconst (v := 0) hx hb dX1_goes_40 (by decide) ?_
    exact W.zret (v := 0) (ty := .boolean) hx hb hr rfl (fun t9 ht _ => ⟨⟨_, (), rfl, (by rw [show sa_gc x1 x2 x3 = 1 from (by simp [sa_gc, c_2])]; rfl), by show va_P G vwCl (sa_W1 cI cZ a σ (sa_gc x1 x2 x3)) t9.heap; rw [ht]; exact (by rw [show sa_gc x1 x2 x3 = 1 from (by simp [sa_gc, c_2])]; exact hP)⟩, hS.F ht⟩) hS.2.2 dX1_goes_41

set_option maxHeartbeats 4000000 in
set_option maxRecDepth 100000 in
theorem c_X1_told (l : Launch) (G : va_G) (cI cZ cL : ClassId) (a : Nat → Nat) (σ : sa_St) (th : Int32) (hJ : sa_J a) (v : Int32) : sa_Wr l yX1_told wsX1_told ({ frames := 0, cells := 0, slots := 0, locals := 0 }) G cI cZ cL (sa_W1 cI cZ a σ th) (sa_W1 cI cZ a σ 0) (sa_A a) [.ref (a 0), .int (v)] (v) := by
  refine Met.ofW (cc := cX1_told) (maxL := 2) (ret := (some .int)) (by decide) rfl ?_
  intro p e s m args below meth c s₁ B9 hml hv
  obtain ⟨rfl, hP, hK⟩ := hv
  have hx := B9.exec
  have hb := B9.bytes
  have hr := B9.returns
  have hlk := B9.notSynchronized
  have hts := atoms_spec (ws := wsX1_told) B9.pre
  have hown : s.vm.findClass RX1 = some m.cls := findClass_of_methodNamed B9.named
  have S : CallFix p m c cX1_told 2 s _ wsX1_told RX1 := ⟨hx, hb, hml, hown, hts⟩
  have hin : ∀ w ∈ wsX10, w ∈ wsX1_told := by decide +kernel
  have hS : va_S (sa_A a) s.heap s.heap [] := va_S.rf
  have hl := lv_entry ([.ref (a 0), .int (v)]) (n := 2) (Nat.le_of_ble_eq_true rfl)
  rw [lg_entry_eq]
  generalize (lg_sl ([.ref (a 0), .int (v)]) ++ List.replicate (2 - (lg_sl ([.ref (a 0), .int (v)])).length) Slot.unset).toArray = ls at hl ⊢
  have hl : lv_has ls 2 [(0, .ref (a 0)), (1, .int (v))] := hl
  refine lv_aload_n hx hb dX1_told_0 rfl (lv_at hl 0 rfl) ?_
  refine lv_iconst (v := 0) hx hb dX1_told_1 (by decide) ?_
  refine sa_p1_thrown S hin hK hP (sa_D1 hJ) hS (by decide +kernel) dX1_told_2 (fun H locs hP hS => ?_)
  refine lv_iload_n hx hb dX1_told_5 rfl (lv_at hl 1 rfl) ?_
  exact W.iret (v := v) hx hb hr (fun t9 ht _ => ⟨⟨_, (), rfl, rfl, by show va_P G vwCl (sa_W1 cI cZ a σ 0) t9.heap; rw [ht]; exact hP⟩, hS.F ht⟩) hS.2.2 dX1_told_6

set_option maxHeartbeats 4000000 in
set_option maxRecDepth 100000 in
theorem c_X1_adds (l : Launch) (G : va_G) (cI cZ cL : ClassId) (a : Nat → Nat) (σ : sa_St) (th : Int32) (hI : sa_I σ) (hJ : sa_J a) (hs : σ.1 2 < 150) (o at' fr : Int32) (hfr : fr = 0 ∨ fr = 1) : sa_Wr l yX1_adds wsX1_adds ({ frames := 0, cells := 0, slots := 0, locals := 0 }) G cI cZ cL (sa_W1 cI cZ a σ th) (sa_W1 cI cZ a (sa_add σ o at' fr) th) (sa_A a) [.ref (a 0), .int (o), .int (at'), .int (fr)] (nI (σ.1 2)) := by
  obtain ⟨hnb, hno, hns, hgr, hor, hbr, hai⟩ := id hI
  refine Met.ofW (cc := cX1_adds) (maxL := 4) (ret := (some .int)) (by decide) rfl ?_
  intro p e s m args below meth c s₁ B9 hml hv
  obtain ⟨rfl, hP, hK⟩ := hv
  have hx := B9.exec
  have hb := B9.bytes
  have hr := B9.returns
  have hlk := B9.notSynchronized
  have hts := atoms_spec (ws := wsX1_adds) B9.pre
  have hown : s.vm.findClass RX1 = some m.cls := findClass_of_methodNamed B9.named
  have S : CallFix p m c cX1_adds 4 s _ wsX1_adds RX1 := ⟨hx, hb, hml, hown, hts⟩
  have hin : ∀ w ∈ wsX10, w ∈ wsX1_adds := by decide +kernel
  have hS : va_S (sa_A a) s.heap s.heap [] := va_S.rf
  have hl := lv_entry ([.ref (a 0), .int (o), .int (at'), .int (fr)]) (n := 4) (Nat.le_of_ble_eq_true rfl)
  rw [lg_entry_eq]
  generalize (lg_sl ([.ref (a 0), .int (o), .int (at'), .int (fr)]) ++ List.replicate (4 - (lg_sl ([.ref (a 0), .int (o), .int (at'), .int (fr)])).length) Slot.unset).toArray = ls at hl ⊢
  have hl : lv_has ls 4 [(0, .ref (a 0)), (1, .int (o)), (2, .int (at')), (3, .int (fr))] := hl
  refine lv_aload_n hx hb dX1_adds_0 rfl (lv_at hl 0 rfl) ?_
  refine sa_g1_order S hin hK hP (by decide +kernel) dX1_adds_1 ?_
  refine lv_aload_n hx hb dX1_adds_4 rfl (lv_at hl 0 rfl) ?_
  refine sa_g1_spots S hin hK hP (by decide +kernel) dX1_adds_5 ?_
  refine lv_iload_n hx hb dX1_adds_8 rfl (lv_at hl 1 rfl) ?_
  refine sa_stk (ws' := (sa_W1 cI cZ a (sa_f σ 12 (upd (σ.2 12) (σ.1 2) o)) th)) 12 S hK hP (sa_D1 hJ) hS rfl (by omega) (by decide) rfl dX1_adds_9 (fun H locs hP hS => ?_)
  refine lv_aload_n hx hb dX1_adds_10 rfl (lv_at hl 0 rfl) ?_
  refine sa_g1_where S hin hK hP (by decide +kernel) dX1_adds_11 ?_
  refine lv_aload_n hx hb dX1_adds_14 rfl (lv_at hl 0 rfl) ?_
  refine sa_g1_spots S hin hK hP (by decide +kernel) dX1_adds_15 ?_
  show W p l e _ s m _ below meth c _ _ _ _ _ (F0 m 18 ls [.int (nI (σ.1 2)), .ref (a 13)])
  refine lv_iload_n hx hb dX1_adds_18 rfl (lv_at hl 2 rfl) ?_
  refine sa_stk (ws' := (sa_W1 cI cZ a (sa_f (sa_f σ 12 (upd (σ.2 12) (σ.1 2) o)) 13 (upd (σ.2 13) (σ.1 2) at')) th)) 13 S hK hP (sa_D1 hJ) hS rfl (by omega) (by decide) rfl dX1_adds_19 (fun H locs hP hS => ?_)
  refine lv_aload_n hx hb dX1_adds_20 rfl (lv_at hl 0 rfl) ?_
  refine sa_g1_state S hin hK hP (by decide +kernel) dX1_adds_21 ?_
  refine lv_aload_n hx hb dX1_adds_24 rfl (lv_at hl 0 rfl) ?_
  refine sa_g1_spots S hin hK hP (by decide +kernel) dX1_adds_25 ?_
  show W p l e _ s m _ below meth c _ _ _ _ _ (F0 m 28 ls [.int (nI (σ.1 2)), .ref (a 14)])
  refine lv_iconst (v := 0) hx hb dX1_adds_28 (by decide) ?_
  refine sa_stk (ws' := (sa_W1 cI cZ a (sa_f (sa_f (sa_f σ 12 (upd (σ.2 12) (σ.1 2) o)) 13 (upd (σ.2 13) (σ.1 2) at')) 14 (upd (σ.2 14) (σ.1 2) 0)) th)) 14 S hK hP (sa_D1 hJ) hS rfl (by omega) (by decide) rfl dX1_adds_29 (fun H locs hP hS => ?_)
  refine lv_aload_n hx hb dX1_adds_30 rfl (lv_at hl 0 rfl) ?_
  refine sa_g1_free S hin hK hP (by decide +kernel) dX1_adds_31 ?_
  refine lv_aload_n hx hb dX1_adds_34 rfl (lv_at hl 0 rfl) ?_
  refine sa_g1_spots S hin hK hP (by decide +kernel) dX1_adds_35 ?_
  show W p l e _ s m _ below meth c _ _ _ _ _ (F0 m 38 ls [.int (nI (σ.1 2)), .ref (a 15)])
  refine lv_iload_n hx hb dX1_adds_38 rfl (lv_at hl 3 rfl) ?_
  refine sa_stzk (ws' := (sa_W1 cI cZ a (sa_f (sa_f (sa_f (sa_f σ 12 (upd (σ.2 12) (σ.1 2) o)) 13 (upd (σ.2 13) (σ.1 2) at')) 14 (upd (σ.2 14) (σ.1 2) 0)) 15 (upd (σ.2 15) (σ.1 2) fr)) th)) 15 S hK hP (sa_D1 hJ) hS rfl (by omega) (by decide) (sa_nrb hfr) rfl dX1_adds_39 (fun H locs hP hS => ?_)
  refine lv_aload_n hx hb dX1_adds_40 rfl (lv_at hl 0 rfl) ?_
  refine lv_dup hx hb dX1_adds_41 rfl ?_
  refine sa_g1_spots S hin hK hP (by decide +kernel) dX1_adds_42 ?_
  show W p l e _ s m _ below meth c _ _ _ _ _ (F0 m 45 ls [.int (nI (σ.1 2)), .ref (a 0)])
  refine lv_iconst (v := 1) hx hb dX1_adds_45 (by decide) ?_
  refine sa_iadd1 hx hb dX1_adds_46 ?_
  refine sa_p1_spots (v := σ.1 2 + 1) rfl S hin hK hP (sa_D1 hJ) hS (by decide +kernel) dX1_adds_47 (fun H locs hP hS => ?_)
  refine lv_aload_n hx hb dX1_adds_50 rfl (lv_at hl 0 rfl) ?_
  refine sa_g1_spots S hin hK hP (by decide +kernel) dX1_adds_51 ?_
  show W p l e _ s m _ below meth c _ _ _ _ _ (F0 m 54 ls [.int (nI (σ.1 2 + 1))])
  refine lv_iconst (v := 1) hx hb dX1_adds_54 (by decide) ?_
  refine sa_isub1 hx hb dX1_adds_55 ?_
  exact W.iret (v := nI (σ.1 2)) hx hb hr (fun t9 ht _ => ⟨⟨_, (), rfl, rfl, by show va_P G vwCl (sa_W1 cI cZ a (sa_add σ o at' fr) th) t9.heap; rw [ht]; exact hP⟩, hS.F ht⟩) hS.2.2 dX1_adds_56

set_option maxHeartbeats 4000000 in
set_option maxRecDepth 100000 in
theorem c_X1_thrown (l : Launch) (G : va_G) (cI cZ cL : ClassId) (a : Nat → Nat) (σ : sa_St) (th : Int32)  : sa_Rd l yX1_thrown wsX1_thrown ({ frames := 0, cells := 0, slots := 0, locals := 0 }) G cI cZ cL (sa_W1 cI cZ a σ th) [.ref (a 0)] (th) := by
  refine Met.ofW (cc := cX1_thrown) (maxL := 1) (ret := (some .int)) (by decide) rfl ?_
  intro p e s m args below meth c s₁ B9 hml hv
  obtain ⟨rfl, hP, hK⟩ := hv
  have hx := B9.exec
  have hb := B9.bytes
  have hr := B9.returns
  have hlk := B9.notSynchronized
  have hts := atoms_spec (ws := wsX1_thrown) B9.pre
  have hown : s.vm.findClass RX1 = some m.cls := findClass_of_methodNamed B9.named
  have S : CallFix p m c cX1_thrown 1 s _ wsX1_thrown RX1 := ⟨hx, hb, hml, hown, hts⟩
  have hin : ∀ w ∈ wsX10, w ∈ wsX1_thrown := by decide +kernel
  have hl := lv_entry ([.ref (a 0)]) (n := 1) (Nat.le_of_ble_eq_true rfl)
  rw [lg_entry_eq]
  generalize (lg_sl ([.ref (a 0)]) ++ List.replicate (1 - (lg_sl ([.ref (a 0)])).length) Slot.unset).toArray = ls at hl ⊢
  have hl : lv_has ls 1 [(0, .ref (a 0))] := hl
  refine lv_aload_n hx hb dX1_thrown_0 rfl (lv_at hl 0 rfl) ?_
  refine sa_g1_thrown S hin hK hP (by decide +kernel) dX1_thrown_1 ?_
  exact W.iret (v := th) hx hb hr (fun t9 ht _ => ⟨_, rfl, rfl, ht⟩) (fun _ h => nomatch h) dX1_thrown_4
