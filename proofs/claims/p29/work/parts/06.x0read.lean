set_option maxHeartbeats 4000000 in
set_option maxRecDepth 100000 in
theorem c_X0_isWithin (l : Launch) (x lo hi : Int32) : sa_Rs l yX0_isWithin wsX0_isWithin ({ frames := 0, cells := 0, slots := 0, locals := 0 }) [.int (x), .int (lo), .int (hi)] (sa_b (sa_w x lo hi)) := by
  refine Met.ofW (cc := cX0_isWithin) (maxL := 3) (ret := (some .boolean)) (by decide) rfl ?_
  intro p e s m args below meth c s₁ B9 hml hv
  obtain ⟨rfl, -⟩ := hv
  have hx := B9.exec
  have hb := B9.bytes
  have hr := B9.returns
  have hlk := B9.notSynchronized
  have hts := atoms_spec (ws := wsX0_isWithin) B9.pre
  have hown : s.vm.findClass RX0 = some m.cls := findClass_of_methodNamed B9.named
  have S : CallFix p m c cX0_isWithin 3 s _ wsX0_isWithin RX0 := ⟨hx, hb, hml, hown, hts⟩
  have hl := lv_entry ([.int (x), .int (lo), .int (hi)]) (n := 3) (Nat.le_of_ble_eq_true rfl)
  rw [lg_entry_eq]
  generalize (lg_sl ([.int (x), .int (lo), .int (hi)]) ++ List.replicate (3 - (lg_sl ([.int (x), .int (lo), .int (hi)])).length) Slot.unset).toArray = ls at hl ⊢
  have hl : lv_has ls 3 [(0, .int (x)), (1, .int (lo)), (2, .int (hi))] := hl
  refine lv_iload_n hx hb dX0_isWithin_0 rfl (lv_at hl 0 rfl) ?_
  refine lv_iload_n hx hb dX0_isWithin_1 rfl (lv_at hl 1 rfl) ?_
  refine lv_icmp_lt (tgt := 14) hx hb dX0_isWithin_2 (by decide) (fun c_2 => ?_) (fun c_2 => ?_)
  · skip
    refine lv_iconst (v := 0) hx hb dX0_isWithin_14 (by decide) ?_
    exact W.zret (v := 0) (ty := .boolean) hx hb hr rfl (fun t9 ht _ => ⟨_, rfl, (sa_bf (by simp only [sa_w, ← Int32.not_lt]; simp [c_2])).symm, ht⟩) (fun _ h => nomatch h) dX0_isWithin_15
  · skip
    refine lv_iload_n hx hb dX0_isWithin_5 rfl (lv_at hl 0 rfl) ?_
    refine lv_iload_n hx hb dX0_isWithin_6 rfl (lv_at hl 2 rfl) ?_
    refine lv_icmp_gt (tgt := 14) hx hb dX0_isWithin_7 (by decide) (fun c_7 => ?_) (fun c_7 => ?_)
    · skip
      refine lv_iconst (v := 0) hx hb dX0_isWithin_14 (by decide) ?_
      exact W.zret (v := 0) (ty := .boolean) hx hb hr rfl (fun t9 ht _ => ⟨_, rfl, (sa_bf (by simp only [sa_w, ← Int32.not_lt]; simp [c_2, c_7])).symm, ht⟩) (fun _ h => nomatch h) dX0_isWithin_15
    · skip
      refine lv_iconst (v := 1) hx hb dX0_isWithin_10 (by decide) ?_
      refine lv_goto (tgt := 15) hx hb dX0_isWithin_11 (by decide) ?_
      exact W.zret (v := 1) (ty := .boolean) hx hb hr rfl (fun t9 ht _ => ⟨_, rfl, (sa_bt (by simp only [sa_w, ← Int32.not_lt]; simp [c_2, c_7])).symm, ht⟩) (fun _ h => nomatch h) dX0_isWithin_15

set_option maxHeartbeats 4000000 in
set_option maxRecDepth 100000 in
theorem c_X0_isGroup (l : Launch) (x : Int32) : sa_Rs l yX0_isGroup wsX0_isGroup ({ frames := 1, cells := 0, slots := 0, locals := 22 }) [.int (x)] (sa_b (sa_w x 0 2)) := by
  refine Met.ofW (cc := cX0_isGroup) (maxL := 1) (ret := (some .boolean)) (by decide) rfl ?_
  intro p e s m args below meth c s₁ B9 hml hv
  obtain ⟨rfl, -⟩ := hv
  have hx := B9.exec
  have hb := B9.bytes
  have hr := B9.returns
  have hlk := B9.notSynchronized
  have hts := atoms_spec (ws := wsX0_isGroup) B9.pre
  have hown : s.vm.findClass RX0 = some m.cls := findClass_of_methodNamed B9.named
  have S : CallFix p m c cX0_isGroup 1 s _ wsX0_isGroup RX0 := ⟨hx, hb, hml, hown, hts⟩
  have hl := lv_entry ([.int (x)]) (n := 1) (Nat.le_of_ble_eq_true rfl)
  rw [lg_entry_eq]
  generalize (lg_sl ([.int (x)]) ++ List.replicate (1 - (lg_sl ([.int (x)])).length) Slot.unset).toArray = ls at hl ⊢
  have hl : lv_has ls 1 [(0, .int (x))] := hl
  refine lv_iload_n hx hb dX0_isGroup_0 rfl (lv_at hl 0 rfl) ?_
  refine lv_iconst (v := 0) hx hb dX0_isGroup_1 (by decide) ?_
  refine lv_iconst (v := 2) hx hb dX0_isGroup_2 (by decide) ?_
  refine sa_kRs (As := [.int (x), .int (0), .int (2)]) (rest := []) S (c_X0_isWithin l x 0 2) (va_cwS 3 hts gX0_isGroup_X0_isWithin rfl rfl rfl (by decide +kernel) ⟨Nat.le_of_ble_eq_true rfl, Nat.le_of_ble_eq_true rfl⟩) rfl hl.1 (Nat.le_of_ble_eq_true rfl) rfl dX0_isGroup_3 ⟨Nat.zero_le _, Nat.zero_le _⟩ ?_
  exact W.zret (v := sa_b (sa_w x 0 2)) (ty := .boolean) hx hb hr sa_narb (fun t9 ht _ => ⟨_, rfl, rfl, ht⟩) (fun _ h => nomatch h) dX0_isGroup_6

set_option maxHeartbeats 4000000 in
set_option maxRecDepth 100000 in
theorem c_X0_isAdvertiser (l : Launch) (x : Int32) : sa_Rs l yX0_isAdvertiser wsX0_isAdvertiser ({ frames := 1, cells := 0, slots := 0, locals := 22 }) [.int (x)] (sa_b (sa_w x 0 9)) := by
  refine Met.ofW (cc := cX0_isAdvertiser) (maxL := 1) (ret := (some .boolean)) (by decide) rfl ?_
  intro p e s m args below meth c s₁ B9 hml hv
  obtain ⟨rfl, -⟩ := hv
  have hx := B9.exec
  have hb := B9.bytes
  have hr := B9.returns
  have hlk := B9.notSynchronized
  have hts := atoms_spec (ws := wsX0_isAdvertiser) B9.pre
  have hown : s.vm.findClass RX0 = some m.cls := findClass_of_methodNamed B9.named
  have S : CallFix p m c cX0_isAdvertiser 1 s _ wsX0_isAdvertiser RX0 := ⟨hx, hb, hml, hown, hts⟩
  have hl := lv_entry ([.int (x)]) (n := 1) (Nat.le_of_ble_eq_true rfl)
  rw [lg_entry_eq]
  generalize (lg_sl ([.int (x)]) ++ List.replicate (1 - (lg_sl ([.int (x)])).length) Slot.unset).toArray = ls at hl ⊢
  have hl : lv_has ls 1 [(0, .int (x))] := hl
  refine lv_iload_n hx hb dX0_isAdvertiser_0 rfl (lv_at hl 0 rfl) ?_
  refine lv_iconst (v := 0) hx hb dX0_isAdvertiser_1 (by decide) ?_
  refine lv_bipush (v := 9) hx hb dX0_isAdvertiser_2 (by decide) ?_
  refine sa_kRs (As := [.int (x), .int (0), .int (9)]) (rest := []) S (c_X0_isWithin l x 0 9) (va_cwS 3 hts gX0_isAdvertiser_X0_isWithin rfl rfl rfl (by decide +kernel) ⟨Nat.le_of_ble_eq_true rfl, Nat.le_of_ble_eq_true rfl⟩) rfl hl.1 (Nat.le_of_ble_eq_true rfl) rfl dX0_isAdvertiser_4 ⟨Nat.zero_le _, Nat.zero_le _⟩ ?_
  exact W.zret (v := sa_b (sa_w x 0 9)) (ty := .boolean) hx hb hr sa_narb (fun t9 ht _ => ⟨_, rfl, rfl, ht⟩) (fun _ h => nomatch h) dX0_isAdvertiser_7

set_option maxHeartbeats 4000000 in
set_option maxRecDepth 100000 in
theorem c_X0_isSpotLength (l : Launch) (x : Int32) : sa_Rs l yX0_isSpotLength wsX0_isSpotLength ({ frames := 0, cells := 0, slots := 0, locals := 0 }) [.int (x)] (sa_b (x = 15 ∨ x = 30 ∨ x = 60)) := by
  refine Met.ofW (cc := cX0_isSpotLength) (maxL := 1) (ret := (some .boolean)) (by decide) rfl ?_
  intro p e s m args below meth c s₁ B9 hml hv
  obtain ⟨rfl, -⟩ := hv
  have hx := B9.exec
  have hb := B9.bytes
  have hr := B9.returns
  have hlk := B9.notSynchronized
  have hts := atoms_spec (ws := wsX0_isSpotLength) B9.pre
  have hown : s.vm.findClass RX0 = some m.cls := findClass_of_methodNamed B9.named
  have S : CallFix p m c cX0_isSpotLength 1 s _ wsX0_isSpotLength RX0 := ⟨hx, hb, hml, hown, hts⟩
  have hl := lv_entry ([.int (x)]) (n := 1) (Nat.le_of_ble_eq_true rfl)
  rw [lg_entry_eq]
  generalize (lg_sl ([.int (x)]) ++ List.replicate (1 - (lg_sl ([.int (x)])).length) Slot.unset).toArray = ls at hl ⊢
  have hl : lv_has ls 1 [(0, .int (x))] := hl
  refine lv_iload_n hx hb dX0_isSpotLength_0 rfl (lv_at hl 0 rfl) ?_
  refine lv_bipush (v := 15) hx hb dX0_isSpotLength_1 (by decide) ?_
  refine lv_icmp_eq (tgt := 18) hx hb dX0_isSpotLength_3 (by decide) (fun c_3 => ?_) (fun c_3 => ?_)
  · skip
    refine lv_iconst (v := 1) hx hb dX0_isSpotLength_18 (by decide) ?_
    refine lv_goto (tgt := 23) hx hb dX0_isSpotLength_19 (by decide) ?_
    exact W.zret (v := 1) (ty := .boolean) hx hb hr rfl (fun t9 ht _ => ⟨_, rfl, (sa_bt (by simp [sa_sd, sa_sec, sa_rat, sa_adv, sa_cat, sa_cnt, sa_aud, sa_less, sa_w, c_3])).symm, ht⟩) (fun _ h => nomatch h) dX0_isSpotLength_23
  · skip
    refine lv_iload_n hx hb dX0_isSpotLength_6 rfl (lv_at hl 0 rfl) ?_
    refine lv_bipush (v := 30) hx hb dX0_isSpotLength_7 (by decide) ?_
    refine lv_icmp_eq (tgt := 18) hx hb dX0_isSpotLength_9 (by decide) (fun c_9 => ?_) (fun c_9 => ?_)
    · skip
      refine lv_iconst (v := 1) hx hb dX0_isSpotLength_18 (by decide) ?_
      refine lv_goto (tgt := 23) hx hb dX0_isSpotLength_19 (by decide) ?_
      exact W.zret (v := 1) (ty := .boolean) hx hb hr rfl (fun t9 ht _ => ⟨_, rfl, (sa_bt (by simp [sa_sd, sa_sec, sa_rat, sa_adv, sa_cat, sa_cnt, sa_aud, sa_less, sa_w, c_3, c_9])).symm, ht⟩) (fun _ h => nomatch h) dX0_isSpotLength_23
    · skip
      refine lv_iload_n hx hb dX0_isSpotLength_12 rfl (lv_at hl 0 rfl) ?_
      refine lv_bipush (v := 60) hx hb dX0_isSpotLength_13 (by decide) ?_
      refine lv_icmp_ne (tgt := 22) hx hb dX0_isSpotLength_15 (by decide) (fun c_15 => ?_) (fun c_15 => ?_)
      · skip
        refine lv_iconst (v := 0) hx hb dX0_isSpotLength_22 (by decide) ?_
        exact W.zret (v := 0) (ty := .boolean) hx hb hr rfl (fun t9 ht _ => ⟨_, rfl, (sa_bf (by simp [sa_sd, sa_sec, sa_rat, sa_adv, sa_cat, sa_cnt, sa_aud, sa_less, sa_w, c_3, c_9, c_15])).symm, ht⟩) (fun _ h => nomatch h) dX0_isSpotLength_23
      · skip
        refine lv_iconst (v := 1) hx hb dX0_isSpotLength_18 (by decide) ?_
        refine lv_goto (tgt := 23) hx hb dX0_isSpotLength_19 (by decide) ?_
        exact W.zret (v := 1) (ty := .boolean) hx hb hr rfl (fun t9 ht _ => ⟨_, rfl, (sa_bt (by simp [sa_sd, sa_sec, sa_rat, sa_adv, sa_cat, sa_cnt, sa_aud, sa_less, sa_w, c_3, c_9, c_15])).symm, ht⟩) (fun _ h => nomatch h) dX0_isSpotLength_23

set_option maxHeartbeats 4000000 in
set_option maxRecDepth 100000 in
theorem c_X0_isInBreak (l : Launch) (G : va_G) (cI cZ cL : ClassId) (a : Nat → Nat) (σ : sa_St) (k : Nat) (hk : k < 150) : sa_Rd l yX0_isInBreak wsX0_isInBreak ({ frames := 0, cells := 0, slots := 0, locals := 0 }) G cI cZ cL (sa_W0 cI cZ a σ) [.ref (a 0), .int (nI k)] (sa_b (σ.2 14 k = 0 ∨ σ.2 14 k = 1)) := by
  refine Met.ofW (cc := cX0_isInBreak) (maxL := 2) (ret := (some .boolean)) (by decide) rfl ?_
  intro p e s m args below meth c s₁ B9 hml hv
  obtain ⟨rfl, hP, hK⟩ := hv
  have hx := B9.exec
  have hb := B9.bytes
  have hr := B9.returns
  have hlk := B9.notSynchronized
  have hts := atoms_spec (ws := wsX0_isInBreak) B9.pre
  have hown : s.vm.findClass RX0 = some m.cls := findClass_of_methodNamed B9.named
  have S : CallFix p m c cX0_isInBreak 2 s _ wsX0_isInBreak RX0 := ⟨hx, hb, hml, hown, hts⟩
  have hin : ∀ w ∈ wsX00, w ∈ wsX0_isInBreak := by decide +kernel
  have hl := lv_entry ([.ref (a 0), .int (nI k)]) (n := 2) (Nat.le_of_ble_eq_true rfl)
  rw [lg_entry_eq]
  generalize (lg_sl ([.ref (a 0), .int (nI k)]) ++ List.replicate (2 - (lg_sl ([.ref (a 0), .int (nI k)])).length) Slot.unset).toArray = ls at hl ⊢
  have hl : lv_has ls 2 [(0, .ref (a 0)), (1, .int (nI k))] := hl
  refine lv_aload_n hx hb dX0_isInBreak_0 rfl (lv_at hl 0 rfl) ?_
  refine sa_g0_spotState S hin hK hP (by decide +kernel) dX0_isInBreak_1 ?_
  refine lv_iload_n hx hb dX0_isInBreak_4 rfl (lv_at hl 1 rfl) ?_
  refine sa_ldk 14 S hK hP rfl (by omega) (by decide) dX0_isInBreak_5 ?_
  refine lv_if_eq (tgt := 19) hx hb dX0_isInBreak_6 (by decide) (fun c_6 => ?_) (fun c_6 => ?_)
  · skip
    refine lv_iconst (v := 1) hx hb dX0_isInBreak_19 (by decide) ?_
    refine lv_goto (tgt := 24) hx hb dX0_isInBreak_20 (by decide) ?_
    exact W.zret (v := 1) (ty := .boolean) hx hb hr rfl (fun t9 ht _ => ⟨_, rfl, (sa_bt (by simp [sa_sd, sa_sec, sa_rat, sa_adv, sa_cat, sa_cnt, sa_aud, sa_less, sa_w, c_6])).symm, ht⟩) (fun _ h => nomatch h) dX0_isInBreak_24
  · skip
    refine lv_aload_n hx hb dX0_isInBreak_9 rfl (lv_at hl 0 rfl) ?_
    refine sa_g0_spotState S hin hK hP (by decide +kernel) dX0_isInBreak_10 ?_
    refine lv_iload_n hx hb dX0_isInBreak_13 rfl (lv_at hl 1 rfl) ?_
    refine sa_ldk 14 S hK hP rfl (by omega) (by decide) dX0_isInBreak_14 ?_
    refine lv_iconst (v := 1) hx hb dX0_isInBreak_15 (by decide) ?_
    refine lv_icmp_ne (tgt := 23) hx hb dX0_isInBreak_16 (by decide) (fun c_16 => ?_) (fun c_16 => ?_)
    · skip
      refine lv_iconst (v := 0) hx hb dX0_isInBreak_23 (by decide) ?_
      exact W.zret (v := 0) (ty := .boolean) hx hb hr rfl (fun t9 ht _ => ⟨_, rfl, (sa_bf (by simp [sa_sd, sa_sec, sa_rat, sa_adv, sa_cat, sa_cnt, sa_aud, sa_less, sa_w, c_6, c_16])).symm, ht⟩) (fun _ h => nomatch h) dX0_isInBreak_24
    · skip
      refine lv_iconst (v := 1) hx hb dX0_isInBreak_19 (by decide) ?_
      refine lv_goto (tgt := 24) hx hb dX0_isInBreak_20 (by decide) ?_
      exact W.zret (v := 1) (ty := .boolean) hx hb hr rfl (fun t9 ht _ => ⟨_, rfl, (sa_bt (by simp [sa_sd, sa_sec, sa_rat, sa_adv, sa_cat, sa_cnt, sa_aud, sa_less, sa_w, c_6, c_16])).symm, ht⟩) (fun _ h => nomatch h) dX0_isInBreak_24

set_option maxHeartbeats 4000000 in
set_option maxRecDepth 100000 in
theorem c_X0_isInBreak_x (l : Launch) (G : va_G) (cI cZ cL : ClassId) (a : Nat → Nat) (σ : sa_St) (x : Int32) (hx1 : vp_in x 150) : sa_Rd l yX0_isInBreak wsX0_isInBreak ({ frames := 0, cells := 0, slots := 0, locals := 0 }) G cI cZ cL (sa_W0 cI cZ a σ) [.ref (a 0), .int (x)] (sa_b (σ.2 14 x.toNatClampNeg = 0 ∨ σ.2 14 x.toNatClampNeg = 1)) := by
  refine Met.ofW (cc := cX0_isInBreak) (maxL := 2) (ret := (some .boolean)) (by decide) rfl ?_
  intro p e s m args below meth c s₁ B9 hml hv
  obtain ⟨rfl, hP, hK⟩ := hv
  have hx := B9.exec
  have hb := B9.bytes
  have hr := B9.returns
  have hlk := B9.notSynchronized
  have hts := atoms_spec (ws := wsX0_isInBreak) B9.pre
  have hown : s.vm.findClass RX0 = some m.cls := findClass_of_methodNamed B9.named
  have S : CallFix p m c cX0_isInBreak 2 s _ wsX0_isInBreak RX0 := ⟨hx, hb, hml, hown, hts⟩
  have hin : ∀ w ∈ wsX00, w ∈ wsX0_isInBreak := by decide +kernel
  have hl := lv_entry ([.ref (a 0), .int (x)]) (n := 2) (Nat.le_of_ble_eq_true rfl)
  rw [lg_entry_eq]
  generalize (lg_sl ([.ref (a 0), .int (x)]) ++ List.replicate (2 - (lg_sl ([.ref (a 0), .int (x)])).length) Slot.unset).toArray = ls at hl ⊢
  have hl : lv_has ls 2 [(0, .ref (a 0)), (1, .int (x))] := hl
  refine lv_aload_n hx hb dX0_isInBreak_0 rfl (lv_at hl 0 rfl) ?_
  refine sa_g0_spotState S hin hK hP (by decide +kernel) dX0_isInBreak_1 ?_
  refine lv_iload_n hx hb dX0_isInBreak_4 rfl (lv_at hl 1 rfl) ?_
  refine sa_ld 14 S hK hP rfl hx1 dX0_isInBreak_5 ?_
  refine lv_if_eq (tgt := 19) hx hb dX0_isInBreak_6 (by decide) (fun c_6 => ?_) (fun c_6 => ?_)
  · skip
    refine lv_iconst (v := 1) hx hb dX0_isInBreak_19 (by decide) ?_
    refine lv_goto (tgt := 24) hx hb dX0_isInBreak_20 (by decide) ?_
    exact W.zret (v := 1) (ty := .boolean) hx hb hr rfl (fun t9 ht _ => ⟨_, rfl, (sa_bt (by simp [sa_sd, sa_sec, sa_rat, sa_adv, sa_cat, sa_cnt, sa_aud, sa_less, sa_w, c_6])).symm, ht⟩) (fun _ h => nomatch h) dX0_isInBreak_24
  · skip
    refine lv_aload_n hx hb dX0_isInBreak_9 rfl (lv_at hl 0 rfl) ?_
    refine sa_g0_spotState S hin hK hP (by decide +kernel) dX0_isInBreak_10 ?_
    refine lv_iload_n hx hb dX0_isInBreak_13 rfl (lv_at hl 1 rfl) ?_
    refine sa_ld 14 S hK hP rfl hx1 dX0_isInBreak_14 ?_
    refine lv_iconst (v := 1) hx hb dX0_isInBreak_15 (by decide) ?_
    refine lv_icmp_ne (tgt := 23) hx hb dX0_isInBreak_16 (by decide) (fun c_16 => ?_) (fun c_16 => ?_)
    · skip
      refine lv_iconst (v := 0) hx hb dX0_isInBreak_23 (by decide) ?_
      exact W.zret (v := 0) (ty := .boolean) hx hb hr rfl (fun t9 ht _ => ⟨_, rfl, (sa_bf (by simp [sa_sd, sa_sec, sa_rat, sa_adv, sa_cat, sa_cnt, sa_aud, sa_less, sa_w, c_6, c_16])).symm, ht⟩) (fun _ h => nomatch h) dX0_isInBreak_24
    · skip
      refine lv_iconst (v := 1) hx hb dX0_isInBreak_19 (by decide) ?_
      refine lv_goto (tgt := 24) hx hb dX0_isInBreak_20 (by decide) ?_
      exact W.zret (v := 1) (ty := .boolean) hx hb hr rfl (fun t9 ht _ => ⟨_, rfl, (sa_bt (by simp [sa_sd, sa_sec, sa_rat, sa_adv, sa_cat, sa_cnt, sa_aud, sa_less, sa_w, c_6, c_16])).symm, ht⟩) (fun _ h => nomatch h) dX0_isInBreak_24

set_option maxHeartbeats 4000000 in
set_option maxRecDepth 100000 in
theorem c_X0_ratingCell (l : Launch) (x y : Int32) : sa_Rs l yX0_ratingCell wsX0_ratingCell ({ frames := 0, cells := 0, slots := 0, locals := 0 }) [.int (x), .int (y)] (x * 3 + y) := by
  refine Met.ofW (cc := cX0_ratingCell) (maxL := 2) (ret := (some .int)) (by decide) rfl ?_
  intro p e s m args below meth c s₁ B9 hml hv
  obtain ⟨rfl, -⟩ := hv
  have hx := B9.exec
  have hb := B9.bytes
  have hr := B9.returns
  have hlk := B9.notSynchronized
  have hts := atoms_spec (ws := wsX0_ratingCell) B9.pre
  have hown : s.vm.findClass RX0 = some m.cls := findClass_of_methodNamed B9.named
  have S : CallFix p m c cX0_ratingCell 2 s _ wsX0_ratingCell RX0 := ⟨hx, hb, hml, hown, hts⟩
  have hl := lv_entry ([.int (x), .int (y)]) (n := 2) (Nat.le_of_ble_eq_true rfl)
  rw [lg_entry_eq]
  generalize (lg_sl ([.int (x), .int (y)]) ++ List.replicate (2 - (lg_sl ([.int (x), .int (y)])).length) Slot.unset).toArray = ls at hl ⊢
  have hl : lv_has ls 2 [(0, .int (x)), (1, .int (y))] := hl
  refine lv_iload_n hx hb dX0_ratingCell_0 rfl (lv_at hl 0 rfl) ?_
  refine lv_iconst (v := 3) hx hb dX0_ratingCell_1 (by decide) ?_
  refine lv_imul hx hb dX0_ratingCell_2 ?_
  refine lv_iload_n hx hb dX0_ratingCell_3 rfl (lv_at hl 1 rfl) ?_
  refine lv_iadd hx hb dX0_ratingCell_4 ?_
  exact W.iret (v := (x * 3) + y) hx hb hr (fun t9 ht _ => ⟨_, rfl, rfl, ht⟩) (fun _ h => nomatch h) dX0_ratingCell_5

set_option maxHeartbeats 4000000 in
set_option maxRecDepth 100000 in
theorem c_X0_ratingFor (l : Launch) (G : va_G) (cI cZ cL : ClassId) (a : Nat → Nat) (σ : sa_St) (hI : sa_I σ) (o at' : Int32) (ho : vp_in o (σ.1 1)) (hat : vp_in at' (σ.1 0)) : sa_Rd l yX0_ratingFor wsX0_ratingFor ({ frames := 1, cells := 0, slots := 0, locals := 21 }) G cI cZ cL (sa_W0 cI cZ a σ) [.ref (a 0), .int (o), .int (at')] (sa_rat σ o at') := by
  obtain ⟨hnb, hno, hns, hgr, hor, hbr, hai⟩ := id hI
  refine Met.ofW (cc := cX0_ratingFor) (maxL := 3) (ret := (some .int)) (by decide) rfl ?_
  intro p e s m args below meth c s₁ B9 hml hv
  obtain ⟨rfl, hP, hK⟩ := hv
  have hx := B9.exec
  have hb := B9.bytes
  have hr := B9.returns
  have hlk := B9.notSynchronized
  have hts := atoms_spec (ws := wsX0_ratingFor) B9.pre
  have hown : s.vm.findClass RX0 = some m.cls := findClass_of_methodNamed B9.named
  have S : CallFix p m c cX0_ratingFor 3 s _ wsX0_ratingFor RX0 := ⟨hx, hb, hml, hown, hts⟩
  have hin : ∀ w ∈ wsX00, w ∈ wsX0_ratingFor := by decide +kernel
  have hl := lv_entry ([.ref (a 0), .int (o), .int (at')]) (n := 3) (Nat.le_of_ble_eq_true rfl)
  rw [lg_entry_eq]
  generalize (lg_sl ([.ref (a 0), .int (o), .int (at')]) ++ List.replicate (3 - (lg_sl ([.ref (a 0), .int (o), .int (at')])).length) Slot.unset).toArray = ls at hl ⊢
  have hl : lv_has ls 3 [(0, .ref (a 0)), (1, .int (o)), (2, .int (at'))] := hl
  refine lv_aload_n hx hb dX0_ratingFor_0 rfl (lv_at hl 0 rfl) ?_
  refine sa_g0_ratings S hin hK hP (by decide +kernel) dX0_ratingFor_1 ?_
  refine lv_iload_n hx hb dX0_ratingFor_4 rfl (lv_at hl 2 rfl) ?_
  refine lv_aload_n hx hb dX0_ratingFor_5 rfl (lv_at hl 0 rfl) ?_
  refine sa_g0_orderGroup S hin hK hP (by decide +kernel) dX0_ratingFor_6 ?_
  refine lv_iload_n hx hb dX0_ratingFor_9 rfl (lv_at hl 1 rfl) ?_
  refine sa_ld 6 S hK hP rfl (sa_vm ho (by omega)) dX0_ratingFor_10 ?_
  refine sa_kRs (As := [.int (at'), .int (σ.2 6 o.toNatClampNeg)]) (rest := [.ref (a 3)]) S (c_X0_ratingCell l at' (σ.2 6 o.toNatClampNeg)) (va_cwS 2 hts gX0_ratingFor_X0_ratingCell rfl rfl rfl (by decide +kernel) ⟨Nat.le_of_ble_eq_true rfl, Nat.le_of_ble_eq_true rfl⟩) rfl hl.1 (Nat.le_of_ble_eq_true rfl) rfl dX0_ratingFor_11 ⟨Nat.zero_le _, Nat.zero_le _⟩ ?_
  refine sa_ld 3 S hK hP rfl (sa_cell (sa_vm hat hnb) (sa_grp hI ho)) dX0_ratingFor_14 ?_
  exact W.iret (v := σ.2 3 (at' * 3 + σ.2 6 o.toNatClampNeg).toNatClampNeg) hx hb hr (fun t9 ht _ => ⟨_, rfl, rfl, ht⟩) (fun _ h => nomatch h) dX0_ratingFor_15

set_option maxHeartbeats 4000000 in
set_option maxRecDepth 100000 in
theorem c_X0_secondsLeft (l : Launch) (G : va_G) (cI cZ cL : ClassId) (a : Nat → Nat) (σ : sa_St) (hI : sa_I σ) (at' : Int32) (hat : vp_in at' (σ.1 0)) : sa_Rd l yX0_secondsLeft wsX0_secondsLeft ({ frames := 1, cells := 0, slots := 0, locals := 21 }) G cI cZ cL (sa_W0 cI cZ a σ) [.ref (a 0), .int (at')] (sa_room σ at' (-1) (σ.1 2)) := by
  obtain ⟨hnb, hno, hns, hgr, hor, hbr, hai⟩ := id hI
  refine Met.ofW (cc := cX0_secondsLeft) (maxL := 4) (ret := (some .int)) (by decide) rfl ?_
  intro p e s m args below meth c s₁ B9 hml hv
  obtain ⟨rfl, hP, hK⟩ := hv
  have hx := B9.exec
  have hb := B9.bytes
  have hr := B9.returns
  have hlk := B9.notSynchronized
  have hts := atoms_spec (ws := wsX0_secondsLeft) B9.pre
  have hown : s.vm.findClass RX0 = some m.cls := findClass_of_methodNamed B9.named
  have S : CallFix p m c cX0_secondsLeft 4 s _ wsX0_secondsLeft RX0 := ⟨hx, hb, hml, hown, hts⟩
  have hin : ∀ w ∈ wsX00, w ∈ wsX0_secondsLeft := by decide +kernel
  have hl := lv_entry ([.ref (a 0), .int (at')]) (n := 4) (Nat.le_of_ble_eq_true rfl)
  rw [lg_entry_eq]
  generalize (lg_sl ([.ref (a 0), .int (at')]) ++ List.replicate (4 - (lg_sl ([.ref (a 0), .int (at')])).length) Slot.unset).toArray = ls at hl ⊢
  have hl : lv_has ls 4 [(0, .ref (a 0)), (1, .int (at'))] := hl
  refine lv_aload_n hx hb dX0_secondsLeft_0 rfl (lv_at hl 0 rfl) ?_
  refine sa_g0_breakSeconds S hin hK hP (by decide +kernel) dX0_secondsLeft_1 ?_
  refine lv_iload_n hx hb dX0_secondsLeft_4 rfl (lv_at hl 1 rfl) ?_
  refine sa_ld 1 S hK hP rfl (sa_vm hat (by omega)) dX0_secondsLeft_5 ?_
  refine lv_istore_n (lv' := [(2, .int (σ.2 1 at'.toNatClampNeg)), (0, .ref (a 0)), (1, .int (at'))]) hx hb dX0_secondsLeft_6 rfl hl (by decide) rfl (fun ls hl => ?_)
  refine lv_iconst (v := 0) hx hb dX0_secondsLeft_7 (by decide) ?_
  refine lv_istore_n (lv' := [(3, .int (0)), (2, .int (σ.2 1 at'.toNatClampNeg)), (0, .ref (a 0)), (1, .int (at'))]) hx hb dX0_secondsLeft_8 rfl hl (by decide) rfl (fun ls hl => ?_)
  have loop : ∀ (n k : Nat), k + n = σ.1 2 → ∀ (x1 : Int32), x1 = sa_room σ at' (-1) k →   ∀ ls : Array Slot, lv_has ls 4 [(3, .int (nI k)), (2, .int (x1)), (0, .ref (a 0)), (1, .int (at'))] → W p l e (headSpec wsX0_secondsLeft ({ frames := 1, cells := 0, slots := 0, locals := 21 })).room s m ([Value.ref (a 0), Value.int (at')] : List Value).toArray below meth c s.heap [] 0 0 (MQ below (vp_Si (fun z => z = sa_room σ at' (-1) (σ.1 2))) ([Value.ref (a 0), Value.int (at')] : List Value).toArray s 0 0 (fun _ => False)) (F0 m 9 ls []) := by
    intro n
    induction n with
    | zero =>
      intro k hk x1 hx1  ls hl
      have hk2 : k = σ.1 2 := by omega
      subst hk2
      refine lv_iload_n hx hb dX0_secondsLeft_9 rfl (lv_at hl 0 rfl) ?_
      refine lv_aload_n hx hb dX0_secondsLeft_10 rfl (lv_at hl 2 rfl) ?_
      refine sa_g0_spotCount S hin hK hP (by decide +kernel) dX0_secondsLeft_11 ?_
      refine lv_icmp_ge (tgt := 55) hx hb dX0_secondsLeft_14 (by decide) (fun _ => ?_) (fun c9 => absurd (nI_le (Nat.le_refl _) (by omega)) c9)
      refine lv_iload_n hx hb dX0_secondsLeft_55 rfl (lv_at hl 1 rfl) ?_
      exact W.iret (v := x1) hx hb hr (fun t9 ht _ => ⟨_, rfl, hx1, ht⟩) (fun _ h => nomatch h) dX0_secondsLeft_56
    | succ n ih =>
      intro k hk x1 hx1  ls hl
      have hkn : k < σ.1 2 := by omega
      refine lv_iload_n hx hb dX0_secondsLeft_9 rfl (lv_at hl 0 rfl) ?_
      refine lv_aload_n hx hb dX0_secondsLeft_10 rfl (lv_at hl 2 rfl) ?_
      refine sa_g0_spotCount S hin hK hP (by decide +kernel) dX0_secondsLeft_11 ?_
      refine lv_icmp_ge (tgt := 55) hx hb dX0_secondsLeft_14 (by decide) (fun c9 => absurd c9 (nI_ge (by omega) (by omega))) (fun _ => ?_)
      refine lv_aload_n hx hb dX0_secondsLeft_17 rfl (lv_at hl 2 rfl) ?_
      refine sa_g0_spotBreak S hin hK hP (by decide +kernel) dX0_secondsLeft_18 ?_
      refine lv_iload_n hx hb dX0_secondsLeft_21 rfl (lv_at hl 0 rfl) ?_
      refine sa_ldk 13 S hK hP rfl (by omega) (by decide) dX0_secondsLeft_22 ?_
      refine lv_iload_n hx hb dX0_secondsLeft_23 rfl (lv_at hl 3 rfl) ?_
      refine lv_icmp_ne (tgt := 49) hx hb dX0_secondsLeft_24 (by decide) (fun c_24 => ?_) (fun c_24 => ?_)
      · skip
        refine lv_iinc (v := nI (k + 1)) (lv' := [(3, .int (nI (k + 1))), (2, .int (x1)), (0, .ref (a 0)), (1, .int (at'))]) hx hb dX0_secondsLeft_49 hl (k := 0) rfl (nI_1 k) (by decide) rfl (fun ls hl => ?_)
        refine lv_goto (tgt := 9) hx hb dX0_secondsLeft_52 (by decide) ?_
        exact ih (k + 1) (by omega) x1 (by have h9 := sa_ne1 (k := k) (by omega); simp [sa_room, hx1, h9, sa_sd, sa_sec, sa_rat, sa_adv, sa_cat, sa_cnt, sa_aud, sa_less, sa_w, c_24])  ls (lv_sub hl [0, 1, 2, 3] rfl)
      · skip
        refine lv_aload_n hx hb dX0_secondsLeft_27 rfl (lv_at hl 2 rfl) ?_
        refine lv_iload_n hx hb dX0_secondsLeft_28 rfl (lv_at hl 0 rfl) ?_
        refine sa_kRd (As := [.int (nI k)]) (rest := []) S (c_X0_isInBreak l G cI cZ cL a σ k (by omega)) (cwV 1 hts gX0_secondsLeft_X0_isInBreak rfl rfl rfl (by decide +kernel) ⟨Nat.le_of_ble_eq_true rfl, Nat.le_of_ble_eq_true rfl⟩) hP hK (ci := 0) rfl rfl rfl hl.1 (Nat.le_of_ble_eq_true rfl) rfl dX0_secondsLeft_29 ⟨Nat.zero_le _, Nat.zero_le _⟩ ?_
        refine lv_if_eq (tgt := 49) hx hb dX0_secondsLeft_32 (by decide) (fun c_32 => ?_) (fun c_32 => ?_)
        · skip
          have c_32 := sa_b0 c_32
          refine lv_iinc (v := nI (k + 1)) (lv' := [(3, .int (nI (k + 1))), (2, .int (x1)), (0, .ref (a 0)), (1, .int (at'))]) hx hb dX0_secondsLeft_49 hl (k := 0) rfl (nI_1 k) (by decide) rfl (fun ls hl => ?_)
          refine lv_goto (tgt := 9) hx hb dX0_secondsLeft_52 (by decide) ?_
          exact ih (k + 1) (by omega) x1 (by have h9 := sa_ne1 (k := k) (by omega); simp [sa_room, hx1, h9, sa_sd, sa_sec, sa_rat, sa_adv, sa_cat, sa_cnt, sa_aud, sa_less, sa_w, c_24, c_32])  ls (lv_sub hl [0, 1, 2, 3] rfl)
        · skip
          have c_32 := sa_b1 c_32
          refine lv_iload_n hx hb dX0_secondsLeft_35 rfl (lv_at hl 1 rfl) ?_
          refine lv_aload_n hx hb dX0_secondsLeft_36 rfl (lv_at hl 2 rfl) ?_
          refine sa_g0_orderSeconds S hin hK hP (by decide +kernel) dX0_secondsLeft_37 ?_
          refine lv_aload_n hx hb dX0_secondsLeft_40 rfl (lv_at hl 2 rfl) ?_
          refine sa_g0_spotOrder S hin hK hP (by decide +kernel) dX0_secondsLeft_41 ?_
          refine lv_iload_n hx hb dX0_secondsLeft_44 rfl (lv_at hl 0 rfl) ?_
          refine sa_ldk 12 S hK hP rfl (by omega) (by decide) dX0_secondsLeft_45 ?_
          refine sa_ld 7 S hK hP rfl (sa_vm (hor k (by omega)) (by omega)) dX0_secondsLeft_46 ?_
          refine lv_isub hx hb dX0_secondsLeft_47 ?_
          refine lv_istore_n (lv' := [(2, .int (x1 - (σ.2 7 (σ.2 12 k).toNatClampNeg))), (3, .int (nI k)), (0, .ref (a 0)), (1, .int (at'))]) hx hb dX0_secondsLeft_48 rfl hl (by decide) rfl (fun ls hl => ?_)
          refine lv_iinc (v := nI (k + 1)) (lv' := [(3, .int (nI (k + 1))), (2, .int (x1 - (σ.2 7 (σ.2 12 k).toNatClampNeg))), (0, .ref (a 0)), (1, .int (at'))]) hx hb dX0_secondsLeft_49 hl (k := 1) rfl (nI_1 k) (by decide) rfl (fun ls hl => ?_)
          refine lv_goto (tgt := 9) hx hb dX0_secondsLeft_52 (by decide) ?_
          exact ih (k + 1) (by omega) (x1 - (σ.2 7 (σ.2 12 k).toNatClampNeg)) (by have h9 := sa_ne1 (k := k) (by omega); simp [sa_room, hx1, h9, sa_sd, sa_sec, sa_rat, sa_adv, sa_cat, sa_cnt, sa_aud, sa_less, sa_w, c_24, c_32])  ls (lv_sub hl [0, 1, 2, 3] rfl)
  exact loop (σ.1 2) 0 (Nat.zero_add _) (σ.2 1 at'.toNatClampNeg) rfl  ls (lv_sub hl [0, 1, 2, 3] rfl)

set_option maxHeartbeats 4000000 in
set_option maxRecDepth 100000 in
theorem c_X0_holdsAdvertiser (l : Launch) (G : va_G) (cI cZ cL : ClassId) (a : Nat → Nat) (σ : sa_St) (hI : sa_I σ) (o at' : Int32) (ho : vp_in o (σ.1 1)) : sa_Rd l yX0_holdsAdvertiser wsX0_holdsAdvertiser ({ frames := 1, cells := 0, slots := 0, locals := 21 }) G cI cZ cL (sa_W0 cI cZ a σ) [.ref (a 0), .int (at'), .int (σ.2 4 o.toNatClampNeg)] (sa_b (sa_th σ o at' (-1) 0 (σ.1 2) = true)) := by
  obtain ⟨hnb, hno, hns, hgr, hor, hbr, hai⟩ := id hI
  refine Met.ofW (cc := cX0_holdsAdvertiser) (maxL := 4) (ret := (some .boolean)) (by decide) rfl ?_
  intro p e s m args below meth c s₁ B9 hml hv
  obtain ⟨rfl, hP, hK⟩ := hv
  have hx := B9.exec
  have hb := B9.bytes
  have hr := B9.returns
  have hlk := B9.notSynchronized
  have hts := atoms_spec (ws := wsX0_holdsAdvertiser) B9.pre
  have hown : s.vm.findClass RX0 = some m.cls := findClass_of_methodNamed B9.named
  have S : CallFix p m c cX0_holdsAdvertiser 4 s _ wsX0_holdsAdvertiser RX0 := ⟨hx, hb, hml, hown, hts⟩
  have hin : ∀ w ∈ wsX00, w ∈ wsX0_holdsAdvertiser := by decide +kernel
  have hl := lv_entry ([.ref (a 0), .int (at'), .int (σ.2 4 o.toNatClampNeg)]) (n := 4) (Nat.le_of_ble_eq_true rfl)
  rw [lg_entry_eq]
  generalize (lg_sl ([.ref (a 0), .int (at'), .int (σ.2 4 o.toNatClampNeg)]) ++ List.replicate (4 - (lg_sl ([.ref (a 0), .int (at'), .int (σ.2 4 o.toNatClampNeg)])).length) Slot.unset).toArray = ls at hl ⊢
  have hl : lv_has ls 4 [(0, .ref (a 0)), (1, .int (at')), (2, .int (σ.2 4 o.toNatClampNeg))] := hl
  refine lv_iconst (v := 0) hx hb dX0_holdsAdvertiser_0 (by decide) ?_
  refine lv_istore_n (lv' := [(3, .int (0)), (0, .ref (a 0)), (1, .int (at')), (2, .int (σ.2 4 o.toNatClampNeg))]) hx hb dX0_holdsAdvertiser_1 rfl hl (by decide) rfl (fun ls hl => ?_)
  have loop : ∀ (n k : Nat), k + n = σ.1 2 →  (sa_th σ o at' (-1) 0 k = false) →  ∀ ls : Array Slot, lv_has ls 4 [(3, .int (nI k)), (0, .ref (a 0)), (1, .int (at')), (2, .int (σ.2 4 o.toNatClampNeg))] → W p l e (headSpec wsX0_holdsAdvertiser ({ frames := 1, cells := 0, slots := 0, locals := 21 })).room s m ([Value.ref (a 0), Value.int (at'), Value.int (σ.2 4 o.toNatClampNeg)] : List Value).toArray below meth c s.heap [] 0 0 (MQ below (vp_Si (fun z => z = sa_b (sa_th σ o at' (-1) 0 (σ.1 2) = true))) ([Value.ref (a 0), Value.int (at'), Value.int (σ.2 4 o.toNatClampNeg)] : List Value).toArray s 0 0 (fun _ => False)) (F0 m 2 ls []) := by
    intro n
    induction n with
    | zero =>
      intro k hk  hth ls hl
      have hk2 : k = σ.1 2 := by omega
      subst hk2
      refine lv_iload_n hx hb dX0_holdsAdvertiser_2 rfl (lv_at hl 0 rfl) ?_
      refine lv_aload_n hx hb dX0_holdsAdvertiser_3 rfl (lv_at hl 1 rfl) ?_
      refine sa_g0_spotCount S hin hK hP (by decide +kernel) dX0_holdsAdvertiser_4 ?_
      refine lv_icmp_ge (tgt := 51) hx hb dX0_holdsAdvertiser_7 (by decide) (fun _ => ?_) (fun c9 => absurd (nI_le (Nat.le_refl _) (by omega)) c9)
      refine lv_iconst (v := 0) hx hb dX0_holdsAdvertiser_51 (by decide) ?_
      exact W.zret (v := 0) (ty := .boolean) hx hb hr rfl (fun t9 ht _ => ⟨_, rfl, (sa_bf (by simp [hth])).symm, ht⟩) (fun _ h => nomatch h) dX0_holdsAdvertiser_52
    | succ n ih =>
      intro k hk  hth ls hl
      have hkn : k < σ.1 2 := by omega
      refine lv_iload_n hx hb dX0_holdsAdvertiser_2 rfl (lv_at hl 0 rfl) ?_
      refine lv_aload_n hx hb dX0_holdsAdvertiser_3 rfl (lv_at hl 1 rfl) ?_
      refine sa_g0_spotCount S hin hK hP (by decide +kernel) dX0_holdsAdvertiser_4 ?_
      refine lv_icmp_ge (tgt := 51) hx hb dX0_holdsAdvertiser_7 (by decide) (fun c9 => absurd c9 (nI_ge (by omega) (by omega))) (fun _ => ?_)
      refine lv_aload_n hx hb dX0_holdsAdvertiser_10 rfl (lv_at hl 1 rfl) ?_
      refine sa_g0_spotBreak S hin hK hP (by decide +kernel) dX0_holdsAdvertiser_11 ?_
      refine lv_iload_n hx hb dX0_holdsAdvertiser_14 rfl (lv_at hl 0 rfl) ?_
      refine sa_ldk 13 S hK hP rfl (by omega) (by decide) dX0_holdsAdvertiser_15 ?_
      refine lv_iload_n hx hb dX0_holdsAdvertiser_16 rfl (lv_at hl 2 rfl) ?_
      refine lv_icmp_ne (tgt := 45) hx hb dX0_holdsAdvertiser_17 (by decide) (fun c_17 => ?_) (fun c_17 => ?_)
      · skip
        refine lv_iinc (v := nI (k + 1)) (lv' := [(3, .int (nI (k + 1))), (0, .ref (a 0)), (1, .int (at')), (2, .int (σ.2 4 o.toNatClampNeg))]) hx hb dX0_holdsAdvertiser_45 hl (k := 0) rfl (nI_1 k) (by decide) rfl (fun ls hl => ?_)
        refine lv_goto (tgt := 2) hx hb dX0_holdsAdvertiser_48 (by decide) ?_
        exact ih (k + 1) (by omega)  (by have h9 := sa_ne1 (k := k) (by omega); simp [sa_th, hth, h9, sa_sd, sa_sec, sa_rat, sa_adv, sa_cat, sa_cnt, sa_aud, sa_less, sa_w, c_17]) ls (lv_sub hl [0, 1, 2, 3] rfl)
      · skip
        refine lv_aload_n hx hb dX0_holdsAdvertiser_20 rfl (lv_at hl 1 rfl) ?_
        refine lv_iload_n hx hb dX0_holdsAdvertiser_21 rfl (lv_at hl 0 rfl) ?_
        refine sa_kRd (As := [.int (nI k)]) (rest := []) S (c_X0_isInBreak l G cI cZ cL a σ k (by omega)) (cwV 1 hts gX0_holdsAdvertiser_X0_isInBreak rfl rfl rfl (by decide +kernel) ⟨Nat.le_of_ble_eq_true rfl, Nat.le_of_ble_eq_true rfl⟩) hP hK (ci := 0) rfl rfl rfl hl.1 (Nat.le_of_ble_eq_true rfl) rfl dX0_holdsAdvertiser_22 ⟨Nat.zero_le _, Nat.zero_le _⟩ ?_
        refine lv_if_eq (tgt := 45) hx hb dX0_holdsAdvertiser_25 (by decide) (fun c_25 => ?_) (fun c_25 => ?_)
        · skip
          have c_25 := sa_b0 c_25
          refine lv_iinc (v := nI (k + 1)) (lv' := [(3, .int (nI (k + 1))), (0, .ref (a 0)), (1, .int (at')), (2, .int (σ.2 4 o.toNatClampNeg))]) hx hb dX0_holdsAdvertiser_45 hl (k := 0) rfl (nI_1 k) (by decide) rfl (fun ls hl => ?_)
          refine lv_goto (tgt := 2) hx hb dX0_holdsAdvertiser_48 (by decide) ?_
          exact ih (k + 1) (by omega)  (by have h9 := sa_ne1 (k := k) (by omega); simp [sa_th, hth, h9, sa_sd, sa_sec, sa_rat, sa_adv, sa_cat, sa_cnt, sa_aud, sa_less, sa_w, c_17, c_25]) ls (lv_sub hl [0, 1, 2, 3] rfl)
        · skip
          have c_25 := sa_b1 c_25
          refine lv_aload_n hx hb dX0_holdsAdvertiser_28 rfl (lv_at hl 1 rfl) ?_
          refine sa_g0_orderAdvertiser S hin hK hP (by decide +kernel) dX0_holdsAdvertiser_29 ?_
          refine lv_aload_n hx hb dX0_holdsAdvertiser_32 rfl (lv_at hl 1 rfl) ?_
          refine sa_g0_spotOrder S hin hK hP (by decide +kernel) dX0_holdsAdvertiser_33 ?_
          refine lv_iload_n hx hb dX0_holdsAdvertiser_36 rfl (lv_at hl 0 rfl) ?_
          refine sa_ldk 12 S hK hP rfl (by omega) (by decide) dX0_holdsAdvertiser_37 ?_
          refine sa_ld 4 S hK hP rfl (sa_vm (hor k (by omega)) (by omega)) dX0_holdsAdvertiser_38 ?_
          refine lv_iload_n hx hb dX0_holdsAdvertiser_39 rfl (lv_at hl 3 rfl) ?_
          refine lv_icmp_ne (tgt := 45) hx hb dX0_holdsAdvertiser_40 (by decide) (fun c_40 => ?_) (fun c_40 => ?_)
          · skip
            refine lv_iinc (v := nI (k + 1)) (lv' := [(3, .int (nI (k + 1))), (0, .ref (a 0)), (1, .int (at')), (2, .int (σ.2 4 o.toNatClampNeg))]) hx hb dX0_holdsAdvertiser_45 hl (k := 0) rfl (nI_1 k) (by decide) rfl (fun ls hl => ?_)
            refine lv_goto (tgt := 2) hx hb dX0_holdsAdvertiser_48 (by decide) ?_
            exact ih (k + 1) (by omega)  (by have h9 := sa_ne1 (k := k) (by omega); simp [sa_th, hth, h9, sa_sd, sa_sec, sa_rat, sa_adv, sa_cat, sa_cnt, sa_aud, sa_less, sa_w, c_17, c_25, c_40]) ls (lv_sub hl [0, 1, 2, 3] rfl)
          · skip
            refine lv_iconst (v := 1) hx hb dX0_holdsAdvertiser_43 (by decide) ?_
            exact W.zret (v := 1) (ty := .boolean) hx hb hr rfl (fun t9 ht _ => ⟨_, rfl, (sa_bt (sa_th_mono (k := k + 1) (by have h9 := sa_ne1 (k := k) (by omega); simp [sa_th, hth, h9, sa_sd, sa_sec, sa_rat, sa_adv, sa_cat, sa_cnt, sa_aud, sa_less, sa_w, c_17, c_25, c_40]) (by omega))).symm, ht⟩) (fun _ h => nomatch h) dX0_holdsAdvertiser_44
  exact loop (σ.1 2) 0 (Nat.zero_add _)  rfl ls (lv_sub hl [0, 1, 2, 3] rfl)

set_option maxHeartbeats 4000000 in
set_option maxRecDepth 100000 in
theorem c_X0_areRivals (l : Launch) (G : va_G) (cI cZ cL : ClassId) (a : Nat → Nat) (σ : sa_St) (hI : sa_I σ) (x o : Int32) (hx1 : vp_in x (σ.1 1)) (ho : vp_in o (σ.1 1)) : sa_Rd l yX0_areRivals wsX0_areRivals ({ frames := 0, cells := 0, slots := 0, locals := 0 }) G cI cZ cL (sa_W0 cI cZ a σ) [.ref (a 0), .int (x), .int (o)] (sa_b (¬ σ.2 4 x.toNatClampNeg = σ.2 4 o.toNatClampNeg ∧ σ.2 5 x.toNatClampNeg = σ.2 5 o.toNatClampNeg)) := by
  obtain ⟨hnb, hno, hns, hgr, hor, hbr, hai⟩ := id hI
  refine Met.ofW (cc := cX0_areRivals) (maxL := 3) (ret := (some .boolean)) (by decide) rfl ?_
  intro p e s m args below meth c s₁ B9 hml hv
  obtain ⟨rfl, hP, hK⟩ := hv
  have hx := B9.exec
  have hb := B9.bytes
  have hr := B9.returns
  have hlk := B9.notSynchronized
  have hts := atoms_spec (ws := wsX0_areRivals) B9.pre
  have hown : s.vm.findClass RX0 = some m.cls := findClass_of_methodNamed B9.named
  have S : CallFix p m c cX0_areRivals 3 s _ wsX0_areRivals RX0 := ⟨hx, hb, hml, hown, hts⟩
  have hin : ∀ w ∈ wsX00, w ∈ wsX0_areRivals := by decide +kernel
  have hl := lv_entry ([.ref (a 0), .int (x), .int (o)]) (n := 3) (Nat.le_of_ble_eq_true rfl)
  rw [lg_entry_eq]
  generalize (lg_sl ([.ref (a 0), .int (x), .int (o)]) ++ List.replicate (3 - (lg_sl ([.ref (a 0), .int (x), .int (o)])).length) Slot.unset).toArray = ls at hl ⊢
  have hl : lv_has ls 3 [(0, .ref (a 0)), (1, .int (x)), (2, .int (o))] := hl
  refine lv_aload_n hx hb dX0_areRivals_0 rfl (lv_at hl 0 rfl) ?_
  refine sa_g0_orderCategory S hin hK hP (by decide +kernel) dX0_areRivals_1 ?_
  refine lv_iload_n hx hb dX0_areRivals_4 rfl (lv_at hl 1 rfl) ?_
  refine sa_ld 5 S hK hP rfl (sa_vm hx1 (by omega)) dX0_areRivals_5 ?_
  refine lv_aload_n hx hb dX0_areRivals_6 rfl (lv_at hl 0 rfl) ?_
  refine sa_g0_orderCategory S hin hK hP (by decide +kernel) dX0_areRivals_7 ?_
  refine lv_iload_n hx hb dX0_areRivals_10 rfl (lv_at hl 2 rfl) ?_
  refine sa_ld 5 S hK hP rfl (sa_vm ho (by omega)) dX0_areRivals_11 ?_
  refine lv_icmp_ne (tgt := 34) hx hb dX0_areRivals_12 (by decide) (fun c_12 => ?_) (fun c_12 => ?_)
  · skip
    refine lv_iconst (v := 0) hx hb dX0_areRivals_34 (by decide) ?_
    exact W.zret (v := 0) (ty := .boolean) hx hb hr rfl (fun t9 ht _ => ⟨_, rfl, (sa_bf (by simp [sa_sd, sa_sec, sa_rat, sa_adv, sa_cat, sa_cnt, sa_aud, sa_less, sa_w, c_12])).symm, ht⟩) (fun _ h => nomatch h) dX0_areRivals_35
  · skip
    refine lv_aload_n hx hb dX0_areRivals_15 rfl (lv_at hl 0 rfl) ?_
    refine sa_g0_orderAdvertiser S hin hK hP (by decide +kernel) dX0_areRivals_16 ?_
    refine lv_iload_n hx hb dX0_areRivals_19 rfl (lv_at hl 1 rfl) ?_
    refine sa_ld 4 S hK hP rfl (sa_vm hx1 (by omega)) dX0_areRivals_20 ?_
    refine lv_aload_n hx hb dX0_areRivals_21 rfl (lv_at hl 0 rfl) ?_
    refine sa_g0_orderAdvertiser S hin hK hP (by decide +kernel) dX0_areRivals_22 ?_
    refine lv_iload_n hx hb dX0_areRivals_25 rfl (lv_at hl 2 rfl) ?_
    refine sa_ld 4 S hK hP rfl (sa_vm ho (by omega)) dX0_areRivals_26 ?_
    refine lv_icmp_eq (tgt := 34) hx hb dX0_areRivals_27 (by decide) (fun c_27 => ?_) (fun c_27 => ?_)
    · skip
      refine lv_iconst (v := 0) hx hb dX0_areRivals_34 (by decide) ?_
      exact W.zret (v := 0) (ty := .boolean) hx hb hr rfl (fun t9 ht _ => ⟨_, rfl, (sa_bf (by simp [sa_sd, sa_sec, sa_rat, sa_adv, sa_cat, sa_cnt, sa_aud, sa_less, sa_w, c_12, c_27])).symm, ht⟩) (fun _ h => nomatch h) dX0_areRivals_35
    · skip
      refine lv_iconst (v := 1) hx hb dX0_areRivals_30 (by decide) ?_
      refine lv_goto (tgt := 35) hx hb dX0_areRivals_31 (by decide) ?_
      exact W.zret (v := 1) (ty := .boolean) hx hb hr rfl (fun t9 ht _ => ⟨_, rfl, (sa_bt (by simp [sa_sd, sa_sec, sa_rat, sa_adv, sa_cat, sa_cnt, sa_aud, sa_less, sa_w, c_12, c_27])).symm, ht⟩) (fun _ h => nomatch h) dX0_areRivals_35

set_option maxHeartbeats 4000000 in
set_option maxRecDepth 100000 in
theorem c_X0_holdsRival (l : Launch) (G : va_G) (cI cZ cL : ClassId) (a : Nat → Nat) (σ : sa_St) (hI : sa_I σ) (o at' : Int32) (ho : vp_in o (σ.1 1)) : sa_Rd l yX0_holdsRival wsX0_holdsRival ({ frames := 1, cells := 0, slots := 0, locals := 22 }) G cI cZ cL (sa_W0 cI cZ a σ) [.ref (a 0), .int (at'), .int (o)] (sa_b (sa_th σ o at' (-1) 1 (σ.1 2) = true)) := by
  obtain ⟨hnb, hno, hns, hgr, hor, hbr, hai⟩ := id hI
  refine Met.ofW (cc := cX0_holdsRival) (maxL := 4) (ret := (some .boolean)) (by decide) rfl ?_
  intro p e s m args below meth c s₁ B9 hml hv
  obtain ⟨rfl, hP, hK⟩ := hv
  have hx := B9.exec
  have hb := B9.bytes
  have hr := B9.returns
  have hlk := B9.notSynchronized
  have hts := atoms_spec (ws := wsX0_holdsRival) B9.pre
  have hown : s.vm.findClass RX0 = some m.cls := findClass_of_methodNamed B9.named
  have S : CallFix p m c cX0_holdsRival 4 s _ wsX0_holdsRival RX0 := ⟨hx, hb, hml, hown, hts⟩
  have hin : ∀ w ∈ wsX00, w ∈ wsX0_holdsRival := by decide +kernel
  have hl := lv_entry ([.ref (a 0), .int (at'), .int (o)]) (n := 4) (Nat.le_of_ble_eq_true rfl)
  rw [lg_entry_eq]
  generalize (lg_sl ([.ref (a 0), .int (at'), .int (o)]) ++ List.replicate (4 - (lg_sl ([.ref (a 0), .int (at'), .int (o)])).length) Slot.unset).toArray = ls at hl ⊢
  have hl : lv_has ls 4 [(0, .ref (a 0)), (1, .int (at')), (2, .int (o))] := hl
  refine lv_iconst (v := 0) hx hb dX0_holdsRival_0 (by decide) ?_
  refine lv_istore_n (lv' := [(3, .int (0)), (0, .ref (a 0)), (1, .int (at')), (2, .int (o))]) hx hb dX0_holdsRival_1 rfl hl (by decide) rfl (fun ls hl => ?_)
  have loop : ∀ (n k : Nat), k + n = σ.1 2 →  (sa_th σ o at' (-1) 1 k = false) →  ∀ ls : Array Slot, lv_has ls 4 [(3, .int (nI k)), (0, .ref (a 0)), (1, .int (at')), (2, .int (o))] → W p l e (headSpec wsX0_holdsRival ({ frames := 1, cells := 0, slots := 0, locals := 22 })).room s m ([Value.ref (a 0), Value.int (at'), Value.int (o)] : List Value).toArray below meth c s.heap [] 0 0 (MQ below (vp_Si (fun z => z = sa_b (sa_th σ o at' (-1) 1 (σ.1 2) = true))) ([Value.ref (a 0), Value.int (at'), Value.int (o)] : List Value).toArray s 0 0 (fun _ => False)) (F0 m 2 ls []) := by
    intro n
    induction n with
    | zero =>
      intro k hk  hth ls hl
      have hk2 : k = σ.1 2 := by omega
      subst hk2
      refine lv_iload_n hx hb dX0_holdsRival_2 rfl (lv_at hl 0 rfl) ?_
      refine lv_aload_n hx hb dX0_holdsRival_3 rfl (lv_at hl 1 rfl) ?_
      refine sa_g0_spotCount S hin hK hP (by decide +kernel) dX0_holdsRival_4 ?_
      refine lv_icmp_ge (tgt := 50) hx hb dX0_holdsRival_7 (by decide) (fun _ => ?_) (fun c9 => absurd (nI_le (Nat.le_refl _) (by omega)) c9)
      refine lv_iconst (v := 0) hx hb dX0_holdsRival_50 (by decide) ?_
      exact W.zret (v := 0) (ty := .boolean) hx hb hr rfl (fun t9 ht _ => ⟨_, rfl, (sa_bf (by simp [hth])).symm, ht⟩) (fun _ h => nomatch h) dX0_holdsRival_51
    | succ n ih =>
      intro k hk  hth ls hl
      have hkn : k < σ.1 2 := by omega
      refine lv_iload_n hx hb dX0_holdsRival_2 rfl (lv_at hl 0 rfl) ?_
      refine lv_aload_n hx hb dX0_holdsRival_3 rfl (lv_at hl 1 rfl) ?_
      refine sa_g0_spotCount S hin hK hP (by decide +kernel) dX0_holdsRival_4 ?_
      refine lv_icmp_ge (tgt := 50) hx hb dX0_holdsRival_7 (by decide) (fun c9 => absurd c9 (nI_ge (by omega) (by omega))) (fun _ => ?_)
      refine lv_aload_n hx hb dX0_holdsRival_10 rfl (lv_at hl 1 rfl) ?_
      refine sa_g0_spotBreak S hin hK hP (by decide +kernel) dX0_holdsRival_11 ?_
      refine lv_iload_n hx hb dX0_holdsRival_14 rfl (lv_at hl 0 rfl) ?_
      refine sa_ldk 13 S hK hP rfl (by omega) (by decide) dX0_holdsRival_15 ?_
      refine lv_iload_n hx hb dX0_holdsRival_16 rfl (lv_at hl 2 rfl) ?_
      refine lv_icmp_ne (tgt := 44) hx hb dX0_holdsRival_17 (by decide) (fun c_17 => ?_) (fun c_17 => ?_)
      · skip
        refine lv_iinc (v := nI (k + 1)) (lv' := [(3, .int (nI (k + 1))), (0, .ref (a 0)), (1, .int (at')), (2, .int (o))]) hx hb dX0_holdsRival_44 hl (k := 0) rfl (nI_1 k) (by decide) rfl (fun ls hl => ?_)
        refine lv_goto (tgt := 2) hx hb dX0_holdsRival_47 (by decide) ?_
        exact ih (k + 1) (by omega)  (by have h9 := sa_ne1 (k := k) (by omega); simp [sa_th, hth, h9, sa_sd, sa_sec, sa_rat, sa_adv, sa_cat, sa_cnt, sa_aud, sa_less, sa_w, c_17]) ls (lv_sub hl [0, 1, 2, 3] rfl)
      · skip
        refine lv_aload_n hx hb dX0_holdsRival_20 rfl (lv_at hl 1 rfl) ?_
        refine lv_iload_n hx hb dX0_holdsRival_21 rfl (lv_at hl 0 rfl) ?_
        refine sa_kRd (As := [.int (nI k)]) (rest := []) S (c_X0_isInBreak l G cI cZ cL a σ k (by omega)) (cwV 1 hts gX0_holdsRival_X0_isInBreak rfl rfl rfl (by decide +kernel) ⟨Nat.le_of_ble_eq_true rfl, Nat.le_of_ble_eq_true rfl⟩) hP hK (ci := 0) rfl rfl rfl hl.1 (Nat.le_of_ble_eq_true rfl) rfl dX0_holdsRival_22 ⟨Nat.zero_le _, Nat.zero_le _⟩ ?_
        refine lv_if_eq (tgt := 44) hx hb dX0_holdsRival_25 (by decide) (fun c_25 => ?_) (fun c_25 => ?_)
        · skip
          have c_25 := sa_b0 c_25
          refine lv_iinc (v := nI (k + 1)) (lv' := [(3, .int (nI (k + 1))), (0, .ref (a 0)), (1, .int (at')), (2, .int (o))]) hx hb dX0_holdsRival_44 hl (k := 0) rfl (nI_1 k) (by decide) rfl (fun ls hl => ?_)
          refine lv_goto (tgt := 2) hx hb dX0_holdsRival_47 (by decide) ?_
          exact ih (k + 1) (by omega)  (by have h9 := sa_ne1 (k := k) (by omega); simp [sa_th, hth, h9, sa_sd, sa_sec, sa_rat, sa_adv, sa_cat, sa_cnt, sa_aud, sa_less, sa_w, c_17, c_25]) ls (lv_sub hl [0, 1, 2, 3] rfl)
        · skip
          have c_25 := sa_b1 c_25
          refine lv_aload_n hx hb dX0_holdsRival_28 rfl (lv_at hl 1 rfl) ?_
          refine lv_aload_n hx hb dX0_holdsRival_29 rfl (lv_at hl 1 rfl) ?_
          refine sa_g0_spotOrder S hin hK hP (by decide +kernel) dX0_holdsRival_30 ?_
          refine lv_iload_n hx hb dX0_holdsRival_33 rfl (lv_at hl 0 rfl) ?_
          refine sa_ldk 12 S hK hP rfl (by omega) (by decide) dX0_holdsRival_34 ?_
          refine lv_iload_n hx hb dX0_holdsRival_35 rfl (lv_at hl 3 rfl) ?_
          refine sa_kRd (As := [.int (σ.2 12 k), .int (o)]) (rest := []) S (c_X0_areRivals l G cI cZ cL a σ hI (σ.2 12 k) o (hor k (by omega)) ho) (cwV 2 hts gX0_holdsRival_X0_areRivals rfl rfl rfl (by decide +kernel) ⟨Nat.le_of_ble_eq_true rfl, Nat.le_of_ble_eq_true rfl⟩) hP hK (ci := 0) rfl rfl rfl hl.1 (Nat.le_of_ble_eq_true rfl) rfl dX0_holdsRival_36 ⟨Nat.zero_le _, Nat.zero_le _⟩ ?_
          refine lv_if_eq (tgt := 44) hx hb dX0_holdsRival_39 (by decide) (fun c_39 => ?_) (fun c_39 => ?_)
          · skip
            have c_39 := sa_b0 c_39
            refine lv_iinc (v := nI (k + 1)) (lv' := [(3, .int (nI (k + 1))), (0, .ref (a 0)), (1, .int (at')), (2, .int (o))]) hx hb dX0_holdsRival_44 hl (k := 0) rfl (nI_1 k) (by decide) rfl (fun ls hl => ?_)
            refine lv_goto (tgt := 2) hx hb dX0_holdsRival_47 (by decide) ?_
            exact ih (k + 1) (by omega)  (by have h9 := sa_ne1 (k := k) (by omega); simp [sa_th, hth, h9, sa_sd, sa_sec, sa_rat, sa_adv, sa_cat, sa_cnt, sa_aud, sa_less, sa_w, c_17, c_25, c_39]) ls (lv_sub hl [0, 1, 2, 3] rfl)
          · skip
            have c_39 := sa_b1 c_39
            refine lv_iconst (v := 1) hx hb dX0_holdsRival_42 (by decide) ?_
            exact W.zret (v := 1) (ty := .boolean) hx hb hr rfl (fun t9 ht _ => ⟨_, rfl, (sa_bt (sa_th_mono (k := k + 1) (by have h9 := sa_ne1 (k := k) (by omega); simp [sa_th, hth, h9, sa_sd, sa_sec, sa_rat, sa_adv, sa_cat, sa_cnt, sa_aud, sa_less, sa_w, c_17, c_25, c_39]) (by omega))).symm, ht⟩) (fun _ h => nomatch h) dX0_holdsRival_43
  exact loop (σ.1 2) 0 (Nat.zero_add _)  rfl ls (lv_sub hl [0, 1, 2, 3] rfl)

set_option maxHeartbeats 4000000 in
set_option maxRecDepth 100000 in
theorem c_X0_obstacle (l : Launch) (G : va_G) (cI cZ cL : ClassId) (a : Nat → Nat) (σ : sa_St) (hI : sa_I σ) (o at' : Int32) (ho : vp_in o (σ.1 1)) (hat : vp_in at' (σ.1 0)) : sa_Rd l yX0_obstacle wsX0_obstacle ({ frames := 2, cells := 0, slots := 0, locals := 45 }) G cI cZ cL (sa_W0 cI cZ a σ) [.ref (a 0), .int (o), .int (at')] (sa_why σ o at' (-1)) := by
  obtain ⟨hnb, hno, hns, hgr, hor, hbr, hai⟩ := id hI
  refine Met.ofW (cc := cX0_obstacle) (maxL := 3) (ret := (some .int)) (by decide) rfl ?_
  intro p e s m args below meth c s₁ B9 hml hv
  obtain ⟨rfl, hP, hK⟩ := hv
  have hx := B9.exec
  have hb := B9.bytes
  have hr := B9.returns
  have hlk := B9.notSynchronized
  have hts := atoms_spec (ws := wsX0_obstacle) B9.pre
  have hown : s.vm.findClass RX0 = some m.cls := findClass_of_methodNamed B9.named
  have S : CallFix p m c cX0_obstacle 3 s _ wsX0_obstacle RX0 := ⟨hx, hb, hml, hown, hts⟩
  have hin : ∀ w ∈ wsX00, w ∈ wsX0_obstacle := by decide +kernel
  have hl := lv_entry ([.ref (a 0), .int (o), .int (at')]) (n := 3) (Nat.le_of_ble_eq_true rfl)
  rw [lg_entry_eq]
  generalize (lg_sl ([.ref (a 0), .int (o), .int (at')]) ++ List.replicate (3 - (lg_sl ([.ref (a 0), .int (o), .int (at')])).length) Slot.unset).toArray = ls at hl ⊢
  have hl : lv_has ls 3 [(0, .ref (a 0)), (1, .int (o)), (2, .int (at'))] := hl
  refine lv_aload_n hx hb dX0_obstacle_0 rfl (lv_at hl 0 rfl) ?_
  refine sa_g0_breakAired S hin hK hP (by decide +kernel) dX0_obstacle_1 ?_
  refine lv_iload_n hx hb dX0_obstacle_4 rfl (lv_at hl 2 rfl) ?_
  refine sa_ldz 2 S hK hP rfl (sa_vm hat (by omega)) dX0_obstacle_5 ?_
  refine lv_if_eq (tgt := 11) hx hb dX0_obstacle_6 (by decide) (fun c_6 => ?_) (fun c_6 => ?_)
  · skip
    refine lv_aload_n hx hb dX0_obstacle_11 rfl (lv_at hl 0 rfl) ?_
    refine lv_iload_n hx hb dX0_obstacle_12 rfl (lv_at hl 2 rfl) ?_
    refine sa_kRd (As := [.int (at')]) (rest := []) S (c_X0_secondsLeft l G cI cZ cL a σ hI at' hat) (cwV 1 hts gX0_obstacle_X0_secondsLeft rfl rfl rfl (by decide +kernel) ⟨Nat.le_of_ble_eq_true rfl, Nat.le_of_ble_eq_true rfl⟩) hP hK (ci := 0) rfl rfl rfl hl.1 (Nat.le_of_ble_eq_true rfl) rfl dX0_obstacle_13 ⟨Nat.zero_le _, Nat.zero_le _⟩ ?_
    refine lv_aload_n hx hb dX0_obstacle_16 rfl (lv_at hl 0 rfl) ?_
    refine sa_g0_orderSeconds S hin hK hP (by decide +kernel) dX0_obstacle_17 ?_
    refine lv_iload_n hx hb dX0_obstacle_20 rfl (lv_at hl 1 rfl) ?_
    refine sa_ld 7 S hK hP rfl (sa_vm ho (by omega)) dX0_obstacle_21 ?_
    refine lv_icmp_ge (tgt := 27) hx hb dX0_obstacle_22 (by decide) (fun c_22 => ?_) (fun c_22 => ?_)
    · skip
      have c_22 := Int32.not_lt.mpr c_22
      refine lv_aload_n hx hb dX0_obstacle_27 rfl (lv_at hl 0 rfl) ?_
      refine lv_iload_n hx hb dX0_obstacle_28 rfl (lv_at hl 1 rfl) ?_
      refine lv_iload_n hx hb dX0_obstacle_29 rfl (lv_at hl 2 rfl) ?_
      refine sa_kRd (As := [.int (o), .int (at')]) (rest := []) S (c_X0_ratingFor l G cI cZ cL a σ hI o at' ho hat) (cwV 2 hts gX0_obstacle_X0_ratingFor rfl rfl rfl (by decide +kernel) ⟨Nat.le_of_ble_eq_true rfl, Nat.le_of_ble_eq_true rfl⟩) hP hK (ci := 0) rfl rfl rfl hl.1 (Nat.le_of_ble_eq_true rfl) rfl dX0_obstacle_30 ⟨Nat.zero_le _, Nat.zero_le _⟩ ?_
      refine lv_aload_n hx hb dX0_obstacle_33 rfl (lv_at hl 0 rfl) ?_
      refine sa_g0_orderFloor S hin hK hP (by decide +kernel) dX0_obstacle_34 ?_
      refine lv_iload_n hx hb dX0_obstacle_37 rfl (lv_at hl 1 rfl) ?_
      refine sa_ld 10 S hK hP rfl (sa_vm ho (by omega)) dX0_obstacle_38 ?_
      refine lv_icmp_ge (tgt := 44) hx hb dX0_obstacle_39 (by decide) (fun c_39 => ?_) (fun c_39 => ?_)
      · skip
        have c_39 := Int32.not_lt.mpr c_39
        refine lv_aload_n hx hb dX0_obstacle_44 rfl (lv_at hl 0 rfl) ?_
        refine lv_iload_n hx hb dX0_obstacle_45 rfl (lv_at hl 2 rfl) ?_
        refine lv_aload_n hx hb dX0_obstacle_46 rfl (lv_at hl 0 rfl) ?_
        refine sa_g0_orderAdvertiser S hin hK hP (by decide +kernel) dX0_obstacle_47 ?_
        refine lv_iload_n hx hb dX0_obstacle_50 rfl (lv_at hl 1 rfl) ?_
        refine sa_ld 4 S hK hP rfl (sa_vm ho (by omega)) dX0_obstacle_51 ?_
        refine sa_kRd (As := [.int (at'), .int (σ.2 4 o.toNatClampNeg)]) (rest := []) S (c_X0_holdsAdvertiser l G cI cZ cL a σ hI o at' ho) (cwV 2 hts gX0_obstacle_X0_holdsAdvertiser rfl rfl rfl (by decide +kernel) ⟨Nat.le_of_ble_eq_true rfl, Nat.le_of_ble_eq_true rfl⟩) hP hK (ci := 0) rfl rfl rfl hl.1 (Nat.le_of_ble_eq_true rfl) rfl dX0_obstacle_52 ⟨Nat.zero_le _, Nat.zero_le _⟩ ?_
        refine lv_if_eq (tgt := 60) hx hb dX0_obstacle_55 (by decide) (fun c_55 => ?_) (fun c_55 => ?_)
        · skip
          have c_55 := sa_b0 c_55
          refine lv_aload_n hx hb dX0_obstacle_60 rfl (lv_at hl 0 rfl) ?_
          refine lv_iload_n hx hb dX0_obstacle_61 rfl (lv_at hl 2 rfl) ?_
          refine lv_iload_n hx hb dX0_obstacle_62 rfl (lv_at hl 1 rfl) ?_
          refine sa_kRd (As := [.int (at'), .int (o)]) (rest := []) S (c_X0_holdsRival l G cI cZ cL a σ hI o at' ho) (cwV 2 hts gX0_obstacle_X0_holdsRival rfl rfl rfl (by decide +kernel) ⟨Nat.le_of_ble_eq_true rfl, Nat.le_of_ble_eq_true rfl⟩) hP hK (ci := 0) rfl rfl rfl hl.1 (Nat.le_of_ble_eq_true rfl) rfl dX0_obstacle_63 ⟨Nat.zero_le _, Nat.zero_le _⟩ ?_
          refine lv_if_eq (tgt := 71) hx hb dX0_obstacle_66 (by decide) (fun c_66 => ?_) (fun c_66 => ?_)
          · skip
            have c_66 := sa_b0 c_66
            refine lv_aload_n hx hb dX0_obstacle_71 rfl (lv_at hl 0 rfl) ?_
            refine lv_iload_n hx hb dX0_obstacle_72 rfl (lv_at hl 2 rfl) ?_
            refine lv_iconst (v := 1) hx hb dX0_obstacle_73 (by decide) ?_
            refine lv_isub hx hb dX0_obstacle_74 ?_
            refine lv_iload_n hx hb dX0_obstacle_75 rfl (lv_at hl 1 rfl) ?_
            refine sa_kRd (As := [.int (at' - 1), .int (o)]) (rest := []) S (c_X0_holdsRival l G cI cZ cL a σ hI o (at' - 1) ho) (cwV 2 hts gX0_obstacle_X0_holdsRival rfl rfl rfl (by decide +kernel) ⟨Nat.le_of_ble_eq_true rfl, Nat.le_of_ble_eq_true rfl⟩) hP hK (ci := 0) rfl rfl rfl hl.1 (Nat.le_of_ble_eq_true rfl) rfl dX0_obstacle_76 ⟨Nat.zero_le _, Nat.zero_le _⟩ ?_
            refine lv_if_ne (tgt := 93) hx hb dX0_obstacle_79 (by decide) (fun c_79 => ?_) (fun c_79 => ?_)
            · skip
              have c_79 := sa_b1 c_79
              refine lv_bipush (v := 6) hx hb dX0_obstacle_93 (by decide) ?_
              exact W.iret (v := 6) hx hb hr (fun t9 ht _ => ⟨_, rfl, (by have h9 := sa_nx_l hI hat c_79; unfold sa_why; simp [h9, c_6, c_22, c_39, c_55, c_66, c_79]), ht⟩) (fun _ h => nomatch h) dX0_obstacle_95
            · skip
              have c_79 := sa_b0 c_79
              refine lv_aload_n hx hb dX0_obstacle_82 rfl (lv_at hl 0 rfl) ?_
              refine lv_iload_n hx hb dX0_obstacle_83 rfl (lv_at hl 2 rfl) ?_
              refine lv_iconst (v := 1) hx hb dX0_obstacle_84 (by decide) ?_
              refine lv_iadd hx hb dX0_obstacle_85 ?_
              refine lv_iload_n hx hb dX0_obstacle_86 rfl (lv_at hl 1 rfl) ?_
              refine sa_kRd (As := [.int (at' + 1), .int (o)]) (rest := []) S (c_X0_holdsRival l G cI cZ cL a σ hI o (at' + 1) ho) (cwV 2 hts gX0_obstacle_X0_holdsRival rfl rfl rfl (by decide +kernel) ⟨Nat.le_of_ble_eq_true rfl, Nat.le_of_ble_eq_true rfl⟩) hP hK (ci := 0) rfl rfl rfl hl.1 (Nat.le_of_ble_eq_true rfl) rfl dX0_obstacle_87 ⟨Nat.zero_le _, Nat.zero_le _⟩ ?_
              refine lv_if_eq (tgt := 96) hx hb dX0_obstacle_90 (by decide) (fun c_90 => ?_) (fun c_90 => ?_)
              · skip
                have c_90 := sa_b0 c_90
                refine lv_iconst (v := 0) hx hb dX0_obstacle_96 (by decide) ?_
                exact W.iret (v := 0) hx hb hr (fun t9 ht _ => ⟨_, rfl, (by unfold sa_why; simp [c_6, c_22, c_39, c_55, c_66, c_79, c_90]), ht⟩) (fun _ h => nomatch h) dX0_obstacle_97
              · skip
                have c_90 := sa_b1 c_90
                refine lv_bipush (v := 6) hx hb dX0_obstacle_93 (by decide) ?_
                exact W.iret (v := 6) hx hb hr (fun t9 ht _ => ⟨_, rfl, (by have h9 := sa_nx_r hI hat c_90; unfold sa_why; simp [h9, c_6, c_22, c_39, c_55, c_66, c_79, c_90]), ht⟩) (fun _ h => nomatch h) dX0_obstacle_95
          · skip
            have c_66 := sa_b1 c_66
            refine lv_iconst (v := 5) hx hb dX0_obstacle_69 (by decide) ?_
            exact W.iret (v := 5) hx hb hr (fun t9 ht _ => ⟨_, rfl, (by unfold sa_why; simp [c_6, c_22, c_39, c_55, c_66]), ht⟩) (fun _ h => nomatch h) dX0_obstacle_70
        · skip
          have c_55 := sa_b1 c_55
          refine lv_iconst (v := 4) hx hb dX0_obstacle_58 (by decide) ?_
          exact W.iret (v := 4) hx hb hr (fun t9 ht _ => ⟨_, rfl, (by unfold sa_why; simp [c_6, c_22, c_39, c_55]), ht⟩) (fun _ h => nomatch h) dX0_obstacle_59
      · skip
        have c_39 := Int32.not_le.mp c_39
        refine lv_iconst (v := 3) hx hb dX0_obstacle_42 (by decide) ?_
        exact W.iret (v := 3) hx hb hr (fun t9 ht _ => ⟨_, rfl, (by unfold sa_why; simp [c_6, c_22, c_39]), ht⟩) (fun _ h => nomatch h) dX0_obstacle_43
    · skip
      have c_22 := Int32.not_le.mp c_22
      refine lv_iconst (v := 2) hx hb dX0_obstacle_25 (by decide) ?_
      exact W.iret (v := 2) hx hb hr (fun t9 ht _ => ⟨_, rfl, (by unfold sa_why; simp [c_6, c_22]), ht⟩) (fun _ h => nomatch h) dX0_obstacle_26
  · skip
    refine lv_iconst (v := 1) hx hb dX0_obstacle_9 (by decide) ?_
    exact W.iret (v := 1) hx hb hr (fun t9 ht _ => ⟨_, rfl, (by unfold sa_why; simp [c_6]), ht⟩) (fun _ h => nomatch h) dX0_obstacle_10

set_option maxHeartbeats 4000000 in
set_option maxRecDepth 100000 in
theorem c_X0_audience (l : Launch) (G : va_G) (cI cZ cL : ClassId) (a : Nat → Nat) (σ : sa_St) (hI : sa_I σ) (o st : Int32) (ho : vp_in o (σ.1 1)) : sa_Rd l yX0_audience wsX0_audience ({ frames := 2, cells := 0, slots := 0, locals := 43 }) G cI cZ cL (sa_W0 cI cZ a σ) [.ref (a 0), .int (o), .int (st)] (sa_sum σ o st 0 (σ.1 2)) := by
  obtain ⟨hnb, hno, hns, hgr, hor, hbr, hai⟩ := id hI
  refine Met.ofW (cc := cX0_audience) (maxL := 5) (ret := (some .int)) (by decide) rfl ?_
  intro p e s m args below meth c s₁ B9 hml hv
  obtain ⟨rfl, hP, hK⟩ := hv
  have hx := B9.exec
  have hb := B9.bytes
  have hr := B9.returns
  have hlk := B9.notSynchronized
  have hts := atoms_spec (ws := wsX0_audience) B9.pre
  have hown : s.vm.findClass RX0 = some m.cls := findClass_of_methodNamed B9.named
  have S : CallFix p m c cX0_audience 5 s _ wsX0_audience RX0 := ⟨hx, hb, hml, hown, hts⟩
  have hin : ∀ w ∈ wsX00, w ∈ wsX0_audience := by decide +kernel
  have hl := lv_entry ([.ref (a 0), .int (o), .int (st)]) (n := 5) (Nat.le_of_ble_eq_true rfl)
  rw [lg_entry_eq]
  generalize (lg_sl ([.ref (a 0), .int (o), .int (st)]) ++ List.replicate (5 - (lg_sl ([.ref (a 0), .int (o), .int (st)])).length) Slot.unset).toArray = ls at hl ⊢
  have hl : lv_has ls 5 [(0, .ref (a 0)), (1, .int (o)), (2, .int (st))] := hl
  refine lv_iconst (v := 0) hx hb dX0_audience_0 (by decide) ?_
  refine lv_istore_n (lv' := [(3, .int (0)), (0, .ref (a 0)), (1, .int (o)), (2, .int (st))]) hx hb dX0_audience_1 rfl hl (by decide) rfl (fun ls hl => ?_)
  refine lv_iconst (v := 0) hx hb dX0_audience_2 (by decide) ?_
  refine lv_istore (lv' := [(4, .int (0)), (3, .int (0)), (0, .ref (a 0)), (1, .int (o)), (2, .int (st))]) hx hb dX0_audience_3 hl (by decide) rfl (fun ls hl => ?_)
  have loop : ∀ (n k : Nat), k + n = σ.1 2 → ∀ (x1 : Int32), x1 = sa_sum σ o st 0 k →   ∀ ls : Array Slot, lv_has ls 5 [(4, .int (nI k)), (3, .int (x1)), (0, .ref (a 0)), (1, .int (o)), (2, .int (st))] → W p l e (headSpec wsX0_audience ({ frames := 2, cells := 0, slots := 0, locals := 43 })).room s m ([Value.ref (a 0), Value.int (o), Value.int (st)] : List Value).toArray below meth c s.heap [] 0 0 (MQ below (vp_Si (fun z => z = sa_sum σ o st 0 (σ.1 2))) ([Value.ref (a 0), Value.int (o), Value.int (st)] : List Value).toArray s 0 0 (fun _ => False)) (F0 m 5 ls []) := by
    intro n
    induction n with
    | zero =>
      intro k hk x1 hx1  ls hl
      have hk2 : k = σ.1 2 := by omega
      subst hk2
      refine lv_iload hx hb dX0_audience_5 (lv_at hl 0 rfl) ?_
      refine lv_aload_n hx hb dX0_audience_7 rfl (lv_at hl 2 rfl) ?_
      refine sa_g0_spotCount S hin hK hP (by decide +kernel) dX0_audience_8 ?_
      refine lv_icmp_ge (tgt := 57) hx hb dX0_audience_11 (by decide) (fun _ => ?_) (fun c9 => absurd (nI_le (Nat.le_refl _) (by omega)) c9)
      refine lv_iload_n hx hb dX0_audience_57 rfl (lv_at hl 1 rfl) ?_
      exact W.iret (v := x1) hx hb hr (fun t9 ht _ => ⟨_, rfl, hx1, ht⟩) (fun _ h => nomatch h) dX0_audience_58
    | succ n ih =>
      intro k hk x1 hx1  ls hl
      have hkn : k < σ.1 2 := by omega
      refine lv_iload hx hb dX0_audience_5 (lv_at hl 0 rfl) ?_
      refine lv_aload_n hx hb dX0_audience_7 rfl (lv_at hl 2 rfl) ?_
      refine sa_g0_spotCount S hin hK hP (by decide +kernel) dX0_audience_8 ?_
      refine lv_icmp_ge (tgt := 57) hx hb dX0_audience_11 (by decide) (fun c9 => absurd c9 (nI_ge (by omega) (by omega))) (fun _ => ?_)
      refine lv_aload_n hx hb dX0_audience_14 rfl (lv_at hl 2 rfl) ?_
      refine sa_g0_spotOrder S hin hK hP (by decide +kernel) dX0_audience_15 ?_
      refine lv_iload hx hb dX0_audience_18 (lv_at hl 0 rfl) ?_
      refine sa_ldk 12 S hK hP rfl (by omega) (by decide) dX0_audience_20 ?_
      refine lv_iload_n hx hb dX0_audience_21 rfl (lv_at hl 3 rfl) ?_
      refine lv_icmp_ne (tgt := 51) hx hb dX0_audience_22 (by decide) (fun c_22 => ?_) (fun c_22 => ?_)
      · skip
        refine lv_iinc (v := nI (k + 1)) (lv' := [(4, .int (nI (k + 1))), (3, .int (x1)), (0, .ref (a 0)), (1, .int (o)), (2, .int (st))]) hx hb dX0_audience_51 hl (k := 0) rfl (nI_1 k) (by decide) rfl (fun ls hl => ?_)
        refine lv_goto (tgt := 5) hx hb dX0_audience_54 (by decide) ?_
        exact ih (k + 1) (by omega) x1 (by simp [sa_sum, hx1, sa_sd, sa_sec, sa_rat, sa_adv, sa_cat, sa_cnt, sa_aud, sa_less, sa_w, c_22])  ls (lv_sub hl [0, 1, 2, 3, 4] rfl)
      · skip
        refine lv_aload_n hx hb dX0_audience_25 rfl (lv_at hl 2 rfl) ?_
        refine sa_g0_spotState S hin hK hP (by decide +kernel) dX0_audience_26 ?_
        refine lv_iload hx hb dX0_audience_29 (lv_at hl 0 rfl) ?_
        refine sa_ldk 14 S hK hP rfl (by omega) (by decide) dX0_audience_31 ?_
        refine lv_iload_n hx hb dX0_audience_32 rfl (lv_at hl 4 rfl) ?_
        refine lv_icmp_ne (tgt := 51) hx hb dX0_audience_33 (by decide) (fun c_33 => ?_) (fun c_33 => ?_)
        · skip
          refine lv_iinc (v := nI (k + 1)) (lv' := [(4, .int (nI (k + 1))), (3, .int (x1)), (0, .ref (a 0)), (1, .int (o)), (2, .int (st))]) hx hb dX0_audience_51 hl (k := 0) rfl (nI_1 k) (by decide) rfl (fun ls hl => ?_)
          refine lv_goto (tgt := 5) hx hb dX0_audience_54 (by decide) ?_
          exact ih (k + 1) (by omega) x1 (by simp [sa_sum, hx1, sa_sd, sa_sec, sa_rat, sa_adv, sa_cat, sa_cnt, sa_aud, sa_less, sa_w, c_22, c_33])  ls (lv_sub hl [0, 1, 2, 3, 4] rfl)
        · skip
          refine lv_iload_n hx hb dX0_audience_36 rfl (lv_at hl 1 rfl) ?_
          refine lv_aload_n hx hb dX0_audience_37 rfl (lv_at hl 2 rfl) ?_
          refine lv_iload_n hx hb dX0_audience_38 rfl (lv_at hl 3 rfl) ?_
          refine lv_aload_n hx hb dX0_audience_39 rfl (lv_at hl 2 rfl) ?_
          refine sa_g0_spotBreak S hin hK hP (by decide +kernel) dX0_audience_40 ?_
          refine lv_iload hx hb dX0_audience_43 (lv_at hl 0 rfl) ?_
          refine sa_ldk 13 S hK hP rfl (by omega) (by decide) dX0_audience_45 ?_
          refine sa_kRd (As := [.int (o), .int (σ.2 13 k)]) (rest := [.int (x1)]) S (c_X0_ratingFor l G cI cZ cL a σ hI o (σ.2 13 k) ho (hbr k (by omega))) (cwV 2 hts gX0_audience_X0_ratingFor rfl rfl rfl (by decide +kernel) ⟨Nat.le_of_ble_eq_true rfl, Nat.le_of_ble_eq_true rfl⟩) hP hK (ci := 0) rfl rfl rfl hl.1 (Nat.le_of_ble_eq_true rfl) rfl dX0_audience_46 ⟨Nat.zero_le _, Nat.zero_le _⟩ ?_
          refine lv_iadd hx hb dX0_audience_49 ?_
          refine lv_istore_n (lv' := [(3, .int (x1 + (sa_rat σ o (σ.2 13 k)))), (4, .int (nI k)), (0, .ref (a 0)), (1, .int (o)), (2, .int (st))]) hx hb dX0_audience_50 rfl hl (by decide) rfl (fun ls hl => ?_)
          refine lv_iinc (v := nI (k + 1)) (lv' := [(4, .int (nI (k + 1))), (3, .int (x1 + (sa_rat σ o (σ.2 13 k)))), (0, .ref (a 0)), (1, .int (o)), (2, .int (st))]) hx hb dX0_audience_51 hl (k := 1) rfl (nI_1 k) (by decide) rfl (fun ls hl => ?_)
          refine lv_goto (tgt := 5) hx hb dX0_audience_54 (by decide) ?_
          exact ih (k + 1) (by omega) (x1 + (sa_rat σ o (σ.2 13 k))) (by simp [sa_sum, hx1, sa_sd, sa_sec, sa_rat, sa_adv, sa_cat, sa_cnt, sa_aud, sa_less, sa_w, c_22, c_33])  ls (lv_sub hl [0, 1, 2, 3, 4] rfl)
  exact loop (σ.1 2) 0 (Nat.zero_add _) 0 rfl  ls (lv_sub hl [0, 1, 2, 3, 4] rfl)

set_option maxHeartbeats 4000000 in
set_option maxRecDepth 100000 in
theorem c_X0_isShortOfPromise (l : Launch) (G : va_G) (cI cZ cL : ClassId) (a : Nat → Nat) (σ : sa_St) (hI : sa_I σ) (o : Int32) (ho : vp_in o (σ.1 1)) : sa_Rd l yX0_isShortOfPromise wsX0_isShortOfPromise ({ frames := 3, cells := 0, slots := 0, locals := 67 }) G cI cZ cL (sa_W0 cI cZ a σ) [.ref (a 0), .int (o)] (sa_b (sa_aud σ o 1 + sa_aud σ o 0 < σ.2 9 o.toNatClampNeg)) := by
  obtain ⟨hnb, hno, hns, hgr, hor, hbr, hai⟩ := id hI
  refine Met.ofW (cc := cX0_isShortOfPromise) (maxL := 2) (ret := (some .boolean)) (by decide) rfl ?_
  intro p e s m args below meth c s₁ B9 hml hv
  obtain ⟨rfl, hP, hK⟩ := hv
  have hx := B9.exec
  have hb := B9.bytes
  have hr := B9.returns
  have hlk := B9.notSynchronized
  have hts := atoms_spec (ws := wsX0_isShortOfPromise) B9.pre
  have hown : s.vm.findClass RX0 = some m.cls := findClass_of_methodNamed B9.named
  have S : CallFix p m c cX0_isShortOfPromise 2 s _ wsX0_isShortOfPromise RX0 := ⟨hx, hb, hml, hown, hts⟩
  have hin : ∀ w ∈ wsX00, w ∈ wsX0_isShortOfPromise := by decide +kernel
  have hl := lv_entry ([.ref (a 0), .int (o)]) (n := 2) (Nat.le_of_ble_eq_true rfl)
  rw [lg_entry_eq]
  generalize (lg_sl ([.ref (a 0), .int (o)]) ++ List.replicate (2 - (lg_sl ([.ref (a 0), .int (o)])).length) Slot.unset).toArray = ls at hl ⊢
  have hl : lv_has ls 2 [(0, .ref (a 0)), (1, .int (o))] := hl
  refine lv_aload_n hx hb dX0_isShortOfPromise_0 rfl (lv_at hl 0 rfl) ?_
  refine lv_iload_n hx hb dX0_isShortOfPromise_1 rfl (lv_at hl 1 rfl) ?_
  refine lv_iconst (v := 1) hx hb dX0_isShortOfPromise_2 (by decide) ?_
  refine sa_kRd (As := [.int (o), .int (1)]) (rest := []) S (c_X0_audience l G cI cZ cL a σ hI o 1 ho) (cwV 2 hts gX0_isShortOfPromise_X0_audience rfl rfl rfl (by decide +kernel) ⟨Nat.le_of_ble_eq_true rfl, Nat.le_of_ble_eq_true rfl⟩) hP hK (ci := 0) rfl rfl rfl hl.1 (Nat.le_of_ble_eq_true rfl) rfl dX0_isShortOfPromise_3 ⟨Nat.zero_le _, Nat.zero_le _⟩ ?_
  refine lv_aload_n hx hb dX0_isShortOfPromise_6 rfl (lv_at hl 0 rfl) ?_
  refine lv_iload_n hx hb dX0_isShortOfPromise_7 rfl (lv_at hl 1 rfl) ?_
  refine lv_iconst (v := 0) hx hb dX0_isShortOfPromise_8 (by decide) ?_
  refine sa_kRd (As := [.int (o), .int (0)]) (rest := [.int (sa_sum σ o 1 0 (σ.1 2))]) S (c_X0_audience l G cI cZ cL a σ hI o 0 ho) (cwV 2 hts gX0_isShortOfPromise_X0_audience rfl rfl rfl (by decide +kernel) ⟨Nat.le_of_ble_eq_true rfl, Nat.le_of_ble_eq_true rfl⟩) hP hK (ci := 0) rfl rfl rfl hl.1 (Nat.le_of_ble_eq_true rfl) rfl dX0_isShortOfPromise_9 ⟨Nat.zero_le _, Nat.zero_le _⟩ ?_
  refine lv_iadd hx hb dX0_isShortOfPromise_12 ?_
  refine lv_aload_n hx hb dX0_isShortOfPromise_13 rfl (lv_at hl 0 rfl) ?_
  refine sa_g0_orderPromise S hin hK hP (by decide +kernel) dX0_isShortOfPromise_14 ?_
  refine lv_iload_n hx hb dX0_isShortOfPromise_17 rfl (lv_at hl 1 rfl) ?_
  refine sa_ld 9 S hK hP rfl (sa_vm ho (by omega)) dX0_isShortOfPromise_18 ?_
  refine lv_icmp_ge (tgt := 26) hx hb dX0_isShortOfPromise_19 (by decide) (fun c_19 => ?_) (fun c_19 => ?_)
  · skip
    have c_19 := Int32.not_lt.mpr c_19
    refine lv_iconst (v := 0) hx hb dX0_isShortOfPromise_26 (by decide) ?_
    exact W.zret (v := 0) (ty := .boolean) hx hb hr rfl (fun t9 ht _ => ⟨_, rfl, (sa_bf (by simp [sa_sd, sa_sec, sa_rat, sa_adv, sa_cat, sa_cnt, sa_aud, sa_less, sa_w, c_19])).symm, ht⟩) (fun _ h => nomatch h) dX0_isShortOfPromise_27
  · skip
    have c_19 := Int32.not_le.mp c_19
    refine lv_iconst (v := 1) hx hb dX0_isShortOfPromise_22 (by decide) ?_
    refine lv_goto (tgt := 27) hx hb dX0_isShortOfPromise_23 (by decide) ?_
    exact W.zret (v := 1) (ty := .boolean) hx hb hr rfl (fun t9 ht _ => ⟨_, rfl, (sa_bt (by simp [sa_sd, sa_sec, sa_rat, sa_adv, sa_cat, sa_cnt, sa_aud, sa_less, sa_w, c_19])).symm, ht⟩) (fun _ h => nomatch h) dX0_isShortOfPromise_27

set_option maxHeartbeats 4000000 in
set_option maxRecDepth 100000 in
theorem c_X0_owedTo (l : Launch) (G : va_G) (cI cZ cL : ClassId) (a : Nat → Nat) (σ : sa_St) (hI : sa_I σ) (o : Int32) (ho : vp_in o (σ.1 1)) : sa_Rd l yX0_owedTo wsX0_owedTo ({ frames := 3, cells := 0, slots := 0, locals := 67 }) G cI cZ cL (sa_W0 cI cZ a σ) [.ref (a 0), .int (o)] (sa_owes σ o) := by
  obtain ⟨hnb, hno, hns, hgr, hor, hbr, hai⟩ := id hI
  refine Met.ofW (cc := cX0_owedTo) (maxL := 2) (ret := (some .int)) (by decide) rfl ?_
  intro p e s m args below meth c s₁ B9 hml hv
  obtain ⟨rfl, hP, hK⟩ := hv
  have hx := B9.exec
  have hb := B9.bytes
  have hr := B9.returns
  have hlk := B9.notSynchronized
  have hts := atoms_spec (ws := wsX0_owedTo) B9.pre
  have hown : s.vm.findClass RX0 = some m.cls := findClass_of_methodNamed B9.named
  have S : CallFix p m c cX0_owedTo 2 s _ wsX0_owedTo RX0 := ⟨hx, hb, hml, hown, hts⟩
  have hin : ∀ w ∈ wsX00, w ∈ wsX0_owedTo := by decide +kernel
  have hl := lv_entry ([.ref (a 0), .int (o)]) (n := 2) (Nat.le_of_ble_eq_true rfl)
  rw [lg_entry_eq]
  generalize (lg_sl ([.ref (a 0), .int (o)]) ++ List.replicate (2 - (lg_sl ([.ref (a 0), .int (o)])).length) Slot.unset).toArray = ls at hl ⊢
  have hl : lv_has ls 2 [(0, .ref (a 0)), (1, .int (o))] := hl
  refine lv_aload_n hx hb dX0_owedTo_0 rfl (lv_at hl 0 rfl) ?_
  refine sa_g0_orderClosed S hin hK hP (by decide +kernel) dX0_owedTo_1 ?_
  refine lv_iload_n hx hb dX0_owedTo_4 rfl (lv_at hl 1 rfl) ?_
  refine sa_ldz 11 S hK hP rfl (sa_vm ho (by omega)) dX0_owedTo_5 ?_
  refine lv_if_ne (tgt := 11) hx hb dX0_owedTo_6 (by decide) (fun c_6 => ?_) (fun c_6 => ?_)
  · skip
    refine lv_aload_n hx hb dX0_owedTo_11 rfl (lv_at hl 0 rfl) ?_
    refine sa_g0_orderPromise S hin hK hP (by decide +kernel) dX0_owedTo_12 ?_
    refine lv_iload_n hx hb dX0_owedTo_15 rfl (lv_at hl 1 rfl) ?_
    refine sa_ld 9 S hK hP rfl (sa_vm ho (by omega)) dX0_owedTo_16 ?_
    refine lv_aload_n hx hb dX0_owedTo_17 rfl (lv_at hl 0 rfl) ?_
    refine lv_iload_n hx hb dX0_owedTo_18 rfl (lv_at hl 1 rfl) ?_
    refine lv_iconst (v := 1) hx hb dX0_owedTo_19 (by decide) ?_
    refine sa_kRd (As := [.int (o), .int (1)]) (rest := [.int (σ.2 9 o.toNatClampNeg)]) S (c_X0_audience l G cI cZ cL a σ hI o 1 ho) (cwV 2 hts gX0_owedTo_X0_audience rfl rfl rfl (by decide +kernel) ⟨Nat.le_of_ble_eq_true rfl, Nat.le_of_ble_eq_true rfl⟩) hP hK (ci := 0) rfl rfl rfl hl.1 (Nat.le_of_ble_eq_true rfl) rfl dX0_owedTo_20 ⟨Nat.zero_le _, Nat.zero_le _⟩ ?_
    refine lv_isub hx hb dX0_owedTo_23 ?_
    refine lv_iconst (v := 0) hx hb dX0_owedTo_24 (by decide) ?_
    refine va_mmax hx hb (hml.trans hl.1.symm) hown (hts (.methodLink RX0 169 Lib.Math.max.name) (by decide +kernel)) (hts (.static Lib.Math.max.name) (by decide +kernel)) (hts (.initialized "java/lang/Math") (by decide +kernel)) (hts (.code Lib.Math.max.name Lib.Math.max.code 2 (some .int)) (by decide +kernel)) (Nat.le_of_ble_eq_true rfl) (Nat.le_of_ble_eq_true rfl) (Nat.le_of_ble_eq_true rfl) (Nat.le_of_ble_eq_true rfl) dX0_owedTo_25 ?_
    exact W.iret (v := if (σ.2 9 o.toNatClampNeg) - (sa_sum σ o 1 0 (σ.1 2)) < 0 then 0 else (σ.2 9 o.toNatClampNeg) - (sa_sum σ o 1 0 (σ.1 2))) hx hb hr (fun t9 ht _ => ⟨_, rfl, (by rw [sa_max0]; unfold sa_owes; simp [sa_sd, sa_sec, sa_rat, sa_adv, sa_cat, sa_cnt, sa_aud, sa_less, sa_w, c_6]), ht⟩) (fun _ h => nomatch h) dX0_owedTo_28
  · skip
    refine lv_iconst (v := 0) hx hb dX0_owedTo_9 (by decide) ?_
    exact W.iret (v := 0) hx hb hr (fun t9 ht _ => ⟨_, rfl, (by unfold sa_owes; simp [c_6]), ht⟩) (fun _ h => nomatch h) dX0_owedTo_10

set_option maxHeartbeats 4000000 in
set_option maxRecDepth 100000 in
theorem c_X0_restOf (l : Launch) (G : va_G) (cI cZ cL : ClassId) (a : Nat → Nat) (σ : sa_St) (hI : sa_I σ) (o : Int32) (ho : vp_in o (σ.1 1)) : sa_Rd l yX0_restOf wsX0_restOf ({ frames := 4, cells := 0, slots := 0, locals := 88 }) G cI cZ cL (sa_W0 cI cZ a σ) [.ref (a 0), .int (o)] (sa_left σ o) := by
  obtain ⟨hnb, hno, hns, hgr, hor, hbr, hai⟩ := id hI
  refine Met.ofW (cc := cX0_restOf) (maxL := 4) (ret := (some .int)) (by decide) rfl ?_
  intro p e s m args below meth c s₁ B9 hml hv
  obtain ⟨rfl, hP, hK⟩ := hv
  have hx := B9.exec
  have hb := B9.bytes
  have hr := B9.returns
  have hlk := B9.notSynchronized
  have hts := atoms_spec (ws := wsX0_restOf) B9.pre
  have hown : s.vm.findClass RX0 = some m.cls := findClass_of_methodNamed B9.named
  have S : CallFix p m c cX0_restOf 4 s _ wsX0_restOf RX0 := ⟨hx, hb, hml, hown, hts⟩
  have hin : ∀ w ∈ wsX00, w ∈ wsX0_restOf := by decide +kernel
  have hl := lv_entry ([.ref (a 0), .int (o)]) (n := 4) (Nat.le_of_ble_eq_true rfl)
  rw [lg_entry_eq]
  generalize (lg_sl ([.ref (a 0), .int (o)]) ++ List.replicate (4 - (lg_sl ([.ref (a 0), .int (o)])).length) Slot.unset).toArray = ls at hl ⊢
  have hl : lv_has ls 4 [(0, .ref (a 0)), (1, .int (o))] := hl
  refine lv_aload_n hx hb dX0_restOf_0 rfl (lv_at hl 0 rfl) ?_
  refine lv_iload_n hx hb dX0_restOf_1 rfl (lv_at hl 1 rfl) ?_
  refine sa_kRd (As := [.int (o)]) (rest := []) S (c_X0_owedTo l G cI cZ cL a σ hI o ho) (cwV 1 hts gX0_restOf_X0_owedTo rfl rfl rfl (by decide +kernel) ⟨Nat.le_of_ble_eq_true rfl, Nat.le_of_ble_eq_true rfl⟩) hP hK (ci := 0) rfl rfl rfl hl.1 (Nat.le_of_ble_eq_true rfl) rfl dX0_restOf_2 ⟨Nat.zero_le _, Nat.zero_le _⟩ ?_
  refine lv_istore_n (lv' := [(2, .int (sa_owes σ o)), (0, .ref (a 0)), (1, .int (o))]) hx hb dX0_restOf_5 rfl hl (by decide) rfl (fun ls hl => ?_)
  refine lv_iconst (v := 0) hx hb dX0_restOf_6 (by decide) ?_
  refine lv_istore_n (lv' := [(3, .int (0)), (2, .int (sa_owes σ o)), (0, .ref (a 0)), (1, .int (o))]) hx hb dX0_restOf_7 rfl hl (by decide) rfl (fun ls hl => ?_)
  have loop : ∀ (n k : Nat), k + n = σ.1 2 → ∀ (x1 : Int32), x1 = sa_owes σ o - sa_sum σ o 0 1 k →   ∀ ls : Array Slot, lv_has ls 4 [(3, .int (nI k)), (2, .int (x1)), (0, .ref (a 0)), (1, .int (o))] → W p l e (headSpec wsX0_restOf ({ frames := 4, cells := 0, slots := 0, locals := 88 })).room s m ([Value.ref (a 0), Value.int (o)] : List Value).toArray below meth c s.heap [] 0 0 (MQ below (vp_Si (fun z => z = sa_left σ o)) ([Value.ref (a 0), Value.int (o)] : List Value).toArray s 0 0 (fun _ => False)) (F0 m 8 ls []) := by
    intro n
    induction n with
    | zero =>
      intro k hk x1 hx1  ls hl
      have hk2 : k = σ.1 2 := by omega
      subst hk2
      refine lv_iload_n hx hb dX0_restOf_8 rfl (lv_at hl 0 rfl) ?_
      refine lv_aload_n hx hb dX0_restOf_9 rfl (lv_at hl 2 rfl) ?_
      refine sa_g0_spotCount S hin hK hP (by decide +kernel) dX0_restOf_10 ?_
      refine lv_icmp_ge (tgt := 64) hx hb dX0_restOf_13 (by decide) (fun _ => ?_) (fun c9 => absurd (nI_le (Nat.le_refl _) (by omega)) c9)
      refine lv_iload_n hx hb dX0_restOf_64 rfl (lv_at hl 1 rfl) ?_
      refine lv_iconst (v := 0) hx hb dX0_restOf_65 (by decide) ?_
      refine va_mmax hx hb (hml.trans hl.1.symm) hown (hts (.methodLink RX0 169 Lib.Math.max.name) (by decide +kernel)) (hts (.static Lib.Math.max.name) (by decide +kernel)) (hts (.initialized "java/lang/Math") (by decide +kernel)) (hts (.code Lib.Math.max.name Lib.Math.max.code 2 (some .int)) (by decide +kernel)) (Nat.le_of_ble_eq_true rfl) (Nat.le_of_ble_eq_true rfl) (Nat.le_of_ble_eq_true rfl) (Nat.le_of_ble_eq_true rfl) dX0_restOf_66 ?_
      exact W.iret (v := if x1 < 0 then 0 else x1) hx hb hr (fun t9 ht _ => ⟨_, rfl, (by rw [sa_max0, hx1]; rfl), ht⟩) (fun _ h => nomatch h) dX0_restOf_69
    | succ n ih =>
      intro k hk x1 hx1  ls hl
      have hkn : k < σ.1 2 := by omega
      refine lv_iload_n hx hb dX0_restOf_8 rfl (lv_at hl 0 rfl) ?_
      refine lv_aload_n hx hb dX0_restOf_9 rfl (lv_at hl 2 rfl) ?_
      refine sa_g0_spotCount S hin hK hP (by decide +kernel) dX0_restOf_10 ?_
      refine lv_icmp_ge (tgt := 64) hx hb dX0_restOf_13 (by decide) (fun c9 => absurd c9 (nI_ge (by omega) (by omega))) (fun _ => ?_)
      refine lv_aload_n hx hb dX0_restOf_16 rfl (lv_at hl 2 rfl) ?_
      refine sa_g0_spotOrder S hin hK hP (by decide +kernel) dX0_restOf_17 ?_
      refine lv_iload_n hx hb dX0_restOf_20 rfl (lv_at hl 0 rfl) ?_
      refine sa_ldk 12 S hK hP rfl (by omega) (by decide) dX0_restOf_21 ?_
      refine lv_iload_n hx hb dX0_restOf_22 rfl (lv_at hl 3 rfl) ?_
      refine lv_icmp_ne (tgt := 58) hx hb dX0_restOf_23 (by decide) (fun c_23 => ?_) (fun c_23 => ?_)
      · skip
        refine lv_iinc (v := nI (k + 1)) (lv' := [(3, .int (nI (k + 1))), (2, .int (x1)), (0, .ref (a 0)), (1, .int (o))]) hx hb dX0_restOf_58 hl (k := 0) rfl (nI_1 k) (by decide) rfl (fun ls hl => ?_)
        refine lv_goto (tgt := 8) hx hb dX0_restOf_61 (by decide) ?_
        exact ih (k + 1) (by omega) x1 (by simp [sa_sum, sa_subadd, hx1, sa_sd, sa_sec, sa_rat, sa_adv, sa_cat, sa_cnt, sa_aud, sa_less, sa_w, c_23])  ls (lv_sub hl [0, 1, 2, 3] rfl)
      · skip
        refine lv_aload_n hx hb dX0_restOf_26 rfl (lv_at hl 2 rfl) ?_
        refine sa_g0_spotFree S hin hK hP (by decide +kernel) dX0_restOf_27 ?_
        refine lv_iload_n hx hb dX0_restOf_30 rfl (lv_at hl 0 rfl) ?_
        refine sa_ldzk 15 S hK hP rfl (by omega) (by decide) dX0_restOf_31 ?_
        refine lv_if_eq (tgt := 58) hx hb dX0_restOf_32 (by decide) (fun c_32 => ?_) (fun c_32 => ?_)
        · skip
          refine lv_iinc (v := nI (k + 1)) (lv' := [(3, .int (nI (k + 1))), (2, .int (x1)), (0, .ref (a 0)), (1, .int (o))]) hx hb dX0_restOf_58 hl (k := 0) rfl (nI_1 k) (by decide) rfl (fun ls hl => ?_)
          refine lv_goto (tgt := 8) hx hb dX0_restOf_61 (by decide) ?_
          exact ih (k + 1) (by omega) x1 (by simp [sa_sum, sa_subadd, hx1, sa_sd, sa_sec, sa_rat, sa_adv, sa_cat, sa_cnt, sa_aud, sa_less, sa_w, c_23, c_32])  ls (lv_sub hl [0, 1, 2, 3] rfl)
        · skip
          refine lv_aload_n hx hb dX0_restOf_35 rfl (lv_at hl 2 rfl) ?_
          refine sa_g0_spotState S hin hK hP (by decide +kernel) dX0_restOf_36 ?_
          refine lv_iload_n hx hb dX0_restOf_39 rfl (lv_at hl 0 rfl) ?_
          refine sa_ldk 14 S hK hP rfl (by omega) (by decide) dX0_restOf_40 ?_
          refine lv_if_ne (tgt := 58) hx hb dX0_restOf_41 (by decide) (fun c_41 => ?_) (fun c_41 => ?_)
          · skip
            refine lv_iinc (v := nI (k + 1)) (lv' := [(3, .int (nI (k + 1))), (2, .int (x1)), (0, .ref (a 0)), (1, .int (o))]) hx hb dX0_restOf_58 hl (k := 0) rfl (nI_1 k) (by decide) rfl (fun ls hl => ?_)
            refine lv_goto (tgt := 8) hx hb dX0_restOf_61 (by decide) ?_
            exact ih (k + 1) (by omega) x1 (by simp [sa_sum, sa_subadd, hx1, sa_sd, sa_sec, sa_rat, sa_adv, sa_cat, sa_cnt, sa_aud, sa_less, sa_w, c_23, c_32, c_41])  ls (lv_sub hl [0, 1, 2, 3] rfl)
          · skip
            refine lv_iload_n hx hb dX0_restOf_44 rfl (lv_at hl 1 rfl) ?_
            refine lv_aload_n hx hb dX0_restOf_45 rfl (lv_at hl 2 rfl) ?_
            refine lv_iload_n hx hb dX0_restOf_46 rfl (lv_at hl 3 rfl) ?_
            refine lv_aload_n hx hb dX0_restOf_47 rfl (lv_at hl 2 rfl) ?_
            refine sa_g0_spotBreak S hin hK hP (by decide +kernel) dX0_restOf_48 ?_
            refine lv_iload_n hx hb dX0_restOf_51 rfl (lv_at hl 0 rfl) ?_
            refine sa_ldk 13 S hK hP rfl (by omega) (by decide) dX0_restOf_52 ?_
            refine sa_kRd (As := [.int (o), .int (σ.2 13 k)]) (rest := [.int (x1)]) S (c_X0_ratingFor l G cI cZ cL a σ hI o (σ.2 13 k) ho (hbr k (by omega))) (cwV 2 hts gX0_restOf_X0_ratingFor rfl rfl rfl (by decide +kernel) ⟨Nat.le_of_ble_eq_true rfl, Nat.le_of_ble_eq_true rfl⟩) hP hK (ci := 0) rfl rfl rfl hl.1 (Nat.le_of_ble_eq_true rfl) rfl dX0_restOf_53 ⟨Nat.zero_le _, Nat.zero_le _⟩ ?_
            refine lv_isub hx hb dX0_restOf_56 ?_
            refine lv_istore_n (lv' := [(2, .int (x1 - (sa_rat σ o (σ.2 13 k)))), (3, .int (nI k)), (0, .ref (a 0)), (1, .int (o))]) hx hb dX0_restOf_57 rfl hl (by decide) rfl (fun ls hl => ?_)
            refine lv_iinc (v := nI (k + 1)) (lv' := [(3, .int (nI (k + 1))), (2, .int (x1 - (sa_rat σ o (σ.2 13 k)))), (0, .ref (a 0)), (1, .int (o))]) hx hb dX0_restOf_58 hl (k := 1) rfl (nI_1 k) (by decide) rfl (fun ls hl => ?_)
            refine lv_goto (tgt := 8) hx hb dX0_restOf_61 (by decide) ?_
            exact ih (k + 1) (by omega) (x1 - (sa_rat σ o (σ.2 13 k))) (by simp [sa_sum, sa_subadd, hx1, sa_sd, sa_sec, sa_rat, sa_adv, sa_cat, sa_cnt, sa_aud, sa_less, sa_w, c_23, c_32, c_41])  ls (lv_sub hl [0, 1, 2, 3] rfl)
  exact loop (σ.1 2) 0 (Nat.zero_add _) (sa_owes σ o) (sa_sub0 _)  ls (lv_sub hl [0, 1, 2, 3] rfl)

set_option maxHeartbeats 4000000 in
set_option maxRecDepth 100000 in
theorem c_X0_billOf (l : Launch) (G : va_G) (cI cZ cL : ClassId) (a : Nat → Nat) (σ : sa_St) (hI : sa_I σ) (o : Int32) (ho : vp_in o (σ.1 1)) : sa_Rd l yX0_billOf wsX0_billOf ({ frames := 0, cells := 0, slots := 0, locals := 0 }) G cI cZ cL (sa_W0 cI cZ a σ) [.ref (a 0), .int (o)] (sa_bil σ o (σ.1 2)) := by
  obtain ⟨hnb, hno, hns, hgr, hor, hbr, hai⟩ := id hI
  refine Met.ofW (cc := cX0_billOf) (maxL := 4) (ret := (some .int)) (by decide) rfl ?_
  intro p e s m args below meth c s₁ B9 hml hv
  obtain ⟨rfl, hP, hK⟩ := hv
  have hx := B9.exec
  have hb := B9.bytes
  have hr := B9.returns
  have hlk := B9.notSynchronized
  have hts := atoms_spec (ws := wsX0_billOf) B9.pre
  have hown : s.vm.findClass RX0 = some m.cls := findClass_of_methodNamed B9.named
  have S : CallFix p m c cX0_billOf 4 s _ wsX0_billOf RX0 := ⟨hx, hb, hml, hown, hts⟩
  have hin : ∀ w ∈ wsX00, w ∈ wsX0_billOf := by decide +kernel
  have hl := lv_entry ([.ref (a 0), .int (o)]) (n := 4) (Nat.le_of_ble_eq_true rfl)
  rw [lg_entry_eq]
  generalize (lg_sl ([.ref (a 0), .int (o)]) ++ List.replicate (4 - (lg_sl ([.ref (a 0), .int (o)])).length) Slot.unset).toArray = ls at hl ⊢
  have hl : lv_has ls 4 [(0, .ref (a 0)), (1, .int (o))] := hl
  refine lv_iconst (v := 0) hx hb dX0_billOf_0 (by decide) ?_
  refine lv_istore_n (lv' := [(2, .int (0)), (0, .ref (a 0)), (1, .int (o))]) hx hb dX0_billOf_1 rfl hl (by decide) rfl (fun ls hl => ?_)
  refine lv_iconst (v := 0) hx hb dX0_billOf_2 (by decide) ?_
  refine lv_istore_n (lv' := [(3, .int (0)), (2, .int (0)), (0, .ref (a 0)), (1, .int (o))]) hx hb dX0_billOf_3 rfl hl (by decide) rfl (fun ls hl => ?_)
  have loop : ∀ (n k : Nat), k + n = σ.1 2 → ∀ (x1 : Int32), x1 = sa_bil σ o k →   ∀ ls : Array Slot, lv_has ls 4 [(3, .int (nI k)), (2, .int (x1)), (0, .ref (a 0)), (1, .int (o))] → W p l e (headSpec wsX0_billOf ({ frames := 0, cells := 0, slots := 0, locals := 0 })).room s m ([Value.ref (a 0), Value.int (o)] : List Value).toArray below meth c s.heap [] 0 0 (MQ below (vp_Si (fun z => z = sa_bil σ o (σ.1 2))) ([Value.ref (a 0), Value.int (o)] : List Value).toArray s 0 0 (fun _ => False)) (F0 m 4 ls []) := by
    intro n
    induction n with
    | zero =>
      intro k hk x1 hx1  ls hl
      have hk2 : k = σ.1 2 := by omega
      subst hk2
      refine lv_iload_n hx hb dX0_billOf_4 rfl (lv_at hl 0 rfl) ?_
      refine lv_aload_n hx hb dX0_billOf_5 rfl (lv_at hl 2 rfl) ?_
      refine sa_g0_spotCount S hin hK hP (by decide +kernel) dX0_billOf_6 ?_
      refine lv_icmp_ge (tgt := 56) hx hb dX0_billOf_9 (by decide) (fun _ => ?_) (fun c9 => absurd (nI_le (Nat.le_refl _) (by omega)) c9)
      refine lv_iload_n hx hb dX0_billOf_56 rfl (lv_at hl 1 rfl) ?_
      exact W.iret (v := x1) hx hb hr (fun t9 ht _ => ⟨_, rfl, hx1, ht⟩) (fun _ h => nomatch h) dX0_billOf_57
    | succ n ih =>
      intro k hk x1 hx1  ls hl
      have hkn : k < σ.1 2 := by omega
      refine lv_iload_n hx hb dX0_billOf_4 rfl (lv_at hl 0 rfl) ?_
      refine lv_aload_n hx hb dX0_billOf_5 rfl (lv_at hl 2 rfl) ?_
      refine sa_g0_spotCount S hin hK hP (by decide +kernel) dX0_billOf_6 ?_
      refine lv_icmp_ge (tgt := 56) hx hb dX0_billOf_9 (by decide) (fun c9 => absurd c9 (nI_ge (by omega) (by omega))) (fun _ => ?_)
      refine lv_aload_n hx hb dX0_billOf_12 rfl (lv_at hl 2 rfl) ?_
      refine sa_g0_spotOrder S hin hK hP (by decide +kernel) dX0_billOf_13 ?_
      refine lv_iload_n hx hb dX0_billOf_16 rfl (lv_at hl 0 rfl) ?_
      refine sa_ldk 12 S hK hP rfl (by omega) (by decide) dX0_billOf_17 ?_
      refine lv_iload_n hx hb dX0_billOf_18 rfl (lv_at hl 3 rfl) ?_
      refine lv_icmp_ne (tgt := 50) hx hb dX0_billOf_19 (by decide) (fun c_19 => ?_) (fun c_19 => ?_)
      · skip
        refine lv_iinc (v := nI (k + 1)) (lv' := [(3, .int (nI (k + 1))), (2, .int (x1)), (0, .ref (a 0)), (1, .int (o))]) hx hb dX0_billOf_50 hl (k := 0) rfl (nI_1 k) (by decide) rfl (fun ls hl => ?_)
        refine lv_goto (tgt := 4) hx hb dX0_billOf_53 (by decide) ?_
        exact ih (k + 1) (by omega) x1 (by simp [sa_bil, hx1, sa_sd, sa_sec, sa_rat, sa_adv, sa_cat, sa_cnt, sa_aud, sa_less, sa_w, c_19])  ls (lv_sub hl [0, 1, 2, 3] rfl)
      · skip
        refine lv_aload_n hx hb dX0_billOf_22 rfl (lv_at hl 2 rfl) ?_
        refine sa_g0_spotFree S hin hK hP (by decide +kernel) dX0_billOf_23 ?_
        refine lv_iload_n hx hb dX0_billOf_26 rfl (lv_at hl 0 rfl) ?_
        refine sa_ldzk 15 S hK hP rfl (by omega) (by decide) dX0_billOf_27 ?_
        refine lv_if_ne (tgt := 50) hx hb dX0_billOf_28 (by decide) (fun c_28 => ?_) (fun c_28 => ?_)
        · skip
          refine lv_iinc (v := nI (k + 1)) (lv' := [(3, .int (nI (k + 1))), (2, .int (x1)), (0, .ref (a 0)), (1, .int (o))]) hx hb dX0_billOf_50 hl (k := 0) rfl (nI_1 k) (by decide) rfl (fun ls hl => ?_)
          refine lv_goto (tgt := 4) hx hb dX0_billOf_53 (by decide) ?_
          exact ih (k + 1) (by omega) x1 (by simp [sa_bil, hx1, sa_sd, sa_sec, sa_rat, sa_adv, sa_cat, sa_cnt, sa_aud, sa_less, sa_w, c_19, c_28])  ls (lv_sub hl [0, 1, 2, 3] rfl)
        · skip
          refine lv_aload_n hx hb dX0_billOf_31 rfl (lv_at hl 2 rfl) ?_
          refine sa_g0_spotState S hin hK hP (by decide +kernel) dX0_billOf_32 ?_
          refine lv_iload_n hx hb dX0_billOf_35 rfl (lv_at hl 0 rfl) ?_
          refine sa_ldk 14 S hK hP rfl (by omega) (by decide) dX0_billOf_36 ?_
          refine lv_iconst (v := 1) hx hb dX0_billOf_37 (by decide) ?_
          refine lv_icmp_ne (tgt := 50) hx hb dX0_billOf_38 (by decide) (fun c_38 => ?_) (fun c_38 => ?_)
          · skip
            refine lv_iinc (v := nI (k + 1)) (lv' := [(3, .int (nI (k + 1))), (2, .int (x1)), (0, .ref (a 0)), (1, .int (o))]) hx hb dX0_billOf_50 hl (k := 0) rfl (nI_1 k) (by decide) rfl (fun ls hl => ?_)
            refine lv_goto (tgt := 4) hx hb dX0_billOf_53 (by decide) ?_
            exact ih (k + 1) (by omega) x1 (by simp [sa_bil, hx1, sa_sd, sa_sec, sa_rat, sa_adv, sa_cat, sa_cnt, sa_aud, sa_less, sa_w, c_19, c_28, c_38])  ls (lv_sub hl [0, 1, 2, 3] rfl)
          · skip
            refine lv_iload_n hx hb dX0_billOf_41 rfl (lv_at hl 1 rfl) ?_
            refine lv_aload_n hx hb dX0_billOf_42 rfl (lv_at hl 2 rfl) ?_
            refine sa_g0_orderPrice S hin hK hP (by decide +kernel) dX0_billOf_43 ?_
            refine lv_iload_n hx hb dX0_billOf_46 rfl (lv_at hl 3 rfl) ?_
            refine sa_ld 8 S hK hP rfl (sa_vm ho (by omega)) dX0_billOf_47 ?_
            refine lv_iadd hx hb dX0_billOf_48 ?_
            refine lv_istore_n (lv' := [(2, .int (x1 + (σ.2 8 o.toNatClampNeg))), (3, .int (nI k)), (0, .ref (a 0)), (1, .int (o))]) hx hb dX0_billOf_49 rfl hl (by decide) rfl (fun ls hl => ?_)
            refine lv_iinc (v := nI (k + 1)) (lv' := [(3, .int (nI (k + 1))), (2, .int (x1 + (σ.2 8 o.toNatClampNeg))), (0, .ref (a 0)), (1, .int (o))]) hx hb dX0_billOf_50 hl (k := 1) rfl (nI_1 k) (by decide) rfl (fun ls hl => ?_)
            refine lv_goto (tgt := 4) hx hb dX0_billOf_53 (by decide) ?_
            exact ih (k + 1) (by omega) (x1 + (σ.2 8 o.toNatClampNeg)) (by simp [sa_bil, hx1, sa_sd, sa_sec, sa_rat, sa_adv, sa_cat, sa_cnt, sa_aud, sa_less, sa_w, c_19, c_28, c_38])  ls (lv_sub hl [0, 1, 2, 3] rfl)
  exact loop (σ.1 2) 0 (Nat.zero_add _) 0 rfl  ls (lv_sub hl [0, 1, 2, 3] rfl)

set_option maxHeartbeats 4000000 in
set_option maxRecDepth 100000 in
theorem c_X0_bestBreak (l : Launch) (G : va_G) (cI cZ cL : ClassId) (a : Nat → Nat) (σ : sa_St) (hI : sa_I σ) (o : Int32) (ho : vp_in o (σ.1 1)) : sa_Rd l yX0_bestBreak wsX0_bestBreak ({ frames := 3, cells := 0, slots := 0, locals := 67 }) G cI cZ cL (sa_W0 cI cZ a σ) [.ref (a 0), .int (o)] (sa_best σ o (σ.1 0)) := by
  obtain ⟨hnb, hno, hns, hgr, hor, hbr, hai⟩ := id hI
  refine Met.ofW (cc := cX0_bestBreak) (maxL := 6) (ret := (some .int)) (by decide) rfl ?_
  intro p e s m args below meth c s₁ B9 hml hv
  obtain ⟨rfl, hP, hK⟩ := hv
  have hx := B9.exec
  have hb := B9.bytes
  have hr := B9.returns
  have hlk := B9.notSynchronized
  have hts := atoms_spec (ws := wsX0_bestBreak) B9.pre
  have hown : s.vm.findClass RX0 = some m.cls := findClass_of_methodNamed B9.named
  have S : CallFix p m c cX0_bestBreak 6 s _ wsX0_bestBreak RX0 := ⟨hx, hb, hml, hown, hts⟩
  have hin : ∀ w ∈ wsX00, w ∈ wsX0_bestBreak := by decide +kernel
  have hl := lv_entry ([.ref (a 0), .int (o)]) (n := 6) (Nat.le_of_ble_eq_true rfl)
  rw [lg_entry_eq]
  generalize (lg_sl ([.ref (a 0), .int (o)]) ++ List.replicate (6 - (lg_sl ([.ref (a 0), .int (o)])).length) Slot.unset).toArray = ls at hl ⊢
  have hl : lv_has ls 6 [(0, .ref (a 0)), (1, .int (o))] := hl
  refine lv_iconst (v := (-1)) hx hb dX0_bestBreak_0 (by decide) ?_
  refine lv_istore_n (lv' := [(2, .int ((-1))), (0, .ref (a 0)), (1, .int (o))]) hx hb dX0_bestBreak_1 rfl hl (by decide) rfl (fun ls hl => ?_)
  refine lv_iconst (v := 0) hx hb dX0_bestBreak_2 (by decide) ?_
  refine lv_istore_n (lv' := [(3, .int (0)), (2, .int ((-1))), (0, .ref (a 0)), (1, .int (o))]) hx hb dX0_bestBreak_3 rfl hl (by decide) rfl (fun ls hl => ?_)
  refine lv_iconst (v := 0) hx hb dX0_bestBreak_4 (by decide) ?_
  refine lv_istore (lv' := [(4, .int (0)), (3, .int (0)), (2, .int ((-1))), (0, .ref (a 0)), (1, .int (o))]) hx hb dX0_bestBreak_5 hl (by decide) rfl (fun ls hl => ?_)
  have loop : ∀ (n k : Nat), k + n = σ.1 0 → ∀ (x2 : Int32), x2 = sa_best σ o k → ∀ (x3 : Int32), x3 = (if sa_best σ o k = -1 then 0 else sa_rat σ o (sa_best σ o k)) →   ∀ ls : Array Slot, lv_has ls 6 [(4, .int (nI k)), (3, .int (x3)), (2, .int (x2)), (0, .ref (a 0)), (1, .int (o))] → W p l e (headSpec wsX0_bestBreak ({ frames := 3, cells := 0, slots := 0, locals := 67 })).room s m ([Value.ref (a 0), Value.int (o)] : List Value).toArray below meth c s.heap [] 0 0 (MQ below (vp_Si (fun z => z = sa_best σ o (σ.1 0))) ([Value.ref (a 0), Value.int (o)] : List Value).toArray s 0 0 (fun _ => False)) (F0 m 7 ls []) := by
    intro n
    induction n with
    | zero =>
      intro k hk x2 hx2 x3 hx3  ls hl
      have hk2 : k = σ.1 0 := by omega
      subst hk2
      refine lv_iload hx hb dX0_bestBreak_7 (lv_at hl 0 rfl) ?_
      refine lv_aload_n hx hb dX0_bestBreak_9 rfl (lv_at hl 3 rfl) ?_
      refine sa_g0_breakCount S hin hK hP (by decide +kernel) dX0_bestBreak_10 ?_
      refine lv_icmp_ge (tgt := 58) hx hb dX0_bestBreak_13 (by decide) (fun _ => ?_) (fun c9 => absurd (nI_le (Nat.le_refl _) (by omega)) c9)
      refine lv_iload_n hx hb dX0_bestBreak_58 rfl (lv_at hl 2 rfl) ?_
      exact W.iret (v := x2) hx hb hr (fun t9 ht _ => ⟨_, rfl, hx2, ht⟩) (fun _ h => nomatch h) dX0_bestBreak_59
    | succ n ih =>
      intro k hk x2 hx2 x3 hx3  ls hl
      have hkn : k < σ.1 0 := by omega
      refine lv_iload hx hb dX0_bestBreak_7 (lv_at hl 0 rfl) ?_
      refine lv_aload_n hx hb dX0_bestBreak_9 rfl (lv_at hl 3 rfl) ?_
      refine sa_g0_breakCount S hin hK hP (by decide +kernel) dX0_bestBreak_10 ?_
      refine lv_icmp_ge (tgt := 58) hx hb dX0_bestBreak_13 (by decide) (fun c9 => absurd c9 (nI_ge (by omega) (by omega))) (fun _ => ?_)
      refine lv_aload_n hx hb dX0_bestBreak_16 rfl (lv_at hl 3 rfl) ?_
      refine lv_iload_n hx hb dX0_bestBreak_17 rfl (lv_at hl 4 rfl) ?_
      refine lv_iload hx hb dX0_bestBreak_18 (lv_at hl 0 rfl) ?_
      refine sa_kRd (As := [.int (o), .int (nI k)]) (rest := []) S (c_X0_ratingFor l G cI cZ cL a σ hI o (nI k) ho (vp_in_nI (by omega) (by omega))) (cwV 2 hts gX0_bestBreak_X0_ratingFor rfl rfl rfl (by decide +kernel) ⟨Nat.le_of_ble_eq_true rfl, Nat.le_of_ble_eq_true rfl⟩) hP hK (ci := 0) rfl rfl rfl hl.1 (Nat.le_of_ble_eq_true rfl) rfl dX0_bestBreak_20 ⟨Nat.zero_le _, Nat.zero_le _⟩ ?_
      refine lv_istore (lv' := [(5, .int (sa_rat σ o (nI k))), (4, .int (nI k)), (3, .int (x3)), (2, .int (x2)), (0, .ref (a 0)), (1, .int (o))]) hx hb dX0_bestBreak_23 hl (by decide) rfl (fun ls hl => ?_)
      refine lv_iload_n hx hb dX0_bestBreak_25 rfl (lv_at hl 3 rfl) ?_
      refine lv_iconst (v := (-1)) hx hb dX0_bestBreak_26 (by decide) ?_
      refine lv_icmp_eq (tgt := 36) hx hb dX0_bestBreak_27 (by decide) (fun c_27 => ?_) (fun c_27 => ?_)
      · skip
        refine lv_aload_n hx hb dX0_bestBreak_36 rfl (lv_at hl 4 rfl) ?_
        refine lv_iload_n hx hb dX0_bestBreak_37 rfl (lv_at hl 5 rfl) ?_
        refine lv_iload hx hb dX0_bestBreak_38 (lv_at hl 1 rfl) ?_
        refine sa_kRd (As := [.int (o), .int (nI k)]) (rest := []) S (c_X0_obstacle l G cI cZ cL a σ hI o (nI k) ho (vp_in_nI (by omega) (by omega))) (cwV 2 hts gX0_bestBreak_X0_obstacle rfl rfl rfl (by decide +kernel) ⟨Nat.le_of_ble_eq_true rfl, Nat.le_of_ble_eq_true rfl⟩) hP hK (ci := 0) rfl rfl rfl hl.1 (Nat.le_of_ble_eq_true rfl) rfl dX0_bestBreak_40 ⟨Nat.zero_le _, Nat.zero_le _⟩ ?_
        refine lv_if_ne (tgt := 52) hx hb dX0_bestBreak_43 (by decide) (fun c_43 => ?_) (fun c_43 => ?_)
        · skip
          refine lv_iinc (v := nI (k + 1)) (lv' := [(4, .int (nI (k + 1))), (5, .int (sa_rat σ o (nI k))), (3, .int (x3)), (2, .int (x2)), (0, .ref (a 0)), (1, .int (o))]) hx hb dX0_bestBreak_52 hl (k := 1) rfl (nI_1 k) (by decide) rfl (fun ls hl => ?_)
          refine lv_goto (tgt := 7) hx hb dX0_bestBreak_55 (by decide) ?_
          exact ih (k + 1) (by omega) x2 (by have h9 := sa_ne1 (k := k) (by omega); simp only [sa_best]; simp only [hx2, hx3] at *; grind) x3 (by have h9 := sa_ne1 (k := k) (by omega); simp only [sa_best]; simp only [hx2, hx3] at *; grind)  ls (lv_sub hl [0, 2, 3, 4, 5] rfl)
        · skip
          refine lv_iload hx hb dX0_bestBreak_46 (lv_at hl 0 rfl) ?_
          refine lv_istore_n (lv' := [(3, .int (sa_rat σ o (nI k))), (5, .int (sa_rat σ o (nI k))), (4, .int (nI k)), (2, .int (x2)), (0, .ref (a 0)), (1, .int (o))]) hx hb dX0_bestBreak_48 rfl hl (by decide) rfl (fun ls hl => ?_)
          refine lv_iload hx hb dX0_bestBreak_49 (lv_at hl 2 rfl) ?_
          refine lv_istore_n (lv' := [(2, .int (nI k)), (3, .int (sa_rat σ o (nI k))), (5, .int (sa_rat σ o (nI k))), (4, .int (nI k)), (0, .ref (a 0)), (1, .int (o))]) hx hb dX0_bestBreak_51 rfl hl (by decide) rfl (fun ls hl => ?_)
          refine lv_iinc (v := nI (k + 1)) (lv' := [(4, .int (nI (k + 1))), (2, .int (nI k)), (3, .int (sa_rat σ o (nI k))), (5, .int (sa_rat σ o (nI k))), (0, .ref (a 0)), (1, .int (o))]) hx hb dX0_bestBreak_52 hl (k := 3) rfl (nI_1 k) (by decide) rfl (fun ls hl => ?_)
          refine lv_goto (tgt := 7) hx hb dX0_bestBreak_55 (by decide) ?_
          exact ih (k + 1) (by omega) (nI k) (by have h9 := sa_ne1 (k := k) (by omega); simp only [sa_best]; simp only [hx2, hx3] at *; grind) (sa_rat σ o (nI k)) (by have h9 := sa_ne1 (k := k) (by omega); simp only [sa_best]; simp only [hx2, hx3] at *; grind)  ls (lv_sub hl [0, 2, 1, 4, 5] rfl)
      · skip
        refine lv_iload hx hb dX0_bestBreak_30 (lv_at hl 0 rfl) ?_
        refine lv_iload_n hx hb dX0_bestBreak_32 rfl (lv_at hl 2 rfl) ?_
        refine lv_icmp_le (tgt := 52) hx hb dX0_bestBreak_33 (by decide) (fun c_33 => ?_) (fun c_33 => ?_)
        · skip
          have c_33 := Int32.not_lt.mpr c_33
          refine lv_iinc (v := nI (k + 1)) (lv' := [(4, .int (nI (k + 1))), (5, .int (sa_rat σ o (nI k))), (3, .int (x3)), (2, .int (x2)), (0, .ref (a 0)), (1, .int (o))]) hx hb dX0_bestBreak_52 hl (k := 1) rfl (nI_1 k) (by decide) rfl (fun ls hl => ?_)
          refine lv_goto (tgt := 7) hx hb dX0_bestBreak_55 (by decide) ?_
          exact ih (k + 1) (by omega) x2 (by have h9 := sa_ne1 (k := k) (by omega); simp only [sa_best]; simp only [hx2, hx3] at *; grind) x3 (by have h9 := sa_ne1 (k := k) (by omega); simp only [sa_best]; simp only [hx2, hx3] at *; grind)  ls (lv_sub hl [0, 2, 3, 4, 5] rfl)
        · skip
          have c_33 := Int32.not_le.mp c_33
          refine lv_aload_n hx hb dX0_bestBreak_36 rfl (lv_at hl 4 rfl) ?_
          refine lv_iload_n hx hb dX0_bestBreak_37 rfl (lv_at hl 5 rfl) ?_
          refine lv_iload hx hb dX0_bestBreak_38 (lv_at hl 1 rfl) ?_
          refine sa_kRd (As := [.int (o), .int (nI k)]) (rest := []) S (c_X0_obstacle l G cI cZ cL a σ hI o (nI k) ho (vp_in_nI (by omega) (by omega))) (cwV 2 hts gX0_bestBreak_X0_obstacle rfl rfl rfl (by decide +kernel) ⟨Nat.le_of_ble_eq_true rfl, Nat.le_of_ble_eq_true rfl⟩) hP hK (ci := 0) rfl rfl rfl hl.1 (Nat.le_of_ble_eq_true rfl) rfl dX0_bestBreak_40 ⟨Nat.zero_le _, Nat.zero_le _⟩ ?_
          refine lv_if_ne (tgt := 52) hx hb dX0_bestBreak_43 (by decide) (fun c_43 => ?_) (fun c_43 => ?_)
          · skip
            refine lv_iinc (v := nI (k + 1)) (lv' := [(4, .int (nI (k + 1))), (5, .int (sa_rat σ o (nI k))), (3, .int (x3)), (2, .int (x2)), (0, .ref (a 0)), (1, .int (o))]) hx hb dX0_bestBreak_52 hl (k := 1) rfl (nI_1 k) (by decide) rfl (fun ls hl => ?_)
            refine lv_goto (tgt := 7) hx hb dX0_bestBreak_55 (by decide) ?_
            exact ih (k + 1) (by omega) x2 (by have h9 := sa_ne1 (k := k) (by omega); simp only [sa_best]; simp only [hx2, hx3] at *; grind) x3 (by have h9 := sa_ne1 (k := k) (by omega); simp only [sa_best]; simp only [hx2, hx3] at *; grind)  ls (lv_sub hl [0, 2, 3, 4, 5] rfl)
          · skip
            refine lv_iload hx hb dX0_bestBreak_46 (lv_at hl 0 rfl) ?_
            refine lv_istore_n (lv' := [(3, .int (sa_rat σ o (nI k))), (5, .int (sa_rat σ o (nI k))), (4, .int (nI k)), (2, .int (x2)), (0, .ref (a 0)), (1, .int (o))]) hx hb dX0_bestBreak_48 rfl hl (by decide) rfl (fun ls hl => ?_)
            refine lv_iload hx hb dX0_bestBreak_49 (lv_at hl 2 rfl) ?_
            refine lv_istore_n (lv' := [(2, .int (nI k)), (3, .int (sa_rat σ o (nI k))), (5, .int (sa_rat σ o (nI k))), (4, .int (nI k)), (0, .ref (a 0)), (1, .int (o))]) hx hb dX0_bestBreak_51 rfl hl (by decide) rfl (fun ls hl => ?_)
            refine lv_iinc (v := nI (k + 1)) (lv' := [(4, .int (nI (k + 1))), (2, .int (nI k)), (3, .int (sa_rat σ o (nI k))), (5, .int (sa_rat σ o (nI k))), (0, .ref (a 0)), (1, .int (o))]) hx hb dX0_bestBreak_52 hl (k := 3) rfl (nI_1 k) (by decide) rfl (fun ls hl => ?_)
            refine lv_goto (tgt := 7) hx hb dX0_bestBreak_55 (by decide) ?_
            exact ih (k + 1) (by omega) (nI k) (by have h9 := sa_ne1 (k := k) (by omega); simp only [sa_best]; simp only [hx2, hx3] at *; grind) (sa_rat σ o (nI k)) (by have h9 := sa_ne1 (k := k) (by omega); simp only [sa_best]; simp only [hx2, hx3] at *; grind)  ls (lv_sub hl [0, 2, 1, 4, 5] rfl)
  exact loop (σ.1 0) 0 (Nat.zero_add _) ((-1)) rfl 0 rfl  ls (lv_sub hl [0, 1, 2, 3, 4] rfl)
