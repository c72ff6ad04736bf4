set_option maxHeartbeats 4000000 in
set_option maxRecDepth 100000 in
theorem k_room_ok (l : Launch) (G : va_G) (cI cZ cL : ClassId) (a : Nat → Nat) (σ : sa_St) (hI : sa_I σ) (at' : Int32) (h1 : sa_iB σ at') : sa_Lr l yL_room wsL_room ({ frames := 9, cells := 0, slots := 0, locals := 153 }) G cI cZ cL a σ [.ref (a 0), .int (at')] (sa_room σ at' (-1) (σ.1 2)) := by
  refine va_MetW (cc := cL_room) (maxL := 3) (ret := (some .int)) (hh := [(0, 5, 6, 26)]) (by decide) rfl ?_
  intro p e s m args below meth c s₁ B9 hml hv
  obtain ⟨rfl, hP, hK⟩ := hv
  have hx := B9.exec
  have hb := B9.bytes
  have hr := B9.returns
  have hlk := B9.notSynchronized
  have hts := atoms_spec (ws := wsL_room) B9.pre
  have hown : s.vm.findClass RL = some m.cls := findClass_of_methodNamed B9.named
  have S : CallFix p m c cL_room 3 s _ wsL_room RL := ⟨hx, hb, hml, hown, hts⟩
  have hl := lv_entry ([.ref (a 0), .int (at')]) (n := 3) (Nat.le_of_ble_eq_true rfl)
  rw [lg_entry_eq]
  generalize (lg_sl ([.ref (a 0), .int (at')]) ++ List.replicate (3 - (lg_sl ([.ref (a 0), .int (at')])).length) Slot.unset).toArray = ls at hl ⊢
  have hl : lv_has ls 3 [(0, .ref (a 0)), (1, .int (at'))] := hl
  have hS : va_S (fun _ => False) s.heap s.heap [] := va_S.rf
  refine lv_aload_n hx hb dL_room_0 rfl (lv_at hl 0 rfl) ?_
  refine lv_iload_n hx hb dL_room_1 rfl (lv_at hl 1 rfl) ?_
  refine sa_kRd (As := [.int (at')]) (rest := []) S (c_X0_room_ok l G cI cZ cL a σ hI at' h1) (cwV 1 hts gL_room_X0_room rfl rfl rfl (by decide +kernel) ⟨Nat.le_of_ble_eq_true rfl, Nat.le_of_ble_eq_true rfl⟩) hP hK (ci := 0) rfl rfl rfl hl.1 (Nat.le_of_ble_eq_true rfl) rfl dL_room_2 ⟨Nat.zero_le _, Nat.zero_le _⟩ ?_
  exact W.iret (v := sa_room σ at' (-1) (σ.1 2)) hx hb hr (fun t9 ht _ => ⟨⟨_, (), rfl, rfl, trivial⟩, hS.F ht⟩) hS.2.2 dL_room_5
set_option maxHeartbeats 4000000 in
set_option maxRecDepth 100000 in
theorem k_billTo_ok (l : Launch) (G : va_G) (cI cZ cL : ClassId) (a : Nat → Nat) (σ : sa_St) (hI : sa_I σ) (x : Int32) (h1 : sa_w x 0 9) : sa_Lr l yL_billTo wsL_billTo ({ frames := 8, cells := 0, slots := 0, locals := 133 }) G cI cZ cL a σ [.ref (a 0), .int (x)] (sa_bito σ x (σ.1 1)) := by
  refine va_MetW (cc := cL_billTo) (maxL := 3) (ret := (some .int)) (hh := [(0, 5, 6, 16)]) (by decide) rfl ?_
  intro p e s m args below meth c s₁ B9 hml hv
  obtain ⟨rfl, hP, hK⟩ := hv
  have hx := B9.exec
  have hb := B9.bytes
  have hr := B9.returns
  have hlk := B9.notSynchronized
  have hts := atoms_spec (ws := wsL_billTo) B9.pre
  have hown : s.vm.findClass RL = some m.cls := findClass_of_methodNamed B9.named
  have S : CallFix p m c cL_billTo 3 s _ wsL_billTo RL := ⟨hx, hb, hml, hown, hts⟩
  have hl := lv_entry ([.ref (a 0), .int (x)]) (n := 3) (Nat.le_of_ble_eq_true rfl)
  rw [lg_entry_eq]
  generalize (lg_sl ([.ref (a 0), .int (x)]) ++ List.replicate (3 - (lg_sl ([.ref (a 0), .int (x)])).length) Slot.unset).toArray = ls at hl ⊢
  have hl : lv_has ls 3 [(0, .ref (a 0)), (1, .int (x))] := hl
  have hS : va_S (fun _ => False) s.heap s.heap [] := va_S.rf
  refine lv_aload_n hx hb dL_billTo_0 rfl (lv_at hl 0 rfl) ?_
  refine lv_iload_n hx hb dL_billTo_1 rfl (lv_at hl 1 rfl) ?_
  refine sa_kRd (As := [.int (x)]) (rest := []) S (c_X0_billTo_ok l G cI cZ cL a σ hI x h1) (cwV 1 hts gL_billTo_X0_billTo rfl rfl rfl (by decide +kernel) ⟨Nat.le_of_ble_eq_true rfl, Nat.le_of_ble_eq_true rfl⟩) hP hK (ci := 0) rfl rfl rfl hl.1 (Nat.le_of_ble_eq_true rfl) rfl dL_billTo_2 ⟨Nat.zero_le _, Nat.zero_le _⟩ ?_
  exact W.iret (v := sa_bito σ x (σ.1 1)) hx hb hr (fun t9 ht _ => ⟨⟨_, (), rfl, rfl, trivial⟩, hS.F ht⟩) hS.2.2 dL_billTo_5
set_option maxHeartbeats 4000000 in
set_option maxRecDepth 100000 in
theorem k_addBreak_ok (l : Launch) (G : va_G) (cI cZ cL : ClassId) (a : Nat → Nat) (σ : sa_St) (hI : sa_I σ) (hJ : sa_J a) (x : Int32) (h1 : sa_w x 15 600) (h2 : nI (σ.1 0) < 24) : sa_Wr l yL_addBreak wsL_addBreak ({ frames := 8, cells := 0, slots := 0, locals := 132 }) G cI cZ cL (sa_W0 cI cZ a σ) (sa_W0 cI cZ a (sa_n (sa_f σ 1 (upd (σ.2 1) (σ.1 0) x)) 0 (σ.1 0 + 1))) (sa_A a) [.ref (a 0), .int (x)] (nI (σ.1 0)) := by
  refine va_MetW (cc := cL_addBreak) (maxL := 3) (ret := (some .int)) (hh := [(0, 5, 6, 16), (0, 5, 10, 19)]) (by decide) rfl ?_
  intro p e s m args below meth c s₁ B9 hml hv
  obtain ⟨rfl, hP, hK⟩ := hv
  have hx := B9.exec
  have hb := B9.bytes
  have hr := B9.returns
  have hlk := B9.notSynchronized
  have hts := atoms_spec (ws := wsL_addBreak) B9.pre
  have hown : s.vm.findClass RL = some m.cls := findClass_of_methodNamed B9.named
  have S : CallFix p m c cL_addBreak 3 s _ wsL_addBreak RL := ⟨hx, hb, hml, hown, hts⟩
  have hl := lv_entry ([.ref (a 0), .int (x)]) (n := 3) (Nat.le_of_ble_eq_true rfl)
  rw [lg_entry_eq]
  generalize (lg_sl ([.ref (a 0), .int (x)]) ++ List.replicate (3 - (lg_sl ([.ref (a 0), .int (x)])).length) Slot.unset).toArray = ls at hl ⊢
  have hl : lv_has ls 3 [(0, .ref (a 0)), (1, .int (x))] := hl
  have hS : va_S (sa_A a) s.heap s.heap [] := va_S.rf
  refine lv_aload_n hx hb dL_addBreak_0 rfl (lv_at hl 0 rfl) ?_
  refine lv_iload_n hx hb dL_addBreak_1 rfl (lv_at hl 1 rfl) ?_
  refine sa_kWr (As := [.int (x)]) (rest := []) S (c_X0_addBreak_ok l G cI cZ cL a σ hI x hJ h1 h2) (cwV 1 hts gL_addBreak_X0_addBreak rfl rfl rfl (by decide +kernel) ⟨Nat.le_of_ble_eq_true rfl, Nat.le_of_ble_eq_true rfl⟩) hP hK hS (fun _ h => h) (ci := 0) rfl rfl rfl hl.1 (Nat.le_of_ble_eq_true rfl) rfl dL_addBreak_2 ⟨Nat.zero_le _, Nat.zero_le _⟩ (fun H locs hP hS hz9 hk9 => ?_)
  exact W.iret (v := nI (σ.1 0)) hx hb hr (fun t9 ht _ => ⟨⟨_, (), rfl, rfl, by show va_P G vwCl (sa_W0 cI cZ a (sa_n (sa_f σ 1 (upd (σ.2 1) (σ.1 0) x)) 0 (σ.1 0 + 1))) t9.heap; rw [ht]; exact hP⟩, hS.F ht⟩) hS.2.2 dL_addBreak_5
set_option maxHeartbeats 4000000 in
set_option maxRecDepth 100000 in
theorem k_addBreak_e1 (l : Launch) (lo h0 : Nat) (hst : l.stackTraces = false) (G : va_G) (cI cZ cL : ClassId) (a : Nat → Nat) (σ : sa_St) (hI : sa_I σ) (x : Int32) (hj : (sp_addBreak σ x).1 = 1) : sa_Lx l yL_addBreak wsL_addBreak ({ frames := 8, cells := 1, slots := 6, locals := 132 }) lo h0 G cI cZ cL a σ [.ref (a 0), .int (x)] (-1000002) := by
  refine va_MetW (cc := cL_addBreak) (maxL := 3) (ret := (some .int)) (hh := [(0, 5, 6, 16), (0, 5, 10, 19)]) (by decide) rfl ?_
  intro p e s m args below meth c s₁ B9 hml hv
  obtain ⟨rfl, ⟨⟨hP, hK⟩, hT, hn21, hn32, hn31⟩, hh0⟩ := hv
  have hx := B9.exec
  have hb := B9.bytes
  have hr := B9.returns
  have hlk := B9.notSynchronized
  have hts := atoms_spec (ws := wsL_addBreak) B9.pre
  have hown : s.vm.findClass RL = some m.cls := findClass_of_methodNamed B9.named
  have S : CallFix p m c cL_addBreak 3 s _ wsL_addBreak RL := ⟨hx, hb, hml, hown, hts⟩
  have htb : c.exceptionTable.toList = tableOf [(0, 5, 6, 16), (0, 5, 10, 19)] := vx_table (x := yL_addBreak) B9 (hts (.codeWith yL_addBreak cL_addBreak 3 (some .int) [(0, 5, 6, 16), (0, 5, 10, 19)]) (by unfold wsL_addBreak; exact List.mem_cons_self))
  have hl := lv_entry ([.ref (a 0), .int (x)]) (n := 3) (Nat.le_of_ble_eq_true rfl)
  rw [lg_entry_eq]
  generalize (lg_sl ([.ref (a 0), .int (x)]) ++ List.replicate (3 - (lg_sl ([.ref (a 0), .int (x)])).length) Slot.unset).toArray = ls at hl ⊢
  have hl : lv_has ls 3 [(0, .ref (a 0)), (1, .int (x))] := hl
  subst hh0
  refine lv_aload_n hx hb dL_addBreak_0 rfl (lv_at hl 0 rfl) ?_
  refine lv_iload_n hx hb dL_addBreak_1 rfl (lv_at hl 1 rfl) ?_
  refine sa_kTry (sa_runExV (As := [.int (x)]) (rest := []) S (c_X0_addBreak_ex l lo hst G cI cZ cL a σ hI x (by rw [hj]; decide)) (cwV 1 hts gL_addBreak_X0_addBreak rfl rfl rfl (by decide +kernel) ⟨Nat.le_of_ble_eq_true rfl, Nat.le_of_ble_eq_true rfl⟩) hP hK hT (ci := 0) rfl rfl rfl hl.1 (Nat.le_of_ble_eq_true rfl) rfl dL_addBreak_2 ⟨Nat.le_refl _, Nat.le_refl _⟩) (fun E ce q9 H1 hE hz hk hce hcv hcl => ?_)
  rcases List.mem_cons.mp hE with hE | hE
  · skip
    have hE1 : (sp_addBreak σ x).1 = 1 := congrArg Prod.fst hE
    have hE2 : E = sa_E2 := congrArg Prod.snd hE
    subst hE2
    refine vx_catch (own := RL) (name := sa_E2) hown [] ⟨0, 5, 6, 16⟩ [⟨0, 5, 10, 19⟩] htb (fun _ h => absurd h List.not_mem_nil) (by decide) (by decide) (hts (.classLink RL 16 sa_E2) (by decide +kernel)) (va_Nw.use rfl hT.2.2.2.2.2.2.1) hce hcv hcl ?_
    refine lv_astore_n (lv' := [(2, .ref q9), (0, .ref (a 0)), (1, .int (x))]) hx hb dL_addBreak_6 rfl hl (by decide) rfl (fun ls hl => ?_)
    refine lv_ldc (v := (-1000002)) hx hb hown (hts (.constant RL 18 (-1000002)) (by decide +kernel)) dL_addBreak_7 ?_
    exact W.iret (v := (-1000002)) hx hb hr (fun t9 ht _ => ⟨⟨(-1000002), (), rfl, rfl, by show s.heap.size < t9.heap.size; rw [ht]; exact hz⟩, by rw [ht]; exact Nat.le_of_lt hz, fun q8 h8 _ => by rw [ht]; exact hk q8 h8⟩) (fun _ h => nomatch h) dL_addBreak_9
  · skip
    have hE := List.mem_singleton.mp hE
    have hE1 : (sp_addBreak σ x).1 = 2 := congrArg Prod.fst hE
    exact absurd (hE1.symm.trans hj) (by decide)
set_option maxHeartbeats 4000000 in
set_option maxRecDepth 100000 in
theorem k_addBreak_e2 (l : Launch) (lo h0 : Nat) (hst : l.stackTraces = false) (G : va_G) (cI cZ cL : ClassId) (a : Nat → Nat) (σ : sa_St) (hI : sa_I σ) (x : Int32) (hj : (sp_addBreak σ x).1 = 2) : sa_Lx l yL_addBreak wsL_addBreak ({ frames := 8, cells := 1, slots := 6, locals := 132 }) lo h0 G cI cZ cL a σ [.ref (a 0), .int (x)] (-1000003) := by
  refine va_MetW (cc := cL_addBreak) (maxL := 3) (ret := (some .int)) (hh := [(0, 5, 6, 16), (0, 5, 10, 19)]) (by decide) rfl ?_
  intro p e s m args below meth c s₁ B9 hml hv
  obtain ⟨rfl, ⟨⟨hP, hK⟩, hT, hn21, hn32, hn31⟩, hh0⟩ := hv
  have hx := B9.exec
  have hb := B9.bytes
  have hr := B9.returns
  have hlk := B9.notSynchronized
  have hts := atoms_spec (ws := wsL_addBreak) B9.pre
  have hown : s.vm.findClass RL = some m.cls := findClass_of_methodNamed B9.named
  have S : CallFix p m c cL_addBreak 3 s _ wsL_addBreak RL := ⟨hx, hb, hml, hown, hts⟩
  have htb : c.exceptionTable.toList = tableOf [(0, 5, 6, 16), (0, 5, 10, 19)] := vx_table (x := yL_addBreak) B9 (hts (.codeWith yL_addBreak cL_addBreak 3 (some .int) [(0, 5, 6, 16), (0, 5, 10, 19)]) (by unfold wsL_addBreak; exact List.mem_cons_self))
  have hl := lv_entry ([.ref (a 0), .int (x)]) (n := 3) (Nat.le_of_ble_eq_true rfl)
  rw [lg_entry_eq]
  generalize (lg_sl ([.ref (a 0), .int (x)]) ++ List.replicate (3 - (lg_sl ([.ref (a 0), .int (x)])).length) Slot.unset).toArray = ls at hl ⊢
  have hl : lv_has ls 3 [(0, .ref (a 0)), (1, .int (x))] := hl
  subst hh0
  refine lv_aload_n hx hb dL_addBreak_0 rfl (lv_at hl 0 rfl) ?_
  refine lv_iload_n hx hb dL_addBreak_1 rfl (lv_at hl 1 rfl) ?_
  refine sa_kTry (sa_runExV (As := [.int (x)]) (rest := []) S (c_X0_addBreak_ex l lo hst G cI cZ cL a σ hI x (by rw [hj]; decide)) (cwV 1 hts gL_addBreak_X0_addBreak rfl rfl rfl (by decide +kernel) ⟨Nat.le_of_ble_eq_true rfl, Nat.le_of_ble_eq_true rfl⟩) hP hK hT (ci := 0) rfl rfl rfl hl.1 (Nat.le_of_ble_eq_true rfl) rfl dL_addBreak_2 ⟨Nat.le_refl _, Nat.le_refl _⟩) (fun E ce q9 H1 hE hz hk hce hcv hcl => ?_)
  rcases List.mem_cons.mp hE with hE | hE
  · skip
    have hE1 : (sp_addBreak σ x).1 = 1 := congrArg Prod.fst hE
    exact absurd (hE1.symm.trans hj) (by decide)
  · skip
    have hE := List.mem_singleton.mp hE
    have hE1 : (sp_addBreak σ x).1 = 2 := congrArg Prod.fst hE
    have hE2 : E = sa_E3 := congrArg Prod.snd hE
    subst hE2
    refine vx_catch (own := RL) (name := sa_E3) hown [⟨0, 5, 6, 16⟩] ⟨0, 5, 10, 19⟩ [] htb (List.forall_mem_cons.mpr ⟨(Or.inr ⟨by decide, sa_E2, hts (.classLink RL 16 sa_E2) (by decide +kernel), hn32⟩), (fun _ h => absurd h List.not_mem_nil)⟩) (by decide) (by decide) (hts (.classLink RL 19 sa_E3) (by decide +kernel)) (va_Nw.use rfl hT.2.2.2.2.2.2.2.1) hce hcv hcl ?_
    refine lv_astore_n (lv' := [(2, .ref q9), (0, .ref (a 0)), (1, .int (x))]) hx hb dL_addBreak_10 rfl hl (by decide) rfl (fun ls hl => ?_)
    refine lv_ldc (v := (-1000003)) hx hb hown (hts (.constant RL 21 (-1000003)) (by decide +kernel)) dL_addBreak_11 ?_
    exact W.iret (v := (-1000003)) hx hb hr (fun t9 ht _ => ⟨⟨(-1000003), (), rfl, rfl, by show s.heap.size < t9.heap.size; rw [ht]; exact hz⟩, by rw [ht]; exact Nat.le_of_lt hz, fun q8 h8 _ => by rw [ht]; exact hk q8 h8⟩) (fun _ h => nomatch h) dL_addBreak_13
set_option maxHeartbeats 4000000 in
set_option maxRecDepth 100000 in
theorem k_room_e1 (l : Launch) (lo h0 : Nat) (hst : l.stackTraces = false) (G : va_G) (cI cZ cL : ClassId) (a : Nat → Nat) (σ : sa_St) (hI : sa_I σ) (at' : Int32) (hj : (sp_room σ at').1 = 1) : sa_Lx l yL_room wsL_room ({ frames := 9, cells := 1, slots := 6, locals := 153 }) lo h0 G cI cZ cL a σ [.ref (a 0), .int (at')] (-1000001) := by
  refine va_MetW (cc := cL_room) (maxL := 3) (ret := (some .int)) (hh := [(0, 5, 6, 26)]) (by decide) rfl ?_
  intro p e s m args below meth c s₁ B9 hml hv
  obtain ⟨rfl, ⟨⟨hP, hK⟩, hT, hn21, hn32, hn31⟩, hh0⟩ := hv
  have hx := B9.exec
  have hb := B9.bytes
  have hr := B9.returns
  have hlk := B9.notSynchronized
  have hts := atoms_spec (ws := wsL_room) B9.pre
  have hown : s.vm.findClass RL = some m.cls := findClass_of_methodNamed B9.named
  have S : CallFix p m c cL_room 3 s _ wsL_room RL := ⟨hx, hb, hml, hown, hts⟩
  have htb : c.exceptionTable.toList = tableOf [(0, 5, 6, 26)] := vx_table (x := yL_room) B9 (hts (.codeWith yL_room cL_room 3 (some .int) [(0, 5, 6, 26)]) (by unfold wsL_room; exact List.mem_cons_self))
  have hl := lv_entry ([.ref (a 0), .int (at')]) (n := 3) (Nat.le_of_ble_eq_true rfl)
  rw [lg_entry_eq]
  generalize (lg_sl ([.ref (a 0), .int (at')]) ++ List.replicate (3 - (lg_sl ([.ref (a 0), .int (at')])).length) Slot.unset).toArray = ls at hl ⊢
  have hl : lv_has ls 3 [(0, .ref (a 0)), (1, .int (at'))] := hl
  subst hh0
  refine lv_aload_n hx hb dL_room_0 rfl (lv_at hl 0 rfl) ?_
  refine lv_iload_n hx hb dL_room_1 rfl (lv_at hl 1 rfl) ?_
  refine sa_kTry (sa_runExV (As := [.int (at')]) (rest := []) S (c_X0_room_ex l lo hst G cI cZ cL a σ hI at' (by rw [hj]; decide)) (cwV 1 hts gL_room_X0_room rfl rfl rfl (by decide +kernel) ⟨Nat.le_of_ble_eq_true rfl, Nat.le_of_ble_eq_true rfl⟩) hP hK hT (ci := 0) rfl rfl rfl hl.1 (Nat.le_of_ble_eq_true rfl) rfl dL_room_2 ⟨Nat.le_refl _, Nat.le_refl _⟩) (fun E ce q9 H1 hE hz hk hce hcv hcl => ?_)
  have hE : ((sp_room σ at').1, E) = ((1 : Nat), sa_E1) := List.mem_singleton.mp hE
  have hE1 : (sp_room σ at').1 = 1 := congrArg Prod.fst hE
  have hE2 : E = sa_E1 := congrArg Prod.snd hE
  subst hE2
  refine vx_catch (own := RL) (name := sa_E1) hown [] ⟨0, 5, 6, 26⟩ [] htb (fun _ h => absurd h List.not_mem_nil) (by decide) (by decide) (hts (.classLink RL 26 sa_E1) (by decide +kernel)) (va_Nw.use rfl hT.2.2.2.2.2.1) hce hcv hcl ?_
  refine lv_astore_n (lv' := [(2, .ref q9), (0, .ref (a 0)), (1, .int (at'))]) hx hb dL_room_6 rfl hl (by decide) rfl (fun ls hl => ?_)
  refine lv_ldc (v := (-1000001)) hx hb hown (hts (.constant RL 28 (-1000001)) (by decide +kernel)) dL_room_7 ?_
  exact W.iret (v := (-1000001)) hx hb hr (fun t9 ht _ => ⟨⟨(-1000001), (), rfl, rfl, by show s.heap.size < t9.heap.size; rw [ht]; exact hz⟩, by rw [ht]; exact Nat.le_of_lt hz, fun q8 h8 _ => by rw [ht]; exact hk q8 h8⟩) (fun _ h => nomatch h) dL_room_9
set_option maxHeartbeats 4000000 in
set_option maxRecDepth 100000 in
theorem k_isAired_e1 (l : Launch) (lo h0 : Nat) (hst : l.stackTraces = false) (G : va_G) (cI cZ cL : ClassId) (a : Nat → Nat) (σ : sa_St) (hI : sa_I σ) (at' : Int32) (hj : (sp_isAired σ at').1 = 1) : sa_Lx l yL_isAired wsL_isAired ({ frames := 9, cells := 1, slots := 6, locals := 153 }) lo h0 G cI cZ cL a σ [.ref (a 0), .int (at')] (-1000001) := by
  refine va_MetW (cc := cL_isAired) (maxL := 3) (ret := (some .int)) (hh := [(0, 13, 14, 26)]) (by decide) rfl ?_
  intro p e s m args below meth c s₁ B9 hml hv
  obtain ⟨rfl, ⟨⟨hP, hK⟩, hT, hn21, hn32, hn31⟩, hh0⟩ := hv
  have hx := B9.exec
  have hb := B9.bytes
  have hr := B9.returns
  have hlk := B9.notSynchronized
  have hts := atoms_spec (ws := wsL_isAired) B9.pre
  have hown : s.vm.findClass RL = some m.cls := findClass_of_methodNamed B9.named
  have S : CallFix p m c cL_isAired 3 s _ wsL_isAired RL := ⟨hx, hb, hml, hown, hts⟩
  have htb : c.exceptionTable.toList = tableOf [(0, 13, 14, 26)] := vx_table (x := yL_isAired) B9 (hts (.codeWith yL_isAired cL_isAired 3 (some .int) [(0, 13, 14, 26)]) (by unfold wsL_isAired; exact List.mem_cons_self))
  have hl := lv_entry ([.ref (a 0), .int (at')]) (n := 3) (Nat.le_of_ble_eq_true rfl)
  rw [lg_entry_eq]
  generalize (lg_sl ([.ref (a 0), .int (at')]) ++ List.replicate (3 - (lg_sl ([.ref (a 0), .int (at')])).length) Slot.unset).toArray = ls at hl ⊢
  have hl : lv_has ls 3 [(0, .ref (a 0)), (1, .int (at'))] := hl
  subst hh0
  refine lv_aload_n hx hb dL_isAired_0 rfl (lv_at hl 0 rfl) ?_
  refine lv_iload_n hx hb dL_isAired_1 rfl (lv_at hl 1 rfl) ?_
  refine sa_kTry (sa_runExV (As := [.int (at')]) (rest := []) S (c_X0_isAired_ex l lo hst G cI cZ cL a σ hI at' (by rw [hj]; decide)) (cwV 1 hts gL_isAired_X0_isAired rfl rfl rfl (by decide +kernel) ⟨Nat.le_of_ble_eq_true rfl, Nat.le_of_ble_eq_true rfl⟩) hP hK hT (ci := 0) rfl rfl rfl hl.1 (Nat.le_of_ble_eq_true rfl) rfl dL_isAired_2 ⟨Nat.le_refl _, Nat.le_refl _⟩) (fun E ce q9 H1 hE hz hk hce hcv hcl => ?_)
  have hE : ((sp_isAired σ at').1, E) = ((1 : Nat), sa_E1) := List.mem_singleton.mp hE
  have hE1 : (sp_isAired σ at').1 = 1 := congrArg Prod.fst hE
  have hE2 : E = sa_E1 := congrArg Prod.snd hE
  subst hE2
  refine vx_catch (own := RL) (name := sa_E1) hown [] ⟨0, 13, 14, 26⟩ [] htb (fun _ h => absurd h List.not_mem_nil) (by decide) (by decide) (hts (.classLink RL 26 sa_E1) (by decide +kernel)) (va_Nw.use rfl hT.2.2.2.2.2.1) hce hcv hcl ?_
  refine lv_astore_n (lv' := [(2, .ref q9), (0, .ref (a 0)), (1, .int (at'))]) hx hb dL_isAired_14 rfl hl (by decide) rfl (fun ls hl => ?_)
  refine lv_ldc (v := (-1000001)) hx hb hown (hts (.constant RL 28 (-1000001)) (by decide +kernel)) dL_isAired_15 ?_
  exact W.iret (v := (-1000001)) hx hb hr (fun t9 ht _ => ⟨⟨(-1000001), (), rfl, rfl, by show s.heap.size < t9.heap.size; rw [ht]; exact hz⟩, by rw [ht]; exact Nat.le_of_lt hz, fun q8 h8 _ => by rw [ht]; exact hk q8 h8⟩) (fun _ h => nomatch h) dL_isAired_17
set_option maxHeartbeats 4000000 in
set_option maxRecDepth 100000 in
theorem k_stateOf_e1 (l : Launch) (lo h0 : Nat) (hst : l.stackTraces = false) (G : va_G) (cI cZ cL : ClassId) (a : Nat → Nat) (σ : sa_St) (hI : sa_I σ) (x : Int32) (hj : (sp_stateOf σ x).1 = 1) : sa_Lx l yL_stateOf wsL_stateOf ({ frames := 9, cells := 1, slots := 6, locals := 153 }) lo h0 G cI cZ cL a σ [.ref (a 0), .int (x)] (-1000001) := by
  refine va_MetW (cc := cL_stateOf) (maxL := 3) (ret := (some .int)) (hh := [(0, 5, 6, 26)]) (by decide) rfl ?_
  intro p e s m args below meth c s₁ B9 hml hv
  obtain ⟨rfl, ⟨⟨hP, hK⟩, hT, hn21, hn32, hn31⟩, hh0⟩ := hv
  have hx := B9.exec
  have hb := B9.bytes
  have hr := B9.returns
  have hlk := B9.notSynchronized
  have hts := atoms_spec (ws := wsL_stateOf) B9.pre
  have hown : s.vm.findClass RL = some m.cls := findClass_of_methodNamed B9.named
  have S : CallFix p m c cL_stateOf 3 s _ wsL_stateOf RL := ⟨hx, hb, hml, hown, hts⟩
  have htb : c.exceptionTable.toList = tableOf [(0, 5, 6, 26)] := vx_table (x := yL_stateOf) B9 (hts (.codeWith yL_stateOf cL_stateOf 3 (some .int) [(0, 5, 6, 26)]) (by unfold wsL_stateOf; exact List.mem_cons_self))
  have hl := lv_entry ([.ref (a 0), .int (x)]) (n := 3) (Nat.le_of_ble_eq_true rfl)
  rw [lg_entry_eq]
  generalize (lg_sl ([.ref (a 0), .int (x)]) ++ List.replicate (3 - (lg_sl ([.ref (a 0), .int (x)])).length) Slot.unset).toArray = ls at hl ⊢
  have hl : lv_has ls 3 [(0, .ref (a 0)), (1, .int (x))] := hl
  subst hh0
  refine lv_aload_n hx hb dL_stateOf_0 rfl (lv_at hl 0 rfl) ?_
  refine lv_iload_n hx hb dL_stateOf_1 rfl (lv_at hl 1 rfl) ?_
  refine sa_kTry (sa_runExV (As := [.int (x)]) (rest := []) S (c_X0_stateOf_ex l lo hst G cI cZ cL a σ hI x (by rw [hj]; decide)) (cwV 1 hts gL_stateOf_X0_stateOf rfl rfl rfl (by decide +kernel) ⟨Nat.le_of_ble_eq_true rfl, Nat.le_of_ble_eq_true rfl⟩) hP hK hT (ci := 0) rfl rfl rfl hl.1 (Nat.le_of_ble_eq_true rfl) rfl dL_stateOf_2 ⟨Nat.le_refl _, Nat.le_refl _⟩) (fun E ce q9 H1 hE hz hk hce hcv hcl => ?_)
  have hE : ((sp_stateOf σ x).1, E) = ((1 : Nat), sa_E1) := List.mem_singleton.mp hE
  have hE1 : (sp_stateOf σ x).1 = 1 := congrArg Prod.fst hE
  have hE2 : E = sa_E1 := congrArg Prod.snd hE
  subst hE2
  refine vx_catch (own := RL) (name := sa_E1) hown [] ⟨0, 5, 6, 26⟩ [] htb (fun _ h => absurd h List.not_mem_nil) (by decide) (by decide) (hts (.classLink RL 26 sa_E1) (by decide +kernel)) (va_Nw.use rfl hT.2.2.2.2.2.1) hce hcv hcl ?_
  refine lv_astore_n (lv' := [(2, .ref q9), (0, .ref (a 0)), (1, .int (x))]) hx hb dL_stateOf_6 rfl hl (by decide) rfl (fun ls hl => ?_)
  refine lv_ldc (v := (-1000001)) hx hb hown (hts (.constant RL 28 (-1000001)) (by decide +kernel)) dL_stateOf_7 ?_
  exact W.iret (v := (-1000001)) hx hb hr (fun t9 ht _ => ⟨⟨(-1000001), (), rfl, rfl, by show s.heap.size < t9.heap.size; rw [ht]; exact hz⟩, by rw [ht]; exact Nat.le_of_lt hz, fun q8 h8 _ => by rw [ht]; exact hk q8 h8⟩) (fun _ h => nomatch h) dL_stateOf_9
set_option maxHeartbeats 4000000 in
set_option maxRecDepth 100000 in
theorem k_breakOf_e1 (l : Launch) (lo h0 : Nat) (hst : l.stackTraces = false) (G : va_G) (cI cZ cL : ClassId) (a : Nat → Nat) (σ : sa_St) (hI : sa_I σ) (x : Int32) (hj : (sp_breakOf σ x).1 = 1) : sa_Lx l yL_breakOf wsL_breakOf ({ frames := 9, cells := 1, slots := 6, locals := 153 }) lo h0 G cI cZ cL a σ [.ref (a 0), .int (x)] (-1000001) := by
  refine va_MetW (cc := cL_breakOf) (maxL := 3) (ret := (some .int)) (hh := [(0, 5, 6, 26)]) (by decide) rfl ?_
  intro p e s m args below meth c s₁ B9 hml hv
  obtain ⟨rfl, ⟨⟨hP, hK⟩, hT, hn21, hn32, hn31⟩, hh0⟩ := hv
  have hx := B9.exec
  have hb := B9.bytes
  have hr := B9.returns
  have hlk := B9.notSynchronized
  have hts := atoms_spec (ws := wsL_breakOf) B9.pre
  have hown : s.vm.findClass RL = some m.cls := findClass_of_methodNamed B9.named
  have S : CallFix p m c cL_breakOf 3 s _ wsL_breakOf RL := ⟨hx, hb, hml, hown, hts⟩
  have htb : c.exceptionTable.toList = tableOf [(0, 5, 6, 26)] := vx_table (x := yL_breakOf) B9 (hts (.codeWith yL_breakOf cL_breakOf 3 (some .int) [(0, 5, 6, 26)]) (by unfold wsL_breakOf; exact List.mem_cons_self))
  have hl := lv_entry ([.ref (a 0), .int (x)]) (n := 3) (Nat.le_of_ble_eq_true rfl)
  rw [lg_entry_eq]
  generalize (lg_sl ([.ref (a 0), .int (x)]) ++ List.replicate (3 - (lg_sl ([.ref (a 0), .int (x)])).length) Slot.unset).toArray = ls at hl ⊢
  have hl : lv_has ls 3 [(0, .ref (a 0)), (1, .int (x))] := hl
  subst hh0
  refine lv_aload_n hx hb dL_breakOf_0 rfl (lv_at hl 0 rfl) ?_
  refine lv_iload_n hx hb dL_breakOf_1 rfl (lv_at hl 1 rfl) ?_
  refine sa_kTry (sa_runExV (As := [.int (x)]) (rest := []) S (c_X0_breakOf_ex l lo hst G cI cZ cL a σ hI x (by rw [hj]; decide)) (cwV 1 hts gL_breakOf_X0_breakOf rfl rfl rfl (by decide +kernel) ⟨Nat.le_of_ble_eq_true rfl, Nat.le_of_ble_eq_true rfl⟩) hP hK hT (ci := 0) rfl rfl rfl hl.1 (Nat.le_of_ble_eq_true rfl) rfl dL_breakOf_2 ⟨Nat.le_refl _, Nat.le_refl _⟩) (fun E ce q9 H1 hE hz hk hce hcv hcl => ?_)
  have hE : ((sp_breakOf σ x).1, E) = ((1 : Nat), sa_E1) := List.mem_singleton.mp hE
  have hE1 : (sp_breakOf σ x).1 = 1 := congrArg Prod.fst hE
  have hE2 : E = sa_E1 := congrArg Prod.snd hE
  subst hE2
  refine vx_catch (own := RL) (name := sa_E1) hown [] ⟨0, 5, 6, 26⟩ [] htb (fun _ h => absurd h List.not_mem_nil) (by decide) (by decide) (hts (.classLink RL 26 sa_E1) (by decide +kernel)) (va_Nw.use rfl hT.2.2.2.2.2.1) hce hcv hcl ?_
  refine lv_astore_n (lv' := [(2, .ref q9), (0, .ref (a 0)), (1, .int (x))]) hx hb dL_breakOf_6 rfl hl (by decide) rfl (fun ls hl => ?_)
  refine lv_ldc (v := (-1000001)) hx hb hown (hts (.constant RL 28 (-1000001)) (by decide +kernel)) dL_breakOf_7 ?_
  exact W.iret (v := (-1000001)) hx hb hr (fun t9 ht _ => ⟨⟨(-1000001), (), rfl, rfl, by show s.heap.size < t9.heap.size; rw [ht]; exact hz⟩, by rw [ht]; exact Nat.le_of_lt hz, fun q8 h8 _ => by rw [ht]; exact hk q8 h8⟩) (fun _ h => nomatch h) dL_breakOf_9
set_option maxHeartbeats 4000000 in
set_option maxRecDepth 100000 in
theorem k_billTo_e1 (l : Launch) (lo h0 : Nat) (hst : l.stackTraces = false) (G : va_G) (cI cZ cL : ClassId) (a : Nat → Nat) (σ : sa_St) (hI : sa_I σ) (x : Int32) (hj : (sp_billTo σ x).1 = 1) : sa_Lx l yL_billTo wsL_billTo ({ frames := 8, cells := 1, slots := 6, locals := 133 }) lo h0 G cI cZ cL a σ [.ref (a 0), .int (x)] (-1000002) := by
  refine va_MetW (cc := cL_billTo) (maxL := 3) (ret := (some .int)) (hh := [(0, 5, 6, 16)]) (by decide) rfl ?_
  intro p e s m args below meth c s₁ B9 hml hv
  obtain ⟨rfl, ⟨⟨hP, hK⟩, hT, hn21, hn32, hn31⟩, hh0⟩ := hv
  have hx := B9.exec
  have hb := B9.bytes
  have hr := B9.returns
  have hlk := B9.notSynchronized
  have hts := atoms_spec (ws := wsL_billTo) B9.pre
  have hown : s.vm.findClass RL = some m.cls := findClass_of_methodNamed B9.named
  have S : CallFix p m c cL_billTo 3 s _ wsL_billTo RL := ⟨hx, hb, hml, hown, hts⟩
  have htb : c.exceptionTable.toList = tableOf [(0, 5, 6, 16)] := vx_table (x := yL_billTo) B9 (hts (.codeWith yL_billTo cL_billTo 3 (some .int) [(0, 5, 6, 16)]) (by unfold wsL_billTo; exact List.mem_cons_self))
  have hl := lv_entry ([.ref (a 0), .int (x)]) (n := 3) (Nat.le_of_ble_eq_true rfl)
  rw [lg_entry_eq]
  generalize (lg_sl ([.ref (a 0), .int (x)]) ++ List.replicate (3 - (lg_sl ([.ref (a 0), .int (x)])).length) Slot.unset).toArray = ls at hl ⊢
  have hl : lv_has ls 3 [(0, .ref (a 0)), (1, .int (x))] := hl
  subst hh0
  refine lv_aload_n hx hb dL_billTo_0 rfl (lv_at hl 0 rfl) ?_
  refine lv_iload_n hx hb dL_billTo_1 rfl (lv_at hl 1 rfl) ?_
  refine sa_kTry (sa_runExV (As := [.int (x)]) (rest := []) S (c_X0_billTo_ex l lo hst G cI cZ cL a σ hI x (by rw [hj]; decide)) (cwV 1 hts gL_billTo_X0_billTo rfl rfl rfl (by decide +kernel) ⟨Nat.le_of_ble_eq_true rfl, Nat.le_of_ble_eq_true rfl⟩) hP hK hT (ci := 0) rfl rfl rfl hl.1 (Nat.le_of_ble_eq_true rfl) rfl dL_billTo_2 ⟨Nat.le_refl _, Nat.le_refl _⟩) (fun E ce q9 H1 hE hz hk hce hcv hcl => ?_)
  have hE : ((sp_billTo σ x).1, E) = ((1 : Nat), sa_E2) := List.mem_singleton.mp hE
  have hE1 : (sp_billTo σ x).1 = 1 := congrArg Prod.fst hE
  have hE2 : E = sa_E2 := congrArg Prod.snd hE
  subst hE2
  refine vx_catch (own := RL) (name := sa_E2) hown [] ⟨0, 5, 6, 16⟩ [] htb (fun _ h => absurd h List.not_mem_nil) (by decide) (by decide) (hts (.classLink RL 16 sa_E2) (by decide +kernel)) (va_Nw.use rfl hT.2.2.2.2.2.2.1) hce hcv hcl ?_
  refine lv_astore_n (lv' := [(2, .ref q9), (0, .ref (a 0)), (1, .int (x))]) hx hb dL_billTo_6 rfl hl (by decide) rfl (fun ls hl => ?_)
  refine lv_ldc (v := (-1000002)) hx hb hown (hts (.constant RL 18 (-1000002)) (by decide +kernel)) dL_billTo_7 ?_
  exact W.iret (v := (-1000002)) hx hb hr (fun t9 ht _ => ⟨⟨(-1000002), (), rfl, rfl, by show s.heap.size < t9.heap.size; rw [ht]; exact hz⟩, by rw [ht]; exact Nat.le_of_lt hz, fun q8 h8 _ => by rw [ht]; exact hk q8 h8⟩) (fun _ h => nomatch h) dL_billTo_9
set_option maxHeartbeats 4000000 in
set_option maxRecDepth 100000 in
theorem k_delivered_e1 (l : Launch) (lo h0 : Nat) (hst : l.stackTraces = false) (G : va_G) (cI cZ cL : ClassId) (a : Nat → Nat) (σ : sa_St) (hI : sa_I σ) (o : Int32) (hj : (sp_delivered σ o).1 = 1) : sa_Lx l yL_delivered wsL_delivered ({ frames := 9, cells := 1, slots := 6, locals := 153 }) lo h0 G cI cZ cL a σ [.ref (a 0), .int (o)] (-1000001) := by
  refine va_MetW (cc := cL_delivered) (maxL := 3) (ret := (some .int)) (hh := [(0, 5, 6, 26)]) (by decide) rfl ?_
  intro p e s m args below meth c s₁ B9 hml hv
  obtain ⟨rfl, ⟨⟨hP, hK⟩, hT, hn21, hn32, hn31⟩, hh0⟩ := hv
  have hx := B9.exec
  have hb := B9.bytes
  have hr := B9.returns
  have hlk := B9.notSynchronized
  have hts := atoms_spec (ws := wsL_delivered) B9.pre
  have hown : s.vm.findClass RL = some m.cls := findClass_of_methodNamed B9.named
  have S : CallFix p m c cL_delivered 3 s _ wsL_delivered RL := ⟨hx, hb, hml, hown, hts⟩
  have htb : c.exceptionTable.toList = tableOf [(0, 5, 6, 26)] := vx_table (x := yL_delivered) B9 (hts (.codeWith yL_delivered cL_delivered 3 (some .int) [(0, 5, 6, 26)]) (by unfold wsL_delivered; exact List.mem_cons_self))
  have hl := lv_entry ([.ref (a 0), .int (o)]) (n := 3) (Nat.le_of_ble_eq_true rfl)
  rw [lg_entry_eq]
  generalize (lg_sl ([.ref (a 0), .int (o)]) ++ List.replicate (3 - (lg_sl ([.ref (a 0), .int (o)])).length) Slot.unset).toArray = ls at hl ⊢
  have hl : lv_has ls 3 [(0, .ref (a 0)), (1, .int (o))] := hl
  subst hh0
  refine lv_aload_n hx hb dL_delivered_0 rfl (lv_at hl 0 rfl) ?_
  refine lv_iload_n hx hb dL_delivered_1 rfl (lv_at hl 1 rfl) ?_
  refine sa_kTry (sa_runExV (As := [.int (o)]) (rest := []) S (c_X0_delivered_ex l lo hst G cI cZ cL a σ hI o (by rw [hj]; decide)) (cwV 1 hts gL_delivered_X0_delivered rfl rfl rfl (by decide +kernel) ⟨Nat.le_of_ble_eq_true rfl, Nat.le_of_ble_eq_true rfl⟩) hP hK hT (ci := 0) rfl rfl rfl hl.1 (Nat.le_of_ble_eq_true rfl) rfl dL_delivered_2 ⟨Nat.le_refl _, Nat.le_refl _⟩) (fun E ce q9 H1 hE hz hk hce hcv hcl => ?_)
  have hE : ((sp_delivered σ o).1, E) = ((1 : Nat), sa_E1) := List.mem_singleton.mp hE
  have hE1 : (sp_delivered σ o).1 = 1 := congrArg Prod.fst hE
  have hE2 : E = sa_E1 := congrArg Prod.snd hE
  subst hE2
  refine vx_catch (own := RL) (name := sa_E1) hown [] ⟨0, 5, 6, 26⟩ [] htb (fun _ h => absurd h List.not_mem_nil) (by decide) (by decide) (hts (.classLink RL 26 sa_E1) (by decide +kernel)) (va_Nw.use rfl hT.2.2.2.2.2.1) hce hcv hcl ?_
  refine lv_astore_n (lv' := [(2, .ref q9), (0, .ref (a 0)), (1, .int (o))]) hx hb dL_delivered_6 rfl hl (by decide) rfl (fun ls hl => ?_)
  refine lv_ldc (v := (-1000001)) hx hb hown (hts (.constant RL 28 (-1000001)) (by decide +kernel)) dL_delivered_7 ?_
  exact W.iret (v := (-1000001)) hx hb hr (fun t9 ht _ => ⟨⟨(-1000001), (), rfl, rfl, by show s.heap.size < t9.heap.size; rw [ht]; exact hz⟩, by rw [ht]; exact Nat.le_of_lt hz, fun q8 h8 _ => by rw [ht]; exact hk q8 h8⟩) (fun _ h => nomatch h) dL_delivered_9
set_option maxHeartbeats 4000000 in
set_option maxRecDepth 100000 in
theorem k_owed_e1 (l : Launch) (lo h0 : Nat) (hst : l.stackTraces = false) (G : va_G) (cI cZ cL : ClassId) (a : Nat → Nat) (σ : sa_St) (hI : sa_I σ) (o : Int32) (hj : (sp_owed σ o).1 = 1) : sa_Lx l yL_owed wsL_owed ({ frames := 9, cells := 1, slots := 6, locals := 153 }) lo h0 G cI cZ cL a σ [.ref (a 0), .int (o)] (-1000001) := by
  refine va_MetW (cc := cL_owed) (maxL := 3) (ret := (some .int)) (hh := [(0, 5, 6, 26)]) (by decide) rfl ?_
  intro p e s m args below meth c s₁ B9 hml hv
  obtain ⟨rfl, ⟨⟨hP, hK⟩, hT, hn21, hn32, hn31⟩, hh0⟩ := hv
  have hx := B9.exec
  have hb := B9.bytes
  have hr := B9.returns
  have hlk := B9.notSynchronized
  have hts := atoms_spec (ws := wsL_owed) B9.pre
  have hown : s.vm.findClass RL = some m.cls := findClass_of_methodNamed B9.named
  have S : CallFix p m c cL_owed 3 s _ wsL_owed RL := ⟨hx, hb, hml, hown, hts⟩
  have htb : c.exceptionTable.toList = tableOf [(0, 5, 6, 26)] := vx_table (x := yL_owed) B9 (hts (.codeWith yL_owed cL_owed 3 (some .int) [(0, 5, 6, 26)]) (by unfold wsL_owed; exact List.mem_cons_self))
  have hl := lv_entry ([.ref (a 0), .int (o)]) (n := 3) (Nat.le_of_ble_eq_true rfl)
  rw [lg_entry_eq]
  generalize (lg_sl ([.ref (a 0), .int (o)]) ++ List.replicate (3 - (lg_sl ([.ref (a 0), .int (o)])).length) Slot.unset).toArray = ls at hl ⊢
  have hl : lv_has ls 3 [(0, .ref (a 0)), (1, .int (o))] := hl
  subst hh0
  refine lv_aload_n hx hb dL_owed_0 rfl (lv_at hl 0 rfl) ?_
  refine lv_iload_n hx hb dL_owed_1 rfl (lv_at hl 1 rfl) ?_
  refine sa_kTry (sa_runExV (As := [.int (o)]) (rest := []) S (c_X0_owed_ex l lo hst G cI cZ cL a σ hI o (by rw [hj]; decide)) (cwV 1 hts gL_owed_X0_owed rfl rfl rfl (by decide +kernel) ⟨Nat.le_of_ble_eq_true rfl, Nat.le_of_ble_eq_true rfl⟩) hP hK hT (ci := 0) rfl rfl rfl hl.1 (Nat.le_of_ble_eq_true rfl) rfl dL_owed_2 ⟨Nat.le_refl _, Nat.le_refl _⟩) (fun E ce q9 H1 hE hz hk hce hcv hcl => ?_)
  have hE : ((sp_owed σ o).1, E) = ((1 : Nat), sa_E1) := List.mem_singleton.mp hE
  have hE1 : (sp_owed σ o).1 = 1 := congrArg Prod.fst hE
  have hE2 : E = sa_E1 := congrArg Prod.snd hE
  subst hE2
  refine vx_catch (own := RL) (name := sa_E1) hown [] ⟨0, 5, 6, 26⟩ [] htb (fun _ h => absurd h List.not_mem_nil) (by decide) (by decide) (hts (.classLink RL 26 sa_E1) (by decide +kernel)) (va_Nw.use rfl hT.2.2.2.2.2.1) hce hcv hcl ?_
  refine lv_astore_n (lv' := [(2, .ref q9), (0, .ref (a 0)), (1, .int (o))]) hx hb dL_owed_6 rfl hl (by decide) rfl (fun ls hl => ?_)
  refine lv_ldc (v := (-1000001)) hx hb hown (hts (.constant RL 28 (-1000001)) (by decide +kernel)) dL_owed_7 ?_
  exact W.iret (v := (-1000001)) hx hb hr (fun t9 ht _ => ⟨⟨(-1000001), (), rfl, rfl, by show s.heap.size < t9.heap.size; rw [ht]; exact hz⟩, by rw [ht]; exact Nat.le_of_lt hz, fun q8 h8 _ => by rw [ht]; exact hk q8 h8⟩) (fun _ h => nomatch h) dL_owed_9
set_option maxHeartbeats 4000000 in
set_option maxRecDepth 100000 in
theorem k_rest_e1 (l : Launch) (lo h0 : Nat) (hst : l.stackTraces = false) (G : va_G) (cI cZ cL : ClassId) (a : Nat → Nat) (σ : sa_St) (hI : sa_I σ) (o : Int32) (hj : (sp_rest σ o).1 = 1) : sa_Lx l yL_rest wsL_rest ({ frames := 9, cells := 1, slots := 6, locals := 153 }) lo h0 G cI cZ cL a σ [.ref (a 0), .int (o)] (-1000001) := by
  refine va_MetW (cc := cL_rest) (maxL := 3) (ret := (some .int)) (hh := [(0, 5, 6, 26)]) (by decide) rfl ?_
  intro p e s m args below meth c s₁ B9 hml hv
  obtain ⟨rfl, ⟨⟨hP, hK⟩, hT, hn21, hn32, hn31⟩, hh0⟩ := hv
  have hx := B9.exec
  have hb := B9.bytes
  have hr := B9.returns
  have hlk := B9.notSynchronized
  have hts := atoms_spec (ws := wsL_rest) B9.pre
  have hown : s.vm.findClass RL = some m.cls := findClass_of_methodNamed B9.named
  have S : CallFix p m c cL_rest 3 s _ wsL_rest RL := ⟨hx, hb, hml, hown, hts⟩
  have htb : c.exceptionTable.toList = tableOf [(0, 5, 6, 26)] := vx_table (x := yL_rest) B9 (hts (.codeWith yL_rest cL_rest 3 (some .int) [(0, 5, 6, 26)]) (by unfold wsL_rest; exact List.mem_cons_self))
  have hl := lv_entry ([.ref (a 0), .int (o)]) (n := 3) (Nat.le_of_ble_eq_true rfl)
  rw [lg_entry_eq]
  generalize (lg_sl ([.ref (a 0), .int (o)]) ++ List.replicate (3 - (lg_sl ([.ref (a 0), .int (o)])).length) Slot.unset).toArray = ls at hl ⊢
  have hl : lv_has ls 3 [(0, .ref (a 0)), (1, .int (o))] := hl
  subst hh0
  refine lv_aload_n hx hb dL_rest_0 rfl (lv_at hl 0 rfl) ?_
  refine lv_iload_n hx hb dL_rest_1 rfl (lv_at hl 1 rfl) ?_
  refine sa_kTry (sa_runExV (As := [.int (o)]) (rest := []) S (c_X0_rest_ex l lo hst G cI cZ cL a σ hI o (by rw [hj]; decide)) (cwV 1 hts gL_rest_X0_rest rfl rfl rfl (by decide +kernel) ⟨Nat.le_of_ble_eq_true rfl, Nat.le_of_ble_eq_true rfl⟩) hP hK hT (ci := 0) rfl rfl rfl hl.1 (Nat.le_of_ble_eq_true rfl) rfl dL_rest_2 ⟨Nat.le_refl _, Nat.le_refl _⟩) (fun E ce q9 H1 hE hz hk hce hcv hcl => ?_)
  have hE : ((sp_rest σ o).1, E) = ((1 : Nat), sa_E1) := List.mem_singleton.mp hE
  have hE1 : (sp_rest σ o).1 = 1 := congrArg Prod.fst hE
  have hE2 : E = sa_E1 := congrArg Prod.snd hE
  subst hE2
  refine vx_catch (own := RL) (name := sa_E1) hown [] ⟨0, 5, 6, 26⟩ [] htb (fun _ h => absurd h List.not_mem_nil) (by decide) (by decide) (hts (.classLink RL 26 sa_E1) (by decide +kernel)) (va_Nw.use rfl hT.2.2.2.2.2.1) hce hcv hcl ?_
  refine lv_astore_n (lv' := [(2, .ref q9), (0, .ref (a 0)), (1, .int (o))]) hx hb dL_rest_6 rfl hl (by decide) rfl (fun ls hl => ?_)
  refine lv_ldc (v := (-1000001)) hx hb hown (hts (.constant RL 28 (-1000001)) (by decide +kernel)) dL_rest_7 ?_
  exact W.iret (v := (-1000001)) hx hb hr (fun t9 ht _ => ⟨⟨(-1000001), (), rfl, rfl, by show s.heap.size < t9.heap.size; rw [ht]; exact hz⟩, by rw [ht]; exact Nat.le_of_lt hz, fun q8 h8 _ => by rw [ht]; exact hk q8 h8⟩) (fun _ h => nomatch h) dL_rest_9
set_option maxHeartbeats 4000000 in
set_option maxRecDepth 100000 in
theorem k_bill_e1 (l : Launch) (lo h0 : Nat) (hst : l.stackTraces = false) (G : va_G) (cI cZ cL : ClassId) (a : Nat → Nat) (σ : sa_St) (hI : sa_I σ) (o : Int32) (hj : (sp_bill σ o).1 = 1) : sa_Lx l yL_bill wsL_bill ({ frames := 9, cells := 1, slots := 6, locals := 153 }) lo h0 G cI cZ cL a σ [.ref (a 0), .int (o)] (-1000001) := by
  refine va_MetW (cc := cL_bill) (maxL := 3) (ret := (some .int)) (hh := [(0, 5, 6, 26)]) (by decide) rfl ?_
  intro p e s m args below meth c s₁ B9 hml hv
  obtain ⟨rfl, ⟨⟨hP, hK⟩, hT, hn21, hn32, hn31⟩, hh0⟩ := hv
  have hx := B9.exec
  have hb := B9.bytes
  have hr := B9.returns
  have hlk := B9.notSynchronized
  have hts := atoms_spec (ws := wsL_bill) B9.pre
  have hown : s.vm.findClass RL = some m.cls := findClass_of_methodNamed B9.named
  have S : CallFix p m c cL_bill 3 s _ wsL_bill RL := ⟨hx, hb, hml, hown, hts⟩
  have htb : c.exceptionTable.toList = tableOf [(0, 5, 6, 26)] := vx_table (x := yL_bill) B9 (hts (.codeWith yL_bill cL_bill 3 (some .int) [(0, 5, 6, 26)]) (by unfold wsL_bill; exact List.mem_cons_self))
  have hl := lv_entry ([.ref (a 0), .int (o)]) (n := 3) (Nat.le_of_ble_eq_true rfl)
  rw [lg_entry_eq]
  generalize (lg_sl ([.ref (a 0), .int (o)]) ++ List.replicate (3 - (lg_sl ([.ref (a 0), .int (o)])).length) Slot.unset).toArray = ls at hl ⊢
  have hl : lv_has ls 3 [(0, .ref (a 0)), (1, .int (o))] := hl
  subst hh0
  refine lv_aload_n hx hb dL_bill_0 rfl (lv_at hl 0 rfl) ?_
  refine lv_iload_n hx hb dL_bill_1 rfl (lv_at hl 1 rfl) ?_
  refine sa_kTry (sa_runExV (As := [.int (o)]) (rest := []) S (c_X0_bill_ex l lo hst G cI cZ cL a σ hI o (by rw [hj]; decide)) (cwV 1 hts gL_bill_X0_bill rfl rfl rfl (by decide +kernel) ⟨Nat.le_of_ble_eq_true rfl, Nat.le_of_ble_eq_true rfl⟩) hP hK hT (ci := 0) rfl rfl rfl hl.1 (Nat.le_of_ble_eq_true rfl) rfl dL_bill_2 ⟨Nat.le_refl _, Nat.le_refl _⟩) (fun E ce q9 H1 hE hz hk hce hcv hcl => ?_)
  have hE : ((sp_bill σ o).1, E) = ((1 : Nat), sa_E1) := List.mem_singleton.mp hE
  have hE1 : (sp_bill σ o).1 = 1 := congrArg Prod.fst hE
  have hE2 : E = sa_E1 := congrArg Prod.snd hE
  subst hE2
  refine vx_catch (own := RL) (name := sa_E1) hown [] ⟨0, 5, 6, 26⟩ [] htb (fun _ h => absurd h List.not_mem_nil) (by decide) (by decide) (hts (.classLink RL 26 sa_E1) (by decide +kernel)) (va_Nw.use rfl hT.2.2.2.2.2.1) hce hcv hcl ?_
  refine lv_astore_n (lv' := [(2, .ref q9), (0, .ref (a 0)), (1, .int (o))]) hx hb dL_bill_6 rfl hl (by decide) rfl (fun ls hl => ?_)
  refine lv_ldc (v := (-1000001)) hx hb hown (hts (.constant RL 28 (-1000001)) (by decide +kernel)) dL_bill_7 ?_
  exact W.iret (v := (-1000001)) hx hb hr (fun t9 ht _ => ⟨⟨(-1000001), (), rfl, rfl, by show s.heap.size < t9.heap.size; rw [ht]; exact hz⟩, by rw [ht]; exact Nat.le_of_lt hz, fun q8 h8 _ => by rw [ht]; exact hk q8 h8⟩) (fun _ h => nomatch h) dL_bill_9
