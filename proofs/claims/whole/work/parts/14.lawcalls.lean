set_option maxHeartbeats 4000000 in
set_option maxRecDepth 100000 in
theorem k_addBreak_ok (l : Launch) (G : va_G) (cI cZ cL : ClassId) (a : Nat → Nat) (σ : sa_St) (w : Nat) (g : Nat → Int64) (hI : sa_I σ) (hJ : sa_J a) (hw : ¬ sa_A a w) (x : Int32) (h0 : (sp_addBreak σ x).1 = 0) : sa_Lo l yL_addBreak wsL_addBreak ({ frames := 8, cells := 0, slots := 0, locals := 132 }) G cI cZ cL a σ w g [.ref (a 0), .int (x), .ref w] (sp_addBreak σ x).2.1 (sp_addBreak σ x).2.2 := by
  obtain ⟨h1, h2, h3⟩ := sa_go_ok h0
  have hsp : sp_addBreak σ x = (0, _) := sa_go0 h1 h2 h3
  rw [hsp]
  refine va_MetW (cc := cL_addBreak) (maxL := 4) (ret := (some .int)) (hh := [(0, 9, 12, 13), (0, 9, 15, 15)]) (by decide) rfl ?_
  intro p e s m args below meth c s₁ B9 hml hv
  obtain ⟨rfl, hP, hO, hK⟩ := hv
  have hx := B9.exec
  have hb := B9.bytes
  have hr := B9.returns
  have hlk := B9.notSynchronized
  have hts := atoms_spec (ws := wsL_addBreak) B9.pre
  have hown : s.vm.findClass RL = some m.cls := findClass_of_methodNamed B9.named
  have S : CallFix p m c cL_addBreak 4 s _ wsL_addBreak RL := ⟨hx, hb, hml, hown, hts⟩
  have hS : va_S (sa_B a w) s.heap s.heap [] := va_S.rf
  have hl := lv_entry ([.ref (a 0), .int (x), .ref w]) (n := 4) (Nat.le_of_ble_eq_true rfl)
  rw [lg_entry_eq]
  generalize (lg_sl ([.ref (a 0), .int (x), .ref w]) ++ List.replicate (4 - (lg_sl ([.ref (a 0), .int (x), .ref w])).length) Slot.unset).toArray = ls at hl ⊢
  have hl : lv_has ls 4 [(0, .ref (a 0)), (1, .int (x)), (2, .ref w)] := hl
  refine lv_aload_n hx hb dL_addBreak_0 rfl (lv_at hl 2 rfl) ?_
  refine lv_iconst (v := 0) hx hb dL_addBreak_1 (by decide) ?_
  refine lv_aload_n hx hb dL_addBreak_2 rfl (lv_at hl 0 rfl) ?_
  refine lv_iload_n hx hb dL_addBreak_3 rfl (lv_at hl 1 rfl) ?_
  refine sa_kWr (As := [.int (x)]) (rest := [.int (0), .ref w]) S (c_X0_addBreak_ok l G cI cZ cL a σ hI x hJ h1 h2) (cwV 1 hts gL_addBreak_X0_addBreak rfl rfl rfl (by decide +kernel) ⟨Nat.le_of_ble_eq_true rfl, Nat.le_of_ble_eq_true rfl⟩) hP hK hS (fun _ h => Or.inl h) (ci := 0) rfl rfl rfl hl.1 (Nat.le_of_ble_eq_true rfl) rfl dL_addBreak_4 ⟨Nat.zero_le _, Nat.zero_le _⟩ (fun H locs hP hS hz9 hk9 => ?_)
  have hO := sa_okeep hO hw hk9
  refine lv_i2l hx hb dL_addBreak_7 rfl ?_
  refine sa_lst S hK hP hO hJ hw hS dL_addBreak_8 (fun H locs g1 hg1 hP hO hS => ?_)
  refine lv_goto (tgt := 18) hx hb dL_addBreak_9 (by decide) ?_
  refine lv_iconst (v := 0) hx hb dL_addBreak_18 (by decide) ?_
  exact W.iret (v := 0) hx hb hr (fun t9 ht _ => ⟨⟨0, g1, rfl, ⟨rfl, hg1⟩, by rw [ht]; exact hP, by rw [ht]; exact hO⟩, hS.F ht⟩) hS.2.2 dL_addBreak_19
set_option maxHeartbeats 4000000 in
set_option maxRecDepth 100000 in
theorem k_addBreak_ex (l : Launch) (lo : Nat) (hst : l.stackTraces = false) (G : va_G) (cI cZ cL : ClassId) (a : Nat → Nat) (σ : sa_St) (w : Nat) (hI : sa_I σ) (x : Int32) (hne : ¬ (sp_addBreak σ x).1 = 0) : sa_Lx l yL_addBreak wsL_addBreak ({ frames := 8, cells := 1, slots := 6, locals := 132 }) lo G cI cZ cL a σ [.ref (a 0), .int (x), .ref w] (sp_addBreak σ x).1 := by
  refine va_MetW (cc := cL_addBreak) (maxL := 4) (ret := (some .int)) (hh := [(0, 9, 12, 13), (0, 9, 15, 15)]) (by decide) rfl ?_
  intro p e s m args below meth c s₁ B9 hml hv
  obtain ⟨rfl, ⟨hP, hK⟩, hT, hn21, hn32, hn31⟩ := hv
  have hx := B9.exec
  have hb := B9.bytes
  have hr := B9.returns
  have hlk := B9.notSynchronized
  have hts := atoms_spec (ws := wsL_addBreak) B9.pre
  have hown : s.vm.findClass RL = some m.cls := findClass_of_methodNamed B9.named
  have S : CallFix p m c cL_addBreak 4 s _ wsL_addBreak RL := ⟨hx, hb, hml, hown, hts⟩
  have htb : c.exceptionTable.toList = tableOf [(0, 9, 12, 13), (0, 9, 15, 15)] := vx_table (x := yL_addBreak) B9 (hts (.codeWith yL_addBreak cL_addBreak 4 (some .int) [(0, 9, 12, 13), (0, 9, 15, 15)]) (by unfold wsL_addBreak; exact List.mem_cons_self))
  have hl := lv_entry ([.ref (a 0), .int (x), .ref w]) (n := 4) (Nat.le_of_ble_eq_true rfl)
  rw [lg_entry_eq]
  generalize (lg_sl ([.ref (a 0), .int (x), .ref w]) ++ List.replicate (4 - (lg_sl ([.ref (a 0), .int (x), .ref w])).length) Slot.unset).toArray = ls at hl ⊢
  have hl : lv_has ls 4 [(0, .ref (a 0)), (1, .int (x)), (2, .ref w)] := hl
  refine lv_aload_n hx hb dL_addBreak_0 rfl (lv_at hl 2 rfl) ?_
  refine lv_iconst (v := 0) hx hb dL_addBreak_1 (by decide) ?_
  refine lv_aload_n hx hb dL_addBreak_2 rfl (lv_at hl 0 rfl) ?_
  refine lv_iload_n hx hb dL_addBreak_3 rfl (lv_at hl 1 rfl) ?_
  refine sa_kTry (sa_runExV (As := [.int (x)]) (rest := [.int (0), .ref w]) S (c_X0_addBreak_ex l lo hst G cI cZ cL a σ hI x hne) (cwV 1 hts gL_addBreak_X0_addBreak rfl rfl rfl (by decide +kernel) ⟨Nat.le_of_ble_eq_true rfl, Nat.le_of_ble_eq_true rfl⟩) hP hK hT (ci := 0) rfl rfl rfl hl.1 (Nat.le_of_ble_eq_true rfl) rfl dL_addBreak_4 ⟨Nat.le_refl _, Nat.le_refl _⟩) (fun E ce q9 H1 hE hz hk hce hcv hcl => ?_)
  rcases List.mem_cons.mp hE with hE | hE
  · skip
    have hE1 : (sp_addBreak σ x).1 = 1 := congrArg Prod.fst hE
    have hE2 : E = sa_E2 := congrArg Prod.snd hE
    subst hE2
    refine vx_catch (own := RL) (name := sa_E2) hown [] ⟨0, 9, 12, 13⟩ [⟨0, 9, 15, 15⟩] htb (fun _ h => absurd h List.not_mem_nil) (by decide) (by decide) (hts (.classLink RL 13 sa_E2) (by decide +kernel)) (va_Nw.use rfl hT.2.2.2.2.2.2.1) hce hcv hcl ?_
    refine lv_astore_n (lv' := [(3, .ref q9), (0, .ref (a 0)), (1, .int (x)), (2, .ref w)]) hx hb dL_addBreak_12 rfl hl (by decide) rfl (fun ls hl => ?_)
    refine lv_iconst (v := 1) hx hb dL_addBreak_13 (by decide) ?_
    exact W.iret (v := 1) hx hb hr (fun t9 ht _ => ⟨⟨1, (), rfl, by rw [hE1]; rfl, trivial⟩, by rw [ht]; exact hz, fun q8 h8 _ => by rw [ht]; exact hk q8 h8⟩) (fun _ h => nomatch h) dL_addBreak_14
  · skip
    have hE := List.mem_singleton.mp hE
    have hE1 : (sp_addBreak σ x).1 = 2 := congrArg Prod.fst hE
    have hE2 : E = sa_E3 := congrArg Prod.snd hE
    subst hE2
    refine vx_catch (own := RL) (name := sa_E3) hown [⟨0, 9, 12, 13⟩] ⟨0, 9, 15, 15⟩ [] htb (List.forall_mem_cons.mpr ⟨(Or.inr ⟨by decide, sa_E2, hts (.classLink RL 13 sa_E2) (by decide +kernel), hn32⟩), (fun _ h => absurd h List.not_mem_nil)⟩) (by decide) (by decide) (hts (.classLink RL 15 sa_E3) (by decide +kernel)) (va_Nw.use rfl hT.2.2.2.2.2.2.2.1) hce hcv hcl ?_
    refine lv_astore_n (lv' := [(3, .ref q9), (0, .ref (a 0)), (1, .int (x)), (2, .ref w)]) hx hb dL_addBreak_15 rfl hl (by decide) rfl (fun ls hl => ?_)
    refine lv_iconst (v := 2) hx hb dL_addBreak_16 (by decide) ?_
    exact W.iret (v := 2) hx hb hr (fun t9 ht _ => ⟨⟨2, (), rfl, by rw [hE1]; rfl, trivial⟩, by rw [ht]; exact hz, fun q8 h8 _ => by rw [ht]; exact hk q8 h8⟩) (fun _ h => nomatch h) dL_addBreak_17

set_option maxHeartbeats 4000000 in
set_option maxRecDepth 100000 in
theorem k_rate_ok (l : Launch) (G : va_G) (cI cZ cL : ClassId) (a : Nat → Nat) (σ : sa_St) (w : Nat) (g : Nat → Int64) (hI : sa_I σ) (hJ : sa_J a) (hw : ¬ sa_A a w) (at' gr v : Int32) (h0 : (sp_rate σ at' gr v).1 = 0) : sa_Lo l yL_rate wsL_rate ({ frames := 9, cells := 0, slots := 0, locals := 157 }) G cI cZ cL a σ w g [.ref (a 0), .int (at'), .int (gr), .int (v), .ref w] (sp_rate σ at' gr v).2.1 (sp_rate σ at' gr v).2.2 := by
  obtain ⟨h1, h2, h3⟩ := sa_go_ok h0
  have hsp : sp_rate σ at' gr v = (0, _) := sa_go0 h1 h2 h3
  rw [hsp]
  refine va_MetW (cc := cL_rate) (maxL := 6) (ret := (some .int)) (hh := [(0, 12, 15, 21), (0, 12, 19, 13)]) (by decide) rfl ?_
  intro p e s m args below meth c s₁ B9 hml hv
  obtain ⟨rfl, hP, hO, hK⟩ := hv
  have hx := B9.exec
  have hb := B9.bytes
  have hr := B9.returns
  have hlk := B9.notSynchronized
  have hts := atoms_spec (ws := wsL_rate) B9.pre
  have hown : s.vm.findClass RL = some m.cls := findClass_of_methodNamed B9.named
  have S : CallFix p m c cL_rate 6 s _ wsL_rate RL := ⟨hx, hb, hml, hown, hts⟩
  have hS : va_S (sa_B a w) s.heap s.heap [] := va_S.rf
  have hl := lv_entry ([.ref (a 0), .int (at'), .int (gr), .int (v), .ref w]) (n := 6) (Nat.le_of_ble_eq_true rfl)
  rw [lg_entry_eq]
  generalize (lg_sl ([.ref (a 0), .int (at'), .int (gr), .int (v), .ref w]) ++ List.replicate (6 - (lg_sl ([.ref (a 0), .int (at'), .int (gr), .int (v), .ref w])).length) Slot.unset).toArray = ls at hl ⊢
  have hl : lv_has ls 6 [(0, .ref (a 0)), (1, .int (at')), (2, .int (gr)), (3, .int (v)), (4, .ref w)] := hl
  refine lv_aload hx hb dL_rate_0 (lv_at hl 4 rfl) ?_
  refine lv_iconst (v := 0) hx hb dL_rate_2 (by decide) ?_
  refine lv_aload_n hx hb dL_rate_3 rfl (lv_at hl 0 rfl) ?_
  refine lv_iload_n hx hb dL_rate_4 rfl (lv_at hl 1 rfl) ?_
  refine lv_iload_n hx hb dL_rate_5 rfl (lv_at hl 2 rfl) ?_
  refine lv_iload_n hx hb dL_rate_6 rfl (lv_at hl 3 rfl) ?_
  refine sa_kWr (As := [.int (at'), .int (gr), .int (v)]) (rest := [.int (0), .ref w]) S (c_X0_rate_ok l G cI cZ cL a σ hI at' gr v hJ h1 h2) (cwV 3 hts gL_rate_X0_rate rfl rfl rfl (by decide +kernel) ⟨Nat.le_of_ble_eq_true rfl, Nat.le_of_ble_eq_true rfl⟩) hP hK hS (fun _ h => Or.inl h) (ci := 0) rfl rfl rfl hl.1 (Nat.le_of_ble_eq_true rfl) rfl dL_rate_7 ⟨Nat.zero_le _, Nat.zero_le _⟩ (fun H locs hP hS hz9 hk9 => ?_)
  have hO := sa_okeep hO hw hk9
  refine lv_i2l hx hb dL_rate_10 rfl ?_
  refine sa_lst S hK hP hO hJ hw hS dL_rate_11 (fun H locs g1 hg1 hP hO hS => ?_)
  refine lv_goto (tgt := 23) hx hb dL_rate_12 (by decide) ?_
  refine lv_iconst (v := 0) hx hb dL_rate_23 (by decide) ?_
  exact W.iret (v := 0) hx hb hr (fun t9 ht _ => ⟨⟨0, g1, rfl, ⟨rfl, hg1⟩, by rw [ht]; exact hP, by rw [ht]; exact hO⟩, hS.F ht⟩) hS.2.2 dL_rate_24
set_option maxHeartbeats 4000000 in
set_option maxRecDepth 100000 in
theorem k_rate_ex (l : Launch) (lo : Nat) (hst : l.stackTraces = false) (G : va_G) (cI cZ cL : ClassId) (a : Nat → Nat) (σ : sa_St) (w : Nat) (hI : sa_I σ) (at' gr v : Int32) (hne : ¬ (sp_rate σ at' gr v).1 = 0) : sa_Lx l yL_rate wsL_rate ({ frames := 9, cells := 1, slots := 6, locals := 157 }) lo G cI cZ cL a σ [.ref (a 0), .int (at'), .int (gr), .int (v), .ref w] (sp_rate σ at' gr v).1 := by
  refine va_MetW (cc := cL_rate) (maxL := 6) (ret := (some .int)) (hh := [(0, 12, 15, 21), (0, 12, 19, 13)]) (by decide) rfl ?_
  intro p e s m args below meth c s₁ B9 hml hv
  obtain ⟨rfl, ⟨hP, hK⟩, hT, hn21, hn32, hn31⟩ := hv
  have hx := B9.exec
  have hb := B9.bytes
  have hr := B9.returns
  have hlk := B9.notSynchronized
  have hts := atoms_spec (ws := wsL_rate) B9.pre
  have hown : s.vm.findClass RL = some m.cls := findClass_of_methodNamed B9.named
  have S : CallFix p m c cL_rate 6 s _ wsL_rate RL := ⟨hx, hb, hml, hown, hts⟩
  have htb : c.exceptionTable.toList = tableOf [(0, 12, 15, 21), (0, 12, 19, 13)] := vx_table (x := yL_rate) B9 (hts (.codeWith yL_rate cL_rate 6 (some .int) [(0, 12, 15, 21), (0, 12, 19, 13)]) (by unfold wsL_rate; exact List.mem_cons_self))
  have hl := lv_entry ([.ref (a 0), .int (at'), .int (gr), .int (v), .ref w]) (n := 6) (Nat.le_of_ble_eq_true rfl)
  rw [lg_entry_eq]
  generalize (lg_sl ([.ref (a 0), .int (at'), .int (gr), .int (v), .ref w]) ++ List.replicate (6 - (lg_sl ([.ref (a 0), .int (at'), .int (gr), .int (v), .ref w])).length) Slot.unset).toArray = ls at hl ⊢
  have hl : lv_has ls 6 [(0, .ref (a 0)), (1, .int (at')), (2, .int (gr)), (3, .int (v)), (4, .ref w)] := hl
  refine lv_aload hx hb dL_rate_0 (lv_at hl 4 rfl) ?_
  refine lv_iconst (v := 0) hx hb dL_rate_2 (by decide) ?_
  refine lv_aload_n hx hb dL_rate_3 rfl (lv_at hl 0 rfl) ?_
  refine lv_iload_n hx hb dL_rate_4 rfl (lv_at hl 1 rfl) ?_
  refine lv_iload_n hx hb dL_rate_5 rfl (lv_at hl 2 rfl) ?_
  refine lv_iload_n hx hb dL_rate_6 rfl (lv_at hl 3 rfl) ?_
  refine sa_kTry (sa_runExV (As := [.int (at'), .int (gr), .int (v)]) (rest := [.int (0), .ref w]) S (c_X0_rate_ex l lo hst G cI cZ cL a σ hI at' gr v hne) (cwV 3 hts gL_rate_X0_rate rfl rfl rfl (by decide +kernel) ⟨Nat.le_of_ble_eq_true rfl, Nat.le_of_ble_eq_true rfl⟩) hP hK hT (ci := 0) rfl rfl rfl hl.1 (Nat.le_of_ble_eq_true rfl) rfl dL_rate_7 ⟨Nat.le_refl _, Nat.le_refl _⟩) (fun E ce q9 H1 hE hz hk hce hcv hcl => ?_)
  rcases List.mem_cons.mp hE with hE | hE
  · skip
    have hE1 : (sp_rate σ at' gr v).1 = 1 := congrArg Prod.fst hE
    have hE2 : E = sa_E1 := congrArg Prod.snd hE
    subst hE2
    refine vx_catch (own := RL) (name := sa_E1) hown [] ⟨0, 12, 15, 21⟩ [⟨0, 12, 19, 13⟩] htb (fun _ h => absurd h List.not_mem_nil) (by decide) (by decide) (hts (.classLink RL 21 sa_E1) (by decide +kernel)) (va_Nw.use rfl hT.2.2.2.2.2.1) hce hcv hcl ?_
    refine lv_astore (lv' := [(5, .ref q9), (0, .ref (a 0)), (1, .int (at')), (2, .int (gr)), (3, .int (v)), (4, .ref w)]) hx hb dL_rate_15 hl (by decide) rfl (fun ls hl => ?_)
    refine lv_iconst (v := 1) hx hb dL_rate_17 (by decide) ?_
    exact W.iret (v := 1) hx hb hr (fun t9 ht _ => ⟨⟨1, (), rfl, by rw [hE1]; rfl, trivial⟩, by rw [ht]; exact hz, fun q8 h8 _ => by rw [ht]; exact hk q8 h8⟩) (fun _ h => nomatch h) dL_rate_18
  · skip
    have hE := List.mem_singleton.mp hE
    have hE1 : (sp_rate σ at' gr v).1 = 2 := congrArg Prod.fst hE
    have hE2 : E = sa_E2 := congrArg Prod.snd hE
    subst hE2
    refine vx_catch (own := RL) (name := sa_E2) hown [⟨0, 12, 15, 21⟩] ⟨0, 12, 19, 13⟩ [] htb (List.forall_mem_cons.mpr ⟨(Or.inr ⟨by decide, sa_E1, hts (.classLink RL 21 sa_E1) (by decide +kernel), hn21⟩), (fun _ h => absurd h List.not_mem_nil)⟩) (by decide) (by decide) (hts (.classLink RL 13 sa_E2) (by decide +kernel)) (va_Nw.use rfl hT.2.2.2.2.2.2.1) hce hcv hcl ?_
    refine lv_astore (lv' := [(5, .ref q9), (0, .ref (a 0)), (1, .int (at')), (2, .int (gr)), (3, .int (v)), (4, .ref w)]) hx hb dL_rate_19 hl (by decide) rfl (fun ls hl => ?_)
    refine lv_iconst (v := 2) hx hb dL_rate_21 (by decide) ?_
    exact W.iret (v := 2) hx hb hr (fun t9 ht _ => ⟨⟨2, (), rfl, by rw [hE1]; rfl, trivial⟩, by rw [ht]; exact hz, fun q8 h8 _ => by rw [ht]; exact hk q8 h8⟩) (fun _ h => nomatch h) dL_rate_22

set_option maxHeartbeats 4000000 in
set_option maxRecDepth 100000 in
theorem k_air_ok (l : Launch) (G : va_G) (cI cZ cL : ClassId) (a : Nat → Nat) (σ : sa_St) (w : Nat) (g : Nat → Int64) (hI : sa_I σ) (hJ : sa_J a) (hw : ¬ sa_A a w) (at' : Int32) (h0 : (sp_air σ at').1 = 0) : sa_Lo l yL_air wsL_air ({ frames := 9, cells := 0, slots := 0, locals := 155 }) G cI cZ cL a σ w g [.ref (a 0), .int (at'), .ref w] (sp_air σ at').2.1 (sp_air σ at').2.2 := by
  obtain ⟨h1, h2, h3⟩ := sa_go_ok h0
  have hsp : sp_air σ at' = (0, _) := sa_go0 h1 h2 h3
  rw [hsp]
  refine va_MetW (cc := cL_air) (maxL := 4) (ret := (some .int)) (hh := [(0, 9, 12, 21), (0, 9, 15, 15)]) (by decide) rfl ?_
  intro p e s m args below meth c s₁ B9 hml hv
  obtain ⟨rfl, hP, hO, hK⟩ := hv
  have hx := B9.exec
  have hb := B9.bytes
  have hr := B9.returns
  have hlk := B9.notSynchronized
  have hts := atoms_spec (ws := wsL_air) B9.pre
  have hown : s.vm.findClass RL = some m.cls := findClass_of_methodNamed B9.named
  have S : CallFix p m c cL_air 4 s _ wsL_air RL := ⟨hx, hb, hml, hown, hts⟩
  have hS : va_S (sa_B a w) s.heap s.heap [] := va_S.rf
  have hl := lv_entry ([.ref (a 0), .int (at'), .ref w]) (n := 4) (Nat.le_of_ble_eq_true rfl)
  rw [lg_entry_eq]
  generalize (lg_sl ([.ref (a 0), .int (at'), .ref w]) ++ List.replicate (4 - (lg_sl ([.ref (a 0), .int (at'), .ref w])).length) Slot.unset).toArray = ls at hl ⊢
  have hl : lv_has ls 4 [(0, .ref (a 0)), (1, .int (at')), (2, .ref w)] := hl
  refine lv_aload_n hx hb dL_air_0 rfl (lv_at hl 2 rfl) ?_
  refine lv_iconst (v := 0) hx hb dL_air_1 (by decide) ?_
  refine lv_aload_n hx hb dL_air_2 rfl (lv_at hl 0 rfl) ?_
  refine lv_iload_n hx hb dL_air_3 rfl (lv_at hl 1 rfl) ?_
  refine sa_kWr (As := [.int (at')]) (rest := [.int (0), .ref w]) S (c_X0_air_ok l G cI cZ cL a σ hI at' hJ h1 h2) (cwV 1 hts gL_air_X0_air rfl rfl rfl (by decide +kernel) ⟨Nat.le_of_ble_eq_true rfl, Nat.le_of_ble_eq_true rfl⟩) hP hK hS (fun _ h => Or.inl h) (ci := 0) rfl rfl rfl hl.1 (Nat.le_of_ble_eq_true rfl) rfl dL_air_4 ⟨Nat.zero_le _, Nat.zero_le _⟩ (fun H locs hP hS hz9 hk9 => ?_)
  have hO := sa_okeep hO hw hk9
  refine lv_i2l hx hb dL_air_7 rfl ?_
  refine sa_lst S hK hP hO hJ hw hS dL_air_8 (fun H locs g1 hg1 hP hO hS => ?_)
  refine lv_goto (tgt := 18) hx hb dL_air_9 (by decide) ?_
  refine lv_iconst (v := 0) hx hb dL_air_18 (by decide) ?_
  exact W.iret (v := 0) hx hb hr (fun t9 ht _ => ⟨⟨0, g1, rfl, ⟨rfl, hg1⟩, by rw [ht]; exact hP, by rw [ht]; exact hO⟩, hS.F ht⟩) hS.2.2 dL_air_19
set_option maxHeartbeats 4000000 in
set_option maxRecDepth 100000 in
theorem k_air_ex (l : Launch) (lo : Nat) (hst : l.stackTraces = false) (G : va_G) (cI cZ cL : ClassId) (a : Nat → Nat) (σ : sa_St) (w : Nat) (hI : sa_I σ) (at' : Int32) (hne : ¬ (sp_air σ at').1 = 0) : sa_Lx l yL_air wsL_air ({ frames := 9, cells := 1, slots := 6, locals := 155 }) lo G cI cZ cL a σ [.ref (a 0), .int (at'), .ref w] (sp_air σ at').1 := by
  refine va_MetW (cc := cL_air) (maxL := 4) (ret := (some .int)) (hh := [(0, 9, 12, 21), (0, 9, 15, 15)]) (by decide) rfl ?_
  intro p e s m args below meth c s₁ B9 hml hv
  obtain ⟨rfl, ⟨hP, hK⟩, hT, hn21, hn32, hn31⟩ := hv
  have hx := B9.exec
  have hb := B9.bytes
  have hr := B9.returns
  have hlk := B9.notSynchronized
  have hts := atoms_spec (ws := wsL_air) B9.pre
  have hown : s.vm.findClass RL = some m.cls := findClass_of_methodNamed B9.named
  have S : CallFix p m c cL_air 4 s _ wsL_air RL := ⟨hx, hb, hml, hown, hts⟩
  have htb : c.exceptionTable.toList = tableOf [(0, 9, 12, 21), (0, 9, 15, 15)] := vx_table (x := yL_air) B9 (hts (.codeWith yL_air cL_air 4 (some .int) [(0, 9, 12, 21), (0, 9, 15, 15)]) (by unfold wsL_air; exact List.mem_cons_self))
  have hl := lv_entry ([.ref (a 0), .int (at'), .ref w]) (n := 4) (Nat.le_of_ble_eq_true rfl)
  rw [lg_entry_eq]
  generalize (lg_sl ([.ref (a 0), .int (at'), .ref w]) ++ List.replicate (4 - (lg_sl ([.ref (a 0), .int (at'), .ref w])).length) Slot.unset).toArray = ls at hl ⊢
  have hl : lv_has ls 4 [(0, .ref (a 0)), (1, .int (at')), (2, .ref w)] := hl
  refine lv_aload_n hx hb dL_air_0 rfl (lv_at hl 2 rfl) ?_
  refine lv_iconst (v := 0) hx hb dL_air_1 (by decide) ?_
  refine lv_aload_n hx hb dL_air_2 rfl (lv_at hl 0 rfl) ?_
  refine lv_iload_n hx hb dL_air_3 rfl (lv_at hl 1 rfl) ?_
  refine sa_kTry (sa_runExV (As := [.int (at')]) (rest := [.int (0), .ref w]) S (c_X0_air_ex l lo hst G cI cZ cL a σ hI at' hne) (cwV 1 hts gL_air_X0_air rfl rfl rfl (by decide +kernel) ⟨Nat.le_of_ble_eq_true rfl, Nat.le_of_ble_eq_true rfl⟩) hP hK hT (ci := 0) rfl rfl rfl hl.1 (Nat.le_of_ble_eq_true rfl) rfl dL_air_4 ⟨Nat.le_refl _, Nat.le_refl _⟩) (fun E ce q9 H1 hE hz hk hce hcv hcl => ?_)
  rcases List.mem_cons.mp hE with hE | hE
  · skip
    have hE1 : (sp_air σ at').1 = 1 := congrArg Prod.fst hE
    have hE2 : E = sa_E1 := congrArg Prod.snd hE
    subst hE2
    refine vx_catch (own := RL) (name := sa_E1) hown [] ⟨0, 9, 12, 21⟩ [⟨0, 9, 15, 15⟩] htb (fun _ h => absurd h List.not_mem_nil) (by decide) (by decide) (hts (.classLink RL 21 sa_E1) (by decide +kernel)) (va_Nw.use rfl hT.2.2.2.2.2.1) hce hcv hcl ?_
    refine lv_astore_n (lv' := [(3, .ref q9), (0, .ref (a 0)), (1, .int (at')), (2, .ref w)]) hx hb dL_air_12 rfl hl (by decide) rfl (fun ls hl => ?_)
    refine lv_iconst (v := 1) hx hb dL_air_13 (by decide) ?_
    exact W.iret (v := 1) hx hb hr (fun t9 ht _ => ⟨⟨1, (), rfl, by rw [hE1]; rfl, trivial⟩, by rw [ht]; exact hz, fun q8 h8 _ => by rw [ht]; exact hk q8 h8⟩) (fun _ h => nomatch h) dL_air_14
  · skip
    have hE := List.mem_singleton.mp hE
    have hE1 : (sp_air σ at').1 = 2 := congrArg Prod.fst hE
    have hE2 : E = sa_E3 := congrArg Prod.snd hE
    subst hE2
    refine vx_catch (own := RL) (name := sa_E3) hown [⟨0, 9, 12, 21⟩] ⟨0, 9, 15, 15⟩ [] htb (List.forall_mem_cons.mpr ⟨(Or.inr ⟨by decide, sa_E1, hts (.classLink RL 21 sa_E1) (by decide +kernel), hn31⟩), (fun _ h => absurd h List.not_mem_nil)⟩) (by decide) (by decide) (hts (.classLink RL 15 sa_E3) (by decide +kernel)) (va_Nw.use rfl hT.2.2.2.2.2.2.2.1) hce hcv hcl ?_
    refine lv_astore_n (lv' := [(3, .ref q9), (0, .ref (a 0)), (1, .int (at')), (2, .ref w)]) hx hb dL_air_15 rfl hl (by decide) rfl (fun ls hl => ?_)
    refine lv_iconst (v := 2) hx hb dL_air_16 (by decide) ?_
    exact W.iret (v := 2) hx hb hr (fun t9 ht _ => ⟨⟨2, (), rfl, by rw [hE1]; rfl, trivial⟩, by rw [ht]; exact hz, fun q8 h8 _ => by rw [ht]; exact hk q8 h8⟩) (fun _ h => nomatch h) dL_air_17

set_option maxHeartbeats 4000000 in
set_option maxRecDepth 100000 in
theorem k_isAired_ok (l : Launch) (G : va_G) (cI cZ cL : ClassId) (a : Nat → Nat) (σ : sa_St) (w : Nat) (g : Nat → Int64) (hI : sa_I σ) (hJ : sa_J a) (hw : ¬ sa_A a w) (at' : Int32) (h0 : (sp_isAired σ at').1 = 0) : sa_Lo l yL_isAired wsL_isAired ({ frames := 9, cells := 0, slots := 0, locals := 153 }) G cI cZ cL a σ w g [.ref (a 0), .int (at'), .ref w] (sp_isAired σ at').2.1 (sp_isAired σ at').2.2 := by
  obtain ⟨h1, h2, h3⟩ := sa_go_ok h0
  have hsp : sp_isAired σ at' = (0, _) := sa_go0 h1 h2 h3
  rw [hsp]
  refine va_MetW (cc := cL_isAired) (maxL := 4) (ret := (some .int)) (hh := [(0, 16, 19, 21)]) (by decide) rfl ?_
  intro p e s m args below meth c s₁ B9 hml hv
  obtain ⟨rfl, hP, hO, hK⟩ := hv
  have hx := B9.exec
  have hb := B9.bytes
  have hr := B9.returns
  have hlk := B9.notSynchronized
  have hts := atoms_spec (ws := wsL_isAired) B9.pre
  have hown : s.vm.findClass RL = some m.cls := findClass_of_methodNamed B9.named
  have S : CallFix p m c cL_isAired 4 s _ wsL_isAired RL := ⟨hx, hb, hml, hown, hts⟩
  have hS : va_S (sa_B a w) s.heap s.heap [] := va_S.rf
  have hl := lv_entry ([.ref (a 0), .int (at'), .ref w]) (n := 4) (Nat.le_of_ble_eq_true rfl)
  rw [lg_entry_eq]
  generalize (lg_sl ([.ref (a 0), .int (at'), .ref w]) ++ List.replicate (4 - (lg_sl ([.ref (a 0), .int (at'), .ref w])).length) Slot.unset).toArray = ls at hl ⊢
  have hl : lv_has ls 4 [(0, .ref (a 0)), (1, .int (at')), (2, .ref w)] := hl
  refine lv_aload_n hx hb dL_isAired_0 rfl (lv_at hl 2 rfl) ?_
  refine lv_iconst (v := 0) hx hb dL_isAired_1 (by decide) ?_
  refine lv_aload_n hx hb dL_isAired_2 rfl (lv_at hl 0 rfl) ?_
  refine lv_iload_n hx hb dL_isAired_3 rfl (lv_at hl 1 rfl) ?_
  refine sa_kRd (As := [.int (at')]) (rest := [.int (0), .ref w]) S (c_X0_isAired_ok l G cI cZ cL a σ hI at' h1) (cwV 1 hts gL_isAired_X0_isAired rfl rfl rfl (by decide +kernel) ⟨Nat.le_of_ble_eq_true rfl, Nat.le_of_ble_eq_true rfl⟩) hP hK (ci := 0) rfl rfl rfl hl.1 (Nat.le_of_ble_eq_true rfl) rfl dL_isAired_4 ⟨Nat.zero_le _, Nat.zero_le _⟩ ?_
  refine lv_if_eq (tgt := 14) hx hb dL_isAired_7 (by decide) (fun c_9 => ?_) (fun c_9 => ?_)
  · skip
    refine lv_lconst (v := 0) hx hb dL_isAired_14 (by decide) ?_
    refine sa_lst S hK hP hO hJ hw hS dL_isAired_15 (fun H locs g1 hg1 hP hO hS => ?_)
    refine lv_goto (tgt := 22) hx hb dL_isAired_16 (by decide) ?_
    refine lv_iconst (v := 0) hx hb dL_isAired_22 (by decide) ?_
    exact W.iret (v := 0) hx hb hr (fun t9 ht _ => ⟨⟨0, g1, rfl, ⟨rfl, (by show g1 0 = (σ.2 2 at'.toNatClampNeg).toInt64; rw [hg1, c_9]; rfl)⟩, by rw [ht]; exact hP, by rw [ht]; exact hO⟩, hS.F ht⟩) hS.2.2 dL_isAired_23
  · skip
    refine lv_lconst (v := 1) hx hb dL_isAired_10 (by decide) ?_
    refine lv_goto (tgt := 15) hx hb dL_isAired_11 (by decide) ?_
    refine sa_lst S hK hP hO hJ hw hS dL_isAired_15 (fun H locs g1 hg1 hP hO hS => ?_)
    refine lv_goto (tgt := 22) hx hb dL_isAired_16 (by decide) ?_
    refine lv_iconst (v := 0) hx hb dL_isAired_22 (by decide) ?_
    exact W.iret (v := 0) hx hb hr (fun t9 ht _ => ⟨⟨0, g1, rfl, ⟨rfl, (by show g1 0 = (σ.2 2 at'.toNatClampNeg).toInt64; rw [hg1, Or.resolve_left (hI.2.2.2.2.2.2 _) c_9]; rfl)⟩, by rw [ht]; exact hP, by rw [ht]; exact hO⟩, hS.F ht⟩) hS.2.2 dL_isAired_23
set_option maxHeartbeats 4000000 in
set_option maxRecDepth 100000 in
theorem k_isAired_ex (l : Launch) (lo : Nat) (hst : l.stackTraces = false) (G : va_G) (cI cZ cL : ClassId) (a : Nat → Nat) (σ : sa_St) (w : Nat) (hI : sa_I σ) (at' : Int32) (hne : ¬ (sp_isAired σ at').1 = 0) : sa_Lx l yL_isAired wsL_isAired ({ frames := 9, cells := 1, slots := 6, locals := 153 }) lo G cI cZ cL a σ [.ref (a 0), .int (at'), .ref w] (sp_isAired σ at').1 := by
  refine va_MetW (cc := cL_isAired) (maxL := 4) (ret := (some .int)) (hh := [(0, 16, 19, 21)]) (by decide) rfl ?_
  intro p e s m args below meth c s₁ B9 hml hv
  obtain ⟨rfl, ⟨hP, hK⟩, hT, hn21, hn32, hn31⟩ := hv
  have hx := B9.exec
  have hb := B9.bytes
  have hr := B9.returns
  have hlk := B9.notSynchronized
  have hts := atoms_spec (ws := wsL_isAired) B9.pre
  have hown : s.vm.findClass RL = some m.cls := findClass_of_methodNamed B9.named
  have S : CallFix p m c cL_isAired 4 s _ wsL_isAired RL := ⟨hx, hb, hml, hown, hts⟩
  have htb : c.exceptionTable.toList = tableOf [(0, 16, 19, 21)] := vx_table (x := yL_isAired) B9 (hts (.codeWith yL_isAired cL_isAired 4 (some .int) [(0, 16, 19, 21)]) (by unfold wsL_isAired; exact List.mem_cons_self))
  have hl := lv_entry ([.ref (a 0), .int (at'), .ref w]) (n := 4) (Nat.le_of_ble_eq_true rfl)
  rw [lg_entry_eq]
  generalize (lg_sl ([.ref (a 0), .int (at'), .ref w]) ++ List.replicate (4 - (lg_sl ([.ref (a 0), .int (at'), .ref w])).length) Slot.unset).toArray = ls at hl ⊢
  have hl : lv_has ls 4 [(0, .ref (a 0)), (1, .int (at')), (2, .ref w)] := hl
  refine lv_aload_n hx hb dL_isAired_0 rfl (lv_at hl 2 rfl) ?_
  refine lv_iconst (v := 0) hx hb dL_isAired_1 (by decide) ?_
  refine lv_aload_n hx hb dL_isAired_2 rfl (lv_at hl 0 rfl) ?_
  refine lv_iload_n hx hb dL_isAired_3 rfl (lv_at hl 1 rfl) ?_
  refine sa_kTry (sa_runExV (As := [.int (at')]) (rest := [.int (0), .ref w]) S (c_X0_isAired_ex l lo hst G cI cZ cL a σ hI at' hne) (cwV 1 hts gL_isAired_X0_isAired rfl rfl rfl (by decide +kernel) ⟨Nat.le_of_ble_eq_true rfl, Nat.le_of_ble_eq_true rfl⟩) hP hK hT (ci := 0) rfl rfl rfl hl.1 (Nat.le_of_ble_eq_true rfl) rfl dL_isAired_4 ⟨Nat.le_refl _, Nat.le_refl _⟩) (fun E ce q9 H1 hE hz hk hce hcv hcl => ?_)
  have hE : ((sp_isAired σ at').1, E) = ((1 : Nat), sa_E1) := List.mem_singleton.mp hE
  have hE1 : (sp_isAired σ at').1 = 1 := congrArg Prod.fst hE
  have hE2 : E = sa_E1 := congrArg Prod.snd hE
  subst hE2
  refine vx_catch (own := RL) (name := sa_E1) hown [] ⟨0, 16, 19, 21⟩ [] htb (fun _ h => absurd h List.not_mem_nil) (by decide) (by decide) (hts (.classLink RL 21 sa_E1) (by decide +kernel)) (va_Nw.use rfl hT.2.2.2.2.2.1) hce hcv hcl ?_
  refine lv_astore_n (lv' := [(3, .ref q9), (0, .ref (a 0)), (1, .int (at')), (2, .ref w)]) hx hb dL_isAired_19 rfl hl (by decide) rfl (fun ls hl => ?_)
  refine lv_iconst (v := 1) hx hb dL_isAired_20 (by decide) ?_
  exact W.iret (v := 1) hx hb hr (fun t9 ht _ => ⟨⟨1, (), rfl, by rw [hE1]; rfl, trivial⟩, by rw [ht]; exact hz, fun q8 h8 _ => by rw [ht]; exact hk q8 h8⟩) (fun _ h => nomatch h) dL_isAired_21

set_option maxHeartbeats 4000000 in
set_option maxRecDepth 100000 in
theorem k_room_ok (l : Launch) (G : va_G) (cI cZ cL : ClassId) (a : Nat → Nat) (σ : sa_St) (w : Nat) (g : Nat → Int64) (hI : sa_I σ) (hJ : sa_J a) (hw : ¬ sa_A a w) (at' : Int32) (h0 : (sp_room σ at').1 = 0) : sa_Lo l yL_room wsL_room ({ frames := 9, cells := 0, slots := 0, locals := 153 }) G cI cZ cL a σ w g [.ref (a 0), .int (at'), .ref w] (sp_room σ at').2.1 (sp_room σ at').2.2 := by
  obtain ⟨h1, h2, h3⟩ := sa_go_ok h0
  have hsp : sp_room σ at' = (0, _) := sa_go0 h1 h2 h3
  rw [hsp]
  refine va_MetW (cc := cL_room) (maxL := 4) (ret := (some .int)) (hh := [(0, 9, 12, 21)]) (by decide) rfl ?_
  intro p e s m args below meth c s₁ B9 hml hv
  obtain ⟨rfl, hP, hO, hK⟩ := hv
  have hx := B9.exec
  have hb := B9.bytes
  have hr := B9.returns
  have hlk := B9.notSynchronized
  have hts := atoms_spec (ws := wsL_room) B9.pre
  have hown : s.vm.findClass RL = some m.cls := findClass_of_methodNamed B9.named
  have S : CallFix p m c cL_room 4 s _ wsL_room RL := ⟨hx, hb, hml, hown, hts⟩
  have hS : va_S (sa_B a w) s.heap s.heap [] := va_S.rf
  have hl := lv_entry ([.ref (a 0), .int (at'), .ref w]) (n := 4) (Nat.le_of_ble_eq_true rfl)
  rw [lg_entry_eq]
  generalize (lg_sl ([.ref (a 0), .int (at'), .ref w]) ++ List.replicate (4 - (lg_sl ([.ref (a 0), .int (at'), .ref w])).length) Slot.unset).toArray = ls at hl ⊢
  have hl : lv_has ls 4 [(0, .ref (a 0)), (1, .int (at')), (2, .ref w)] := hl
  refine lv_aload_n hx hb dL_room_0 rfl (lv_at hl 2 rfl) ?_
  refine lv_iconst (v := 0) hx hb dL_room_1 (by decide) ?_
  refine lv_aload_n hx hb dL_room_2 rfl (lv_at hl 0 rfl) ?_
  refine lv_iload_n hx hb dL_room_3 rfl (lv_at hl 1 rfl) ?_
  refine sa_kRd (As := [.int (at')]) (rest := [.int (0), .ref w]) S (c_X0_room_ok l G cI cZ cL a σ hI at' h1) (cwV 1 hts gL_room_X0_room rfl rfl rfl (by decide +kernel) ⟨Nat.le_of_ble_eq_true rfl, Nat.le_of_ble_eq_true rfl⟩) hP hK (ci := 0) rfl rfl rfl hl.1 (Nat.le_of_ble_eq_true rfl) rfl dL_room_4 ⟨Nat.zero_le _, Nat.zero_le _⟩ ?_
  refine lv_i2l hx hb dL_room_7 rfl ?_
  refine sa_lst S hK hP hO hJ hw hS dL_room_8 (fun H locs g1 hg1 hP hO hS => ?_)
  refine lv_goto (tgt := 15) hx hb dL_room_9 (by decide) ?_
  refine lv_iconst (v := 0) hx hb dL_room_15 (by decide) ?_
  exact W.iret (v := 0) hx hb hr (fun t9 ht _ => ⟨⟨0, g1, rfl, ⟨rfl, hg1⟩, by rw [ht]; exact hP, by rw [ht]; exact hO⟩, hS.F ht⟩) hS.2.2 dL_room_16
set_option maxHeartbeats 4000000 in
set_option maxRecDepth 100000 in
theorem k_room_ex (l : Launch) (lo : Nat) (hst : l.stackTraces = false) (G : va_G) (cI cZ cL : ClassId) (a : Nat → Nat) (σ : sa_St) (w : Nat) (hI : sa_I σ) (at' : Int32) (hne : ¬ (sp_room σ at').1 = 0) : sa_Lx l yL_room wsL_room ({ frames := 9, cells := 1, slots := 6, locals := 153 }) lo G cI cZ cL a σ [.ref (a 0), .int (at'), .ref w] (sp_room σ at').1 := by
  refine va_MetW (cc := cL_room) (maxL := 4) (ret := (some .int)) (hh := [(0, 9, 12, 21)]) (by decide) rfl ?_
  intro p e s m args below meth c s₁ B9 hml hv
  obtain ⟨rfl, ⟨hP, hK⟩, hT, hn21, hn32, hn31⟩ := hv
  have hx := B9.exec
  have hb := B9.bytes
  have hr := B9.returns
  have hlk := B9.notSynchronized
  have hts := atoms_spec (ws := wsL_room) B9.pre
  have hown : s.vm.findClass RL = some m.cls := findClass_of_methodNamed B9.named
  have S : CallFix p m c cL_room 4 s _ wsL_room RL := ⟨hx, hb, hml, hown, hts⟩
  have htb : c.exceptionTable.toList = tableOf [(0, 9, 12, 21)] := vx_table (x := yL_room) B9 (hts (.codeWith yL_room cL_room 4 (some .int) [(0, 9, 12, 21)]) (by unfold wsL_room; exact List.mem_cons_self))
  have hl := lv_entry ([.ref (a 0), .int (at'), .ref w]) (n := 4) (Nat.le_of_ble_eq_true rfl)
  rw [lg_entry_eq]
  generalize (lg_sl ([.ref (a 0), .int (at'), .ref w]) ++ List.replicate (4 - (lg_sl ([.ref (a 0), .int (at'), .ref w])).length) Slot.unset).toArray = ls at hl ⊢
  have hl : lv_has ls 4 [(0, .ref (a 0)), (1, .int (at')), (2, .ref w)] := hl
  refine lv_aload_n hx hb dL_room_0 rfl (lv_at hl 2 rfl) ?_
  refine lv_iconst (v := 0) hx hb dL_room_1 (by decide) ?_
  refine lv_aload_n hx hb dL_room_2 rfl (lv_at hl 0 rfl) ?_
  refine lv_iload_n hx hb dL_room_3 rfl (lv_at hl 1 rfl) ?_
  refine sa_kTry (sa_runExV (As := [.int (at')]) (rest := [.int (0), .ref w]) S (c_X0_room_ex l lo hst G cI cZ cL a σ hI at' hne) (cwV 1 hts gL_room_X0_room rfl rfl rfl (by decide +kernel) ⟨Nat.le_of_ble_eq_true rfl, Nat.le_of_ble_eq_true rfl⟩) hP hK hT (ci := 0) rfl rfl rfl hl.1 (Nat.le_of_ble_eq_true rfl) rfl dL_room_4 ⟨Nat.le_refl _, Nat.le_refl _⟩) (fun E ce q9 H1 hE hz hk hce hcv hcl => ?_)
  have hE : ((sp_room σ at').1, E) = ((1 : Nat), sa_E1) := List.mem_singleton.mp hE
  have hE1 : (sp_room σ at').1 = 1 := congrArg Prod.fst hE
  have hE2 : E = sa_E1 := congrArg Prod.snd hE
  subst hE2
  refine vx_catch (own := RL) (name := sa_E1) hown [] ⟨0, 9, 12, 21⟩ [] htb (fun _ h => absurd h List.not_mem_nil) (by decide) (by decide) (hts (.classLink RL 21 sa_E1) (by decide +kernel)) (va_Nw.use rfl hT.2.2.2.2.2.1) hce hcv hcl ?_
  refine lv_astore_n (lv' := [(3, .ref q9), (0, .ref (a 0)), (1, .int (at')), (2, .ref w)]) hx hb dL_room_12 rfl hl (by decide) rfl (fun ls hl => ?_)
  refine lv_iconst (v := 1) hx hb dL_room_13 (by decide) ?_
  exact W.iret (v := 1) hx hb hr (fun t9 ht _ => ⟨⟨1, (), rfl, by rw [hE1]; rfl, trivial⟩, by rw [ht]; exact hz, fun q8 h8 _ => by rw [ht]; exact hk q8 h8⟩) (fun _ h => nomatch h) dL_room_14

set_option maxHeartbeats 4000000 in
set_option maxRecDepth 100000 in
theorem k_rating_ok (l : Launch) (G : va_G) (cI cZ cL : ClassId) (a : Nat → Nat) (σ : sa_St) (w : Nat) (g : Nat → Int64) (hI : sa_I σ) (hJ : sa_J a) (hw : ¬ sa_A a w) (at' gr : Int32) (h0 : (sp_rating σ at' gr).1 = 0) : sa_Lo l yL_rating wsL_rating ({ frames := 9, cells := 0, slots := 0, locals := 154 }) G cI cZ cL a σ w g [.ref (a 0), .int (at'), .int (gr), .ref w] (sp_rating σ at' gr).2.1 (sp_rating σ at' gr).2.2 := by
  obtain ⟨h1, h2, h3⟩ := sa_go_ok h0
  have hsp : sp_rating σ at' gr = (0, _) := sa_go0 h1 h2 h3
  rw [hsp]
  refine va_MetW (cc := cL_rating) (maxL := 5) (ret := (some .int)) (hh := [(0, 10, 13, 21), (0, 10, 17, 13)]) (by decide) rfl ?_
  intro p e s m args below meth c s₁ B9 hml hv
  obtain ⟨rfl, hP, hO, hK⟩ := hv
  have hx := B9.exec
  have hb := B9.bytes
  have hr := B9.returns
  have hlk := B9.notSynchronized
  have hts := atoms_spec (ws := wsL_rating) B9.pre
  have hown : s.vm.findClass RL = some m.cls := findClass_of_methodNamed B9.named
  have S : CallFix p m c cL_rating 5 s _ wsL_rating RL := ⟨hx, hb, hml, hown, hts⟩
  have hS : va_S (sa_B a w) s.heap s.heap [] := va_S.rf
  have hl := lv_entry ([.ref (a 0), .int (at'), .int (gr), .ref w]) (n := 5) (Nat.le_of_ble_eq_true rfl)
  rw [lg_entry_eq]
  generalize (lg_sl ([.ref (a 0), .int (at'), .int (gr), .ref w]) ++ List.replicate (5 - (lg_sl ([.ref (a 0), .int (at'), .int (gr), .ref w])).length) Slot.unset).toArray = ls at hl ⊢
  have hl : lv_has ls 5 [(0, .ref (a 0)), (1, .int (at')), (2, .int (gr)), (3, .ref w)] := hl
  refine lv_aload_n hx hb dL_rating_0 rfl (lv_at hl 3 rfl) ?_
  refine lv_iconst (v := 0) hx hb dL_rating_1 (by decide) ?_
  refine lv_aload_n hx hb dL_rating_2 rfl (lv_at hl 0 rfl) ?_
  refine lv_iload_n hx hb dL_rating_3 rfl (lv_at hl 1 rfl) ?_
  refine lv_iload_n hx hb dL_rating_4 rfl (lv_at hl 2 rfl) ?_
  refine sa_kRd (As := [.int (at'), .int (gr)]) (rest := [.int (0), .ref w]) S (c_X0_rating_ok l G cI cZ cL a σ hI at' gr h1 h2) (cwV 2 hts gL_rating_X0_rating rfl rfl rfl (by decide +kernel) ⟨Nat.le_of_ble_eq_true rfl, Nat.le_of_ble_eq_true rfl⟩) hP hK (ci := 0) rfl rfl rfl hl.1 (Nat.le_of_ble_eq_true rfl) rfl dL_rating_5 ⟨Nat.zero_le _, Nat.zero_le _⟩ ?_
  refine lv_i2l hx hb dL_rating_8 rfl ?_
  refine sa_lst S hK hP hO hJ hw hS dL_rating_9 (fun H locs g1 hg1 hP hO hS => ?_)
  refine lv_goto (tgt := 21) hx hb dL_rating_10 (by decide) ?_
  refine lv_iconst (v := 0) hx hb dL_rating_21 (by decide) ?_
  exact W.iret (v := 0) hx hb hr (fun t9 ht _ => ⟨⟨0, g1, rfl, ⟨rfl, hg1⟩, by rw [ht]; exact hP, by rw [ht]; exact hO⟩, hS.F ht⟩) hS.2.2 dL_rating_22
set_option maxHeartbeats 4000000 in
set_option maxRecDepth 100000 in
theorem k_rating_ex (l : Launch) (lo : Nat) (hst : l.stackTraces = false) (G : va_G) (cI cZ cL : ClassId) (a : Nat → Nat) (σ : sa_St) (w : Nat) (hI : sa_I σ) (at' gr : Int32) (hne : ¬ (sp_rating σ at' gr).1 = 0) : sa_Lx l yL_rating wsL_rating ({ frames := 9, cells := 1, slots := 6, locals := 154 }) lo G cI cZ cL a σ [.ref (a 0), .int (at'), .int (gr), .ref w] (sp_rating σ at' gr).1 := by
  refine va_MetW (cc := cL_rating) (maxL := 5) (ret := (some .int)) (hh := [(0, 10, 13, 21), (0, 10, 17, 13)]) (by decide) rfl ?_
  intro p e s m args below meth c s₁ B9 hml hv
  obtain ⟨rfl, ⟨hP, hK⟩, hT, hn21, hn32, hn31⟩ := hv
  have hx := B9.exec
  have hb := B9.bytes
  have hr := B9.returns
  have hlk := B9.notSynchronized
  have hts := atoms_spec (ws := wsL_rating) B9.pre
  have hown : s.vm.findClass RL = some m.cls := findClass_of_methodNamed B9.named
  have S : CallFix p m c cL_rating 5 s _ wsL_rating RL := ⟨hx, hb, hml, hown, hts⟩
  have htb : c.exceptionTable.toList = tableOf [(0, 10, 13, 21), (0, 10, 17, 13)] := vx_table (x := yL_rating) B9 (hts (.codeWith yL_rating cL_rating 5 (some .int) [(0, 10, 13, 21), (0, 10, 17, 13)]) (by unfold wsL_rating; exact List.mem_cons_self))
  have hl := lv_entry ([.ref (a 0), .int (at'), .int (gr), .ref w]) (n := 5) (Nat.le_of_ble_eq_true rfl)
  rw [lg_entry_eq]
  generalize (lg_sl ([.ref (a 0), .int (at'), .int (gr), .ref w]) ++ List.replicate (5 - (lg_sl ([.ref (a 0), .int (at'), .int (gr), .ref w])).length) Slot.unset).toArray = ls at hl ⊢
  have hl : lv_has ls 5 [(0, .ref (a 0)), (1, .int (at')), (2, .int (gr)), (3, .ref w)] := hl
  refine lv_aload_n hx hb dL_rating_0 rfl (lv_at hl 3 rfl) ?_
  refine lv_iconst (v := 0) hx hb dL_rating_1 (by decide) ?_
  refine lv_aload_n hx hb dL_rating_2 rfl (lv_at hl 0 rfl) ?_
  refine lv_iload_n hx hb dL_rating_3 rfl (lv_at hl 1 rfl) ?_
  refine lv_iload_n hx hb dL_rating_4 rfl (lv_at hl 2 rfl) ?_
  refine sa_kTry (sa_runExV (As := [.int (at'), .int (gr)]) (rest := [.int (0), .ref w]) S (c_X0_rating_ex l lo hst G cI cZ cL a σ hI at' gr hne) (cwV 2 hts gL_rating_X0_rating rfl rfl rfl (by decide +kernel) ⟨Nat.le_of_ble_eq_true rfl, Nat.le_of_ble_eq_true rfl⟩) hP hK hT (ci := 0) rfl rfl rfl hl.1 (Nat.le_of_ble_eq_true rfl) rfl dL_rating_5 ⟨Nat.le_refl _, Nat.le_refl _⟩) (fun E ce q9 H1 hE hz hk hce hcv hcl => ?_)
  rcases List.mem_cons.mp hE with hE | hE
  · skip
    have hE1 : (sp_rating σ at' gr).1 = 1 := congrArg Prod.fst hE
    have hE2 : E = sa_E1 := congrArg Prod.snd hE
    subst hE2
    refine vx_catch (own := RL) (name := sa_E1) hown [] ⟨0, 10, 13, 21⟩ [⟨0, 10, 17, 13⟩] htb (fun _ h => absurd h List.not_mem_nil) (by decide) (by decide) (hts (.classLink RL 21 sa_E1) (by decide +kernel)) (va_Nw.use rfl hT.2.2.2.2.2.1) hce hcv hcl ?_
    refine lv_astore (lv' := [(4, .ref q9), (0, .ref (a 0)), (1, .int (at')), (2, .int (gr)), (3, .ref w)]) hx hb dL_rating_13 hl (by decide) rfl (fun ls hl => ?_)
    refine lv_iconst (v := 1) hx hb dL_rating_15 (by decide) ?_
    exact W.iret (v := 1) hx hb hr (fun t9 ht _ => ⟨⟨1, (), rfl, by rw [hE1]; rfl, trivial⟩, by rw [ht]; exact hz, fun q8 h8 _ => by rw [ht]; exact hk q8 h8⟩) (fun _ h => nomatch h) dL_rating_16
  · skip
    have hE := List.mem_singleton.mp hE
    have hE1 : (sp_rating σ at' gr).1 = 2 := congrArg Prod.fst hE
    have hE2 : E = sa_E2 := congrArg Prod.snd hE
    subst hE2
    refine vx_catch (own := RL) (name := sa_E2) hown [⟨0, 10, 13, 21⟩] ⟨0, 10, 17, 13⟩ [] htb (List.forall_mem_cons.mpr ⟨(Or.inr ⟨by decide, sa_E1, hts (.classLink RL 21 sa_E1) (by decide +kernel), hn21⟩), (fun _ h => absurd h List.not_mem_nil)⟩) (by decide) (by decide) (hts (.classLink RL 13 sa_E2) (by decide +kernel)) (va_Nw.use rfl hT.2.2.2.2.2.2.1) hce hcv hcl ?_
    refine lv_astore (lv' := [(4, .ref q9), (0, .ref (a 0)), (1, .int (at')), (2, .int (gr)), (3, .ref w)]) hx hb dL_rating_17 hl (by decide) rfl (fun ls hl => ?_)
    refine lv_iconst (v := 2) hx hb dL_rating_19 (by decide) ?_
    exact W.iret (v := 2) hx hb hr (fun t9 ht _ => ⟨⟨2, (), rfl, by rw [hE1]; rfl, trivial⟩, by rw [ht]; exact hz, fun q8 h8 _ => by rw [ht]; exact hk q8 h8⟩) (fun _ h => nomatch h) dL_rating_20

set_option maxHeartbeats 4000000 in
set_option maxRecDepth 100000 in
theorem k_addOrder_ok (l : Launch) (G : va_G) (cI cZ cL : ClassId) (a : Nat → Nat) (σ : sa_St) (w : Nat) (g : Nat → Int64) (hI : sa_I σ) (hJ : sa_J a) (hw : ¬ sa_A a w) (x1 x2 x3 x4 x5 x6 x7 : Int32) (h0 : (sp_addOrder σ x1 x2 x3 x4 x5 x6 x7).1 = 0) : sa_Lo l yL_addOrder wsL_addOrder ({ frames := 8, cells := 0, slots := 0, locals := 138 }) G cI cZ cL a σ w g [.ref (a 0), .int (x1), .int (x2), .int (x3), .int (x4), .int (x5), .int (x6), .int (x7), .ref w] (sp_addOrder σ x1 x2 x3 x4 x5 x6 x7).2.1 (sp_addOrder σ x1 x2 x3 x4 x5 x6 x7).2.2 := by
  obtain ⟨h1, h2, h3⟩ := sa_go_ok h0
  have hsp : sp_addOrder σ x1 x2 x3 x4 x5 x6 x7 = (0, _) := sa_go0 h1 h2 h3
  rw [hsp]
  refine va_MetW (cc := cL_addOrder) (maxL := 10) (ret := (some .int)) (hh := [(0, 20, 23, 13), (0, 20, 27, 15)]) (by decide) rfl ?_
  intro p e s m args below meth c s₁ B9 hml hv
  obtain ⟨rfl, hP, hO, hK⟩ := hv
  have hx := B9.exec
  have hb := B9.bytes
  have hr := B9.returns
  have hlk := B9.notSynchronized
  have hts := atoms_spec (ws := wsL_addOrder) B9.pre
  have hown : s.vm.findClass RL = some m.cls := findClass_of_methodNamed B9.named
  have S : CallFix p m c cL_addOrder 10 s _ wsL_addOrder RL := ⟨hx, hb, hml, hown, hts⟩
  have hS : va_S (sa_B a w) s.heap s.heap [] := va_S.rf
  have hl := lv_entry ([.ref (a 0), .int (x1), .int (x2), .int (x3), .int (x4), .int (x5), .int (x6), .int (x7), .ref w]) (n := 10) (Nat.le_of_ble_eq_true rfl)
  rw [lg_entry_eq]
  generalize (lg_sl ([.ref (a 0), .int (x1), .int (x2), .int (x3), .int (x4), .int (x5), .int (x6), .int (x7), .ref w]) ++ List.replicate (10 - (lg_sl ([.ref (a 0), .int (x1), .int (x2), .int (x3), .int (x4), .int (x5), .int (x6), .int (x7), .ref w])).length) Slot.unset).toArray = ls at hl ⊢
  have hl : lv_has ls 10 [(0, .ref (a 0)), (1, .int (x1)), (2, .int (x2)), (3, .int (x3)), (4, .int (x4)), (5, .int (x5)), (6, .int (x6)), (7, .int (x7)), (8, .ref w)] := hl
  refine lv_aload hx hb dL_addOrder_0 (lv_at hl 8 rfl) ?_
  refine lv_iconst (v := 0) hx hb dL_addOrder_2 (by decide) ?_
  refine lv_aload_n hx hb dL_addOrder_3 rfl (lv_at hl 0 rfl) ?_
  refine lv_iload_n hx hb dL_addOrder_4 rfl (lv_at hl 1 rfl) ?_
  refine lv_iload_n hx hb dL_addOrder_5 rfl (lv_at hl 2 rfl) ?_
  refine lv_iload_n hx hb dL_addOrder_6 rfl (lv_at hl 3 rfl) ?_
  refine lv_iload hx hb dL_addOrder_7 (lv_at hl 4 rfl) ?_
  refine lv_iload hx hb dL_addOrder_9 (lv_at hl 5 rfl) ?_
  refine lv_iload hx hb dL_addOrder_11 (lv_at hl 6 rfl) ?_
  refine lv_iload hx hb dL_addOrder_13 (lv_at hl 7 rfl) ?_
  refine sa_kWr (As := [.int (x1), .int (x2), .int (x3), .int (x4), .int (x5), .int (x6), .int (x7)]) (rest := [.int (0), .ref w]) S (c_X0_addOrder_ok l G cI cZ cL a σ hI x1 x2 x3 x4 x5 x6 x7 hJ h1 h2) (cwV 7 hts gL_addOrder_X0_addOrder rfl rfl rfl (by decide +kernel) ⟨Nat.le_of_ble_eq_true rfl, Nat.le_of_ble_eq_true rfl⟩) hP hK hS (fun _ h => Or.inl h) (ci := 0) rfl rfl rfl hl.1 (Nat.le_of_ble_eq_true rfl) rfl dL_addOrder_15 ⟨Nat.zero_le _, Nat.zero_le _⟩ (fun H locs hP hS hz9 hk9 => ?_)
  have hO := sa_okeep hO hw hk9
  refine lv_i2l hx hb dL_addOrder_18 rfl ?_
  refine sa_lst S hK hP hO hJ hw hS dL_addOrder_19 (fun H locs g1 hg1 hP hO hS => ?_)
  refine lv_goto (tgt := 31) hx hb dL_addOrder_20 (by decide) ?_
  refine lv_iconst (v := 0) hx hb dL_addOrder_31 (by decide) ?_
  exact W.iret (v := 0) hx hb hr (fun t9 ht _ => ⟨⟨0, g1, rfl, ⟨rfl, hg1⟩, by rw [ht]; exact hP, by rw [ht]; exact hO⟩, hS.F ht⟩) hS.2.2 dL_addOrder_32
set_option maxHeartbeats 4000000 in
set_option maxRecDepth 100000 in
theorem k_addOrder_ex (l : Launch) (lo : Nat) (hst : l.stackTraces = false) (G : va_G) (cI cZ cL : ClassId) (a : Nat → Nat) (σ : sa_St) (w : Nat) (hI : sa_I σ) (x1 x2 x3 x4 x5 x6 x7 : Int32) (hne : ¬ (sp_addOrder σ x1 x2 x3 x4 x5 x6 x7).1 = 0) : sa_Lx l yL_addOrder wsL_addOrder ({ frames := 8, cells := 1, slots := 6, locals := 138 }) lo G cI cZ cL a σ [.ref (a 0), .int (x1), .int (x2), .int (x3), .int (x4), .int (x5), .int (x6), .int (x7), .ref w] (sp_addOrder σ x1 x2 x3 x4 x5 x6 x7).1 := by
  refine va_MetW (cc := cL_addOrder) (maxL := 10) (ret := (some .int)) (hh := [(0, 20, 23, 13), (0, 20, 27, 15)]) (by decide) rfl ?_
  intro p e s m args below meth c s₁ B9 hml hv
  obtain ⟨rfl, ⟨hP, hK⟩, hT, hn21, hn32, hn31⟩ := hv
  have hx := B9.exec
  have hb := B9.bytes
  have hr := B9.returns
  have hlk := B9.notSynchronized
  have hts := atoms_spec (ws := wsL_addOrder) B9.pre
  have hown : s.vm.findClass RL = some m.cls := findClass_of_methodNamed B9.named
  have S : CallFix p m c cL_addOrder 10 s _ wsL_addOrder RL := ⟨hx, hb, hml, hown, hts⟩
  have htb : c.exceptionTable.toList = tableOf [(0, 20, 23, 13), (0, 20, 27, 15)] := vx_table (x := yL_addOrder) B9 (hts (.codeWith yL_addOrder cL_addOrder 10 (some .int) [(0, 20, 23, 13), (0, 20, 27, 15)]) (by unfold wsL_addOrder; exact List.mem_cons_self))
  have hl := lv_entry ([.ref (a 0), .int (x1), .int (x2), .int (x3), .int (x4), .int (x5), .int (x6), .int (x7), .ref w]) (n := 10) (Nat.le_of_ble_eq_true rfl)
  rw [lg_entry_eq]
  generalize (lg_sl ([.ref (a 0), .int (x1), .int (x2), .int (x3), .int (x4), .int (x5), .int (x6), .int (x7), .ref w]) ++ List.replicate (10 - (lg_sl ([.ref (a 0), .int (x1), .int (x2), .int (x3), .int (x4), .int (x5), .int (x6), .int (x7), .ref w])).length) Slot.unset).toArray = ls at hl ⊢
  have hl : lv_has ls 10 [(0, .ref (a 0)), (1, .int (x1)), (2, .int (x2)), (3, .int (x3)), (4, .int (x4)), (5, .int (x5)), (6, .int (x6)), (7, .int (x7)), (8, .ref w)] := hl
  refine lv_aload hx hb dL_addOrder_0 (lv_at hl 8 rfl) ?_
  refine lv_iconst (v := 0) hx hb dL_addOrder_2 (by decide) ?_
  refine lv_aload_n hx hb dL_addOrder_3 rfl (lv_at hl 0 rfl) ?_
  refine lv_iload_n hx hb dL_addOrder_4 rfl (lv_at hl 1 rfl) ?_
  refine lv_iload_n hx hb dL_addOrder_5 rfl (lv_at hl 2 rfl) ?_
  refine lv_iload_n hx hb dL_addOrder_6 rfl (lv_at hl 3 rfl) ?_
  refine lv_iload hx hb dL_addOrder_7 (lv_at hl 4 rfl) ?_
  refine lv_iload hx hb dL_addOrder_9 (lv_at hl 5 rfl) ?_
  refine lv_iload hx hb dL_addOrder_11 (lv_at hl 6 rfl) ?_
  refine lv_iload hx hb dL_addOrder_13 (lv_at hl 7 rfl) ?_
  refine sa_kTry (sa_runExV (As := [.int (x1), .int (x2), .int (x3), .int (x4), .int (x5), .int (x6), .int (x7)]) (rest := [.int (0), .ref w]) S (c_X0_addOrder_ex l lo hst G cI cZ cL a σ hI x1 x2 x3 x4 x5 x6 x7 hne) (cwV 7 hts gL_addOrder_X0_addOrder rfl rfl rfl (by decide +kernel) ⟨Nat.le_of_ble_eq_true rfl, Nat.le_of_ble_eq_true rfl⟩) hP hK hT (ci := 0) rfl rfl rfl hl.1 (Nat.le_of_ble_eq_true rfl) rfl dL_addOrder_15 ⟨Nat.le_refl _, Nat.le_refl _⟩) (fun E ce q9 H1 hE hz hk hce hcv hcl => ?_)
  rcases List.mem_cons.mp hE with hE | hE
  · skip
    have hE1 : (sp_addOrder σ x1 x2 x3 x4 x5 x6 x7).1 = 1 := congrArg Prod.fst hE
    have hE2 : E = sa_E2 := congrArg Prod.snd hE
    subst hE2
    refine vx_catch (own := RL) (name := sa_E2) hown [] ⟨0, 20, 23, 13⟩ [⟨0, 20, 27, 15⟩] htb (fun _ h => absurd h List.not_mem_nil) (by decide) (by decide) (hts (.classLink RL 13 sa_E2) (by decide +kernel)) (va_Nw.use rfl hT.2.2.2.2.2.2.1) hce hcv hcl ?_
    refine lv_astore (lv' := [(9, .ref q9), (0, .ref (a 0)), (1, .int (x1)), (2, .int (x2)), (3, .int (x3)), (4, .int (x4)), (5, .int (x5)), (6, .int (x6)), (7, .int (x7)), (8, .ref w)]) hx hb dL_addOrder_23 hl (by decide) rfl (fun ls hl => ?_)
    refine lv_iconst (v := 1) hx hb dL_addOrder_25 (by decide) ?_
    exact W.iret (v := 1) hx hb hr (fun t9 ht _ => ⟨⟨1, (), rfl, by rw [hE1]; rfl, trivial⟩, by rw [ht]; exact hz, fun q8 h8 _ => by rw [ht]; exact hk q8 h8⟩) (fun _ h => nomatch h) dL_addOrder_26
  · skip
    have hE := List.mem_singleton.mp hE
    have hE1 : (sp_addOrder σ x1 x2 x3 x4 x5 x6 x7).1 = 2 := congrArg Prod.fst hE
    have hE2 : E = sa_E3 := congrArg Prod.snd hE
    subst hE2
    refine vx_catch (own := RL) (name := sa_E3) hown [⟨0, 20, 23, 13⟩] ⟨0, 20, 27, 15⟩ [] htb (List.forall_mem_cons.mpr ⟨(Or.inr ⟨by decide, sa_E2, hts (.classLink RL 13 sa_E2) (by decide +kernel), hn32⟩), (fun _ h => absurd h List.not_mem_nil)⟩) (by decide) (by decide) (hts (.classLink RL 15 sa_E3) (by decide +kernel)) (va_Nw.use rfl hT.2.2.2.2.2.2.2.1) hce hcv hcl ?_
    refine lv_astore (lv' := [(9, .ref q9), (0, .ref (a 0)), (1, .int (x1)), (2, .int (x2)), (3, .int (x3)), (4, .int (x4)), (5, .int (x5)), (6, .int (x6)), (7, .int (x7)), (8, .ref w)]) hx hb dL_addOrder_27 hl (by decide) rfl (fun ls hl => ?_)
    refine lv_iconst (v := 2) hx hb dL_addOrder_29 (by decide) ?_
    exact W.iret (v := 2) hx hb hr (fun t9 ht _ => ⟨⟨2, (), rfl, by rw [hE1]; rfl, trivial⟩, by rw [ht]; exact hz, fun q8 h8 _ => by rw [ht]; exact hk q8 h8⟩) (fun _ h => nomatch h) dL_addOrder_30

set_option maxHeartbeats 4000000 in
set_option maxRecDepth 100000 in
theorem k_close_ok (l : Launch) (G : va_G) (cI cZ cL : ClassId) (a : Nat → Nat) (σ : sa_St) (w : Nat) (g : Nat → Int64) (hI : sa_I σ) (hJ : sa_J a) (hw : ¬ sa_A a w) (o : Int32) (h0 : (sp_close σ o).1 = 0) : sa_Lo l yL_close wsL_close ({ frames := 9, cells := 0, slots := 0, locals := 154 }) G cI cZ cL a σ w g [.ref (a 0), .int (o), .ref w] (sp_close σ o).2.1 (sp_close σ o).2.2 := by
  obtain ⟨h1, h2, h3⟩ := sa_go_ok h0
  have hsp : sp_close σ o = (0, _) := sa_go0 h1 h2 h3
  rw [hsp]
  refine va_MetW (cc := cL_close) (maxL := 4) (ret := (some .int)) (hh := [(0, 9, 12, 21), (0, 9, 15, 15)]) (by decide) rfl ?_
  intro p e s m args below meth c s₁ B9 hml hv
  obtain ⟨rfl, hP, hO, hK⟩ := hv
  have hx := B9.exec
  have hb := B9.bytes
  have hr := B9.returns
  have hlk := B9.notSynchronized
  have hts := atoms_spec (ws := wsL_close) B9.pre
  have hown : s.vm.findClass RL = some m.cls := findClass_of_methodNamed B9.named
  have S : CallFix p m c cL_close 4 s _ wsL_close RL := ⟨hx, hb, hml, hown, hts⟩
  have hS : va_S (sa_B a w) s.heap s.heap [] := va_S.rf
  have hl := lv_entry ([.ref (a 0), .int (o), .ref w]) (n := 4) (Nat.le_of_ble_eq_true rfl)
  rw [lg_entry_eq]
  generalize (lg_sl ([.ref (a 0), .int (o), .ref w]) ++ List.replicate (4 - (lg_sl ([.ref (a 0), .int (o), .ref w])).length) Slot.unset).toArray = ls at hl ⊢
  have hl : lv_has ls 4 [(0, .ref (a 0)), (1, .int (o)), (2, .ref w)] := hl
  refine lv_aload_n hx hb dL_close_0 rfl (lv_at hl 2 rfl) ?_
  refine lv_iconst (v := 0) hx hb dL_close_1 (by decide) ?_
  refine lv_aload_n hx hb dL_close_2 rfl (lv_at hl 0 rfl) ?_
  refine lv_iload_n hx hb dL_close_3 rfl (lv_at hl 1 rfl) ?_
  refine sa_kWr (As := [.int (o)]) (rest := [.int (0), .ref w]) S (c_X0_close_ok l G cI cZ cL a σ hI o hJ h1 h2) (cwV 1 hts gL_close_X0_close rfl rfl rfl (by decide +kernel) ⟨Nat.le_of_ble_eq_true rfl, Nat.le_of_ble_eq_true rfl⟩) hP hK hS (fun _ h => Or.inl h) (ci := 0) rfl rfl rfl hl.1 (Nat.le_of_ble_eq_true rfl) rfl dL_close_4 ⟨Nat.zero_le _, Nat.zero_le _⟩ (fun H locs hP hS hz9 hk9 => ?_)
  have hO := sa_okeep hO hw hk9
  refine lv_i2l hx hb dL_close_7 rfl ?_
  refine sa_lst S hK hP hO hJ hw hS dL_close_8 (fun H locs g1 hg1 hP hO hS => ?_)
  refine lv_goto (tgt := 18) hx hb dL_close_9 (by decide) ?_
  refine lv_iconst (v := 0) hx hb dL_close_18 (by decide) ?_
  exact W.iret (v := 0) hx hb hr (fun t9 ht _ => ⟨⟨0, g1, rfl, ⟨rfl, hg1⟩, by rw [ht]; exact hP, by rw [ht]; exact hO⟩, hS.F ht⟩) hS.2.2 dL_close_19
set_option maxHeartbeats 4000000 in
set_option maxRecDepth 100000 in
theorem k_close_ex (l : Launch) (lo : Nat) (hst : l.stackTraces = false) (G : va_G) (cI cZ cL : ClassId) (a : Nat → Nat) (σ : sa_St) (w : Nat) (hI : sa_I σ) (o : Int32) (hne : ¬ (sp_close σ o).1 = 0) : sa_Lx l yL_close wsL_close ({ frames := 9, cells := 1, slots := 6, locals := 154 }) lo G cI cZ cL a σ [.ref (a 0), .int (o), .ref w] (sp_close σ o).1 := by
  refine va_MetW (cc := cL_close) (maxL := 4) (ret := (some .int)) (hh := [(0, 9, 12, 21), (0, 9, 15, 15)]) (by decide) rfl ?_
  intro p e s m args below meth c s₁ B9 hml hv
  obtain ⟨rfl, ⟨hP, hK⟩, hT, hn21, hn32, hn31⟩ := hv
  have hx := B9.exec
  have hb := B9.bytes
  have hr := B9.returns
  have hlk := B9.notSynchronized
  have hts := atoms_spec (ws := wsL_close) B9.pre
  have hown : s.vm.findClass RL = some m.cls := findClass_of_methodNamed B9.named
  have S : CallFix p m c cL_close 4 s _ wsL_close RL := ⟨hx, hb, hml, hown, hts⟩
  have htb : c.exceptionTable.toList = tableOf [(0, 9, 12, 21), (0, 9, 15, 15)] := vx_table (x := yL_close) B9 (hts (.codeWith yL_close cL_close 4 (some .int) [(0, 9, 12, 21), (0, 9, 15, 15)]) (by unfold wsL_close; exact List.mem_cons_self))
  have hl := lv_entry ([.ref (a 0), .int (o), .ref w]) (n := 4) (Nat.le_of_ble_eq_true rfl)
  rw [lg_entry_eq]
  generalize (lg_sl ([.ref (a 0), .int (o), .ref w]) ++ List.replicate (4 - (lg_sl ([.ref (a 0), .int (o), .ref w])).length) Slot.unset).toArray = ls at hl ⊢
  have hl : lv_has ls 4 [(0, .ref (a 0)), (1, .int (o)), (2, .ref w)] := hl
  refine lv_aload_n hx hb dL_close_0 rfl (lv_at hl 2 rfl) ?_
  refine lv_iconst (v := 0) hx hb dL_close_1 (by decide) ?_
  refine lv_aload_n hx hb dL_close_2 rfl (lv_at hl 0 rfl) ?_
  refine lv_iload_n hx hb dL_close_3 rfl (lv_at hl 1 rfl) ?_
  refine sa_kTry (sa_runExV (As := [.int (o)]) (rest := [.int (0), .ref w]) S (c_X0_close_ex l lo hst G cI cZ cL a σ hI o hne) (cwV 1 hts gL_close_X0_close rfl rfl rfl (by decide +kernel) ⟨Nat.le_of_ble_eq_true rfl, Nat.le_of_ble_eq_true rfl⟩) hP hK hT (ci := 0) rfl rfl rfl hl.1 (Nat.le_of_ble_eq_true rfl) rfl dL_close_4 ⟨Nat.le_refl _, Nat.le_refl _⟩) (fun E ce q9 H1 hE hz hk hce hcv hcl => ?_)
  rcases List.mem_cons.mp hE with hE | hE
  · skip
    have hE1 : (sp_close σ o).1 = 1 := congrArg Prod.fst hE
    have hE2 : E = sa_E1 := congrArg Prod.snd hE
    subst hE2
    refine vx_catch (own := RL) (name := sa_E1) hown [] ⟨0, 9, 12, 21⟩ [⟨0, 9, 15, 15⟩] htb (fun _ h => absurd h List.not_mem_nil) (by decide) (by decide) (hts (.classLink RL 21 sa_E1) (by decide +kernel)) (va_Nw.use rfl hT.2.2.2.2.2.1) hce hcv hcl ?_
    refine lv_astore_n (lv' := [(3, .ref q9), (0, .ref (a 0)), (1, .int (o)), (2, .ref w)]) hx hb dL_close_12 rfl hl (by decide) rfl (fun ls hl => ?_)
    refine lv_iconst (v := 1) hx hb dL_close_13 (by decide) ?_
    exact W.iret (v := 1) hx hb hr (fun t9 ht _ => ⟨⟨1, (), rfl, by rw [hE1]; rfl, trivial⟩, by rw [ht]; exact hz, fun q8 h8 _ => by rw [ht]; exact hk q8 h8⟩) (fun _ h => nomatch h) dL_close_14
  · skip
    have hE := List.mem_singleton.mp hE
    have hE1 : (sp_close σ o).1 = 2 := congrArg Prod.fst hE
    have hE2 : E = sa_E3 := congrArg Prod.snd hE
    subst hE2
    refine vx_catch (own := RL) (name := sa_E3) hown [⟨0, 9, 12, 21⟩] ⟨0, 9, 15, 15⟩ [] htb (List.forall_mem_cons.mpr ⟨(Or.inr ⟨by decide, sa_E1, hts (.classLink RL 21 sa_E1) (by decide +kernel), hn31⟩), (fun _ h => absurd h List.not_mem_nil)⟩) (by decide) (by decide) (hts (.classLink RL 15 sa_E3) (by decide +kernel)) (va_Nw.use rfl hT.2.2.2.2.2.2.2.1) hce hcv hcl ?_
    refine lv_astore_n (lv' := [(3, .ref q9), (0, .ref (a 0)), (1, .int (o)), (2, .ref w)]) hx hb dL_close_15 rfl hl (by decide) rfl (fun ls hl => ?_)
    refine lv_iconst (v := 2) hx hb dL_close_16 (by decide) ?_
    exact W.iret (v := 2) hx hb hr (fun t9 ht _ => ⟨⟨2, (), rfl, by rw [hE1]; rfl, trivial⟩, by rw [ht]; exact hz, fun q8 h8 _ => by rw [ht]; exact hk q8 h8⟩) (fun _ h => nomatch h) dL_close_17

set_option maxHeartbeats 4000000 in
set_option maxRecDepth 100000 in
theorem k_whyNot_ok (l : Launch) (G : va_G) (cI cZ cL : ClassId) (a : Nat → Nat) (σ : sa_St) (w : Nat) (g : Nat → Int64) (hI : sa_I σ) (hJ : sa_J a) (hw : ¬ sa_A a w) (o at' : Int32) (h0 : (sp_whyNot σ o at').1 = 0) : sa_Lo l yL_whyNot wsL_whyNot ({ frames := 9, cells := 0, slots := 0, locals := 154 }) G cI cZ cL a σ w g [.ref (a 0), .int (o), .int (at'), .ref w] (sp_whyNot σ o at').2.1 (sp_whyNot σ o at').2.2 := by
  obtain ⟨h1, h2, h3⟩ := sa_go_ok h0
  have hsp : sp_whyNot σ o at' = (0, _) := sa_go0 h1 h2 h3
  rw [hsp]
  refine va_MetW (cc := cL_whyNot) (maxL := 5) (ret := (some .int)) (hh := [(0, 10, 13, 21)]) (by decide) rfl ?_
  intro p e s m args below meth c s₁ B9 hml hv
  obtain ⟨rfl, hP, hO, hK⟩ := hv
  have hx := B9.exec
  have hb := B9.bytes
  have hr := B9.returns
  have hlk := B9.notSynchronized
  have hts := atoms_spec (ws := wsL_whyNot) B9.pre
  have hown : s.vm.findClass RL = some m.cls := findClass_of_methodNamed B9.named
  have S : CallFix p m c cL_whyNot 5 s _ wsL_whyNot RL := ⟨hx, hb, hml, hown, hts⟩
  have hS : va_S (sa_B a w) s.heap s.heap [] := va_S.rf
  have hl := lv_entry ([.ref (a 0), .int (o), .int (at'), .ref w]) (n := 5) (Nat.le_of_ble_eq_true rfl)
  rw [lg_entry_eq]
  generalize (lg_sl ([.ref (a 0), .int (o), .int (at'), .ref w]) ++ List.replicate (5 - (lg_sl ([.ref (a 0), .int (o), .int (at'), .ref w])).length) Slot.unset).toArray = ls at hl ⊢
  have hl : lv_has ls 5 [(0, .ref (a 0)), (1, .int (o)), (2, .int (at')), (3, .ref w)] := hl
  refine lv_aload_n hx hb dL_whyNot_0 rfl (lv_at hl 3 rfl) ?_
  refine lv_iconst (v := 0) hx hb dL_whyNot_1 (by decide) ?_
  refine lv_aload_n hx hb dL_whyNot_2 rfl (lv_at hl 0 rfl) ?_
  refine lv_iload_n hx hb dL_whyNot_3 rfl (lv_at hl 1 rfl) ?_
  refine lv_iload_n hx hb dL_whyNot_4 rfl (lv_at hl 2 rfl) ?_
  refine sa_kRd (As := [.int (o), .int (at')]) (rest := [.int (0), .ref w]) S (c_X0_whyNot_ok l G cI cZ cL a σ hI o at' h1) (cwV 2 hts gL_whyNot_X0_whyNot rfl rfl rfl (by decide +kernel) ⟨Nat.le_of_ble_eq_true rfl, Nat.le_of_ble_eq_true rfl⟩) hP hK (ci := 0) rfl rfl rfl hl.1 (Nat.le_of_ble_eq_true rfl) rfl dL_whyNot_5 ⟨Nat.zero_le _, Nat.zero_le _⟩ ?_
  refine lv_i2l hx hb dL_whyNot_8 rfl ?_
  refine sa_lst S hK hP hO hJ hw hS dL_whyNot_9 (fun H locs g1 hg1 hP hO hS => ?_)
  refine lv_goto (tgt := 17) hx hb dL_whyNot_10 (by decide) ?_
  refine lv_iconst (v := 0) hx hb dL_whyNot_17 (by decide) ?_
  exact W.iret (v := 0) hx hb hr (fun t9 ht _ => ⟨⟨0, g1, rfl, ⟨rfl, hg1⟩, by rw [ht]; exact hP, by rw [ht]; exact hO⟩, hS.F ht⟩) hS.2.2 dL_whyNot_18
set_option maxHeartbeats 4000000 in
set_option maxRecDepth 100000 in
theorem k_whyNot_ex (l : Launch) (lo : Nat) (hst : l.stackTraces = false) (G : va_G) (cI cZ cL : ClassId) (a : Nat → Nat) (σ : sa_St) (w : Nat) (hI : sa_I σ) (o at' : Int32) (hne : ¬ (sp_whyNot σ o at').1 = 0) : sa_Lx l yL_whyNot wsL_whyNot ({ frames := 9, cells := 1, slots := 6, locals := 154 }) lo G cI cZ cL a σ [.ref (a 0), .int (o), .int (at'), .ref w] (sp_whyNot σ o at').1 := by
  refine va_MetW (cc := cL_whyNot) (maxL := 5) (ret := (some .int)) (hh := [(0, 10, 13, 21)]) (by decide) rfl ?_
  intro p e s m args below meth c s₁ B9 hml hv
  obtain ⟨rfl, ⟨hP, hK⟩, hT, hn21, hn32, hn31⟩ := hv
  have hx := B9.exec
  have hb := B9.bytes
  have hr := B9.returns
  have hlk := B9.notSynchronized
  have hts := atoms_spec (ws := wsL_whyNot) B9.pre
  have hown : s.vm.findClass RL = some m.cls := findClass_of_methodNamed B9.named
  have S : CallFix p m c cL_whyNot 5 s _ wsL_whyNot RL := ⟨hx, hb, hml, hown, hts⟩
  have htb : c.exceptionTable.toList = tableOf [(0, 10, 13, 21)] := vx_table (x := yL_whyNot) B9 (hts (.codeWith yL_whyNot cL_whyNot 5 (some .int) [(0, 10, 13, 21)]) (by unfold wsL_whyNot; exact List.mem_cons_self))
  have hl := lv_entry ([.ref (a 0), .int (o), .int (at'), .ref w]) (n := 5) (Nat.le_of_ble_eq_true rfl)
  rw [lg_entry_eq]
  generalize (lg_sl ([.ref (a 0), .int (o), .int (at'), .ref w]) ++ List.replicate (5 - (lg_sl ([.ref (a 0), .int (o), .int (at'), .ref w])).length) Slot.unset).toArray = ls at hl ⊢
  have hl : lv_has ls 5 [(0, .ref (a 0)), (1, .int (o)), (2, .int (at')), (3, .ref w)] := hl
  refine lv_aload_n hx hb dL_whyNot_0 rfl (lv_at hl 3 rfl) ?_
  refine lv_iconst (v := 0) hx hb dL_whyNot_1 (by decide) ?_
  refine lv_aload_n hx hb dL_whyNot_2 rfl (lv_at hl 0 rfl) ?_
  refine lv_iload_n hx hb dL_whyNot_3 rfl (lv_at hl 1 rfl) ?_
  refine lv_iload_n hx hb dL_whyNot_4 rfl (lv_at hl 2 rfl) ?_
  refine sa_kTry (sa_runExV (As := [.int (o), .int (at')]) (rest := [.int (0), .ref w]) S (c_X0_whyNot_ex l lo hst G cI cZ cL a σ hI o at' hne) (cwV 2 hts gL_whyNot_X0_whyNot rfl rfl rfl (by decide +kernel) ⟨Nat.le_of_ble_eq_true rfl, Nat.le_of_ble_eq_true rfl⟩) hP hK hT (ci := 0) rfl rfl rfl hl.1 (Nat.le_of_ble_eq_true rfl) rfl dL_whyNot_5 ⟨Nat.le_refl _, Nat.le_refl _⟩) (fun E ce q9 H1 hE hz hk hce hcv hcl => ?_)
  have hE : ((sp_whyNot σ o at').1, E) = ((1 : Nat), sa_E1) := List.mem_singleton.mp hE
  have hE1 : (sp_whyNot σ o at').1 = 1 := congrArg Prod.fst hE
  have hE2 : E = sa_E1 := congrArg Prod.snd hE
  subst hE2
  refine vx_catch (own := RL) (name := sa_E1) hown [] ⟨0, 10, 13, 21⟩ [] htb (fun _ h => absurd h List.not_mem_nil) (by decide) (by decide) (hts (.classLink RL 21 sa_E1) (by decide +kernel)) (va_Nw.use rfl hT.2.2.2.2.2.1) hce hcv hcl ?_
  refine lv_astore (lv' := [(4, .ref q9), (0, .ref (a 0)), (1, .int (o)), (2, .int (at')), (3, .ref w)]) hx hb dL_whyNot_13 hl (by decide) rfl (fun ls hl => ?_)
  refine lv_iconst (v := 1) hx hb dL_whyNot_15 (by decide) ?_
  exact W.iret (v := 1) hx hb hr (fun t9 ht _ => ⟨⟨1, (), rfl, by rw [hE1]; rfl, trivial⟩, by rw [ht]; exact hz, fun q8 h8 _ => by rw [ht]; exact hk q8 h8⟩) (fun _ h => nomatch h) dL_whyNot_16

set_option maxHeartbeats 4000000 in
set_option maxRecDepth 100000 in
theorem k_place_ok (l : Launch) (G : va_G) (cI cZ cL : ClassId) (a : Nat → Nat) (σ : sa_St) (w : Nat) (g : Nat → Int64) (hI : sa_I σ) (hJ : sa_J a) (hw : ¬ sa_A a w) (o at' : Int32) (h0 : (sp_place σ o at').1 = 0) : sa_Lo l yL_place wsL_place ({ frames := 9, cells := 0, slots := 0, locals := 154 }) G cI cZ cL a σ w g [.ref (a 0), .int (o), .int (at'), .ref w] (sp_place σ o at').2.1 (sp_place σ o at').2.2 := by
  obtain ⟨h1, h2, h3⟩ := sa_go_ok h0
  have hsp : sp_place σ o at' = (0, _) := sa_go0 h1 h2 h3
  rw [hsp]
  refine va_MetW (cc := cL_place) (maxL := 5) (ret := (some .int)) (hh := [(0, 10, 13, 21), (0, 10, 17, 15)]) (by decide) rfl ?_
  intro p e s m args below meth c s₁ B9 hml hv
  obtain ⟨rfl, hP, hO, hK⟩ := hv
  have hx := B9.exec
  have hb := B9.bytes
  have hr := B9.returns
  have hlk := B9.notSynchronized
  have hts := atoms_spec (ws := wsL_place) B9.pre
  have hown : s.vm.findClass RL = some m.cls := findClass_of_methodNamed B9.named
  have S : CallFix p m c cL_place 5 s _ wsL_place RL := ⟨hx, hb, hml, hown, hts⟩
  have hS : va_S (sa_B a w) s.heap s.heap [] := va_S.rf
  have hl := lv_entry ([.ref (a 0), .int (o), .int (at'), .ref w]) (n := 5) (Nat.le_of_ble_eq_true rfl)
  rw [lg_entry_eq]
  generalize (lg_sl ([.ref (a 0), .int (o), .int (at'), .ref w]) ++ List.replicate (5 - (lg_sl ([.ref (a 0), .int (o), .int (at'), .ref w])).length) Slot.unset).toArray = ls at hl ⊢
  have hl : lv_has ls 5 [(0, .ref (a 0)), (1, .int (o)), (2, .int (at')), (3, .ref w)] := hl
  refine lv_aload_n hx hb dL_place_0 rfl (lv_at hl 3 rfl) ?_
  refine lv_iconst (v := 0) hx hb dL_place_1 (by decide) ?_
  refine lv_aload_n hx hb dL_place_2 rfl (lv_at hl 0 rfl) ?_
  refine lv_iload_n hx hb dL_place_3 rfl (lv_at hl 1 rfl) ?_
  refine lv_iload_n hx hb dL_place_4 rfl (lv_at hl 2 rfl) ?_
  refine sa_kWr (As := [.int (o), .int (at')]) (rest := [.int (0), .ref w]) S (c_X0_place_ok l G cI cZ cL a σ hI o at' hJ h1 h2) (cwV 2 hts gL_place_X0_place rfl rfl rfl (by decide +kernel) ⟨Nat.le_of_ble_eq_true rfl, Nat.le_of_ble_eq_true rfl⟩) hP hK hS (fun _ h => Or.inl h) (ci := 0) rfl rfl rfl hl.1 (Nat.le_of_ble_eq_true rfl) rfl dL_place_5 ⟨Nat.zero_le _, Nat.zero_le _⟩ (fun H locs hP hS hz9 hk9 => ?_)
  have hO := sa_okeep hO hw hk9
  refine lv_i2l hx hb dL_place_8 rfl ?_
  refine sa_lst S hK hP hO hJ hw hS dL_place_9 (fun H locs g1 hg1 hP hO hS => ?_)
  refine lv_goto (tgt := 21) hx hb dL_place_10 (by decide) ?_
  refine lv_iconst (v := 0) hx hb dL_place_21 (by decide) ?_
  exact W.iret (v := 0) hx hb hr (fun t9 ht _ => ⟨⟨0, g1, rfl, ⟨rfl, hg1⟩, by rw [ht]; exact hP, by rw [ht]; exact hO⟩, hS.F ht⟩) hS.2.2 dL_place_22
set_option maxHeartbeats 4000000 in
set_option maxRecDepth 100000 in
theorem k_place_ex (l : Launch) (lo : Nat) (hst : l.stackTraces = false) (G : va_G) (cI cZ cL : ClassId) (a : Nat → Nat) (σ : sa_St) (w : Nat) (hI : sa_I σ) (o at' : Int32) (hne : ¬ (sp_place σ o at').1 = 0) : sa_Lx l yL_place wsL_place ({ frames := 9, cells := 1, slots := 6, locals := 154 }) lo G cI cZ cL a σ [.ref (a 0), .int (o), .int (at'), .ref w] (sp_place σ o at').1 := by
  refine va_MetW (cc := cL_place) (maxL := 5) (ret := (some .int)) (hh := [(0, 10, 13, 21), (0, 10, 17, 15)]) (by decide) rfl ?_
  intro p e s m args below meth c s₁ B9 hml hv
  obtain ⟨rfl, ⟨hP, hK⟩, hT, hn21, hn32, hn31⟩ := hv
  have hx := B9.exec
  have hb := B9.bytes
  have hr := B9.returns
  have hlk := B9.notSynchronized
  have hts := atoms_spec (ws := wsL_place) B9.pre
  have hown : s.vm.findClass RL = some m.cls := findClass_of_methodNamed B9.named
  have S : CallFix p m c cL_place 5 s _ wsL_place RL := ⟨hx, hb, hml, hown, hts⟩
  have htb : c.exceptionTable.toList = tableOf [(0, 10, 13, 21), (0, 10, 17, 15)] := vx_table (x := yL_place) B9 (hts (.codeWith yL_place cL_place 5 (some .int) [(0, 10, 13, 21), (0, 10, 17, 15)]) (by unfold wsL_place; exact List.mem_cons_self))
  have hl := lv_entry ([.ref (a 0), .int (o), .int (at'), .ref w]) (n := 5) (Nat.le_of_ble_eq_true rfl)
  rw [lg_entry_eq]
  generalize (lg_sl ([.ref (a 0), .int (o), .int (at'), .ref w]) ++ List.replicate (5 - (lg_sl ([.ref (a 0), .int (o), .int (at'), .ref w])).length) Slot.unset).toArray = ls at hl ⊢
  have hl : lv_has ls 5 [(0, .ref (a 0)), (1, .int (o)), (2, .int (at')), (3, .ref w)] := hl
  refine lv_aload_n hx hb dL_place_0 rfl (lv_at hl 3 rfl) ?_
  refine lv_iconst (v := 0) hx hb dL_place_1 (by decide) ?_
  refine lv_aload_n hx hb dL_place_2 rfl (lv_at hl 0 rfl) ?_
  refine lv_iload_n hx hb dL_place_3 rfl (lv_at hl 1 rfl) ?_
  refine lv_iload_n hx hb dL_place_4 rfl (lv_at hl 2 rfl) ?_
  refine sa_kTry (sa_runExV (As := [.int (o), .int (at')]) (rest := [.int (0), .ref w]) S (c_X0_place_ex l lo hst G cI cZ cL a σ hI o at' hne) (cwV 2 hts gL_place_X0_place rfl rfl rfl (by decide +kernel) ⟨Nat.le_of_ble_eq_true rfl, Nat.le_of_ble_eq_true rfl⟩) hP hK hT (ci := 0) rfl rfl rfl hl.1 (Nat.le_of_ble_eq_true rfl) rfl dL_place_5 ⟨Nat.le_refl _, Nat.le_refl _⟩) (fun E ce q9 H1 hE hz hk hce hcv hcl => ?_)
  rcases List.mem_cons.mp hE with hE | hE
  · skip
    have hE1 : (sp_place σ o at').1 = 1 := congrArg Prod.fst hE
    have hE2 : E = sa_E1 := congrArg Prod.snd hE
    subst hE2
    refine vx_catch (own := RL) (name := sa_E1) hown [] ⟨0, 10, 13, 21⟩ [⟨0, 10, 17, 15⟩] htb (fun _ h => absurd h List.not_mem_nil) (by decide) (by decide) (hts (.classLink RL 21 sa_E1) (by decide +kernel)) (va_Nw.use rfl hT.2.2.2.2.2.1) hce hcv hcl ?_
    refine lv_astore (lv' := [(4, .ref q9), (0, .ref (a 0)), (1, .int (o)), (2, .int (at')), (3, .ref w)]) hx hb dL_place_13 hl (by decide) rfl (fun ls hl => ?_)
    refine lv_iconst (v := 1) hx hb dL_place_15 (by decide) ?_
    exact W.iret (v := 1) hx hb hr (fun t9 ht _ => ⟨⟨1, (), rfl, by rw [hE1]; rfl, trivial⟩, by rw [ht]; exact hz, fun q8 h8 _ => by rw [ht]; exact hk q8 h8⟩) (fun _ h => nomatch h) dL_place_16
  · skip
    have hE := List.mem_singleton.mp hE
    have hE1 : (sp_place σ o at').1 = 2 := congrArg Prod.fst hE
    have hE2 : E = sa_E3 := congrArg Prod.snd hE
    subst hE2
    refine vx_catch (own := RL) (name := sa_E3) hown [⟨0, 10, 13, 21⟩] ⟨0, 10, 17, 15⟩ [] htb (List.forall_mem_cons.mpr ⟨(Or.inr ⟨by decide, sa_E1, hts (.classLink RL 21 sa_E1) (by decide +kernel), hn31⟩), (fun _ h => absurd h List.not_mem_nil)⟩) (by decide) (by decide) (hts (.classLink RL 15 sa_E3) (by decide +kernel)) (va_Nw.use rfl hT.2.2.2.2.2.2.2.1) hce hcv hcl ?_
    refine lv_astore (lv' := [(4, .ref q9), (0, .ref (a 0)), (1, .int (o)), (2, .int (at')), (3, .ref w)]) hx hb dL_place_17 hl (by decide) rfl (fun ls hl => ?_)
    refine lv_iconst (v := 2) hx hb dL_place_19 (by decide) ?_
    exact W.iret (v := 2) hx hb hr (fun t9 ht _ => ⟨⟨2, (), rfl, by rw [hE1]; rfl, trivial⟩, by rw [ht]; exact hz, fun q8 h8 _ => by rw [ht]; exact hk q8 h8⟩) (fun _ h => nomatch h) dL_place_20

set_option maxHeartbeats 4000000 in
set_option maxRecDepth 100000 in
theorem k_give_ok (l : Launch) (G : va_G) (cI cZ cL : ClassId) (a : Nat → Nat) (σ : sa_St) (w : Nat) (g : Nat → Int64) (hI : sa_I σ) (hJ : sa_J a) (hw : ¬ sa_A a w) (o at' : Int32) (h0 : (sp_give σ o at').1 = 0) : sa_Lo l yL_give wsL_give ({ frames := 9, cells := 0, slots := 0, locals := 154 }) G cI cZ cL a σ w g [.ref (a 0), .int (o), .int (at'), .ref w] (sp_give σ o at').2.1 (sp_give σ o at').2.2 := by
  obtain ⟨h1, h2, h3⟩ := sa_go_ok h0
  have hsp : sp_give σ o at' = (0, _) := sa_go0 h1 h2 h3
  rw [hsp]
  refine va_MetW (cc := cL_give) (maxL := 5) (ret := (some .int)) (hh := [(0, 10, 13, 21), (0, 10, 17, 15)]) (by decide) rfl ?_
  intro p e s m args below meth c s₁ B9 hml hv
  obtain ⟨rfl, hP, hO, hK⟩ := hv
  have hx := B9.exec
  have hb := B9.bytes
  have hr := B9.returns
  have hlk := B9.notSynchronized
  have hts := atoms_spec (ws := wsL_give) B9.pre
  have hown : s.vm.findClass RL = some m.cls := findClass_of_methodNamed B9.named
  have S : CallFix p m c cL_give 5 s _ wsL_give RL := ⟨hx, hb, hml, hown, hts⟩
  have hS : va_S (sa_B a w) s.heap s.heap [] := va_S.rf
  have hl := lv_entry ([.ref (a 0), .int (o), .int (at'), .ref w]) (n := 5) (Nat.le_of_ble_eq_true rfl)
  rw [lg_entry_eq]
  generalize (lg_sl ([.ref (a 0), .int (o), .int (at'), .ref w]) ++ List.replicate (5 - (lg_sl ([.ref (a 0), .int (o), .int (at'), .ref w])).length) Slot.unset).toArray = ls at hl ⊢
  have hl : lv_has ls 5 [(0, .ref (a 0)), (1, .int (o)), (2, .int (at')), (3, .ref w)] := hl
  refine lv_aload_n hx hb dL_give_0 rfl (lv_at hl 3 rfl) ?_
  refine lv_iconst (v := 0) hx hb dL_give_1 (by decide) ?_
  refine lv_aload_n hx hb dL_give_2 rfl (lv_at hl 0 rfl) ?_
  refine lv_iload_n hx hb dL_give_3 rfl (lv_at hl 1 rfl) ?_
  refine lv_iload_n hx hb dL_give_4 rfl (lv_at hl 2 rfl) ?_
  refine sa_kWr (As := [.int (o), .int (at')]) (rest := [.int (0), .ref w]) S (c_X0_give_ok l G cI cZ cL a σ hI o at' hJ h1 h2) (cwV 2 hts gL_give_X0_give rfl rfl rfl (by decide +kernel) ⟨Nat.le_of_ble_eq_true rfl, Nat.le_of_ble_eq_true rfl⟩) hP hK hS (fun _ h => Or.inl h) (ci := 0) rfl rfl rfl hl.1 (Nat.le_of_ble_eq_true rfl) rfl dL_give_5 ⟨Nat.zero_le _, Nat.zero_le _⟩ (fun H locs hP hS hz9 hk9 => ?_)
  have hO := sa_okeep hO hw hk9
  refine lv_i2l hx hb dL_give_8 rfl ?_
  refine sa_lst S hK hP hO hJ hw hS dL_give_9 (fun H locs g1 hg1 hP hO hS => ?_)
  refine lv_goto (tgt := 21) hx hb dL_give_10 (by decide) ?_
  refine lv_iconst (v := 0) hx hb dL_give_21 (by decide) ?_
  exact W.iret (v := 0) hx hb hr (fun t9 ht _ => ⟨⟨0, g1, rfl, ⟨rfl, hg1⟩, by rw [ht]; exact hP, by rw [ht]; exact hO⟩, hS.F ht⟩) hS.2.2 dL_give_22
set_option maxHeartbeats 4000000 in
set_option maxRecDepth 100000 in
theorem k_give_ex (l : Launch) (lo : Nat) (hst : l.stackTraces = false) (G : va_G) (cI cZ cL : ClassId) (a : Nat → Nat) (σ : sa_St) (w : Nat) (hI : sa_I σ) (o at' : Int32) (hne : ¬ (sp_give σ o at').1 = 0) : sa_Lx l yL_give wsL_give ({ frames := 9, cells := 1, slots := 6, locals := 154 }) lo G cI cZ cL a σ [.ref (a 0), .int (o), .int (at'), .ref w] (sp_give σ o at').1 := by
  refine va_MetW (cc := cL_give) (maxL := 5) (ret := (some .int)) (hh := [(0, 10, 13, 21), (0, 10, 17, 15)]) (by decide) rfl ?_
  intro p e s m args below meth c s₁ B9 hml hv
  obtain ⟨rfl, ⟨hP, hK⟩, hT, hn21, hn32, hn31⟩ := hv
  have hx := B9.exec
  have hb := B9.bytes
  have hr := B9.returns
  have hlk := B9.notSynchronized
  have hts := atoms_spec (ws := wsL_give) B9.pre
  have hown : s.vm.findClass RL = some m.cls := findClass_of_methodNamed B9.named
  have S : CallFix p m c cL_give 5 s _ wsL_give RL := ⟨hx, hb, hml, hown, hts⟩
  have htb : c.exceptionTable.toList = tableOf [(0, 10, 13, 21), (0, 10, 17, 15)] := vx_table (x := yL_give) B9 (hts (.codeWith yL_give cL_give 5 (some .int) [(0, 10, 13, 21), (0, 10, 17, 15)]) (by unfold wsL_give; exact List.mem_cons_self))
  have hl := lv_entry ([.ref (a 0), .int (o), .int (at'), .ref w]) (n := 5) (Nat.le_of_ble_eq_true rfl)
  rw [lg_entry_eq]
  generalize (lg_sl ([.ref (a 0), .int (o), .int (at'), .ref w]) ++ List.replicate (5 - (lg_sl ([.ref (a 0), .int (o), .int (at'), .ref w])).length) Slot.unset).toArray = ls at hl ⊢
  have hl : lv_has ls 5 [(0, .ref (a 0)), (1, .int (o)), (2, .int (at')), (3, .ref w)] := hl
  refine lv_aload_n hx hb dL_give_0 rfl (lv_at hl 3 rfl) ?_
  refine lv_iconst (v := 0) hx hb dL_give_1 (by decide) ?_
  refine lv_aload_n hx hb dL_give_2 rfl (lv_at hl 0 rfl) ?_
  refine lv_iload_n hx hb dL_give_3 rfl (lv_at hl 1 rfl) ?_
  refine lv_iload_n hx hb dL_give_4 rfl (lv_at hl 2 rfl) ?_
  refine sa_kTry (sa_runExV (As := [.int (o), .int (at')]) (rest := [.int (0), .ref w]) S (c_X0_give_ex l lo hst G cI cZ cL a σ hI o at' hne) (cwV 2 hts gL_give_X0_give rfl rfl rfl (by decide +kernel) ⟨Nat.le_of_ble_eq_true rfl, Nat.le_of_ble_eq_true rfl⟩) hP hK hT (ci := 0) rfl rfl rfl hl.1 (Nat.le_of_ble_eq_true rfl) rfl dL_give_5 ⟨Nat.le_refl _, Nat.le_refl _⟩) (fun E ce q9 H1 hE hz hk hce hcv hcl => ?_)
  rcases List.mem_cons.mp hE with hE | hE
  · skip
    have hE1 : (sp_give σ o at').1 = 1 := congrArg Prod.fst hE
    have hE2 : E = sa_E1 := congrArg Prod.snd hE
    subst hE2
    refine vx_catch (own := RL) (name := sa_E1) hown [] ⟨0, 10, 13, 21⟩ [⟨0, 10, 17, 15⟩] htb (fun _ h => absurd h List.not_mem_nil) (by decide) (by decide) (hts (.classLink RL 21 sa_E1) (by decide +kernel)) (va_Nw.use rfl hT.2.2.2.2.2.1) hce hcv hcl ?_
    refine lv_astore (lv' := [(4, .ref q9), (0, .ref (a 0)), (1, .int (o)), (2, .int (at')), (3, .ref w)]) hx hb dL_give_13 hl (by decide) rfl (fun ls hl => ?_)
    refine lv_iconst (v := 1) hx hb dL_give_15 (by decide) ?_
    exact W.iret (v := 1) hx hb hr (fun t9 ht _ => ⟨⟨1, (), rfl, by rw [hE1]; rfl, trivial⟩, by rw [ht]; exact hz, fun q8 h8 _ => by rw [ht]; exact hk q8 h8⟩) (fun _ h => nomatch h) dL_give_16
  · skip
    have hE := List.mem_singleton.mp hE
    have hE1 : (sp_give σ o at').1 = 2 := congrArg Prod.fst hE
    have hE2 : E = sa_E3 := congrArg Prod.snd hE
    subst hE2
    refine vx_catch (own := RL) (name := sa_E3) hown [⟨0, 10, 13, 21⟩] ⟨0, 10, 17, 15⟩ [] htb (List.forall_mem_cons.mpr ⟨(Or.inr ⟨by decide, sa_E1, hts (.classLink RL 21 sa_E1) (by decide +kernel), hn31⟩), (fun _ h => absurd h List.not_mem_nil)⟩) (by decide) (by decide) (hts (.classLink RL 15 sa_E3) (by decide +kernel)) (va_Nw.use rfl hT.2.2.2.2.2.2.2.1) hce hcv hcl ?_
    refine lv_astore (lv' := [(4, .ref q9), (0, .ref (a 0)), (1, .int (o)), (2, .int (at')), (3, .ref w)]) hx hb dL_give_17 hl (by decide) rfl (fun ls hl => ?_)
    refine lv_iconst (v := 2) hx hb dL_give_19 (by decide) ?_
    exact W.iret (v := 2) hx hb hr (fun t9 ht _ => ⟨⟨2, (), rfl, by rw [hE1]; rfl, trivial⟩, by rw [ht]; exact hz, fun q8 h8 _ => by rw [ht]; exact hk q8 h8⟩) (fun _ h => nomatch h) dL_give_20

set_option maxHeartbeats 4000000 in
set_option maxRecDepth 100000 in
theorem k_fill_ok (l : Launch) (G : va_G) (cI cZ cL : ClassId) (a : Nat → Nat) (σ : sa_St) (w : Nat) (g : Nat → Int64) (hI : sa_I σ) (hJ : sa_J a) (hw : ¬ sa_A a w) (o most : Int32) (h0 : (sp_fill σ o most).1 = 0) : sa_Lo l yL_fill wsL_fill ({ frames := 9, cells := 0, slots := 0, locals := 156 }) G cI cZ cL a σ w g [.ref (a 0), .int (o), .int (most), .ref w] (sp_fill σ o most).2.1 (sp_fill σ o most).2.2 := by
  obtain ⟨h1, h2, h3⟩ := sa_go_ok h0
  obtain ⟨M, hM1, hM24, rfl⟩ := sa_most h2
  have hsp : sp_fill σ o (nI M) = (0, _) := sa_go0 h1 h2 h3
  rw [nI_clamp (by omega)] at hsp
  rw [hsp]
  refine va_MetW (cc := cL_fill) (maxL := 5) (ret := (some .int)) (hh := [(0, 10, 13, 21), (0, 10, 17, 13), (0, 10, 21, 15)]) (by decide) rfl ?_
  intro p e s m args below meth c s₁ B9 hml hv
  obtain ⟨rfl, hP, hO, hK⟩ := hv
  have hx := B9.exec
  have hb := B9.bytes
  have hr := B9.returns
  have hlk := B9.notSynchronized
  have hts := atoms_spec (ws := wsL_fill) B9.pre
  have hown : s.vm.findClass RL = some m.cls := findClass_of_methodNamed B9.named
  have S : CallFix p m c cL_fill 5 s _ wsL_fill RL := ⟨hx, hb, hml, hown, hts⟩
  have hS : va_S (sa_B a w) s.heap s.heap [] := va_S.rf
  have hl := lv_entry ([.ref (a 0), .int (o), .int (nI M), .ref w]) (n := 5) (Nat.le_of_ble_eq_true rfl)
  rw [lg_entry_eq]
  generalize (lg_sl ([.ref (a 0), .int (o), .int (nI M), .ref w]) ++ List.replicate (5 - (lg_sl ([.ref (a 0), .int (o), .int (nI M), .ref w])).length) Slot.unset).toArray = ls at hl ⊢
  have hl : lv_has ls 5 [(0, .ref (a 0)), (1, .int (o)), (2, .int (nI M)), (3, .ref w)] := hl
  refine lv_aload_n hx hb dL_fill_0 rfl (lv_at hl 3 rfl) ?_
  refine lv_iconst (v := 0) hx hb dL_fill_1 (by decide) ?_
  refine lv_aload_n hx hb dL_fill_2 rfl (lv_at hl 0 rfl) ?_
  refine lv_iload_n hx hb dL_fill_3 rfl (lv_at hl 1 rfl) ?_
  refine lv_iload_n hx hb dL_fill_4 rfl (lv_at hl 2 rfl) ?_
  refine sa_kWr (As := [.int (o), .int (nI M)]) (rest := [.int (0), .ref w]) S (c_X0_fill_ok l G cI cZ cL a σ hI o M hJ hM1 hM24 h1 h3) (cwV 2 hts gL_fill_X0_fill rfl rfl rfl (by decide +kernel) ⟨Nat.le_of_ble_eq_true rfl, Nat.le_of_ble_eq_true rfl⟩) hP hK hS (fun _ h => Or.inl h) (ci := 0) rfl rfl rfl hl.1 (Nat.le_of_ble_eq_true rfl) rfl dL_fill_5 ⟨Nat.zero_le _, Nat.zero_le _⟩ (fun H locs hP hS hz9 hk9 => ?_)
  have hO := sa_okeep hO hw hk9
  refine lv_i2l hx hb dL_fill_8 rfl ?_
  refine sa_lst S hK hP hO hJ hw hS dL_fill_9 (fun H locs g1 hg1 hP hO hS => ?_)
  refine lv_goto (tgt := 25) hx hb dL_fill_10 (by decide) ?_
  refine lv_iconst (v := 0) hx hb dL_fill_25 (by decide) ?_
  exact W.iret (v := 0) hx hb hr (fun t9 ht _ => ⟨⟨0, g1, rfl, ⟨rfl, hg1⟩, by rw [ht]; exact hP, by rw [ht]; exact hO⟩, hS.F ht⟩) hS.2.2 dL_fill_26
set_option maxHeartbeats 4000000 in
set_option maxRecDepth 100000 in
theorem k_fill_ex (l : Launch) (lo : Nat) (hst : l.stackTraces = false) (G : va_G) (cI cZ cL : ClassId) (a : Nat → Nat) (σ : sa_St) (w : Nat) (hI : sa_I σ) (o most : Int32) (hne : ¬ (sp_fill σ o most).1 = 0) : sa_Lx l yL_fill wsL_fill ({ frames := 9, cells := 1, slots := 6, locals := 156 }) lo G cI cZ cL a σ [.ref (a 0), .int (o), .int (most), .ref w] (sp_fill σ o most).1 := by
  refine va_MetW (cc := cL_fill) (maxL := 5) (ret := (some .int)) (hh := [(0, 10, 13, 21), (0, 10, 17, 13), (0, 10, 21, 15)]) (by decide) rfl ?_
  intro p e s m args below meth c s₁ B9 hml hv
  obtain ⟨rfl, ⟨hP, hK⟩, hT, hn21, hn32, hn31⟩ := hv
  have hx := B9.exec
  have hb := B9.bytes
  have hr := B9.returns
  have hlk := B9.notSynchronized
  have hts := atoms_spec (ws := wsL_fill) B9.pre
  have hown : s.vm.findClass RL = some m.cls := findClass_of_methodNamed B9.named
  have S : CallFix p m c cL_fill 5 s _ wsL_fill RL := ⟨hx, hb, hml, hown, hts⟩
  have htb : c.exceptionTable.toList = tableOf [(0, 10, 13, 21), (0, 10, 17, 13), (0, 10, 21, 15)] := vx_table (x := yL_fill) B9 (hts (.codeWith yL_fill cL_fill 5 (some .int) [(0, 10, 13, 21), (0, 10, 17, 13), (0, 10, 21, 15)]) (by unfold wsL_fill; exact List.mem_cons_self))
  have hl := lv_entry ([.ref (a 0), .int (o), .int (most), .ref w]) (n := 5) (Nat.le_of_ble_eq_true rfl)
  rw [lg_entry_eq]
  generalize (lg_sl ([.ref (a 0), .int (o), .int (most), .ref w]) ++ List.replicate (5 - (lg_sl ([.ref (a 0), .int (o), .int (most), .ref w])).length) Slot.unset).toArray = ls at hl ⊢
  have hl : lv_has ls 5 [(0, .ref (a 0)), (1, .int (o)), (2, .int (most)), (3, .ref w)] := hl
  refine lv_aload_n hx hb dL_fill_0 rfl (lv_at hl 3 rfl) ?_
  refine lv_iconst (v := 0) hx hb dL_fill_1 (by decide) ?_
  refine lv_aload_n hx hb dL_fill_2 rfl (lv_at hl 0 rfl) ?_
  refine lv_iload_n hx hb dL_fill_3 rfl (lv_at hl 1 rfl) ?_
  refine lv_iload_n hx hb dL_fill_4 rfl (lv_at hl 2 rfl) ?_
  refine sa_kTry (sa_runExV (As := [.int (o), .int (most)]) (rest := [.int (0), .ref w]) S (c_X0_fill_ex l lo hst G cI cZ cL a σ hI o most hne) (cwV 2 hts gL_fill_X0_fill rfl rfl rfl (by decide +kernel) ⟨Nat.le_of_ble_eq_true rfl, Nat.le_of_ble_eq_true rfl⟩) hP hK hT (ci := 0) rfl rfl rfl hl.1 (Nat.le_of_ble_eq_true rfl) rfl dL_fill_5 ⟨Nat.le_refl _, Nat.le_refl _⟩) (fun E ce q9 H1 hE hz hk hce hcv hcl => ?_)
  rcases List.mem_cons.mp hE with hE | hE
  · skip
    have hE1 : (sp_fill σ o most).1 = 1 := congrArg Prod.fst hE
    have hE2 : E = sa_E1 := congrArg Prod.snd hE
    subst hE2
    refine vx_catch (own := RL) (name := sa_E1) hown [] ⟨0, 10, 13, 21⟩ [⟨0, 10, 17, 13⟩, ⟨0, 10, 21, 15⟩] htb (fun _ h => absurd h List.not_mem_nil) (by decide) (by decide) (hts (.classLink RL 21 sa_E1) (by decide +kernel)) (va_Nw.use rfl hT.2.2.2.2.2.1) hce hcv hcl ?_
    refine lv_astore (lv' := [(4, .ref q9), (0, .ref (a 0)), (1, .int (o)), (2, .int (most)), (3, .ref w)]) hx hb dL_fill_13 hl (by decide) rfl (fun ls hl => ?_)
    refine lv_iconst (v := 1) hx hb dL_fill_15 (by decide) ?_
    exact W.iret (v := 1) hx hb hr (fun t9 ht _ => ⟨⟨1, (), rfl, by rw [hE1]; rfl, trivial⟩, by rw [ht]; exact hz, fun q8 h8 _ => by rw [ht]; exact hk q8 h8⟩) (fun _ h => nomatch h) dL_fill_16
  · skip
    rcases List.mem_cons.mp hE with hE | hE
    · skip
      have hE1 : (sp_fill σ o most).1 = 2 := congrArg Prod.fst hE
      have hE2 : E = sa_E2 := congrArg Prod.snd hE
      subst hE2
      refine vx_catch (own := RL) (name := sa_E2) hown [⟨0, 10, 13, 21⟩] ⟨0, 10, 17, 13⟩ [⟨0, 10, 21, 15⟩] htb (List.forall_mem_cons.mpr ⟨(Or.inr ⟨by decide, sa_E1, hts (.classLink RL 21 sa_E1) (by decide +kernel), hn21⟩), (fun _ h => absurd h List.not_mem_nil)⟩) (by decide) (by decide) (hts (.classLink RL 13 sa_E2) (by decide +kernel)) (va_Nw.use rfl hT.2.2.2.2.2.2.1) hce hcv hcl ?_
      refine lv_astore (lv' := [(4, .ref q9), (0, .ref (a 0)), (1, .int (o)), (2, .int (most)), (3, .ref w)]) hx hb dL_fill_17 hl (by decide) rfl (fun ls hl => ?_)
      refine lv_iconst (v := 2) hx hb dL_fill_19 (by decide) ?_
      exact W.iret (v := 2) hx hb hr (fun t9 ht _ => ⟨⟨2, (), rfl, by rw [hE1]; rfl, trivial⟩, by rw [ht]; exact hz, fun q8 h8 _ => by rw [ht]; exact hk q8 h8⟩) (fun _ h => nomatch h) dL_fill_20
    · skip
      have hE := List.mem_singleton.mp hE
      have hE1 : (sp_fill σ o most).1 = 3 := congrArg Prod.fst hE
      have hE2 : E = sa_E3 := congrArg Prod.snd hE
      subst hE2
      refine vx_catch (own := RL) (name := sa_E3) hown [⟨0, 10, 13, 21⟩, ⟨0, 10, 17, 13⟩] ⟨0, 10, 21, 15⟩ [] htb (List.forall_mem_cons.mpr ⟨(Or.inr ⟨by decide, sa_E1, hts (.classLink RL 21 sa_E1) (by decide +kernel), hn31⟩), (List.forall_mem_cons.mpr ⟨(Or.inr ⟨by decide, sa_E2, hts (.classLink RL 13 sa_E2) (by decide +kernel), hn32⟩), (fun _ h => absurd h List.not_mem_nil)⟩)⟩) (by decide) (by decide) (hts (.classLink RL 15 sa_E3) (by decide +kernel)) (va_Nw.use rfl hT.2.2.2.2.2.2.2.1) hce hcv hcl ?_
      refine lv_astore (lv' := [(4, .ref q9), (0, .ref (a 0)), (1, .int (o)), (2, .int (most)), (3, .ref w)]) hx hb dL_fill_21 hl (by decide) rfl (fun ls hl => ?_)
      refine lv_iconst (v := 3) hx hb dL_fill_23 (by decide) ?_
      exact W.iret (v := 3) hx hb hr (fun t9 ht _ => ⟨⟨3, (), rfl, by rw [hE1]; rfl, trivial⟩, by rw [ht]; exact hz, fun q8 h8 _ => by rw [ht]; exact hk q8 h8⟩) (fun _ h => nomatch h) dL_fill_24

set_option maxHeartbeats 4000000 in
set_option maxRecDepth 100000 in
theorem k_move_ok (l : Launch) (G : va_G) (cI cZ cL : ClassId) (a : Nat → Nat) (σ : sa_St) (w : Nat) (g : Nat → Int64) (hI : sa_I σ) (hJ : sa_J a) (hw : ¬ sa_A a w) (x at' : Int32) (h0 : (sp_move σ x at').1 = 0) : sa_Lo l yL_move wsL_move ({ frames := 9, cells := 0, slots := 0, locals := 155 }) G cI cZ cL a σ w g [.ref (a 0), .int (x), .int (at'), .ref w] (sp_move σ x at').2.1 (sp_move σ x at').2.2 := by
  obtain ⟨h1, h2, h3⟩ := sa_go_ok h0
  have hsp : sp_move σ x at' = (0, _) := sa_go0 h1 h2 h3
  rw [hsp]
  refine va_MetW (cc := cL_move) (maxL := 5) (ret := (some .int)) (hh := [(0, 10, 13, 21), (0, 10, 17, 15)]) (by decide) rfl ?_
  intro p e s m args below meth c s₁ B9 hml hv
  obtain ⟨rfl, hP, hO, hK⟩ := hv
  have hx := B9.exec
  have hb := B9.bytes
  have hr := B9.returns
  have hlk := B9.notSynchronized
  have hts := atoms_spec (ws := wsL_move) B9.pre
  have hown : s.vm.findClass RL = some m.cls := findClass_of_methodNamed B9.named
  have S : CallFix p m c cL_move 5 s _ wsL_move RL := ⟨hx, hb, hml, hown, hts⟩
  have hS : va_S (sa_B a w) s.heap s.heap [] := va_S.rf
  have hl := lv_entry ([.ref (a 0), .int (x), .int (at'), .ref w]) (n := 5) (Nat.le_of_ble_eq_true rfl)
  rw [lg_entry_eq]
  generalize (lg_sl ([.ref (a 0), .int (x), .int (at'), .ref w]) ++ List.replicate (5 - (lg_sl ([.ref (a 0), .int (x), .int (at'), .ref w])).length) Slot.unset).toArray = ls at hl ⊢
  have hl : lv_has ls 5 [(0, .ref (a 0)), (1, .int (x)), (2, .int (at')), (3, .ref w)] := hl
  refine lv_aload_n hx hb dL_move_0 rfl (lv_at hl 3 rfl) ?_
  refine lv_iconst (v := 0) hx hb dL_move_1 (by decide) ?_
  refine lv_aload_n hx hb dL_move_2 rfl (lv_at hl 0 rfl) ?_
  refine lv_iload_n hx hb dL_move_3 rfl (lv_at hl 1 rfl) ?_
  refine lv_iload_n hx hb dL_move_4 rfl (lv_at hl 2 rfl) ?_
  refine sa_kWr (As := [.int (x), .int (at')]) (rest := [.int (0), .ref w]) S (c_X0_move_ok l G cI cZ cL a σ hI x at' hJ h1 h2) (cwV 2 hts gL_move_X0_move rfl rfl rfl (by decide +kernel) ⟨Nat.le_of_ble_eq_true rfl, Nat.le_of_ble_eq_true rfl⟩) hP hK hS (fun _ h => Or.inl h) (ci := 0) rfl rfl rfl hl.1 (Nat.le_of_ble_eq_true rfl) rfl dL_move_5 ⟨Nat.zero_le _, Nat.zero_le _⟩ (fun H locs hP hS hz9 hk9 => ?_)
  have hO := sa_okeep hO hw hk9
  refine lv_i2l hx hb dL_move_8 rfl ?_
  refine sa_lst S hK hP hO hJ hw hS dL_move_9 (fun H locs g1 hg1 hP hO hS => ?_)
  refine lv_goto (tgt := 21) hx hb dL_move_10 (by decide) ?_
  refine lv_iconst (v := 0) hx hb dL_move_21 (by decide) ?_
  exact W.iret (v := 0) hx hb hr (fun t9 ht _ => ⟨⟨0, g1, rfl, ⟨rfl, hg1⟩, by rw [ht]; exact hP, by rw [ht]; exact hO⟩, hS.F ht⟩) hS.2.2 dL_move_22
set_option maxHeartbeats 4000000 in
set_option maxRecDepth 100000 in
theorem k_move_ex (l : Launch) (lo : Nat) (hst : l.stackTraces = false) (G : va_G) (cI cZ cL : ClassId) (a : Nat → Nat) (σ : sa_St) (w : Nat) (hI : sa_I σ) (x at' : Int32) (hne : ¬ (sp_move σ x at').1 = 0) : sa_Lx l yL_move wsL_move ({ frames := 9, cells := 1, slots := 6, locals := 155 }) lo G cI cZ cL a σ [.ref (a 0), .int (x), .int (at'), .ref w] (sp_move σ x at').1 := by
  refine va_MetW (cc := cL_move) (maxL := 5) (ret := (some .int)) (hh := [(0, 10, 13, 21), (0, 10, 17, 15)]) (by decide) rfl ?_
  intro p e s m args below meth c s₁ B9 hml hv
  obtain ⟨rfl, ⟨hP, hK⟩, hT, hn21, hn32, hn31⟩ := hv
  have hx := B9.exec
  have hb := B9.bytes
  have hr := B9.returns
  have hlk := B9.notSynchronized
  have hts := atoms_spec (ws := wsL_move) B9.pre
  have hown : s.vm.findClass RL = some m.cls := findClass_of_methodNamed B9.named
  have S : CallFix p m c cL_move 5 s _ wsL_move RL := ⟨hx, hb, hml, hown, hts⟩
  have htb : c.exceptionTable.toList = tableOf [(0, 10, 13, 21), (0, 10, 17, 15)] := vx_table (x := yL_move) B9 (hts (.codeWith yL_move cL_move 5 (some .int) [(0, 10, 13, 21), (0, 10, 17, 15)]) (by unfold wsL_move; exact List.mem_cons_self))
  have hl := lv_entry ([.ref (a 0), .int (x), .int (at'), .ref w]) (n := 5) (Nat.le_of_ble_eq_true rfl)
  rw [lg_entry_eq]
  generalize (lg_sl ([.ref (a 0), .int (x), .int (at'), .ref w]) ++ List.replicate (5 - (lg_sl ([.ref (a 0), .int (x), .int (at'), .ref w])).length) Slot.unset).toArray = ls at hl ⊢
  have hl : lv_has ls 5 [(0, .ref (a 0)), (1, .int (x)), (2, .int (at')), (3, .ref w)] := hl
  refine lv_aload_n hx hb dL_move_0 rfl (lv_at hl 3 rfl) ?_
  refine lv_iconst (v := 0) hx hb dL_move_1 (by decide) ?_
  refine lv_aload_n hx hb dL_move_2 rfl (lv_at hl 0 rfl) ?_
  refine lv_iload_n hx hb dL_move_3 rfl (lv_at hl 1 rfl) ?_
  refine lv_iload_n hx hb dL_move_4 rfl (lv_at hl 2 rfl) ?_
  refine sa_kTry (sa_runExV (As := [.int (x), .int (at')]) (rest := [.int (0), .ref w]) S (c_X0_move_ex l lo hst G cI cZ cL a σ hI x at' hne) (cwV 2 hts gL_move_X0_move rfl rfl rfl (by decide +kernel) ⟨Nat.le_of_ble_eq_true rfl, Nat.le_of_ble_eq_true rfl⟩) hP hK hT (ci := 0) rfl rfl rfl hl.1 (Nat.le_of_ble_eq_true rfl) rfl dL_move_5 ⟨Nat.le_refl _, Nat.le_refl _⟩) (fun E ce q9 H1 hE hz hk hce hcv hcl => ?_)
  rcases List.mem_cons.mp hE with hE | hE
  · skip
    have hE1 : (sp_move σ x at').1 = 1 := congrArg Prod.fst hE
    have hE2 : E = sa_E1 := congrArg Prod.snd hE
    subst hE2
    refine vx_catch (own := RL) (name := sa_E1) hown [] ⟨0, 10, 13, 21⟩ [⟨0, 10, 17, 15⟩] htb (fun _ h => absurd h List.not_mem_nil) (by decide) (by decide) (hts (.classLink RL 21 sa_E1) (by decide +kernel)) (va_Nw.use rfl hT.2.2.2.2.2.1) hce hcv hcl ?_
    refine lv_astore (lv' := [(4, .ref q9), (0, .ref (a 0)), (1, .int (x)), (2, .int (at')), (3, .ref w)]) hx hb dL_move_13 hl (by decide) rfl (fun ls hl => ?_)
    refine lv_iconst (v := 1) hx hb dL_move_15 (by decide) ?_
    exact W.iret (v := 1) hx hb hr (fun t9 ht _ => ⟨⟨1, (), rfl, by rw [hE1]; rfl, trivial⟩, by rw [ht]; exact hz, fun q8 h8 _ => by rw [ht]; exact hk q8 h8⟩) (fun _ h => nomatch h) dL_move_16
  · skip
    have hE := List.mem_singleton.mp hE
    have hE1 : (sp_move σ x at').1 = 2 := congrArg Prod.fst hE
    have hE2 : E = sa_E3 := congrArg Prod.snd hE
    subst hE2
    refine vx_catch (own := RL) (name := sa_E3) hown [⟨0, 10, 13, 21⟩] ⟨0, 10, 17, 15⟩ [] htb (List.forall_mem_cons.mpr ⟨(Or.inr ⟨by decide, sa_E1, hts (.classLink RL 21 sa_E1) (by decide +kernel), hn31⟩), (fun _ h => absurd h List.not_mem_nil)⟩) (by decide) (by decide) (hts (.classLink RL 15 sa_E3) (by decide +kernel)) (va_Nw.use rfl hT.2.2.2.2.2.2.2.1) hce hcv hcl ?_
    refine lv_astore (lv' := [(4, .ref q9), (0, .ref (a 0)), (1, .int (x)), (2, .int (at')), (3, .ref w)]) hx hb dL_move_17 hl (by decide) rfl (fun ls hl => ?_)
    refine lv_iconst (v := 2) hx hb dL_move_19 (by decide) ?_
    exact W.iret (v := 2) hx hb hr (fun t9 ht _ => ⟨⟨2, (), rfl, by rw [hE1]; rfl, trivial⟩, by rw [ht]; exact hz, fun q8 h8 _ => by rw [ht]; exact hk q8 h8⟩) (fun _ h => nomatch h) dL_move_20

set_option maxHeartbeats 4000000 in
set_option maxRecDepth 100000 in
theorem k_miss_ok (l : Launch) (G : va_G) (cI cZ cL : ClassId) (a : Nat → Nat) (σ : sa_St) (w : Nat) (g : Nat → Int64) (hI : sa_I σ) (hJ : sa_J a) (hw : ¬ sa_A a w) (x : Int32) (h0 : (sp_miss σ x).1 = 0) : sa_Lo l yL_miss wsL_miss ({ frames := 9, cells := 0, slots := 0, locals := 154 }) G cI cZ cL a σ w g [.ref (a 0), .int (x), .ref w] (sp_miss σ x).2.1 (sp_miss σ x).2.2 := by
  obtain ⟨h1, h2, h3⟩ := sa_go_ok h0
  have hsp : sp_miss σ x = (0, _) := sa_go0 h1 h2 h3
  rw [hsp]
  refine va_MetW (cc := cL_miss) (maxL := 4) (ret := (some .int)) (hh := [(0, 16, 19, 21), (0, 16, 22, 15)]) (by decide) rfl ?_
  intro p e s m args below meth c s₁ B9 hml hv
  obtain ⟨rfl, hP, hO, hK⟩ := hv
  have hx := B9.exec
  have hb := B9.bytes
  have hr := B9.returns
  have hlk := B9.notSynchronized
  have hts := atoms_spec (ws := wsL_miss) B9.pre
  have hown : s.vm.findClass RL = some m.cls := findClass_of_methodNamed B9.named
  have S : CallFix p m c cL_miss 4 s _ wsL_miss RL := ⟨hx, hb, hml, hown, hts⟩
  have hS : va_S (sa_B a w) s.heap s.heap [] := va_S.rf
  have hl := lv_entry ([.ref (a 0), .int (x), .ref w]) (n := 4) (Nat.le_of_ble_eq_true rfl)
  rw [lg_entry_eq]
  generalize (lg_sl ([.ref (a 0), .int (x), .ref w]) ++ List.replicate (4 - (lg_sl ([.ref (a 0), .int (x), .ref w])).length) Slot.unset).toArray = ls at hl ⊢
  have hl : lv_has ls 4 [(0, .ref (a 0)), (1, .int (x)), (2, .ref w)] := hl
  refine lv_aload_n hx hb dL_miss_0 rfl (lv_at hl 2 rfl) ?_
  refine lv_iconst (v := 0) hx hb dL_miss_1 (by decide) ?_
  refine lv_aload_n hx hb dL_miss_2 rfl (lv_at hl 0 rfl) ?_
  refine lv_iload_n hx hb dL_miss_3 rfl (lv_at hl 1 rfl) ?_
  refine sa_kWr (As := [.int (x)]) (rest := [.int (0), .ref w]) S (c_X0_miss_ok l G cI cZ cL a σ hI x hJ h1 h2) (cwV 1 hts gL_miss_X0_miss rfl rfl rfl (by decide +kernel) ⟨Nat.le_of_ble_eq_true rfl, Nat.le_of_ble_eq_true rfl⟩) hP hK hS (fun _ h => Or.inl h) (ci := 0) rfl rfl rfl hl.1 (Nat.le_of_ble_eq_true rfl) rfl dL_miss_4 ⟨Nat.zero_le _, Nat.zero_le _⟩ (fun H locs hP hS hz9 hk9 => ?_)
  have hO := sa_okeep hO hw hk9
  refine lv_if_eq (tgt := 14) hx hb dL_miss_7 (by decide) (fun c_9 => ?_) (fun c_9 => ?_)
  · skip
    refine lv_lconst (v := 0) hx hb dL_miss_14 (by decide) ?_
    refine sa_lst S hK hP hO hJ hw hS dL_miss_15 (fun H locs g1 hg1 hP hO hS => ?_)
    refine lv_goto (tgt := 25) hx hb dL_miss_16 (by decide) ?_
    refine lv_iconst (v := 0) hx hb dL_miss_25 (by decide) ?_
    exact W.iret (v := 0) hx hb hr (fun t9 ht _ => ⟨⟨0, g1, rfl, ⟨rfl, (by show g1 0 = (sa_b (σ.2 14 x.toNatClampNeg = 1)).toInt64; rw [hg1, sa_bf (sa_b0 c_9)]; rfl)⟩, by rw [ht]; exact hP, by rw [ht]; exact hO⟩, hS.F ht⟩) hS.2.2 dL_miss_26
  · skip
    refine lv_lconst (v := 1) hx hb dL_miss_10 (by decide) ?_
    refine lv_goto (tgt := 15) hx hb dL_miss_11 (by decide) ?_
    refine sa_lst S hK hP hO hJ hw hS dL_miss_15 (fun H locs g1 hg1 hP hO hS => ?_)
    refine lv_goto (tgt := 25) hx hb dL_miss_16 (by decide) ?_
    refine lv_iconst (v := 0) hx hb dL_miss_25 (by decide) ?_
    exact W.iret (v := 0) hx hb hr (fun t9 ht _ => ⟨⟨0, g1, rfl, ⟨rfl, (by show g1 0 = (sa_b (σ.2 14 x.toNatClampNeg = 1)).toInt64; rw [hg1, sa_bt (sa_b1 c_9)]; rfl)⟩, by rw [ht]; exact hP, by rw [ht]; exact hO⟩, hS.F ht⟩) hS.2.2 dL_miss_26
set_option maxHeartbeats 4000000 in
set_option maxRecDepth 100000 in
theorem k_miss_ex (l : Launch) (lo : Nat) (hst : l.stackTraces = false) (G : va_G) (cI cZ cL : ClassId) (a : Nat → Nat) (σ : sa_St) (w : Nat) (hI : sa_I σ) (x : Int32) (hne : ¬ (sp_miss σ x).1 = 0) : sa_Lx l yL_miss wsL_miss ({ frames := 9, cells := 1, slots := 6, locals := 154 }) lo G cI cZ cL a σ [.ref (a 0), .int (x), .ref w] (sp_miss σ x).1 := by
  refine va_MetW (cc := cL_miss) (maxL := 4) (ret := (some .int)) (hh := [(0, 16, 19, 21), (0, 16, 22, 15)]) (by decide) rfl ?_
  intro p e s m args below meth c s₁ B9 hml hv
  obtain ⟨rfl, ⟨hP, hK⟩, hT, hn21, hn32, hn31⟩ := hv
  have hx := B9.exec
  have hb := B9.bytes
  have hr := B9.returns
  have hlk := B9.notSynchronized
  have hts := atoms_spec (ws := wsL_miss) B9.pre
  have hown : s.vm.findClass RL = some m.cls := findClass_of_methodNamed B9.named
  have S : CallFix p m c cL_miss 4 s _ wsL_miss RL := ⟨hx, hb, hml, hown, hts⟩
  have htb : c.exceptionTable.toList = tableOf [(0, 16, 19, 21), (0, 16, 22, 15)] := vx_table (x := yL_miss) B9 (hts (.codeWith yL_miss cL_miss 4 (some .int) [(0, 16, 19, 21), (0, 16, 22, 15)]) (by unfold wsL_miss; exact List.mem_cons_self))
  have hl := lv_entry ([.ref (a 0), .int (x), .ref w]) (n := 4) (Nat.le_of_ble_eq_true rfl)
  rw [lg_entry_eq]
  generalize (lg_sl ([.ref (a 0), .int (x), .ref w]) ++ List.replicate (4 - (lg_sl ([.ref (a 0), .int (x), .ref w])).length) Slot.unset).toArray = ls at hl ⊢
  have hl : lv_has ls 4 [(0, .ref (a 0)), (1, .int (x)), (2, .ref w)] := hl
  refine lv_aload_n hx hb dL_miss_0 rfl (lv_at hl 2 rfl) ?_
  refine lv_iconst (v := 0) hx hb dL_miss_1 (by decide) ?_
  refine lv_aload_n hx hb dL_miss_2 rfl (lv_at hl 0 rfl) ?_
  refine lv_iload_n hx hb dL_miss_3 rfl (lv_at hl 1 rfl) ?_
  refine sa_kTry (sa_runExV (As := [.int (x)]) (rest := [.int (0), .ref w]) S (c_X0_miss_ex l lo hst G cI cZ cL a σ hI x hne) (cwV 1 hts gL_miss_X0_miss rfl rfl rfl (by decide +kernel) ⟨Nat.le_of_ble_eq_true rfl, Nat.le_of_ble_eq_true rfl⟩) hP hK hT (ci := 0) rfl rfl rfl hl.1 (Nat.le_of_ble_eq_true rfl) rfl dL_miss_4 ⟨Nat.le_refl _, Nat.le_refl _⟩) (fun E ce q9 H1 hE hz hk hce hcv hcl => ?_)
  rcases List.mem_cons.mp hE with hE | hE
  · skip
    have hE1 : (sp_miss σ x).1 = 1 := congrArg Prod.fst hE
    have hE2 : E = sa_E1 := congrArg Prod.snd hE
    subst hE2
    refine vx_catch (own := RL) (name := sa_E1) hown [] ⟨0, 16, 19, 21⟩ [⟨0, 16, 22, 15⟩] htb (fun _ h => absurd h List.not_mem_nil) (by decide) (by decide) (hts (.classLink RL 21 sa_E1) (by decide +kernel)) (va_Nw.use rfl hT.2.2.2.2.2.1) hce hcv hcl ?_
    refine lv_astore_n (lv' := [(3, .ref q9), (0, .ref (a 0)), (1, .int (x)), (2, .ref w)]) hx hb dL_miss_19 rfl hl (by decide) rfl (fun ls hl => ?_)
    refine lv_iconst (v := 1) hx hb dL_miss_20 (by decide) ?_
    exact W.iret (v := 1) hx hb hr (fun t9 ht _ => ⟨⟨1, (), rfl, by rw [hE1]; rfl, trivial⟩, by rw [ht]; exact hz, fun q8 h8 _ => by rw [ht]; exact hk q8 h8⟩) (fun _ h => nomatch h) dL_miss_21
  · skip
    have hE := List.mem_singleton.mp hE
    have hE1 : (sp_miss σ x).1 = 2 := congrArg Prod.fst hE
    have hE2 : E = sa_E3 := congrArg Prod.snd hE
    subst hE2
    refine vx_catch (own := RL) (name := sa_E3) hown [⟨0, 16, 19, 21⟩] ⟨0, 16, 22, 15⟩ [] htb (List.forall_mem_cons.mpr ⟨(Or.inr ⟨by decide, sa_E1, hts (.classLink RL 21 sa_E1) (by decide +kernel), hn31⟩), (fun _ h => absurd h List.not_mem_nil)⟩) (by decide) (by decide) (hts (.classLink RL 15 sa_E3) (by decide +kernel)) (va_Nw.use rfl hT.2.2.2.2.2.2.2.1) hce hcv hcl ?_
    refine lv_astore_n (lv' := [(3, .ref q9), (0, .ref (a 0)), (1, .int (x)), (2, .ref w)]) hx hb dL_miss_22 rfl hl (by decide) rfl (fun ls hl => ?_)
    refine lv_iconst (v := 2) hx hb dL_miss_23 (by decide) ?_
    exact W.iret (v := 2) hx hb hr (fun t9 ht _ => ⟨⟨2, (), rfl, by rw [hE1]; rfl, trivial⟩, by rw [ht]; exact hz, fun q8 h8 _ => by rw [ht]; exact hk q8 h8⟩) (fun _ h => nomatch h) dL_miss_24

set_option maxHeartbeats 4000000 in
set_option maxRecDepth 100000 in
theorem k_drop_ok (l : Launch) (G : va_G) (cI cZ cL : ClassId) (a : Nat → Nat) (σ : sa_St) (w : Nat) (g : Nat → Int64) (hI : sa_I σ) (hJ : sa_J a) (hw : ¬ sa_A a w) (x : Int32) (h0 : (sp_drop σ x).1 = 0) : sa_Ln l yL_drop wsL_drop ({ frames := 9, cells := 0, slots := 0, locals := 153 }) G cI cZ cL a σ [.ref (a 0), .int (x)] (sp_drop σ x).2.2 := by
  obtain ⟨h1, h2, h3⟩ := sa_go_ok h0
  have hsp : sp_drop σ x = (0, _) := sa_go0 h1 h2 h3
  rw [hsp]
  refine va_MetW (cc := cL_drop) (maxL := 3) (ret := (some .int)) (hh := [(0, 5, 8, 21), (0, 5, 11, 15)]) (by decide) rfl ?_
  intro p e s m args below meth c s₁ B9 hml hv
  obtain ⟨rfl, hP, hK⟩ := hv
  have hx := B9.exec
  have hb := B9.bytes
  have hr := B9.returns
  have hlk := B9.notSynchronized
  have hts := atoms_spec (ws := wsL_drop) B9.pre
  have hown : s.vm.findClass RL = some m.cls := findClass_of_methodNamed B9.named
  have S : CallFix p m c cL_drop 3 s _ wsL_drop RL := ⟨hx, hb, hml, hown, hts⟩
  have hS : va_S (sa_A a) s.heap s.heap [] := va_S.rf
  have hl := lv_entry ([.ref (a 0), .int (x)]) (n := 3) (Nat.le_of_ble_eq_true rfl)
  rw [lg_entry_eq]
  generalize (lg_sl ([.ref (a 0), .int (x)]) ++ List.replicate (3 - (lg_sl ([.ref (a 0), .int (x)])).length) Slot.unset).toArray = ls at hl ⊢
  have hl : lv_has ls 3 [(0, .ref (a 0)), (1, .int (x))] := hl
  refine lv_aload_n hx hb dL_drop_0 rfl (lv_at hl 0 rfl) ?_
  refine lv_iload_n hx hb dL_drop_1 rfl (lv_at hl 1 rfl) ?_
  refine sa_kWv (As := [.int (x)]) (rest := []) S (c_X0_drop_ok l G cI cZ cL a σ hI x hJ h1 h2) (cwV 1 hts gL_drop_X0_drop rfl rfl rfl (by decide +kernel) ⟨Nat.le_of_ble_eq_true rfl, Nat.le_of_ble_eq_true rfl⟩) hP hK hS (fun _ h => h) (ci := 0) rfl rfl rfl hl.1 (Nat.le_of_ble_eq_true rfl) rfl dL_drop_2 ⟨Nat.zero_le _, Nat.zero_le _⟩ (fun H locs hP hS hz9 hk9 => ?_)
  refine lv_goto (tgt := 14) hx hb dL_drop_5 (by decide) ?_
  refine lv_iconst (v := 0) hx hb dL_drop_14 (by decide) ?_
  exact W.iret (v := 0) hx hb hr (fun t9 ht _ => ⟨⟨0, (), rfl, rfl, by show va_P G vwCl _ t9.heap; rw [ht]; exact hP⟩, hS.F ht⟩) hS.2.2 dL_drop_15
set_option maxHeartbeats 4000000 in
set_option maxRecDepth 100000 in
theorem k_drop_ex (l : Launch) (lo : Nat) (hst : l.stackTraces = false) (G : va_G) (cI cZ cL : ClassId) (a : Nat → Nat) (σ : sa_St) (w : Nat) (hI : sa_I σ) (x : Int32) (hne : ¬ (sp_drop σ x).1 = 0) : sa_Lx l yL_drop wsL_drop ({ frames := 9, cells := 1, slots := 6, locals := 153 }) lo G cI cZ cL a σ [.ref (a 0), .int (x)] (sp_drop σ x).1 := by
  refine va_MetW (cc := cL_drop) (maxL := 3) (ret := (some .int)) (hh := [(0, 5, 8, 21), (0, 5, 11, 15)]) (by decide) rfl ?_
  intro p e s m args below meth c s₁ B9 hml hv
  obtain ⟨rfl, ⟨hP, hK⟩, hT, hn21, hn32, hn31⟩ := hv
  have hx := B9.exec
  have hb := B9.bytes
  have hr := B9.returns
  have hlk := B9.notSynchronized
  have hts := atoms_spec (ws := wsL_drop) B9.pre
  have hown : s.vm.findClass RL = some m.cls := findClass_of_methodNamed B9.named
  have S : CallFix p m c cL_drop 3 s _ wsL_drop RL := ⟨hx, hb, hml, hown, hts⟩
  have htb : c.exceptionTable.toList = tableOf [(0, 5, 8, 21), (0, 5, 11, 15)] := vx_table (x := yL_drop) B9 (hts (.codeWith yL_drop cL_drop 3 (some .int) [(0, 5, 8, 21), (0, 5, 11, 15)]) (by unfold wsL_drop; exact List.mem_cons_self))
  have hl := lv_entry ([.ref (a 0), .int (x)]) (n := 3) (Nat.le_of_ble_eq_true rfl)
  rw [lg_entry_eq]
  generalize (lg_sl ([.ref (a 0), .int (x)]) ++ List.replicate (3 - (lg_sl ([.ref (a 0), .int (x)])).length) Slot.unset).toArray = ls at hl ⊢
  have hl : lv_has ls 3 [(0, .ref (a 0)), (1, .int (x))] := hl
  refine lv_aload_n hx hb dL_drop_0 rfl (lv_at hl 0 rfl) ?_
  refine lv_iload_n hx hb dL_drop_1 rfl (lv_at hl 1 rfl) ?_
  refine sa_kTry (sa_runExV (As := [.int (x)]) (rest := []) S (c_X0_drop_ex l lo hst G cI cZ cL a σ hI x hne) (cwV 1 hts gL_drop_X0_drop rfl rfl rfl (by decide +kernel) ⟨Nat.le_of_ble_eq_true rfl, Nat.le_of_ble_eq_true rfl⟩) hP hK hT (ci := 0) rfl rfl rfl hl.1 (Nat.le_of_ble_eq_true rfl) rfl dL_drop_2 ⟨Nat.le_refl _, Nat.le_refl _⟩) (fun E ce q9 H1 hE hz hk hce hcv hcl => ?_)
  rcases List.mem_cons.mp hE with hE | hE
  · skip
    have hE1 : (sp_drop σ x).1 = 1 := congrArg Prod.fst hE
    have hE2 : E = sa_E1 := congrArg Prod.snd hE
    subst hE2
    refine vx_catch (own := RL) (name := sa_E1) hown [] ⟨0, 5, 8, 21⟩ [⟨0, 5, 11, 15⟩] htb (fun _ h => absurd h List.not_mem_nil) (by decide) (by decide) (hts (.classLink RL 21 sa_E1) (by decide +kernel)) (va_Nw.use rfl hT.2.2.2.2.2.1) hce hcv hcl ?_
    refine lv_astore_n (lv' := [(2, .ref q9), (0, .ref (a 0)), (1, .int (x))]) hx hb dL_drop_8 rfl hl (by decide) rfl (fun ls hl => ?_)
    refine lv_iconst (v := 1) hx hb dL_drop_9 (by decide) ?_
    exact W.iret (v := 1) hx hb hr (fun t9 ht _ => ⟨⟨1, (), rfl, by rw [hE1]; rfl, trivial⟩, by rw [ht]; exact hz, fun q8 h8 _ => by rw [ht]; exact hk q8 h8⟩) (fun _ h => nomatch h) dL_drop_10
  · skip
    have hE := List.mem_singleton.mp hE
    have hE1 : (sp_drop σ x).1 = 2 := congrArg Prod.fst hE
    have hE2 : E = sa_E3 := congrArg Prod.snd hE
    subst hE2
    refine vx_catch (own := RL) (name := sa_E3) hown [⟨0, 5, 8, 21⟩] ⟨0, 5, 11, 15⟩ [] htb (List.forall_mem_cons.mpr ⟨(Or.inr ⟨by decide, sa_E1, hts (.classLink RL 21 sa_E1) (by decide +kernel), hn31⟩), (fun _ h => absurd h List.not_mem_nil)⟩) (by decide) (by decide) (hts (.classLink RL 15 sa_E3) (by decide +kernel)) (va_Nw.use rfl hT.2.2.2.2.2.2.2.1) hce hcv hcl ?_
    refine lv_astore_n (lv' := [(2, .ref q9), (0, .ref (a 0)), (1, .int (x))]) hx hb dL_drop_11 rfl hl (by decide) rfl (fun ls hl => ?_)
    refine lv_iconst (v := 2) hx hb dL_drop_12 (by decide) ?_
    exact W.iret (v := 2) hx hb hr (fun t9 ht _ => ⟨⟨2, (), rfl, by rw [hE1]; rfl, trivial⟩, by rw [ht]; exact hz, fun q8 h8 _ => by rw [ht]; exact hk q8 h8⟩) (fun _ h => nomatch h) dL_drop_13

set_option maxHeartbeats 4000000 in
set_option maxRecDepth 100000 in
theorem k_stateOf_ok (l : Launch) (G : va_G) (cI cZ cL : ClassId) (a : Nat → Nat) (σ : sa_St) (w : Nat) (g : Nat → Int64) (hI : sa_I σ) (hJ : sa_J a) (hw : ¬ sa_A a w) (x : Int32) (h0 : (sp_stateOf σ x).1 = 0) : sa_Lo l yL_stateOf wsL_stateOf ({ frames := 9, cells := 0, slots := 0, locals := 153 }) G cI cZ cL a σ w g [.ref (a 0), .int (x), .ref w] (sp_stateOf σ x).2.1 (sp_stateOf σ x).2.2 := by
  obtain ⟨h1, h2, h3⟩ := sa_go_ok h0
  have hsp : sp_stateOf σ x = (0, _) := sa_go0 h1 h2 h3
  rw [hsp]
  refine va_MetW (cc := cL_stateOf) (maxL := 4) (ret := (some .int)) (hh := [(0, 9, 12, 21)]) (by decide) rfl ?_
  intro p e s m args below meth c s₁ B9 hml hv
  obtain ⟨rfl, hP, hO, hK⟩ := hv
  have hx := B9.exec
  have hb := B9.bytes
  have hr := B9.returns
  have hlk := B9.notSynchronized
  have hts := atoms_spec (ws := wsL_stateOf) B9.pre
  have hown : s.vm.findClass RL = some m.cls := findClass_of_methodNamed B9.named
  have S : CallFix p m c cL_stateOf 4 s _ wsL_stateOf RL := ⟨hx, hb, hml, hown, hts⟩
  have hS : va_S (sa_B a w) s.heap s.heap [] := va_S.rf
  have hl := lv_entry ([.ref (a 0), .int (x), .ref w]) (n := 4) (Nat.le_of_ble_eq_true rfl)
  rw [lg_entry_eq]
  generalize (lg_sl ([.ref (a 0), .int (x), .ref w]) ++ List.replicate (4 - (lg_sl ([.ref (a 0), .int (x), .ref w])).length) Slot.unset).toArray = ls at hl ⊢
  have hl : lv_has ls 4 [(0, .ref (a 0)), (1, .int (x)), (2, .ref w)] := hl
  refine lv_aload_n hx hb dL_stateOf_0 rfl (lv_at hl 2 rfl) ?_
  refine lv_iconst (v := 0) hx hb dL_stateOf_1 (by decide) ?_
  refine lv_aload_n hx hb dL_stateOf_2 rfl (lv_at hl 0 rfl) ?_
  refine lv_iload_n hx hb dL_stateOf_3 rfl (lv_at hl 1 rfl) ?_
  refine sa_kRd (As := [.int (x)]) (rest := [.int (0), .ref w]) S (c_X0_stateOf_ok l G cI cZ cL a σ hI x h1) (cwV 1 hts gL_stateOf_X0_stateOf rfl rfl rfl (by decide +kernel) ⟨Nat.le_of_ble_eq_true rfl, Nat.le_of_ble_eq_true rfl⟩) hP hK (ci := 0) rfl rfl rfl hl.1 (Nat.le_of_ble_eq_true rfl) rfl dL_stateOf_4 ⟨Nat.zero_le _, Nat.zero_le _⟩ ?_
  refine lv_i2l hx hb dL_stateOf_7 rfl ?_
  refine sa_lst S hK hP hO hJ hw hS dL_stateOf_8 (fun H locs g1 hg1 hP hO hS => ?_)
  refine lv_goto (tgt := 15) hx hb dL_stateOf_9 (by decide) ?_
  refine lv_iconst (v := 0) hx hb dL_stateOf_15 (by decide) ?_
  exact W.iret (v := 0) hx hb hr (fun t9 ht _ => ⟨⟨0, g1, rfl, ⟨rfl, hg1⟩, by rw [ht]; exact hP, by rw [ht]; exact hO⟩, hS.F ht⟩) hS.2.2 dL_stateOf_16
set_option maxHeartbeats 4000000 in
set_option maxRecDepth 100000 in
theorem k_stateOf_ex (l : Launch) (lo : Nat) (hst : l.stackTraces = false) (G : va_G) (cI cZ cL : ClassId) (a : Nat → Nat) (σ : sa_St) (w : Nat) (hI : sa_I σ) (x : Int32) (hne : ¬ (sp_stateOf σ x).1 = 0) : sa_Lx l yL_stateOf wsL_stateOf ({ frames := 9, cells := 1, slots := 6, locals := 153 }) lo G cI cZ cL a σ [.ref (a 0), .int (x), .ref w] (sp_stateOf σ x).1 := by
  refine va_MetW (cc := cL_stateOf) (maxL := 4) (ret := (some .int)) (hh := [(0, 9, 12, 21)]) (by decide) rfl ?_
  intro p e s m args below meth c s₁ B9 hml hv
  obtain ⟨rfl, ⟨hP, hK⟩, hT, hn21, hn32, hn31⟩ := hv
  have hx := B9.exec
  have hb := B9.bytes
  have hr := B9.returns
  have hlk := B9.notSynchronized
  have hts := atoms_spec (ws := wsL_stateOf) B9.pre
  have hown : s.vm.findClass RL = some m.cls := findClass_of_methodNamed B9.named
  have S : CallFix p m c cL_stateOf 4 s _ wsL_stateOf RL := ⟨hx, hb, hml, hown, hts⟩
  have htb : c.exceptionTable.toList = tableOf [(0, 9, 12, 21)] := vx_table (x := yL_stateOf) B9 (hts (.codeWith yL_stateOf cL_stateOf 4 (some .int) [(0, 9, 12, 21)]) (by unfold wsL_stateOf; exact List.mem_cons_self))
  have hl := lv_entry ([.ref (a 0), .int (x), .ref w]) (n := 4) (Nat.le_of_ble_eq_true rfl)
  rw [lg_entry_eq]
  generalize (lg_sl ([.ref (a 0), .int (x), .ref w]) ++ List.replicate (4 - (lg_sl ([.ref (a 0), .int (x), .ref w])).length) Slot.unset).toArray = ls at hl ⊢
  have hl : lv_has ls 4 [(0, .ref (a 0)), (1, .int (x)), (2, .ref w)] := hl
  refine lv_aload_n hx hb dL_stateOf_0 rfl (lv_at hl 2 rfl) ?_
  refine lv_iconst (v := 0) hx hb dL_stateOf_1 (by decide) ?_
  refine lv_aload_n hx hb dL_stateOf_2 rfl (lv_at hl 0 rfl) ?_
  refine lv_iload_n hx hb dL_stateOf_3 rfl (lv_at hl 1 rfl) ?_
  refine sa_kTry (sa_runExV (As := [.int (x)]) (rest := [.int (0), .ref w]) S (c_X0_stateOf_ex l lo hst G cI cZ cL a σ hI x hne) (cwV 1 hts gL_stateOf_X0_stateOf rfl rfl rfl (by decide +kernel) ⟨Nat.le_of_ble_eq_true rfl, Nat.le_of_ble_eq_true rfl⟩) hP hK hT (ci := 0) rfl rfl rfl hl.1 (Nat.le_of_ble_eq_true rfl) rfl dL_stateOf_4 ⟨Nat.le_refl _, Nat.le_refl _⟩) (fun E ce q9 H1 hE hz hk hce hcv hcl => ?_)
  have hE : ((sp_stateOf σ x).1, E) = ((1 : Nat), sa_E1) := List.mem_singleton.mp hE
  have hE1 : (sp_stateOf σ x).1 = 1 := congrArg Prod.fst hE
  have hE2 : E = sa_E1 := congrArg Prod.snd hE
  subst hE2
  refine vx_catch (own := RL) (name := sa_E1) hown [] ⟨0, 9, 12, 21⟩ [] htb (fun _ h => absurd h List.not_mem_nil) (by decide) (by decide) (hts (.classLink RL 21 sa_E1) (by decide +kernel)) (va_Nw.use rfl hT.2.2.2.2.2.1) hce hcv hcl ?_
  refine lv_astore_n (lv' := [(3, .ref q9), (0, .ref (a 0)), (1, .int (x)), (2, .ref w)]) hx hb dL_stateOf_12 rfl hl (by decide) rfl (fun ls hl => ?_)
  refine lv_iconst (v := 1) hx hb dL_stateOf_13 (by decide) ?_
  exact W.iret (v := 1) hx hb hr (fun t9 ht _ => ⟨⟨1, (), rfl, by rw [hE1]; rfl, trivial⟩, by rw [ht]; exact hz, fun q8 h8 _ => by rw [ht]; exact hk q8 h8⟩) (fun _ h => nomatch h) dL_stateOf_14

set_option maxHeartbeats 4000000 in
set_option maxRecDepth 100000 in
theorem k_breakOf_ok (l : Launch) (G : va_G) (cI cZ cL : ClassId) (a : Nat → Nat) (σ : sa_St) (w : Nat) (g : Nat → Int64) (hI : sa_I σ) (hJ : sa_J a) (hw : ¬ sa_A a w) (x : Int32) (h0 : (sp_breakOf σ x).1 = 0) : sa_Lo l yL_breakOf wsL_breakOf ({ frames := 9, cells := 0, slots := 0, locals := 153 }) G cI cZ cL a σ w g [.ref (a 0), .int (x), .ref w] (sp_breakOf σ x).2.1 (sp_breakOf σ x).2.2 := by
  obtain ⟨h1, h2, h3⟩ := sa_go_ok h0
  have hsp : sp_breakOf σ x = (0, _) := sa_go0 h1 h2 h3
  rw [hsp]
  refine va_MetW (cc := cL_breakOf) (maxL := 4) (ret := (some .int)) (hh := [(0, 9, 12, 21)]) (by decide) rfl ?_
  intro p e s m args below meth c s₁ B9 hml hv
  obtain ⟨rfl, hP, hO, hK⟩ := hv
  have hx := B9.exec
  have hb := B9.bytes
  have hr := B9.returns
  have hlk := B9.notSynchronized
  have hts := atoms_spec (ws := wsL_breakOf) B9.pre
  have hown : s.vm.findClass RL = some m.cls := findClass_of_methodNamed B9.named
  have S : CallFix p m c cL_breakOf 4 s _ wsL_breakOf RL := ⟨hx, hb, hml, hown, hts⟩
  have hS : va_S (sa_B a w) s.heap s.heap [] := va_S.rf
  have hl := lv_entry ([.ref (a 0), .int (x), .ref w]) (n := 4) (Nat.le_of_ble_eq_true rfl)
  rw [lg_entry_eq]
  generalize (lg_sl ([.ref (a 0), .int (x), .ref w]) ++ List.replicate (4 - (lg_sl ([.ref (a 0), .int (x), .ref w])).length) Slot.unset).toArray = ls at hl ⊢
  have hl : lv_has ls 4 [(0, .ref (a 0)), (1, .int (x)), (2, .ref w)] := hl
  refine lv_aload_n hx hb dL_breakOf_0 rfl (lv_at hl 2 rfl) ?_
  refine lv_iconst (v := 0) hx hb dL_breakOf_1 (by decide) ?_
  refine lv_aload_n hx hb dL_breakOf_2 rfl (lv_at hl 0 rfl) ?_
  refine lv_iload_n hx hb dL_breakOf_3 rfl (lv_at hl 1 rfl) ?_
  refine sa_kRd (As := [.int (x)]) (rest := [.int (0), .ref w]) S (c_X0_breakOf_ok l G cI cZ cL a σ hI x h1) (cwV 1 hts gL_breakOf_X0_breakOf rfl rfl rfl (by decide +kernel) ⟨Nat.le_of_ble_eq_true rfl, Nat.le_of_ble_eq_true rfl⟩) hP hK (ci := 0) rfl rfl rfl hl.1 (Nat.le_of_ble_eq_true rfl) rfl dL_breakOf_4 ⟨Nat.zero_le _, Nat.zero_le _⟩ ?_
  refine lv_i2l hx hb dL_breakOf_7 rfl ?_
  refine sa_lst S hK hP hO hJ hw hS dL_breakOf_8 (fun H locs g1 hg1 hP hO hS => ?_)
  refine lv_goto (tgt := 15) hx hb dL_breakOf_9 (by decide) ?_
  refine lv_iconst (v := 0) hx hb dL_breakOf_15 (by decide) ?_
  exact W.iret (v := 0) hx hb hr (fun t9 ht _ => ⟨⟨0, g1, rfl, ⟨rfl, hg1⟩, by rw [ht]; exact hP, by rw [ht]; exact hO⟩, hS.F ht⟩) hS.2.2 dL_breakOf_16
set_option maxHeartbeats 4000000 in
set_option maxRecDepth 100000 in
theorem k_breakOf_ex (l : Launch) (lo : Nat) (hst : l.stackTraces = false) (G : va_G) (cI cZ cL : ClassId) (a : Nat → Nat) (σ : sa_St) (w : Nat) (hI : sa_I σ) (x : Int32) (hne : ¬ (sp_breakOf σ x).1 = 0) : sa_Lx l yL_breakOf wsL_breakOf ({ frames := 9, cells := 1, slots := 6, locals := 153 }) lo G cI cZ cL a σ [.ref (a 0), .int (x), .ref w] (sp_breakOf σ x).1 := by
  refine va_MetW (cc := cL_breakOf) (maxL := 4) (ret := (some .int)) (hh := [(0, 9, 12, 21)]) (by decide) rfl ?_
  intro p e s m args below meth c s₁ B9 hml hv
  obtain ⟨rfl, ⟨hP, hK⟩, hT, hn21, hn32, hn31⟩ := hv
  have hx := B9.exec
  have hb := B9.bytes
  have hr := B9.returns
  have hlk := B9.notSynchronized
  have hts := atoms_spec (ws := wsL_breakOf) B9.pre
  have hown : s.vm.findClass RL = some m.cls := findClass_of_methodNamed B9.named
  have S : CallFix p m c cL_breakOf 4 s _ wsL_breakOf RL := ⟨hx, hb, hml, hown, hts⟩
  have htb : c.exceptionTable.toList = tableOf [(0, 9, 12, 21)] := vx_table (x := yL_breakOf) B9 (hts (.codeWith yL_breakOf cL_breakOf 4 (some .int) [(0, 9, 12, 21)]) (by unfold wsL_breakOf; exact List.mem_cons_self))
  have hl := lv_entry ([.ref (a 0), .int (x), .ref w]) (n := 4) (Nat.le_of_ble_eq_true rfl)
  rw [lg_entry_eq]
  generalize (lg_sl ([.ref (a 0), .int (x), .ref w]) ++ List.replicate (4 - (lg_sl ([.ref (a 0), .int (x), .ref w])).length) Slot.unset).toArray = ls at hl ⊢
  have hl : lv_has ls 4 [(0, .ref (a 0)), (1, .int (x)), (2, .ref w)] := hl
  refine lv_aload_n hx hb dL_breakOf_0 rfl (lv_at hl 2 rfl) ?_
  refine lv_iconst (v := 0) hx hb dL_breakOf_1 (by decide) ?_
  refine lv_aload_n hx hb dL_breakOf_2 rfl (lv_at hl 0 rfl) ?_
  refine lv_iload_n hx hb dL_breakOf_3 rfl (lv_at hl 1 rfl) ?_
  refine sa_kTry (sa_runExV (As := [.int (x)]) (rest := [.int (0), .ref w]) S (c_X0_breakOf_ex l lo hst G cI cZ cL a σ hI x hne) (cwV 1 hts gL_breakOf_X0_breakOf rfl rfl rfl (by decide +kernel) ⟨Nat.le_of_ble_eq_true rfl, Nat.le_of_ble_eq_true rfl⟩) hP hK hT (ci := 0) rfl rfl rfl hl.1 (Nat.le_of_ble_eq_true rfl) rfl dL_breakOf_4 ⟨Nat.le_refl _, Nat.le_refl _⟩) (fun E ce q9 H1 hE hz hk hce hcv hcl => ?_)
  have hE : ((sp_breakOf σ x).1, E) = ((1 : Nat), sa_E1) := List.mem_singleton.mp hE
  have hE1 : (sp_breakOf σ x).1 = 1 := congrArg Prod.fst hE
  have hE2 : E = sa_E1 := congrArg Prod.snd hE
  subst hE2
  refine vx_catch (own := RL) (name := sa_E1) hown [] ⟨0, 9, 12, 21⟩ [] htb (fun _ h => absurd h List.not_mem_nil) (by decide) (by decide) (hts (.classLink RL 21 sa_E1) (by decide +kernel)) (va_Nw.use rfl hT.2.2.2.2.2.1) hce hcv hcl ?_
  refine lv_astore_n (lv' := [(3, .ref q9), (0, .ref (a 0)), (1, .int (x)), (2, .ref w)]) hx hb dL_breakOf_12 rfl hl (by decide) rfl (fun ls hl => ?_)
  refine lv_iconst (v := 1) hx hb dL_breakOf_13 (by decide) ?_
  exact W.iret (v := 1) hx hb hr (fun t9 ht _ => ⟨⟨1, (), rfl, by rw [hE1]; rfl, trivial⟩, by rw [ht]; exact hz, fun q8 h8 _ => by rw [ht]; exact hk q8 h8⟩) (fun _ h => nomatch h) dL_breakOf_14

set_option maxHeartbeats 4000000 in
set_option maxRecDepth 100000 in
theorem k_delivered_ok (l : Launch) (G : va_G) (cI cZ cL : ClassId) (a : Nat → Nat) (σ : sa_St) (w : Nat) (g : Nat → Int64) (hI : sa_I σ) (hJ : sa_J a) (hw : ¬ sa_A a w) (o : Int32) (h0 : (sp_delivered σ o).1 = 0) : sa_Lo l yL_delivered wsL_delivered ({ frames := 9, cells := 0, slots := 0, locals := 153 }) G cI cZ cL a σ w g [.ref (a 0), .int (o), .ref w] (sp_delivered σ o).2.1 (sp_delivered σ o).2.2 := by
  obtain ⟨h1, h2, h3⟩ := sa_go_ok h0
  have hsp : sp_delivered σ o = (0, _) := sa_go0 h1 h2 h3
  rw [hsp]
  refine va_MetW (cc := cL_delivered) (maxL := 4) (ret := (some .int)) (hh := [(0, 9, 12, 21)]) (by decide) rfl ?_
  intro p e s m args below meth c s₁ B9 hml hv
  obtain ⟨rfl, hP, hO, hK⟩ := hv
  have hx := B9.exec
  have hb := B9.bytes
  have hr := B9.returns
  have hlk := B9.notSynchronized
  have hts := atoms_spec (ws := wsL_delivered) B9.pre
  have hown : s.vm.findClass RL = some m.cls := findClass_of_methodNamed B9.named
  have S : CallFix p m c cL_delivered 4 s _ wsL_delivered RL := ⟨hx, hb, hml, hown, hts⟩
  have hS : va_S (sa_B a w) s.heap s.heap [] := va_S.rf
  have hl := lv_entry ([.ref (a 0), .int (o), .ref w]) (n := 4) (Nat.le_of_ble_eq_true rfl)
  rw [lg_entry_eq]
  generalize (lg_sl ([.ref (a 0), .int (o), .ref w]) ++ List.replicate (4 - (lg_sl ([.ref (a 0), .int (o), .ref w])).length) Slot.unset).toArray = ls at hl ⊢
  have hl : lv_has ls 4 [(0, .ref (a 0)), (1, .int (o)), (2, .ref w)] := hl
  refine lv_aload_n hx hb dL_delivered_0 rfl (lv_at hl 2 rfl) ?_
  refine lv_iconst (v := 0) hx hb dL_delivered_1 (by decide) ?_
  refine lv_aload_n hx hb dL_delivered_2 rfl (lv_at hl 0 rfl) ?_
  refine lv_iload_n hx hb dL_delivered_3 rfl (lv_at hl 1 rfl) ?_
  refine sa_kRd (As := [.int (o)]) (rest := [.int (0), .ref w]) S (c_X0_delivered_ok l G cI cZ cL a σ hI o h1) (cwV 1 hts gL_delivered_X0_delivered rfl rfl rfl (by decide +kernel) ⟨Nat.le_of_ble_eq_true rfl, Nat.le_of_ble_eq_true rfl⟩) hP hK (ci := 0) rfl rfl rfl hl.1 (Nat.le_of_ble_eq_true rfl) rfl dL_delivered_4 ⟨Nat.zero_le _, Nat.zero_le _⟩ ?_
  refine lv_i2l hx hb dL_delivered_7 rfl ?_
  refine sa_lst S hK hP hO hJ hw hS dL_delivered_8 (fun H locs g1 hg1 hP hO hS => ?_)
  refine lv_goto (tgt := 15) hx hb dL_delivered_9 (by decide) ?_
  refine lv_iconst (v := 0) hx hb dL_delivered_15 (by decide) ?_
  exact W.iret (v := 0) hx hb hr (fun t9 ht _ => ⟨⟨0, g1, rfl, ⟨rfl, hg1⟩, by rw [ht]; exact hP, by rw [ht]; exact hO⟩, hS.F ht⟩) hS.2.2 dL_delivered_16
set_option maxHeartbeats 4000000 in
set_option maxRecDepth 100000 in
theorem k_delivered_ex (l : Launch) (lo : Nat) (hst : l.stackTraces = false) (G : va_G) (cI cZ cL : ClassId) (a : Nat → Nat) (σ : sa_St) (w : Nat) (hI : sa_I σ) (o : Int32) (hne : ¬ (sp_delivered σ o).1 = 0) : sa_Lx l yL_delivered wsL_delivered ({ frames := 9, cells := 1, slots := 6, locals := 153 }) lo G cI cZ cL a σ [.ref (a 0), .int (o), .ref w] (sp_delivered σ o).1 := by
  refine va_MetW (cc := cL_delivered) (maxL := 4) (ret := (some .int)) (hh := [(0, 9, 12, 21)]) (by decide) rfl ?_
  intro p e s m args below meth c s₁ B9 hml hv
  obtain ⟨rfl, ⟨hP, hK⟩, hT, hn21, hn32, hn31⟩ := hv
  have hx := B9.exec
  have hb := B9.bytes
  have hr := B9.returns
  have hlk := B9.notSynchronized
  have hts := atoms_spec (ws := wsL_delivered) B9.pre
  have hown : s.vm.findClass RL = some m.cls := findClass_of_methodNamed B9.named
  have S : CallFix p m c cL_delivered 4 s _ wsL_delivered RL := ⟨hx, hb, hml, hown, hts⟩
  have htb : c.exceptionTable.toList = tableOf [(0, 9, 12, 21)] := vx_table (x := yL_delivered) B9 (hts (.codeWith yL_delivered cL_delivered 4 (some .int) [(0, 9, 12, 21)]) (by unfold wsL_delivered; exact List.mem_cons_self))
  have hl := lv_entry ([.ref (a 0), .int (o), .ref w]) (n := 4) (Nat.le_of_ble_eq_true rfl)
  rw [lg_entry_eq]
  generalize (lg_sl ([.ref (a 0), .int (o), .ref w]) ++ List.replicate (4 - (lg_sl ([.ref (a 0), .int (o), .ref w])).length) Slot.unset).toArray = ls at hl ⊢
  have hl : lv_has ls 4 [(0, .ref (a 0)), (1, .int (o)), (2, .ref w)] := hl
  refine lv_aload_n hx hb dL_delivered_0 rfl (lv_at hl 2 rfl) ?_
  refine lv_iconst (v := 0) hx hb dL_delivered_1 (by decide) ?_
  refine lv_aload_n hx hb dL_delivered_2 rfl (lv_at hl 0 rfl) ?_
  refine lv_iload_n hx hb dL_delivered_3 rfl (lv_at hl 1 rfl) ?_
  refine sa_kTry (sa_runExV (As := [.int (o)]) (rest := [.int (0), .ref w]) S (c_X0_delivered_ex l lo hst G cI cZ cL a σ hI o hne) (cwV 1 hts gL_delivered_X0_delivered rfl rfl rfl (by decide +kernel) ⟨Nat.le_of_ble_eq_true rfl, Nat.le_of_ble_eq_true rfl⟩) hP hK hT (ci := 0) rfl rfl rfl hl.1 (Nat.le_of_ble_eq_true rfl) rfl dL_delivered_4 ⟨Nat.le_refl _, Nat.le_refl _⟩) (fun E ce q9 H1 hE hz hk hce hcv hcl => ?_)
  have hE : ((sp_delivered σ o).1, E) = ((1 : Nat), sa_E1) := List.mem_singleton.mp hE
  have hE1 : (sp_delivered σ o).1 = 1 := congrArg Prod.fst hE
  have hE2 : E = sa_E1 := congrArg Prod.snd hE
  subst hE2
  refine vx_catch (own := RL) (name := sa_E1) hown [] ⟨0, 9, 12, 21⟩ [] htb (fun _ h => absurd h List.not_mem_nil) (by decide) (by decide) (hts (.classLink RL 21 sa_E1) (by decide +kernel)) (va_Nw.use rfl hT.2.2.2.2.2.1) hce hcv hcl ?_
  refine lv_astore_n (lv' := [(3, .ref q9), (0, .ref (a 0)), (1, .int (o)), (2, .ref w)]) hx hb dL_delivered_12 rfl hl (by decide) rfl (fun ls hl => ?_)
  refine lv_iconst (v := 1) hx hb dL_delivered_13 (by decide) ?_
  exact W.iret (v := 1) hx hb hr (fun t9 ht _ => ⟨⟨1, (), rfl, by rw [hE1]; rfl, trivial⟩, by rw [ht]; exact hz, fun q8 h8 _ => by rw [ht]; exact hk q8 h8⟩) (fun _ h => nomatch h) dL_delivered_14

set_option maxHeartbeats 4000000 in
set_option maxRecDepth 100000 in
theorem k_owed_ok (l : Launch) (G : va_G) (cI cZ cL : ClassId) (a : Nat → Nat) (σ : sa_St) (w : Nat) (g : Nat → Int64) (hI : sa_I σ) (hJ : sa_J a) (hw : ¬ sa_A a w) (o : Int32) (h0 : (sp_owed σ o).1 = 0) : sa_Lo l yL_owed wsL_owed ({ frames := 9, cells := 0, slots := 0, locals := 153 }) G cI cZ cL a σ w g [.ref (a 0), .int (o), .ref w] (sp_owed σ o).2.1 (sp_owed σ o).2.2 := by
  obtain ⟨h1, h2, h3⟩ := sa_go_ok h0
  have hsp : sp_owed σ o = (0, _) := sa_go0 h1 h2 h3
  rw [hsp]
  refine va_MetW (cc := cL_owed) (maxL := 4) (ret := (some .int)) (hh := [(0, 9, 12, 21)]) (by decide) rfl ?_
  intro p e s m args below meth c s₁ B9 hml hv
  obtain ⟨rfl, hP, hO, hK⟩ := hv
  have hx := B9.exec
  have hb := B9.bytes
  have hr := B9.returns
  have hlk := B9.notSynchronized
  have hts := atoms_spec (ws := wsL_owed) B9.pre
  have hown : s.vm.findClass RL = some m.cls := findClass_of_methodNamed B9.named
  have S : CallFix p m c cL_owed 4 s _ wsL_owed RL := ⟨hx, hb, hml, hown, hts⟩
  have hS : va_S (sa_B a w) s.heap s.heap [] := va_S.rf
  have hl := lv_entry ([.ref (a 0), .int (o), .ref w]) (n := 4) (Nat.le_of_ble_eq_true rfl)
  rw [lg_entry_eq]
  generalize (lg_sl ([.ref (a 0), .int (o), .ref w]) ++ List.replicate (4 - (lg_sl ([.ref (a 0), .int (o), .ref w])).length) Slot.unset).toArray = ls at hl ⊢
  have hl : lv_has ls 4 [(0, .ref (a 0)), (1, .int (o)), (2, .ref w)] := hl
  refine lv_aload_n hx hb dL_owed_0 rfl (lv_at hl 2 rfl) ?_
  refine lv_iconst (v := 0) hx hb dL_owed_1 (by decide) ?_
  refine lv_aload_n hx hb dL_owed_2 rfl (lv_at hl 0 rfl) ?_
  refine lv_iload_n hx hb dL_owed_3 rfl (lv_at hl 1 rfl) ?_
  refine sa_kRd (As := [.int (o)]) (rest := [.int (0), .ref w]) S (c_X0_owed_ok l G cI cZ cL a σ hI o h1) (cwV 1 hts gL_owed_X0_owed rfl rfl rfl (by decide +kernel) ⟨Nat.le_of_ble_eq_true rfl, Nat.le_of_ble_eq_true rfl⟩) hP hK (ci := 0) rfl rfl rfl hl.1 (Nat.le_of_ble_eq_true rfl) rfl dL_owed_4 ⟨Nat.zero_le _, Nat.zero_le _⟩ ?_
  refine lv_i2l hx hb dL_owed_7 rfl ?_
  refine sa_lst S hK hP hO hJ hw hS dL_owed_8 (fun H locs g1 hg1 hP hO hS => ?_)
  refine lv_goto (tgt := 15) hx hb dL_owed_9 (by decide) ?_
  refine lv_iconst (v := 0) hx hb dL_owed_15 (by decide) ?_
  exact W.iret (v := 0) hx hb hr (fun t9 ht _ => ⟨⟨0, g1, rfl, ⟨rfl, hg1⟩, by rw [ht]; exact hP, by rw [ht]; exact hO⟩, hS.F ht⟩) hS.2.2 dL_owed_16
set_option maxHeartbeats 4000000 in
set_option maxRecDepth 100000 in
theorem k_owed_ex (l : Launch) (lo : Nat) (hst : l.stackTraces = false) (G : va_G) (cI cZ cL : ClassId) (a : Nat → Nat) (σ : sa_St) (w : Nat) (hI : sa_I σ) (o : Int32) (hne : ¬ (sp_owed σ o).1 = 0) : sa_Lx l yL_owed wsL_owed ({ frames := 9, cells := 1, slots := 6, locals := 153 }) lo G cI cZ cL a σ [.ref (a 0), .int (o), .ref w] (sp_owed σ o).1 := by
  refine va_MetW (cc := cL_owed) (maxL := 4) (ret := (some .int)) (hh := [(0, 9, 12, 21)]) (by decide) rfl ?_
  intro p e s m args below meth c s₁ B9 hml hv
  obtain ⟨rfl, ⟨hP, hK⟩, hT, hn21, hn32, hn31⟩ := hv
  have hx := B9.exec
  have hb := B9.bytes
  have hr := B9.returns
  have hlk := B9.notSynchronized
  have hts := atoms_spec (ws := wsL_owed) B9.pre
  have hown : s.vm.findClass RL = some m.cls := findClass_of_methodNamed B9.named
  have S : CallFix p m c cL_owed 4 s _ wsL_owed RL := ⟨hx, hb, hml, hown, hts⟩
  have htb : c.exceptionTable.toList = tableOf [(0, 9, 12, 21)] := vx_table (x := yL_owed) B9 (hts (.codeWith yL_owed cL_owed 4 (some .int) [(0, 9, 12, 21)]) (by unfold wsL_owed; exact List.mem_cons_self))
  have hl := lv_entry ([.ref (a 0), .int (o), .ref w]) (n := 4) (Nat.le_of_ble_eq_true rfl)
  rw [lg_entry_eq]
  generalize (lg_sl ([.ref (a 0), .int (o), .ref w]) ++ List.replicate (4 - (lg_sl ([.ref (a 0), .int (o), .ref w])).length) Slot.unset).toArray = ls at hl ⊢
  have hl : lv_has ls 4 [(0, .ref (a 0)), (1, .int (o)), (2, .ref w)] := hl
  refine lv_aload_n hx hb dL_owed_0 rfl (lv_at hl 2 rfl) ?_
  refine lv_iconst (v := 0) hx hb dL_owed_1 (by decide) ?_
  refine lv_aload_n hx hb dL_owed_2 rfl (lv_at hl 0 rfl) ?_
  refine lv_iload_n hx hb dL_owed_3 rfl (lv_at hl 1 rfl) ?_
  refine sa_kTry (sa_runExV (As := [.int (o)]) (rest := [.int (0), .ref w]) S (c_X0_owed_ex l lo hst G cI cZ cL a σ hI o hne) (cwV 1 hts gL_owed_X0_owed rfl rfl rfl (by decide +kernel) ⟨Nat.le_of_ble_eq_true rfl, Nat.le_of_ble_eq_true rfl⟩) hP hK hT (ci := 0) rfl rfl rfl hl.1 (Nat.le_of_ble_eq_true rfl) rfl dL_owed_4 ⟨Nat.le_refl _, Nat.le_refl _⟩) (fun E ce q9 H1 hE hz hk hce hcv hcl => ?_)
  have hE : ((sp_owed σ o).1, E) = ((1 : Nat), sa_E1) := List.mem_singleton.mp hE
  have hE1 : (sp_owed σ o).1 = 1 := congrArg Prod.fst hE
  have hE2 : E = sa_E1 := congrArg Prod.snd hE
  subst hE2
  refine vx_catch (own := RL) (name := sa_E1) hown [] ⟨0, 9, 12, 21⟩ [] htb (fun _ h => absurd h List.not_mem_nil) (by decide) (by decide) (hts (.classLink RL 21 sa_E1) (by decide +kernel)) (va_Nw.use rfl hT.2.2.2.2.2.1) hce hcv hcl ?_
  refine lv_astore_n (lv' := [(3, .ref q9), (0, .ref (a 0)), (1, .int (o)), (2, .ref w)]) hx hb dL_owed_12 rfl hl (by decide) rfl (fun ls hl => ?_)
  refine lv_iconst (v := 1) hx hb dL_owed_13 (by decide) ?_
  exact W.iret (v := 1) hx hb hr (fun t9 ht _ => ⟨⟨1, (), rfl, by rw [hE1]; rfl, trivial⟩, by rw [ht]; exact hz, fun q8 h8 _ => by rw [ht]; exact hk q8 h8⟩) (fun _ h => nomatch h) dL_owed_14

set_option maxHeartbeats 4000000 in
set_option maxRecDepth 100000 in
theorem k_rest_ok (l : Launch) (G : va_G) (cI cZ cL : ClassId) (a : Nat → Nat) (σ : sa_St) (w : Nat) (g : Nat → Int64) (hI : sa_I σ) (hJ : sa_J a) (hw : ¬ sa_A a w) (o : Int32) (h0 : (sp_rest σ o).1 = 0) : sa_Lo l yL_rest wsL_rest ({ frames := 9, cells := 0, slots := 0, locals := 153 }) G cI cZ cL a σ w g [.ref (a 0), .int (o), .ref w] (sp_rest σ o).2.1 (sp_rest σ o).2.2 := by
  obtain ⟨h1, h2, h3⟩ := sa_go_ok h0
  have hsp : sp_rest σ o = (0, _) := sa_go0 h1 h2 h3
  rw [hsp]
  refine va_MetW (cc := cL_rest) (maxL := 4) (ret := (some .int)) (hh := [(0, 9, 12, 21)]) (by decide) rfl ?_
  intro p e s m args below meth c s₁ B9 hml hv
  obtain ⟨rfl, hP, hO, hK⟩ := hv
  have hx := B9.exec
  have hb := B9.bytes
  have hr := B9.returns
  have hlk := B9.notSynchronized
  have hts := atoms_spec (ws := wsL_rest) B9.pre
  have hown : s.vm.findClass RL = some m.cls := findClass_of_methodNamed B9.named
  have S : CallFix p m c cL_rest 4 s _ wsL_rest RL := ⟨hx, hb, hml, hown, hts⟩
  have hS : va_S (sa_B a w) s.heap s.heap [] := va_S.rf
  have hl := lv_entry ([.ref (a 0), .int (o), .ref w]) (n := 4) (Nat.le_of_ble_eq_true rfl)
  rw [lg_entry_eq]
  generalize (lg_sl ([.ref (a 0), .int (o), .ref w]) ++ List.replicate (4 - (lg_sl ([.ref (a 0), .int (o), .ref w])).length) Slot.unset).toArray = ls at hl ⊢
  have hl : lv_has ls 4 [(0, .ref (a 0)), (1, .int (o)), (2, .ref w)] := hl
  refine lv_aload_n hx hb dL_rest_0 rfl (lv_at hl 2 rfl) ?_
  refine lv_iconst (v := 0) hx hb dL_rest_1 (by decide) ?_
  refine lv_aload_n hx hb dL_rest_2 rfl (lv_at hl 0 rfl) ?_
  refine lv_iload_n hx hb dL_rest_3 rfl (lv_at hl 1 rfl) ?_
  refine sa_kRd (As := [.int (o)]) (rest := [.int (0), .ref w]) S (c_X0_rest_ok l G cI cZ cL a σ hI o h1) (cwV 1 hts gL_rest_X0_rest rfl rfl rfl (by decide +kernel) ⟨Nat.le_of_ble_eq_true rfl, Nat.le_of_ble_eq_true rfl⟩) hP hK (ci := 0) rfl rfl rfl hl.1 (Nat.le_of_ble_eq_true rfl) rfl dL_rest_4 ⟨Nat.zero_le _, Nat.zero_le _⟩ ?_
  refine lv_i2l hx hb dL_rest_7 rfl ?_
  refine sa_lst S hK hP hO hJ hw hS dL_rest_8 (fun H locs g1 hg1 hP hO hS => ?_)
  refine lv_goto (tgt := 15) hx hb dL_rest_9 (by decide) ?_
  refine lv_iconst (v := 0) hx hb dL_rest_15 (by decide) ?_
  exact W.iret (v := 0) hx hb hr (fun t9 ht _ => ⟨⟨0, g1, rfl, ⟨rfl, hg1⟩, by rw [ht]; exact hP, by rw [ht]; exact hO⟩, hS.F ht⟩) hS.2.2 dL_rest_16
set_option maxHeartbeats 4000000 in
set_option maxRecDepth 100000 in
theorem k_rest_ex (l : Launch) (lo : Nat) (hst : l.stackTraces = false) (G : va_G) (cI cZ cL : ClassId) (a : Nat → Nat) (σ : sa_St) (w : Nat) (hI : sa_I σ) (o : Int32) (hne : ¬ (sp_rest σ o).1 = 0) : sa_Lx l yL_rest wsL_rest ({ frames := 9, cells := 1, slots := 6, locals := 153 }) lo G cI cZ cL a σ [.ref (a 0), .int (o), .ref w] (sp_rest σ o).1 := by
  refine va_MetW (cc := cL_rest) (maxL := 4) (ret := (some .int)) (hh := [(0, 9, 12, 21)]) (by decide) rfl ?_
  intro p e s m args below meth c s₁ B9 hml hv
  obtain ⟨rfl, ⟨hP, hK⟩, hT, hn21, hn32, hn31⟩ := hv
  have hx := B9.exec
  have hb := B9.bytes
  have hr := B9.returns
  have hlk := B9.notSynchronized
  have hts := atoms_spec (ws := wsL_rest) B9.pre
  have hown : s.vm.findClass RL = some m.cls := findClass_of_methodNamed B9.named
  have S : CallFix p m c cL_rest 4 s _ wsL_rest RL := ⟨hx, hb, hml, hown, hts⟩
  have htb : c.exceptionTable.toList = tableOf [(0, 9, 12, 21)] := vx_table (x := yL_rest) B9 (hts (.codeWith yL_rest cL_rest 4 (some .int) [(0, 9, 12, 21)]) (by unfold wsL_rest; exact List.mem_cons_self))
  have hl := lv_entry ([.ref (a 0), .int (o), .ref w]) (n := 4) (Nat.le_of_ble_eq_true rfl)
  rw [lg_entry_eq]
  generalize (lg_sl ([.ref (a 0), .int (o), .ref w]) ++ List.replicate (4 - (lg_sl ([.ref (a 0), .int (o), .ref w])).length) Slot.unset).toArray = ls at hl ⊢
  have hl : lv_has ls 4 [(0, .ref (a 0)), (1, .int (o)), (2, .ref w)] := hl
  refine lv_aload_n hx hb dL_rest_0 rfl (lv_at hl 2 rfl) ?_
  refine lv_iconst (v := 0) hx hb dL_rest_1 (by decide) ?_
  refine lv_aload_n hx hb dL_rest_2 rfl (lv_at hl 0 rfl) ?_
  refine lv_iload_n hx hb dL_rest_3 rfl (lv_at hl 1 rfl) ?_
  refine sa_kTry (sa_runExV (As := [.int (o)]) (rest := [.int (0), .ref w]) S (c_X0_rest_ex l lo hst G cI cZ cL a σ hI o hne) (cwV 1 hts gL_rest_X0_rest rfl rfl rfl (by decide +kernel) ⟨Nat.le_of_ble_eq_true rfl, Nat.le_of_ble_eq_true rfl⟩) hP hK hT (ci := 0) rfl rfl rfl hl.1 (Nat.le_of_ble_eq_true rfl) rfl dL_rest_4 ⟨Nat.le_refl _, Nat.le_refl _⟩) (fun E ce q9 H1 hE hz hk hce hcv hcl => ?_)
  have hE : ((sp_rest σ o).1, E) = ((1 : Nat), sa_E1) := List.mem_singleton.mp hE
  have hE1 : (sp_rest σ o).1 = 1 := congrArg Prod.fst hE
  have hE2 : E = sa_E1 := congrArg Prod.snd hE
  subst hE2
  refine vx_catch (own := RL) (name := sa_E1) hown [] ⟨0, 9, 12, 21⟩ [] htb (fun _ h => absurd h List.not_mem_nil) (by decide) (by decide) (hts (.classLink RL 21 sa_E1) (by decide +kernel)) (va_Nw.use rfl hT.2.2.2.2.2.1) hce hcv hcl ?_
  refine lv_astore_n (lv' := [(3, .ref q9), (0, .ref (a 0)), (1, .int (o)), (2, .ref w)]) hx hb dL_rest_12 rfl hl (by decide) rfl (fun ls hl => ?_)
  refine lv_iconst (v := 1) hx hb dL_rest_13 (by decide) ?_
  exact W.iret (v := 1) hx hb hr (fun t9 ht _ => ⟨⟨1, (), rfl, by rw [hE1]; rfl, trivial⟩, by rw [ht]; exact hz, fun q8 h8 _ => by rw [ht]; exact hk q8 h8⟩) (fun _ h => nomatch h) dL_rest_14

set_option maxHeartbeats 4000000 in
set_option maxRecDepth 100000 in
theorem k_bill_ok (l : Launch) (G : va_G) (cI cZ cL : ClassId) (a : Nat → Nat) (σ : sa_St) (w : Nat) (g : Nat → Int64) (hI : sa_I σ) (hJ : sa_J a) (hw : ¬ sa_A a w) (o : Int32) (h0 : (sp_bill σ o).1 = 0) : sa_Lo l yL_bill wsL_bill ({ frames := 9, cells := 0, slots := 0, locals := 153 }) G cI cZ cL a σ w g [.ref (a 0), .int (o), .ref w] (sp_bill σ o).2.1 (sp_bill σ o).2.2 := by
  obtain ⟨h1, h2, h3⟩ := sa_go_ok h0
  have hsp : sp_bill σ o = (0, _) := sa_go0 h1 h2 h3
  rw [hsp]
  refine va_MetW (cc := cL_bill) (maxL := 4) (ret := (some .int)) (hh := [(0, 9, 12, 21)]) (by decide) rfl ?_
  intro p e s m args below meth c s₁ B9 hml hv
  obtain ⟨rfl, hP, hO, hK⟩ := hv
  have hx := B9.exec
  have hb := B9.bytes
  have hr := B9.returns
  have hlk := B9.notSynchronized
  have hts := atoms_spec (ws := wsL_bill) B9.pre
  have hown : s.vm.findClass RL = some m.cls := findClass_of_methodNamed B9.named
  have S : CallFix p m c cL_bill 4 s _ wsL_bill RL := ⟨hx, hb, hml, hown, hts⟩
  have hS : va_S (sa_B a w) s.heap s.heap [] := va_S.rf
  have hl := lv_entry ([.ref (a 0), .int (o), .ref w]) (n := 4) (Nat.le_of_ble_eq_true rfl)
  rw [lg_entry_eq]
  generalize (lg_sl ([.ref (a 0), .int (o), .ref w]) ++ List.replicate (4 - (lg_sl ([.ref (a 0), .int (o), .ref w])).length) Slot.unset).toArray = ls at hl ⊢
  have hl : lv_has ls 4 [(0, .ref (a 0)), (1, .int (o)), (2, .ref w)] := hl
  refine lv_aload_n hx hb dL_bill_0 rfl (lv_at hl 2 rfl) ?_
  refine lv_iconst (v := 0) hx hb dL_bill_1 (by decide) ?_
  refine lv_aload_n hx hb dL_bill_2 rfl (lv_at hl 0 rfl) ?_
  refine lv_iload_n hx hb dL_bill_3 rfl (lv_at hl 1 rfl) ?_
  refine sa_kRd (As := [.int (o)]) (rest := [.int (0), .ref w]) S (c_X0_bill_ok l G cI cZ cL a σ hI o h1) (cwV 1 hts gL_bill_X0_bill rfl rfl rfl (by decide +kernel) ⟨Nat.le_of_ble_eq_true rfl, Nat.le_of_ble_eq_true rfl⟩) hP hK (ci := 0) rfl rfl rfl hl.1 (Nat.le_of_ble_eq_true rfl) rfl dL_bill_4 ⟨Nat.zero_le _, Nat.zero_le _⟩ ?_
  refine lv_i2l hx hb dL_bill_7 rfl ?_
  refine sa_lst S hK hP hO hJ hw hS dL_bill_8 (fun H locs g1 hg1 hP hO hS => ?_)
  refine lv_goto (tgt := 15) hx hb dL_bill_9 (by decide) ?_
  refine lv_iconst (v := 0) hx hb dL_bill_15 (by decide) ?_
  exact W.iret (v := 0) hx hb hr (fun t9 ht _ => ⟨⟨0, g1, rfl, ⟨rfl, hg1⟩, by rw [ht]; exact hP, by rw [ht]; exact hO⟩, hS.F ht⟩) hS.2.2 dL_bill_16
set_option maxHeartbeats 4000000 in
set_option maxRecDepth 100000 in
theorem k_bill_ex (l : Launch) (lo : Nat) (hst : l.stackTraces = false) (G : va_G) (cI cZ cL : ClassId) (a : Nat → Nat) (σ : sa_St) (w : Nat) (hI : sa_I σ) (o : Int32) (hne : ¬ (sp_bill σ o).1 = 0) : sa_Lx l yL_bill wsL_bill ({ frames := 9, cells := 1, slots := 6, locals := 153 }) lo G cI cZ cL a σ [.ref (a 0), .int (o), .ref w] (sp_bill σ o).1 := by
  refine va_MetW (cc := cL_bill) (maxL := 4) (ret := (some .int)) (hh := [(0, 9, 12, 21)]) (by decide) rfl ?_
  intro p e s m args below meth c s₁ B9 hml hv
  obtain ⟨rfl, ⟨hP, hK⟩, hT, hn21, hn32, hn31⟩ := hv
  have hx := B9.exec
  have hb := B9.bytes
  have hr := B9.returns
  have hlk := B9.notSynchronized
  have hts := atoms_spec (ws := wsL_bill) B9.pre
  have hown : s.vm.findClass RL = some m.cls := findClass_of_methodNamed B9.named
  have S : CallFix p m c cL_bill 4 s _ wsL_bill RL := ⟨hx, hb, hml, hown, hts⟩
  have htb : c.exceptionTable.toList = tableOf [(0, 9, 12, 21)] := vx_table (x := yL_bill) B9 (hts (.codeWith yL_bill cL_bill 4 (some .int) [(0, 9, 12, 21)]) (by unfold wsL_bill; exact List.mem_cons_self))
  have hl := lv_entry ([.ref (a 0), .int (o), .ref w]) (n := 4) (Nat.le_of_ble_eq_true rfl)
  rw [lg_entry_eq]
  generalize (lg_sl ([.ref (a 0), .int (o), .ref w]) ++ List.replicate (4 - (lg_sl ([.ref (a 0), .int (o), .ref w])).length) Slot.unset).toArray = ls at hl ⊢
  have hl : lv_has ls 4 [(0, .ref (a 0)), (1, .int (o)), (2, .ref w)] := hl
  refine lv_aload_n hx hb dL_bill_0 rfl (lv_at hl 2 rfl) ?_
  refine lv_iconst (v := 0) hx hb dL_bill_1 (by decide) ?_
  refine lv_aload_n hx hb dL_bill_2 rfl (lv_at hl 0 rfl) ?_
  refine lv_iload_n hx hb dL_bill_3 rfl (lv_at hl 1 rfl) ?_
  refine sa_kTry (sa_runExV (As := [.int (o)]) (rest := [.int (0), .ref w]) S (c_X0_bill_ex l lo hst G cI cZ cL a σ hI o hne) (cwV 1 hts gL_bill_X0_bill rfl rfl rfl (by decide +kernel) ⟨Nat.le_of_ble_eq_true rfl, Nat.le_of_ble_eq_true rfl⟩) hP hK hT (ci := 0) rfl rfl rfl hl.1 (Nat.le_of_ble_eq_true rfl) rfl dL_bill_4 ⟨Nat.le_refl _, Nat.le_refl _⟩) (fun E ce q9 H1 hE hz hk hce hcv hcl => ?_)
  have hE : ((sp_bill σ o).1, E) = ((1 : Nat), sa_E1) := List.mem_singleton.mp hE
  have hE1 : (sp_bill σ o).1 = 1 := congrArg Prod.fst hE
  have hE2 : E = sa_E1 := congrArg Prod.snd hE
  subst hE2
  refine vx_catch (own := RL) (name := sa_E1) hown [] ⟨0, 9, 12, 21⟩ [] htb (fun _ h => absurd h List.not_mem_nil) (by decide) (by decide) (hts (.classLink RL 21 sa_E1) (by decide +kernel)) (va_Nw.use rfl hT.2.2.2.2.2.1) hce hcv hcl ?_
  refine lv_astore_n (lv' := [(3, .ref q9), (0, .ref (a 0)), (1, .int (o)), (2, .ref w)]) hx hb dL_bill_12 rfl hl (by decide) rfl (fun ls hl => ?_)
  refine lv_iconst (v := 1) hx hb dL_bill_13 (by decide) ?_
  exact W.iret (v := 1) hx hb hr (fun t9 ht _ => ⟨⟨1, (), rfl, by rw [hE1]; rfl, trivial⟩, by rw [ht]; exact hz, fun q8 h8 _ => by rw [ht]; exact hk q8 h8⟩) (fun _ h => nomatch h) dL_bill_14

set_option maxHeartbeats 4000000 in
set_option maxRecDepth 100000 in
theorem k_billTo_ok (l : Launch) (G : va_G) (cI cZ cL : ClassId) (a : Nat → Nat) (σ : sa_St) (w : Nat) (g : Nat → Int64) (hI : sa_I σ) (hJ : sa_J a) (hw : ¬ sa_A a w) (x : Int32) (h0 : (sp_billTo σ x).1 = 0) : sa_Lo l yL_billTo wsL_billTo ({ frames := 8, cells := 0, slots := 0, locals := 133 }) G cI cZ cL a σ w g [.ref (a 0), .int (x), .ref w] (sp_billTo σ x).2.1 (sp_billTo σ x).2.2 := by
  obtain ⟨h1, h2, h3⟩ := sa_go_ok h0
  have hsp : sp_billTo σ x = (0, _) := sa_go0 h1 h2 h3
  rw [hsp]
  refine va_MetW (cc := cL_billTo) (maxL := 4) (ret := (some .int)) (hh := [(0, 9, 12, 13)]) (by decide) rfl ?_
  intro p e s m args below meth c s₁ B9 hml hv
  obtain ⟨rfl, hP, hO, hK⟩ := hv
  have hx := B9.exec
  have hb := B9.bytes
  have hr := B9.returns
  have hlk := B9.notSynchronized
  have hts := atoms_spec (ws := wsL_billTo) B9.pre
  have hown : s.vm.findClass RL = some m.cls := findClass_of_methodNamed B9.named
  have S : CallFix p m c cL_billTo 4 s _ wsL_billTo RL := ⟨hx, hb, hml, hown, hts⟩
  have hS : va_S (sa_B a w) s.heap s.heap [] := va_S.rf
  have hl := lv_entry ([.ref (a 0), .int (x), .ref w]) (n := 4) (Nat.le_of_ble_eq_true rfl)
  rw [lg_entry_eq]
  generalize (lg_sl ([.ref (a 0), .int (x), .ref w]) ++ List.replicate (4 - (lg_sl ([.ref (a 0), .int (x), .ref w])).length) Slot.unset).toArray = ls at hl ⊢
  have hl : lv_has ls 4 [(0, .ref (a 0)), (1, .int (x)), (2, .ref w)] := hl
  refine lv_aload_n hx hb dL_billTo_0 rfl (lv_at hl 2 rfl) ?_
  refine lv_iconst (v := 0) hx hb dL_billTo_1 (by decide) ?_
  refine lv_aload_n hx hb dL_billTo_2 rfl (lv_at hl 0 rfl) ?_
  refine lv_iload_n hx hb dL_billTo_3 rfl (lv_at hl 1 rfl) ?_
  refine sa_kRd (As := [.int (x)]) (rest := [.int (0), .ref w]) S (c_X0_billTo_ok l G cI cZ cL a σ hI x h1) (cwV 1 hts gL_billTo_X0_billTo rfl rfl rfl (by decide +kernel) ⟨Nat.le_of_ble_eq_true rfl, Nat.le_of_ble_eq_true rfl⟩) hP hK (ci := 0) rfl rfl rfl hl.1 (Nat.le_of_ble_eq_true rfl) rfl dL_billTo_4 ⟨Nat.zero_le _, Nat.zero_le _⟩ ?_
  refine lv_i2l hx hb dL_billTo_7 rfl ?_
  refine sa_lst S hK hP hO hJ hw hS dL_billTo_8 (fun H locs g1 hg1 hP hO hS => ?_)
  refine lv_goto (tgt := 15) hx hb dL_billTo_9 (by decide) ?_
  refine lv_iconst (v := 0) hx hb dL_billTo_15 (by decide) ?_
  exact W.iret (v := 0) hx hb hr (fun t9 ht _ => ⟨⟨0, g1, rfl, ⟨rfl, hg1⟩, by rw [ht]; exact hP, by rw [ht]; exact hO⟩, hS.F ht⟩) hS.2.2 dL_billTo_16
set_option maxHeartbeats 4000000 in
set_option maxRecDepth 100000 in
theorem k_billTo_ex (l : Launch) (lo : Nat) (hst : l.stackTraces = false) (G : va_G) (cI cZ cL : ClassId) (a : Nat → Nat) (σ : sa_St) (w : Nat) (hI : sa_I σ) (x : Int32) (hne : ¬ (sp_billTo σ x).1 = 0) : sa_Lx l yL_billTo wsL_billTo ({ frames := 8, cells := 1, slots := 6, locals := 133 }) lo G cI cZ cL a σ [.ref (a 0), .int (x), .ref w] (sp_billTo σ x).1 := by
  refine va_MetW (cc := cL_billTo) (maxL := 4) (ret := (some .int)) (hh := [(0, 9, 12, 13)]) (by decide) rfl ?_
  intro p e s m args below meth c s₁ B9 hml hv
  obtain ⟨rfl, ⟨hP, hK⟩, hT, hn21, hn32, hn31⟩ := hv
  have hx := B9.exec
  have hb := B9.bytes
  have hr := B9.returns
  have hlk := B9.notSynchronized
  have hts := atoms_spec (ws := wsL_billTo) B9.pre
  have hown : s.vm.findClass RL = some m.cls := findClass_of_methodNamed B9.named
  have S : CallFix p m c cL_billTo 4 s _ wsL_billTo RL := ⟨hx, hb, hml, hown, hts⟩
  have htb : c.exceptionTable.toList = tableOf [(0, 9, 12, 13)] := vx_table (x := yL_billTo) B9 (hts (.codeWith yL_billTo cL_billTo 4 (some .int) [(0, 9, 12, 13)]) (by unfold wsL_billTo; exact List.mem_cons_self))
  have hl := lv_entry ([.ref (a 0), .int (x), .ref w]) (n := 4) (Nat.le_of_ble_eq_true rfl)
  rw [lg_entry_eq]
  generalize (lg_sl ([.ref (a 0), .int (x), .ref w]) ++ List.replicate (4 - (lg_sl ([.ref (a 0), .int (x), .ref w])).length) Slot.unset).toArray = ls at hl ⊢
  have hl : lv_has ls 4 [(0, .ref (a 0)), (1, .int (x)), (2, .ref w)] := hl
  refine lv_aload_n hx hb dL_billTo_0 rfl (lv_at hl 2 rfl) ?_
  refine lv_iconst (v := 0) hx hb dL_billTo_1 (by decide) ?_
  refine lv_aload_n hx hb dL_billTo_2 rfl (lv_at hl 0 rfl) ?_
  refine lv_iload_n hx hb dL_billTo_3 rfl (lv_at hl 1 rfl) ?_
  refine sa_kTry (sa_runExV (As := [.int (x)]) (rest := [.int (0), .ref w]) S (c_X0_billTo_ex l lo hst G cI cZ cL a σ hI x hne) (cwV 1 hts gL_billTo_X0_billTo rfl rfl rfl (by decide +kernel) ⟨Nat.le_of_ble_eq_true rfl, Nat.le_of_ble_eq_true rfl⟩) hP hK hT (ci := 0) rfl rfl rfl hl.1 (Nat.le_of_ble_eq_true rfl) rfl dL_billTo_4 ⟨Nat.le_refl _, Nat.le_refl _⟩) (fun E ce q9 H1 hE hz hk hce hcv hcl => ?_)
  have hE : ((sp_billTo σ x).1, E) = ((1 : Nat), sa_E2) := List.mem_singleton.mp hE
  have hE1 : (sp_billTo σ x).1 = 1 := congrArg Prod.fst hE
  have hE2 : E = sa_E2 := congrArg Prod.snd hE
  subst hE2
  refine vx_catch (own := RL) (name := sa_E2) hown [] ⟨0, 9, 12, 13⟩ [] htb (fun _ h => absurd h List.not_mem_nil) (by decide) (by decide) (hts (.classLink RL 13 sa_E2) (by decide +kernel)) (va_Nw.use rfl hT.2.2.2.2.2.2.1) hce hcv hcl ?_
  refine lv_astore_n (lv' := [(3, .ref q9), (0, .ref (a 0)), (1, .int (x)), (2, .ref w)]) hx hb dL_billTo_12 rfl hl (by decide) rfl (fun ls hl => ?_)
  refine lv_iconst (v := 1) hx hb dL_billTo_13 (by decide) ?_
  exact W.iret (v := 1) hx hb hr (fun t9 ht _ => ⟨⟨1, (), rfl, by rw [hE1]; rfl, trivial⟩, by rw [ht]; exact hz, fun q8 h8 _ => by rw [ht]; exact hk q8 h8⟩) (fun _ h => nomatch h) dL_billTo_14
