/-! contracts of four kinds, and a row for a call of each -/
abbrev sa_Pw (G : va_G) (cI cZ cL : ClassId) (wd : va_W) : State → Prop := fun U => va_P G vwCl wd U.heap ∧ sa_K G cI cZ cL U
/-- reads a world, answers r -/
abbrev sa_Rd (l : Launch) (y : MethodName) (ws : List Cond) (rm : Room) (G : va_G) (cI cZ cL : ClassId) (wd : va_W) (av : List Value) (r : Int32) : Prop :=
  Met l y ws rm (va_Pc av (sa_Pw G cI cZ cL wd)) (vp_Si (fun z => z = r)) 0 0 (fun _ => False)
/-- reads no world -/
abbrev sa_Rs (l : Launch) (y : MethodName) (ws : List Cond) (rm : Room) (av : List Value) (r : Int32) : Prop :=
  Met l y ws rm (va_Pc av (fun _ => True)) (vp_Si (fun z => z = r)) 0 0 (fun _ => False)
/-- a check that passes -/
abbrev sa_Ok (l : Launch) (y : MethodName) (ws : List Cond) (rm : Room) (B : State → Prop) (av : List Value) : Prop :=
  Met l y ws rm (va_Pc av B) (va_Sv (fun _ => True)) 0 0 (fun _ => False)
/-- changes a world, answers r -/
abbrev sa_Wr (l : Launch) (y : MethodName) (ws : List Cond) (rm : Room) (G : va_G) (cI cZ cL : ClassId) (wd wd' : va_W) (A : Nat → Prop) (av : List Value) (r : Int32) : Prop :=
  Met l y ws rm (va_Pc av (sa_Pw G cI cZ cL wd)) (va_Qi (fun z (_ : Unit) => z = r) (fun _ t => va_P G vwCl wd' t.heap) A) 0 0 A
abbrev sa_Wv (l : Launch) (y : MethodName) (ws : List Cond) (rm : Room) (G : va_G) (cI cZ cL : ClassId) (wd wd' : va_W) (A : Nat → Prop) (av : List Value) : Prop :=
  Met l y ws rm (va_Pc av (sa_Pw G cI cZ cL wd)) (va_Qv (fun (_ : Unit) => True) (fun _ t => va_P G vwCl wd' t.heap) A) 0 0 A
def sa_XC (PE : String → Prop) : String → State → State → Prop := fun E st t => PE E ∧ st.heap.size < t.heap.size ∧ ∀ q : Nat, q < st.heap.size → t.heap[q]? = st.heap[q]?
/-- always throws one of the exceptions PE -/
abbrev sa_Ex (l : Launch) (y : MethodName) (ws : List Cond) (rm : Room) (B : State → Prop) (av : List Value) (PE : String → Prop) : Prop :=
  vx_Met l y ws rm (va_Pc av B) (fun _ _ _ _ => False) (sa_XC PE) 1 6 (fun _ => False)
/-- what a throw takes from the machine -/
abbrev sa_E1 : String := "java/lang/IndexOutOfBoundsException"
abbrev sa_E2 : String := "java/lang/IllegalArgumentException"
abbrev sa_E3 : String := "java/lang/IllegalStateException"
abbrev sa_T1 : String := "there is no such break, order or spot"
abbrev sa_T2 : String := "an argument is out of its range"
abbrev sa_T3 : String := "the account does not allow this now"
def sa_T (lo : Nat) (U : State) (H : Heap) : Prop :=
  vx_Zq Bundle.tN "UNASSIGNED_STACK" Bundle.steD (fun q => lo ≤ q) U H ∧ vx_Zq Bundle.tN "SUPPRESSED_SENTINEL" Bundle.listD (fun q => lo ≤ q) U H ∧
  (∃ b, vk_R RX0 141 sa_T1 b U) ∧ (∃ b, vk_R RX0 148 sa_T2 b U) ∧ (∃ b, vk_R RX0 153 sa_T3 b U) ∧
  va_Nw (.castable sa_E1 sa_E1) U ∧ va_Nw (.castable sa_E2 sa_E2) U ∧ va_Nw (.castable sa_E3 sa_E3) U ∧
  va_Nw (.declares (Bundle.initS "java/lang/RuntimeException")) U ∧ va_Nw (.declares (Bundle.initS "java/lang/Exception")) U ∧ va_Nw (.declares (Bundle.initS Bundle.tN)) U
theorem sa_T.warm {lo : Nat} {s U : State} {H : Heap} (hW : s.WarmedH U.vm) (h : sa_T lo s H) : sa_T lo U H := by
  obtain ⟨h1, h2, ⟨b3, h3⟩, ⟨b4, h4⟩, ⟨b5, h5⟩, h6, h7, h8, h9, h10, h11⟩ := h
  exact ⟨h1.moved hW.alike, h2.moved hW.alike, ⟨b3, h3.warm hW⟩, ⟨b4, h4.warm hW⟩, ⟨b5, h5.warm hW⟩, h6.warmC hW, h7.warmC hW, h8.warmC hW, h9.warmD hW, h10.warmD hW, h11.warmD hW⟩
theorem sa_T.same {lo : Nat} {u U : State} {H : Heap} (hv : U.vm = u.vm) (h : sa_T lo u H) : sa_T lo U H := by
  obtain ⟨h1, h2, ⟨b3, h3⟩, ⟨b4, h4⟩, ⟨b5, h5⟩, h6, h7, h8, h9, h10, h11⟩ := h
  have ha : u.vm.Alike U.vm := by rw [hv]; exact Vm.Alike.refl _
  exact ⟨h1.moved ha, h2.moved ha, ⟨b3, h3.same hv⟩, ⟨b4, h4.same hv⟩, ⟨b5, h5.same hv⟩, h6.same rfl hv.symm, h7.same rfl hv.symm, h8.same rfl hv.symm, h9.same rfl hv.symm, h10.same rfl hv.symm, h11.same rfl hv.symm⟩
theorem sa_T.kept {lo : Nat} {U : State} {H H1 : Heap} (h : sa_T lo U H) (hq : ∀ q : Nat, q < H.size → ¬ lo ≤ q → H1[q]? = H[q]?) : sa_T lo U H1 :=
  ⟨h.1.kept hq, h.2.1.kept hq, h.2.2⟩
abbrev sa_Pt (lo : Nat) : State → Prop := fun U => sa_T lo U U.heap
abbrev sa_Px (lo : Nat) (G : va_G) (cI cZ cL : ClassId) (wd : va_W) : State → Prop := fun U => (va_P G vwCl wd U.heap ∧ sa_K G cI cZ cL U) ∧ sa_T lo U U.heap
section
variable {G : va_G} {cI cZ cL : ClassId} {wd : va_W} {av : List Value} {lo : Nat}
theorem sa_bPw : FrameBlind (va_Pc av (sa_Pw G cI cZ cL wd)) := fun a U g mk h => ⟨h.1, h.2.1, va_K.moved (u := U) (U := U.calling g mk a) (Vm.Alike.refl U.vm) h.2.2⟩
theorem sa_bPt : FrameBlind (va_Pc av (sa_Pt lo)) := fun a U g mk h => ⟨h.1, sa_T.same (u := U) (U := U.calling g mk a) rfl h.2⟩
theorem sa_bPx : FrameBlind (va_Pc av (sa_Px lo G cI cZ cL wd)) := fun a U g mk h => ⟨h.1, ⟨h.2.1.1, va_K.moved (u := U) (U := U.calling g mk a) (Vm.Alike.refl U.vm) h.2.1.2⟩, sa_T.same (u := U) (U := U.calling g mk a) rfl h.2.2⟩
theorem sa_bTr : FrameBlind (va_Pc av (fun _ => True)) := fun _ _ _ _ h => h
end
section
variable {p : Program} {l : Launch} {e : Env} {R : Room} {s : State} {m : MethodId} {args : Array Value} {below : List Frame} {meth : Method} {c : Code} {H H0 : Heap} {locs : List Loc} {cells slots : Nat} {Q : State → Prop}
variable {cc bytes : ByteArray} {pc nL maxL n index : Nat} {ls : Array Slot} {rest st0 As : List Value} {Ts ws ws' : List Cond} {G : va_G} {cI cZ cL : ClassId} {wd wd' : va_W} {A A0 : Nat → Prop}
variable {own C : String} {y : MethodName} {ret : Option FieldType} {rm : Room} {T : u_T} {N ci b lo : Nat} {fs : List Value} {r : Int32} {PE PE' : String → Prop}
theorem sa_kRd (S : CallFix p m c cc nL s args Ts own) (hM : sa_Rd l y ws rm G cI cZ cL wd (.ref b :: As) r) (cw : CallW R s args own C index y bytes maxL ret ws rm 0 0 n) (hP : va_P G vwCl wd H) (hK : sa_K G cI cZ cL s) (hc : vwCl[ci]? = some (C, T, N)) (he : wd[0]? = some (b, .inr (ci, fs)))
    (hn : As.length = n) (hls : ls.size = nL) (hst : (rest.map fun v => v.category).sum ≤ 8) (h0 : st0 = As.reverse ++ .ref b :: rest) (hdg : decode cc pc = .ok (.invokevirtual index, 3)) (hf : cells ≤ R.cells ∧ slots ≤ R.slots)
    (kk : W p l e R s m args below meth c H locs cells slots Q (F0 m (pc + 3) ls (.int r :: rest))) : W p l e R s m args below meth c H locs cells slots Q (F0 m pc ls st0) :=
  vp_callSi (W.runV S hM cw ⟨sa_bPw, va_recv hK hP hc he, fun U hU hW => ⟨rfl, by rw [hU]; exact hP, va_K.moved hW.alike hK⟩⟩ rfl hn hls h0 (lv_room hst) hdg hf) (fun z hz => by rw [hz]; exact kk)
theorem sa_kRs (S : CallFix p m c cc nL s args Ts own) (hM : sa_Rs l y ws rm As r) (cw : CallB R s args own index y bytes maxL ret ws rm 0 0 n ∧ (Cond.static y).before args s = true)
    (hn : As.length = n) (hls : ls.size = nL) (hst : (rest.map fun v => v.category).sum ≤ 8) (h0 : st0 = As.reverse ++ rest) (hdg : decode cc pc = .ok (.invokestatic index, 3)) (hf : cells ≤ R.cells ∧ slots ≤ R.slots)
    (kk : W p l e R s m args below meth c H locs cells slots Q (F0 m (pc + 3) ls (.int r :: rest))) : W p l e R s m args below meth c H locs cells slots Q (F0 m pc ls st0) :=
  vp_callSi (W.runS S hM cw ⟨sa_bTr, fun _ _ _ => ⟨rfl, trivial⟩⟩ rfl hn hls h0 (lv_room hst) hdg hf) (fun z hz => by rw [hz]; exact kk)
/-- checks that pass: static, of the object -/
theorem sa_kOkS (S : CallFix p m c cc nL s args Ts own) (hM : sa_Ok l y ws rm (fun _ => True) As) (cw : CallB R s args own index y bytes maxL ret ws rm 0 0 n ∧ (Cond.static y).before args s = true)
    (hn : As.length = n) (hls : ls.size = nL) (hst : (rest.map fun v => v.category).sum ≤ 8) (h0 : st0 = As.reverse ++ rest) (hdg : decode cc pc = .ok (.invokestatic index, 3)) (hf : cells ≤ R.cells ∧ slots ≤ R.slots)
    (kk : W p l e R s m args below meth c H locs cells slots Q (F0 m (pc + 3) ls rest)) : W p l e R s m args below meth c H locs cells slots Q (F0 m pc ls st0) :=
  va_csv (W.runS S hM cw ⟨sa_bTr, fun _ _ _ => ⟨rfl, trivial⟩⟩ rfl hn hls h0 (lv_room hst) hdg hf) (fun _ => kk)
theorem sa_kOkV (S : CallFix p m c cc nL s args Ts own) (hM : sa_Ok l y ws rm (sa_Pw G cI cZ cL wd) (.ref b :: As)) (cw : CallW R s args own C index y bytes maxL ret ws rm 0 0 n) (hP : va_P G vwCl wd H) (hK : sa_K G cI cZ cL s) (hc : vwCl[ci]? = some (C, T, N)) (he : wd[0]? = some (b, .inr (ci, fs)))
    (hn : As.length = n) (hls : ls.size = nL) (hst : (rest.map fun v => v.category).sum ≤ 8) (h0 : st0 = As.reverse ++ .ref b :: rest) (hdg : decode cc pc = .ok (.invokevirtual index, 3)) (hf : cells ≤ R.cells ∧ slots ≤ R.slots)
    (kk : W p l e R s m args below meth c H locs cells slots Q (F0 m (pc + 3) ls rest)) : W p l e R s m args below meth c H locs cells slots Q (F0 m pc ls st0) :=
  va_csv (W.runV S hM cw ⟨sa_bPw, va_recv hK hP hc he, fun U hU hW => ⟨rfl, by rw [hU]; exact hP, va_K.moved hW.alike hK⟩⟩ rfl hn hls h0 (lv_room hst) hdg hf) (fun _ => kk)
/-- calls that change the world -/
theorem sa_kWr (S : CallFix p m c cc nL s args Ts own) (hM : sa_Wr l y ws rm G cI cZ cL wd wd' A (.ref b :: As) r) (cw : CallW R s args own C index y bytes maxL ret ws rm 0 0 n) (hP : va_P G vwCl wd H) (hK : sa_K G cI cZ cL s) (hS : va_S A0 H0 H locs) (hA : ∀ q, A q → A0 q) (hc : vwCl[ci]? = some (C, T, N)) (he : wd[0]? = some (b, .inr (ci, fs)))
    (hn : As.length = n) (hls : ls.size = nL) (hst : (rest.map fun v => v.category).sum ≤ 8) (h0 : st0 = As.reverse ++ .ref b :: rest) (hdg : decode cc pc = .ok (.invokevirtual index, 3)) (hf : cells ≤ R.cells ∧ slots ≤ R.slots)
    (kk : ∀ (H1 : Heap) (locs1 : List Loc), va_P G vwCl wd' H1 → va_S A0 H0 H1 locs1 → H.size ≤ H1.size → (∀ q : Nat, q < H.size → ¬ A q → H1[q]? = H[q]?) → W p l e R s m args below meth c H1 locs1 cells slots Q (F0 m (pc + 3) ls (.int r :: rest))) : W p l e R s m args below meth c H locs cells slots Q (F0 m pc ls st0) :=
  va_calli (va_runV S hM cw ⟨sa_bPw, va_recv hK hP hc he, fun U hU hW => ⟨rfl, by rw [hU]; exact hP, va_K.moved hW.alike hK⟩⟩ rfl hn hls h0 (lv_room hst) hdg hf) hS (fun q _ h => hA q h) hA (fun z u t H1 locs1 ht _ hz hB h1 h2 h3 => by subst hz; exact kk H1 locs1 (by rw [← ht]; exact hB) h3 h1 h2)
theorem sa_kWv (S : CallFix p m c cc nL s args Ts own) (hM : sa_Wv l y ws rm G cI cZ cL wd wd' A (.ref b :: As)) (cw : CallW R s args own C index y bytes maxL ret ws rm 0 0 n) (hP : va_P G vwCl wd H) (hK : sa_K G cI cZ cL s) (hS : va_S A0 H0 H locs) (hA : ∀ q, A q → A0 q) (hc : vwCl[ci]? = some (C, T, N)) (he : wd[0]? = some (b, .inr (ci, fs)))
    (hn : As.length = n) (hls : ls.size = nL) (hst : (rest.map fun v => v.category).sum ≤ 8) (h0 : st0 = As.reverse ++ .ref b :: rest) (hdg : decode cc pc = .ok (.invokevirtual index, 3)) (hf : cells ≤ R.cells ∧ slots ≤ R.slots)
    (kk : ∀ (H1 : Heap) (locs1 : List Loc), va_P G vwCl wd' H1 → va_S A0 H0 H1 locs1 → H.size ≤ H1.size → (∀ q : Nat, q < H.size → ¬ A q → H1[q]? = H[q]?) → W p l e R s m args below meth c H1 locs1 cells slots Q (F0 m (pc + 3) ls rest)) : W p l e R s m args below meth c H locs cells slots Q (F0 m pc ls st0) :=
  va_callv (va_runV S hM cw ⟨sa_bPw, va_recv hK hP hc he, fun U hU hW => ⟨rfl, by rw [hU]; exact hP, va_K.moved hW.alike hK⟩⟩ rfl hn hls h0 (lv_room hst) hdg hf) hS (fun q _ h => hA q h) hA (fun u t H1 locs1 ht _ _ hB h1 h2 h3 => kk H1 locs1 (by rw [← ht]; exact hB) h3 h1 h2)
variable {Qc : Array Value → State → Outcome → State → Prop}
theorem sa_thrown (hr : vx_Run p l e R s m args below meth c s.heap [] 0 0 1 6 (F0 m pc ls st0) rest (fun _ _ _ => False) (sa_XC PE) (fun _ => False)) (htab : ∀ x ∈ c.exceptionTable.toList, False) (hlocks : meth.locks = false) (hPE : ∀ E, PE E → PE' E) :
    W p l e R s m args below meth c s.heap [] 0 0 (vx_MQ below Qc (sa_XC PE') args s 1 6 (fun _ => False)) (F0 m pc ls st0) := by
  intro T hT X
  rcases hr T hT X with ⟨v, st₀, t, T', L, h0, X', hL, e1, e2, hq, st⟩ | ⟨q, st₀, t, T', L, E, ce, h0, X', hL, e1, e2, hx, hce, hcv, hcl, st⟩
  · exact hq.elim
  · obtain ⟨t2, a1, b1⟩ := vx_out (mc := 1) (ms := 6) (free := fun _ => False) (Qc := Qc) (XC := sa_XC PE') (rest := rest) (pc := pc) (ls := ls) (fun x hx => (htab x hx).elim) hlocks (H := T'.heap) (by rw [e1]; exact hce) hcv hcl
      (fun z hz _ => ⟨hPE E hx.1, by rw [hz, e1, ← h0]; exact hx.2.1, fun q9 h9 => by rw [hz, e1, ← h0]; exact hx.2.2 q9 (by rw [h0]; exact h9)⟩) (fun z hz => (hL z (by simpa using hz)).elim) (Nat.le_refl _) (Nat.le_refl _) T' rfl X'
    exact ⟨t2, st.trans a1, b1⟩
theorem sa_kExS (S : CallFix p m c cc nL s args Ts own) (hM : sa_Ex l y ws rm (sa_Pt lo) As PE) (cw : CallB R s args own index y bytes maxL ret ws rm 1 6 n ∧ (Cond.static y).before args s = true) (hT : sa_T lo s s.heap)
    (htab : ∀ x ∈ c.exceptionTable.toList, False) (hlocks : meth.locks = false) (hPE : ∀ E, PE E → PE' E)
    (hn : As.length = n) (hls : ls.size = nL) (hst : (rest.map fun v => v.category).sum ≤ 8) (h0 : st0 = As.reverse ++ rest) (hdg : decode cc pc = .ok (.invokestatic index, 3)) (hf : 1 ≤ R.cells ∧ 6 ≤ R.slots) :
    W p l e R s m args below meth c s.heap [] 0 0 (vx_MQ below Qc (sa_XC PE') args s 1 6 (fun _ => False)) (F0 m pc ls st0) :=
  sa_thrown (vx_runS S hM cw ⟨sa_bPt, fun U hU hW => ⟨rfl, by show sa_T lo U U.heap; rw [hU]; exact hT.warm hW⟩⟩ rfl hn hls h0 (lv_room hst) hdg (by simpa using hf)) htab hlocks hPE
theorem sa_kExV (S : CallFix p m c cc nL s args Ts own) (hM : sa_Ex l y ws rm (sa_Px lo G cI cZ cL wd) (.ref b :: As) PE) (cw : CallW R s args own C index y bytes maxL ret ws rm 1 6 n) (hP : va_P G vwCl wd s.heap) (hK : sa_K G cI cZ cL s) (hT : sa_T lo s s.heap) (hc : vwCl[ci]? = some (C, T, N)) (he : wd[0]? = some (b, .inr (ci, fs)))
    (htab : ∀ x ∈ c.exceptionTable.toList, False) (hlocks : meth.locks = false) (hPE : ∀ E, PE E → PE' E)
    (hn : As.length = n) (hls : ls.size = nL) (hst : (rest.map fun v => v.category).sum ≤ 8) (h0 : st0 = As.reverse ++ .ref b :: rest) (hdg : decode cc pc = .ok (.invokevirtual index, 3)) (hf : 1 ≤ R.cells ∧ 6 ≤ R.slots) :
    W p l e R s m args below meth c s.heap [] 0 0 (vx_MQ below Qc (sa_XC PE') args s 1 6 (fun _ => False)) (F0 m pc ls st0) :=
  sa_thrown (vx_runV S hM cw ⟨sa_bPx, va_recv hK hP hc he, fun U hU hW => ⟨rfl, ⟨by rw [hU]; exact hP, va_K.moved hW.alike hK⟩, by rw [hU]; exact hT.warm hW⟩⟩ rfl hn hls h0 (lv_room hst) hdg (by simpa using hf)) htab hlocks hPE
end
/-! a throw of a new exception, its cell counted from below (after the kit's vx_throwS) -/
section
variable {p : Program} {l : Launch} {e : Env} {R : Room} {s : State} {m : MethodId} {args : Array Value} {below : List Frame} {meth : Method} {c : Code} {H : Heap} {locs : List Loc} {cells slots : Nat} {Q : State → Prop}
variable {mc ms : Nat} {free : Addr → Prop} {A0 A1 : Nat → Prop} {H0 : Heap} {a : Array Value} {ls : Array Slot} {st0 rest : List Value}
variable {Qc : Array Value → State → Outcome → State → Prop} {XC : String → State → State → Prop}
set_option maxHeartbeats 4000000 in
theorem sa_throwS {cc : ByteArray} {pc : Nat} (hexec : p.tables.exec = Jvm.exec) (hb : c.code = cc) (hl : l.stackTraces = false) {own cls text : String} {names : List String} {ik is ic mc ms sa : Nat} {A : Nat → Prop}
    (hown : s.vm.findClass own = some m.cls) (hcls : Bundle.fit cls = true) (hnames : ∀ n ∈ names, Bundle.fit n = true)
    (hk : (Cond.classLink own ik cls).before args s = true) (hini : (Cond.initialized cls).before args s = true) (hstr : vk_R own is text sa s) (hat : ∀ w ∈ vx_atS own ic cls names, w.before args s = true)
    (hgood : ∀ w ∈ Cond.classLink own ik cls :: Cond.initialized cls :: vx_atS own ic cls names, vx_ot w = true)
    (hU : vx_Zq Bundle.tN "UNASSIGNED_STACK" Bundle.steD A s s.heap) (hN : vx_Zq Bundle.tN "SUPPRESSED_SENTINEL" Bundle.listD A s s.heap) (hS : va_S A s.heap H locs) (hsize : ls.size = c.maxLocals)
    (d0 : decode cc pc = .ok (.new ik, 3)) (d3 : decode cc (pc + 3) = .ok (.dup, 1)) (d4 : decode cc (pc + 4) = .ok (.ldc is, 2)) (d6 : decode cc (pc + 6) = .ok (.invokespecial ic, 3)) (d9 : decode cc (pc + 9) = .ok (.athrow, 1))
    (hout : ∀ x ∈ c.exceptionTable.toList, covers x (pc + 9) = false)
    (hRframes : names.length + 3 < R.frames) (hRlocals : (rest.map fun v => v.category).sum + (13 * (names.length + 1) + 43) ≤ R.locals) (hRcells : cells + 1 ≤ R.cells) (hRslots : slots + 6 ≤ R.slots) (hlocks : meth.locks = false)
    (hx : ∀ t : State, s.vm.Alike t.vm → H.size < t.heap.size → (∀ q : Nat, q < H.size → t.heap[q]? = H[q]?) → XC cls s t)
    (hf : ∀ z ∈ locs, free z.base) (hc : cells + 1 ≤ mc) (hs : slots + 6 ≤ ms) :
    W p l e R s m args below meth c H locs cells slots (vx_MQ below Qc XC args s mc ms free) (F0 m pc ls rest) := by
  intro T hT X
  have htr : e.platform.stackTraces = false := (show e.platform.stackTraces = l.stackTraces by rw [X.admits.platform]).trans hl
  have Y := vx_rebase X (R' := { frames := R.frames, locals := R.locals, cells := 1, slots := 6 }) (Nat.le_refl _) (Nat.le_refl _) hRcells hRslots
  obtain ⟨s', hA⟩ : ∃ z, z = (T.setVm s.vm).setFrames (.invoking m args :: below) := ⟨_, rfl⟩
  rw [← hA] at Y
  have hvm : s'.vm = s.vm := by rw [hA]; rfl
  have hhp : s'.heap = H := by rw [hA]; exact hT
  have hW0 : s.WarmedH s'.vm := by rw [hvm]; exact State.WarmedH.refl s
  have hat' : ∀ w ∈ vx_atS own ic cls names, w.before args s' = true := fun w hw => vx_ot_at hW0 hvm.symm (hgood w (List.mem_cons_of_mem _ (List.mem_cons_of_mem _ hw))) (hat w hw)
  have hk' : (Cond.classLink own ik cls).before args s' = true := vx_ot_at hW0 hvm.symm (hgood _ List.mem_cons_self) hk
  have hini' : (Cond.initialized cls).before args s' = true := vx_ot_at hW0 hvm.symm (hgood _ (List.mem_cons_of_mem _ List.mem_cons_self)) hini
  have hU' : vx_Zq Bundle.tN "UNASSIGNED_STACK" Bundle.steD A s' s'.heap := by rw [hhp]; exact vx_Zq.moved hW0.alike (hU.kept hS.2.1)
  have hN' : vx_Zq Bundle.tN "SUPPRESSED_SENTINEL" Bundle.listD A s' s'.heap := by rw [hhp]; exact vx_Zq.moved hW0.alike (hN.kept hS.2.1)
  have h : ∀ w ∈ Bundle.ownAtoms own ic cls names, w.before args s' = true := vx_own hat' (vx_isRefq hU'.1) (vx_isRefq hN'.1) hU'.2.word hN'.2.word
  have hown' : s'.vm.findClass own = some m.cls := by rw [hvm]; exact hown
  have hins : (Cond.instantiable cls 6).before args s' = true := h _ (by simp [Bundle.ownAtoms])
  obtain ⟨vm₁, cX, kX, hfX, hkX, -, -, X₁, st1⟩ := Y.newCold hexec (own := own) (C := cls) (index := ik) (n := 6) hown' hk' hins hini'
    (g := F0 m pc ls rest) rfl (by rw [hb]; exact d0) (Nat.le_refl _) (Nat.le_refl _)
  generalize hT1 : (T.setVm vm₁).pushCell { cls := cX, slots := kX.instanceTypes.map defaultValue, vm := .none } = T1 at X₁ st1
  have hcat : (Value.ref T.heap.size).category = 1 := rfl
  have hcellA : T1.heap[T.heap.size]? = some (freshCell cX kX) := by rw [← hT1]; exact State.heap_pushCell_size _ _
  have d3' : decode c.code (pc + 3) = .ok (.dup, 1) := by rw [hb]; exact d3
  have d4' : decode c.code (pc + 4) = .ok (.ldc is, 2) := by rw [hb]; exact d4
  have hstr' : vk_R own is text sa s' := vk_R.warm hW0 hstr
  obtain ⟨U, hsteps, hrun, hend, hW, hsame, ce, hce, hO⟩ := X₁.ctorThrowS hexec htr (own := own) (cls := cls) (names := names) (ic := ic) hown' hcls hnames h (fun x hx => nomatch hx) hfX hkX hcellA (by rw [hhp, hT]; exact Nat.le_refl _) (msg := .ref sa) rfl
    (g := { method := m, pc := pc + 6, locals := ls, stack := .ref sa :: .ref T.heap.size :: .ref T.heap.size :: rest, locked := none }) rfl hsize rfl rfl (rest := rest) rfl
    (by rw [hb]; exact d6) (by rw [hb]; exact d9) hout hRframes (by simp only [List.map_cons, List.sum_cons, hcat]; omega) hlocks
  obtain ⟨f1, f2⟩ := vx_frame hsame
  rw [hhp] at f1 f2
  have f0 : H.size < U.heap.size := by
    have h8 : T.heap.size < T1.heap.size := (Array.getElem?_eq_some_iff.mp hcellA).1
    have h9 := Steps.heap_le hsteps
    rw [hT] at h8
    exact Nat.lt_of_lt_of_le h8 h9
  have hWs : s.WarmedH U.vm := State.WarmedH.trans hW0 hW
  have hcl : s.vm.findClass cls = some ce.cls := by
    have h9 := hO.cls
    rw [hvm] at h9
    exact h9
  have hall : s.sameButNew ({ U with vm := s.vm } : State) locs mc ms := by
    subst hA
    obtain ⟨e1, e2⟩ := hsame
    rw [State.setFrames_setFrames] at e1
    have h2 : (T.setVm s.vm).sameButNew ({ U with vm := s.vm } : State) [] (0 + 1) (0 + 6) := ⟨e1, e2⟩
    have h3 := X.same.trans h2
    rw [List.append_nil] at h3
    exact h3.mono hc hs
  refine ⟨U, ?_, .threw T.heap.size, hrun, hend, Or.inr ⟨T.heap.size, rfl, cls, ce, locs, hx U hWs.alike f0 (fun q hq => f2 q hq (fun z hz => nomatch hz)), hce, hO.vm, hcl, hWs, hall, hf⟩⟩
  refine st1 _ ?_
  show Steps p.tables e below (T1.setTop { method := m, pc := pc + 3, locals := ls, stack := .ref T.heap.size :: rest, locked := none }) _
  jvm_step X₁.here [X₁.here.top, hexec, d3', Value.category]
  exact X₁.ldcString hexec (own := own) (text := text) (index := is) (a := sa) hown' hstr'.1 hstr'.2
    (g := { method := m, pc := pc + 4, locals := ls, stack := .ref T.heap.size :: .ref T.heap.size :: rest, locked := none }) rfl d4' _ hsteps
end
