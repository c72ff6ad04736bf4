/-! what the law's own methods see: an object; and a row for each of their calls -/
def sa_TT (lo : Nat) (U : State) (H : Heap) : Prop := sa_T lo U H ∧ va_Nc sa_E2 sa_E1 U ∧ va_Nc sa_E3 sa_E2 U ∧ va_Nc sa_E3 sa_E1 U
theorem sa_TT.warm {lo : Nat} {s U : State} {H : Heap} (hW : s.WarmedH U.vm) (h : sa_TT lo s H) : sa_TT lo U H := ⟨h.1.warm hW, h.2.1.moved hW.alike, h.2.2.1.moved hW.alike, h.2.2.2.moved hW.alike⟩
theorem sa_TT.same {lo : Nat} {u U : State} {H : Heap} (hv : U.vm = u.vm) (h : sa_TT lo u H) : sa_TT lo U H := by
  have ha : u.vm.Alike U.vm := by rw [hv]; exact Vm.Alike.refl _
  exact ⟨h.1.same hv, h.2.1.moved ha, h.2.2.1.moved ha, h.2.2.2.moved ha⟩
theorem sa_TT.kept {lo : Nat} {U : State} {H H1 : Heap} (h : sa_TT lo U H) (hq : ∀ q : Nat, q < H.size → ¬ lo ≤ q → H1[q]? = H[q]?) : sa_TT lo U H1 := ⟨h.1.kept hq, h.2⟩
abbrev sa_Py (lo : Nat) (G : va_G) (cI cZ cL : ClassId) (a : Nat → Nat) (σ : sa_St) : State → Prop := fun U => (va_P G vwCl (sa_W0 cI cZ a σ) U.heap ∧ sa_K G cI cZ cL U) ∧ sa_TT lo U U.heap
/-- the heap counted -/
abbrev sa_Pz (lo h0 : Nat) (G : va_G) (cI cZ cL : ClassId) (a : Nat → Nat) (σ : sa_St) : State → Prop := fun U => sa_Py lo G cI cZ cL a σ U ∧ U.heap.size = h0
section
variable {G : va_G} {cI cZ cL : ClassId} {a : Nat → Nat} {σ : sa_St} {lo h0 : Nat} {av : List Value}
theorem sa_bPy : FrameBlind (va_Pc av (sa_Py lo G cI cZ cL a σ)) := fun x U g9 mk h => ⟨h.1, ⟨h.2.1.1, va_K.moved (u := U) (U := U.calling g9 mk x) (Vm.Alike.refl U.vm) h.2.1.2⟩, sa_TT.same (u := U) (U := U.calling g9 mk x) rfl h.2.2⟩
theorem sa_bPz : FrameBlind (va_Pc av (sa_Pz lo h0 G cI cZ cL a σ)) := fun x U g9 mk h => ⟨h.1, ⟨⟨h.2.1.1.1, va_K.moved (u := U) (U := U.calling g9 mk x) (Vm.Alike.refl U.vm) h.2.1.1.2⟩, sa_TT.same (u := U) (U := U.calling g9 mk x) rfl h.2.1.2⟩, h.2.2⟩
theorem sa_keepP {ws : va_W} {H H1 : Heap} {A : Nat → Prop} (h : va_P G vwCl ws H) (hA : ∀ (k : Nat) (q : Nat × va_E), ws[k]? = some q → ¬ A q.1) (hk : ∀ q : Nat, q < H.size → ¬ A q → H1[q]? = H[q]?) : va_P G vwCl ws H1 :=
  h.kept fun k q hq => hk q.1 (h k q hq).lt (hA k q hq)
theorem sa_same {ws : va_W} {H H1 : Heap} (h : va_P G vwCl ws H) (hk : ∀ q : Nat, q < H.size → H1[q]? = H[q]?) : va_P G vwCl ws H1 :=
  h.kept fun k q hq => hk q.1 (h k q hq).lt
end
/-- a law's method that reads and answers -/
abbrev sa_Lr (l : Launch) (y : MethodName) (ws : List Cond) (rm : Room) (G : va_G) (cI cZ cL : ClassId) (a : Nat → Nat) (σ : sa_St) (av : List Value) (r : Int32) : Prop :=
  Met l y ws rm (va_Pc av (sa_Pw G cI cZ cL (sa_W0 cI cZ a σ))) (va_Qi (fun z (_ : Unit) => z = r) (fun _ _ => True) (fun _ => False)) 0 0 (fun _ => False)
/-- one that catches what is thrown: a cell is made -/
abbrev sa_Lx (l : Launch) (y : MethodName) (ws : List Cond) (rm : Room) (lo h0 : Nat) (G : va_G) (cI cZ cL : ClassId) (a : Nat → Nat) (σ : sa_St) (av : List Value) (r : Int32) : Prop :=
  Met l y ws rm (va_Pc av (sa_Pz lo h0 G cI cZ cL a σ)) (va_Qi (fun z (_ : Unit) => z = r) (fun _ t => h0 < t.heap.size) (fun _ => False)) 1 6 (fun _ => False)
section
variable {p : Program} {l : Launch} {e : Env} {R : Room} {s : State} {m : MethodId} {args : Array Value} {below : List Frame} {meth : Method} {c : Code} {H H0 : Heap} {locs : List Loc} {cells slots : Nat} {Q : State → Prop}
variable {cc bytes : ByteArray} {pc nL maxL n index : Nat} {ls : Array Slot} {rest st0 As : List Value} {Ts ws : List Cond} {G : va_G} {cI cZ cL : ClassId} {a : Nat → Nat} {σ : sa_St} {lo : Nat} {A A0 : Nat → Prop}
variable {own C : String} {y : MethodName} {ret : Option FieldType} {rm : Room} {PE : String → Prop} {hh : List (Nat × Nat × Nat × Nat)} {r : Int32} {wd wd' : va_W}
/-- a call that throws, inside a try -/
theorem sa_kTry (hr : vx_Run p l e R s m args below meth c H locs cells slots 1 6 (F0 m pc ls st0) rest (fun _ _ _ => False) (sa_XC PE) (fun _ => False))
    (kx : ∀ (E : String) (ce : Cell) (q9 : Addr) (H1 : Heap), PE E → H.size < H1.size → (∀ q : Nat, q < H.size → H1[q]? = H[q]?) → H1[q9]? = some ce → ce.vm = .none → s.vm.findClass E = some ce.cls → vx_W p l e R s m args below meth c H1 locs (cells + 1) (slots + 6) Q (F0 m pc ls rest) q9) :
    W p l e R s m args below meth c H locs cells slots Q (F0 m pc ls st0) := by
  intro T hT X
  rcases hr T hT X with ⟨v, st₀, t, T', L, h0, X', hL, e1, e2, hq, st⟩ | ⟨q, st₀, t, T', L, E, ce, h0, X', hL, e1, e2, hx, hce, hcv, hcl, st⟩
  · exact hq.elim
  · have hL0 : L = [] := by
      cases L with
      | nil => rfl
      | cons z L => exact (hL z List.mem_cons_self).elim
    subst hL0
    rw [List.append_nil] at X'
    obtain ⟨t2, a1, b1⟩ := kx E ce q T'.heap hx.1 (by rw [e1, ← h0]; exact hx.2.1) (fun q9 h9 => by rw [e1, ← h0]; exact hx.2.2 q9 (by rw [h0]; exact h9)) (by rw [e1]; exact hce) hcv hcl T' rfl X'
    exact ⟨t2, st.trans a1, b1⟩
theorem sa_runExV {T : u_T} {N ci b : Nat} {fs : List Value} (S : CallFix p m c cc nL s args Ts own) (hM : sa_Ex l y ws rm (sa_Px lo G cI cZ cL wd) (.ref b :: As) PE) (cw : CallW R s args own C index y bytes maxL ret ws rm 1 6 n) (hP : va_P G vwCl wd H) (hK : sa_K G cI cZ cL s) (hT : sa_T lo s H) (hc : vwCl[ci]? = some (C, T, N)) (he : wd[0]? = some (b, .inr (ci, fs)))
    (hn : As.length = n) (hls : ls.size = nL) (hst : (rest.map fun v => v.category).sum ≤ 8) (h0 : st0 = As.reverse ++ .ref b :: rest) (hdg : decode cc pc = .ok (.invokevirtual index, 3)) (hf : cells + 1 ≤ R.cells ∧ slots + 6 ≤ R.slots) :
    vx_Run p l e R s m args below meth c H locs cells slots 1 6 (F0 m pc ls st0) rest (fun _ _ _ => False) (sa_XC PE) (fun _ => False) :=
  vx_runV S hM cw ⟨sa_bPx, va_recv hK hP hc he, fun U hU hW => ⟨rfl, ⟨by rw [hU]; exact hP, va_K.moved hW.alike hK⟩, by rw [hU]; exact hT.warm hW⟩⟩ rfl hn hls h0 (lv_room hst) hdg hf
/-- a call of a law's method with a table: reads -/
theorem sa_kLr (S : CallFix p m c cc nL s args Ts own) (hM : sa_Lr l y ws rm G cI cZ cL a σ As r) (cw : vx_CSW R s args own index y bytes maxL ret hh ws rm 0 0 n) (hP : va_P G vwCl (sa_W0 cI cZ a σ) H) (hK : sa_K G cI cZ cL s) (hS : va_S A0 H0 H locs)
    (hn : As.length = n) (hls : ls.size = nL) (hst : (rest.map fun v => v.category).sum ≤ 8) (h0 : st0 = As.reverse ++ rest) (hdg : decode cc pc = .ok (.invokestatic index, 3)) (hf : cells ≤ R.cells ∧ slots ≤ R.slots)
    (kk : ∀ (H1 : Heap) (locs1 : List Loc), H.size ≤ H1.size → (∀ q : Nat, q < H.size → H1[q]? = H[q]?) → va_S A0 H0 H1 locs1 → W p l e R s m args below meth c H1 locs1 cells slots Q (F0 m (pc + 3) ls (.int r :: rest))) : W p l e R s m args below meth c H locs cells slots Q (F0 m pc ls st0) :=
  va_calli (A1 := fun _ => False) (vx_runSW S hM cw ⟨sa_bPw, fun U hU hW => ⟨rfl, by rw [hU]; exact hP, va_K.moved hW.alike hK⟩⟩ rfl hn hls h0 (lv_room hst) hdg hf) hS (fun q _ h => h.elim) (fun q h => h.elim)
    (fun z u t H1 locs1 ht _ hz hB h1 h2 h3 => by subst hz; exact kk H1 locs1 h1 (fun q hq => h2 q hq (fun h => h)) h3)
/-- catches: a cell more -/
theorem sa_kLx (S : CallFix p m c cc nL s args Ts own) (hM : sa_Lx l y ws rm lo H.size G cI cZ cL a σ As r) (cw : vx_CSW R s args own index y bytes maxL ret hh ws rm 1 6 n) (hP : va_P G vwCl (sa_W0 cI cZ a σ) H) (hK : sa_K G cI cZ cL s) (hT : sa_TT lo s H) (hS : va_S A0 H0 H locs)
    (hn : As.length = n) (hls : ls.size = nL) (hst : (rest.map fun v => v.category).sum ≤ 8) (h0 : st0 = As.reverse ++ rest) (hdg : decode cc pc = .ok (.invokestatic index, 3)) (hf : cells + 1 ≤ R.cells ∧ slots + 6 ≤ R.slots)
    (kk : ∀ (H1 : Heap) (locs1 : List Loc), H.size < H1.size → (∀ q : Nat, q < H.size → H1[q]? = H[q]?) → va_S A0 H0 H1 locs1 → W p l e R s m args below meth c H1 locs1 (cells + 1) (slots + 6) Q (F0 m (pc + 3) ls (.int r :: rest))) : W p l e R s m args below meth c H locs cells slots Q (F0 m pc ls st0) :=
  va_calli (A1 := fun _ => False) (vx_runSW S hM cw ⟨sa_bPz, fun U hU hW => ⟨rfl, ⟨⟨by rw [hU]; exact hP, va_K.moved hW.alike hK⟩, by rw [hU]; exact hT.warm hW⟩, by rw [hU]⟩⟩ rfl hn hls h0 (lv_room hst) hdg hf) hS (fun q _ h => h.elim) (fun q h => h.elim)
    (fun z u t H1 locs1 ht _ hz hB h1 h2 h3 => by subst hz; exact kk H1 locs1 (by rw [← ht]; exact hB) (fun q hq => h2 q hq (fun h => h)) h3)
/-- writes -/
theorem sa_kLw (S : CallFix p m c cc nL s args Ts own) (hM : sa_Wr l y ws rm G cI cZ cL wd wd' A As r) (cw : vx_CSW R s args own index y bytes maxL ret hh ws rm 0 0 n) (hP : va_P G vwCl wd H) (hK : sa_K G cI cZ cL s) (hS : va_S A0 H0 H locs) (hA : ∀ q, A q → A0 q)
    (hn : As.length = n) (hls : ls.size = nL) (hst : (rest.map fun v => v.category).sum ≤ 8) (h0 : st0 = As.reverse ++ rest) (hdg : decode cc pc = .ok (.invokestatic index, 3)) (hf : cells ≤ R.cells ∧ slots ≤ R.slots)
    (kk : ∀ (H1 : Heap) (locs1 : List Loc), va_P G vwCl wd' H1 → H.size ≤ H1.size → (∀ q : Nat, q < H.size → ¬ A q → H1[q]? = H[q]?) → va_S A0 H0 H1 locs1 → W p l e R s m args below meth c H1 locs1 cells slots Q (F0 m (pc + 3) ls (.int r :: rest))) : W p l e R s m args below meth c H locs cells slots Q (F0 m pc ls st0) :=
  va_calli (A1 := A) (vx_runSW S hM cw ⟨sa_bPw, fun U hU hW => ⟨rfl, by rw [hU]; exact hP, va_K.moved hW.alike hK⟩⟩ rfl hn hls h0 (lv_room hst) hdg hf) hS (fun q _ h => hA q h) hA
    (fun z u t H1 locs1 ht _ hz hB h1 h2 h3 => by subst hz; exact kk H1 locs1 (by rw [← ht]; exact hB) h1 h2 h3)
end
