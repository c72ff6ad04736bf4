/-! what the law's own methods see: the object, the answer's cell; and a row for each of their calls -/
def sa_out (cL : ClassId) (w : Nat) (g : Nat → Int64) : va_W := [(w, .inl (cL, 1, .inr (.inl g)))]
def sa_B (a : Nat → Nat) (w : Nat) : Nat → Prop := fun q => sa_A a q ∨ q = w
abbrev sa_Pl (G : va_G) (cI cZ cL : ClassId) (a : Nat → Nat) (σ : sa_St) (w : Nat) (g : Nat → Int64) : State → Prop := fun U => va_P G vwCl (sa_W0 cI cZ a σ) U.heap ∧ va_P G vwCl (sa_out cL w g) U.heap ∧ sa_K G cI cZ cL U
def sa_TT (lo : Nat) (U : State) (H : Heap) : Prop := sa_T lo U H ∧ va_Nc sa_E2 sa_E1 U ∧ va_Nc sa_E3 sa_E2 U ∧ va_Nc sa_E3 sa_E1 U
theorem sa_TT.warm {lo : Nat} {s U : State} {H : Heap} (hW : s.WarmedH U.vm) (h : sa_TT lo s H) : sa_TT lo U H := ⟨h.1.warm hW, h.2.1.moved hW.alike, h.2.2.1.moved hW.alike, h.2.2.2.moved hW.alike⟩
theorem sa_TT.same {lo : Nat} {u U : State} {H : Heap} (hv : U.vm = u.vm) (h : sa_TT lo u H) : sa_TT lo U H := by
  have ha : u.vm.Alike U.vm := by rw [hv]; exact Vm.Alike.refl _
  exact ⟨h.1.same hv, h.2.1.moved ha, h.2.2.1.moved ha, h.2.2.2.moved ha⟩
abbrev sa_Py (lo : Nat) (G : va_G) (cI cZ cL : ClassId) (a : Nat → Nat) (σ : sa_St) : State → Prop := fun U => (va_P G vwCl (sa_W0 cI cZ a σ) U.heap ∧ sa_K G cI cZ cL U) ∧ sa_TT lo U U.heap
section
variable {G : va_G} {cI cZ cL : ClassId} {a : Nat → Nat} {σ : sa_St} {w lo : Nat} {g : Nat → Int64} {av : List Value}
theorem sa_bPl : FrameBlind (va_Pc av (sa_Pl G cI cZ cL a σ w g)) := fun x U g9 mk h => ⟨h.1, h.2.1, h.2.2.1, va_K.moved (u := U) (U := U.calling g9 mk x) (Vm.Alike.refl U.vm) h.2.2.2⟩
theorem sa_bPy : FrameBlind (va_Pc av (sa_Py lo G cI cZ cL a σ)) := fun x U g9 mk h => ⟨h.1, ⟨h.2.1.1, va_K.moved (u := U) (U := U.calling g9 mk x) (Vm.Alike.refl U.vm) h.2.1.2⟩, sa_TT.same (u := U) (U := U.calling g9 mk x) rfl h.2.2⟩
theorem sa_keepP {ws : va_W} {H H1 : Heap} {A : Nat → Prop} (h : va_P G vwCl ws H) (hA : ∀ (k : Nat) (q : Nat × va_E), ws[k]? = some q → ¬ A q.1) (hk : ∀ q : Nat, q < H.size → ¬ A q → H1[q]? = H[q]?) : va_P G vwCl ws H1 :=
  h.kept fun k q hq => hk q.1 (h k q hq).lt (hA k q hq)
theorem sa_out_at {k : Nat} {q : Nat × va_E} (h : (sa_out cL w g)[k]? = some q) : q.1 = w := by
  have hl : k < 1 := (List.getElem?_eq_some_iff.mp h).1
  have h0 : k = 0 := by omega
  subst h0; cases h; rfl
theorem sa_okeep {H H1 : Heap} {A : Nat → Prop} (h : va_P G vwCl (sa_out cL w g) H) (hw : ¬ A w) (hk : ∀ q : Nat, q < H.size → ¬ A q → H1[q]? = H[q]?) : va_P G vwCl (sa_out cL w g) H1 :=
  sa_keepP h (fun k q hq => by rw [sa_out_at hq]; exact hw) hk
end
section
variable {p : Program} {l : Launch} {e : Env} {R : Room} {s : State} {m : MethodId} {args : Array Value} {below : List Frame} {meth : Method} {c : Code} {H H0 : Heap} {locs : List Loc} {cells slots : Nat} {Q : State → Prop}
variable {cc bytes : ByteArray} {pc nL maxL n index : Nat} {ls : Array Slot} {rest st0 As : List Value} {Ts ws ws' : List Cond} {G : va_G} {cI cZ cL : ClassId} {a : Nat → Nat} {σ : sa_St} {w lo : Nat} {g : Nat → Int64} {A0 : Nat → Prop}
variable {own C : String} {y : MethodName} {ret : Option FieldType} {rm : Room} {PE : String → Prop}
/-- the answer is stored -/
theorem sa_lst {x : Int64} (S : CallFix p m c cc nL s args Ts own) (hK : sa_K G cI cZ cL s) (hP : va_P G vwCl (sa_W0 cI cZ a σ) H) (hO : va_P G vwCl (sa_out cL w g) H) (hJ : sa_J a) (hw : ¬ sa_A a w) (hS : va_S (sa_B a w) H0 H locs) (hdg : decode cc pc = .ok (.lastore, 1))
    (kk : ∀ (H1 : Heap) (locs1 : List Loc) (g1 : Nat → Int64), g1 0 = x → va_P G vwCl (sa_W0 cI cZ a σ) H1 → va_P G vwCl (sa_out cL w g1) H1 → va_S (sa_B a w) H0 H1 locs1 → W p l e R s m args below meth c H1 locs1 cells slots Q (F0 m (pc + 1) ls rest)) : W p l e R s m args below meth c H locs cells slots Q (F0 m pc ls (.long x :: .int 0 :: .ref w :: rest)) := by
  have hD : va_D (sa_B a w) (sa_W0 cI cZ a σ ++ sa_out cL w g) := va_D.app ((sa_D0 hJ).weaken fun _ _ _ h => Or.inl h)
    ⟨fun i j q r h1 h2 _ => by
      have h3 : i < 1 := (List.getElem?_eq_some_iff.mp h1).1
      have h4 : j < 1 := (List.getElem?_eq_some_iff.mp h2).1
      omega, fun k q h => Or.inr (sa_out_at h)⟩
    (fun i j q r h1 h2 e => hw (by rw [sa_out_at h2] at e; exact ⟨i, (sa_W0_at h1).1, e.symm.trans (sa_W0_at h1).2⟩))
  refine va_last S.1 S.2.1 hK (va_P.app hP hO) hD hS 16 2 rfl rfl (show vp_in (nI 0) 1 from vp_in_nI (by decide) (by decide)) hdg (fun H1 locs1 hP1 _ hS1 => ?_)
  refine kk H1 locs1 (vp_updL g 0 x) pk_uLs (hP1.sub [0, 1, 2, 3, 4, 5, 6, 7, 8, 9, 10, 11, 12, 13, 14, 15] rfl) (hP1.sub [16] rfl) hS1
/-- a call that throws, inside a try -/
theorem sa_kTry (hr : vx_Run p l e R s m args below meth c H locs cells slots 1 6 (F0 m pc ls st0) rest (fun _ _ _ => False) (sa_XC PE) (fun _ => False))
    (kx : ∀ (E : String) (ce : Cell) (q9 : Addr) (H1 : Heap), PE E → H.size ≤ H1.size → (∀ q : Nat, q < H.size → H1[q]? = H[q]?) → H1[q9]? = some ce → ce.vm = .none → s.vm.findClass E = some ce.cls → vx_W p l e R s m args below meth c H1 locs (cells + 1) (slots + 6) Q (F0 m pc ls rest) q9) :
    W p l e R s m args below meth c H locs cells slots Q (F0 m pc ls st0) := by
  intro T hT X
  rcases hr T hT X with ⟨v, st₀, t, T', L, h0, X', hL, e1, e2, hq, st⟩ | ⟨q, st₀, t, T', L, E, ce, h0, X', hL, e1, e2, hx, hce, hcv, hcl, st⟩
  · exact hq.elim
  · have hL0 : L = [] := by
      cases L with
      | nil => rfl
      | cons z L => exact (hL z List.mem_cons_self).elim
    subst hL0
    rw [List.append_nil] at X'
    obtain ⟨t2, a1, b1⟩ := kx E ce q T'.heap hx.1 (by rw [e1, ← h0]; exact hx.2.1) (fun q9 h9 => by rw [e1, ← h0]; exact hx.2.2 q9 (by rw [h0]; exact h9)) (by rw [e1]; exact hce) hcv hcl T' rfl X'
    exact ⟨t2, st.trans a1, b1⟩
theorem sa_runExV {T : u_T} {N ci b : Nat} {fs : List Value} {wd : va_W} (S : CallFix p m c cc nL s args Ts own) (hM : sa_Ex l y ws rm (sa_Px lo G cI cZ cL wd) (.ref b :: As) PE) (cw : CallW R s args own C index y bytes maxL ret ws rm 1 6 n) (hP : va_P G vwCl wd H) (hK : sa_K G cI cZ cL s) (hT : sa_T lo s H) (hc : vwCl[ci]? = some (C, T, N)) (he : wd[0]? = some (b, .inr (ci, fs)))
    (hn : As.length = n) (hls : ls.size = nL) (hst : (rest.map fun v => v.category).sum ≤ 8) (h0 : st0 = As.reverse ++ .ref b :: rest) (hdg : decode cc pc = .ok (.invokevirtual index, 3)) (hf : cells + 1 ≤ R.cells ∧ slots + 6 ≤ R.slots) :
    vx_Run p l e R s m args below meth c H locs cells slots 1 6 (F0 m pc ls st0) rest (fun _ _ _ => False) (sa_XC PE) (fun _ => False) :=
  vx_runV S hM cw ⟨sa_bPx, va_recv hK hP hc he, fun U hU hW => ⟨rfl, ⟨by rw [hU]; exact hP, va_K.moved hW.alike hK⟩, by rw [hU]; exact hT.warm hW⟩⟩ rfl hn hls h0 (lv_room hst) hdg hf
end
/-- a law's method that returns k, the answer stored -/
abbrev sa_Lo (l : Launch) (y : MethodName) (ws : List Cond) (rm : Room) (G : va_G) (cI cZ cL : ClassId) (a : Nat → Nat) (σ : sa_St) (w : Nat) (g : Nat → Int64) (av : List Value) (r : Int32) (σ' : sa_St) : Prop :=
  Met l y ws rm (va_Pc av (sa_Pl G cI cZ cL a σ w g)) (va_Qi (fun z (g' : Nat → Int64) => z = 0 ∧ g' 0 = r.toInt64) (fun g' t => va_P G vwCl (sa_W0 cI cZ a σ') t.heap ∧ va_P G vwCl (sa_out cL w g') t.heap) (sa_B a w)) 0 0 (sa_B a w)
abbrev sa_Ln (l : Launch) (y : MethodName) (ws : List Cond) (rm : Room) (G : va_G) (cI cZ cL : ClassId) (a : Nat → Nat) (σ : sa_St) (av : List Value) (σ' : sa_St) : Prop :=
  Met l y ws rm (va_Pc av (sa_Pw G cI cZ cL (sa_W0 cI cZ a σ))) (va_Qi (fun z (_ : Unit) => z = 0) (fun _ t => va_P G vwCl (sa_W0 cI cZ a σ') t.heap) (sa_A a)) 0 0 (sa_A a)
/-- .. that answers which exception was caught -/
abbrev sa_Lx (l : Launch) (y : MethodName) (ws : List Cond) (rm : Room) (lo : Nat) (G : va_G) (cI cZ cL : ClassId) (a : Nat → Nat) (σ : sa_St) (av : List Value) (k : Nat) : Prop :=
  Met l y ws rm (va_Pc av (sa_Py lo G cI cZ cL a σ)) (va_Qi (fun z (_ : Unit) => z = nI k) (fun _ _ => True) (fun _ => False)) 1 6 (fun _ => False)
