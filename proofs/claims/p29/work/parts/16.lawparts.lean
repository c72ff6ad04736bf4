/-! the law's methods on the script of zeros -/
set_option maxHeartbeats 4000000 in
theorem k_low (l : Launch) (x y r : Int32) (hy : ¬ y = 0) (hr : (x &&& 2147483647) - (x &&& 2147483647) / y * y = r) : sa_Rs l yL_low wsL_low ({ frames := 0, cells := 0, slots := 0, locals := 0 }) [.int x, .int y] r := by
  refine Met.ofW (cc := cL_low) (maxL := 2) (ret := (some .int)) (by decide) rfl ?_
  intro p e s m args below meth c s₁ B9 hml hv
  obtain ⟨rfl, -⟩ := hv
  have hx := B9.exec
  have hb := B9.bytes
  have hrt := B9.returns
  have hlk := B9.notSynchronized
  have hts := atoms_spec (ws := wsL_low) B9.pre
  have hown : s.vm.findClass RL = some m.cls := findClass_of_methodNamed B9.named
  have hl := lv_entry ([.int x, .int y]) (n := 2) (Nat.le_of_ble_eq_true rfl)
  rw [lg_entry_eq]
  generalize (lg_sl ([.int x, .int y]) ++ List.replicate (2 - (lg_sl ([.int x, .int y])).length) Slot.unset).toArray = ls at hl ⊢
  have hl : lv_has ls 2 [(0, .int x), (1, .int y)] := hl
  refine lv_iload_n hx hb dL_low_0 rfl (lv_at hl 0 rfl) ?_
  refine lv_ldc (v := 2147483647) hx hb hown (hts (.constant RL 9 2147483647) (by decide +kernel)) dL_low_1 ?_
  refine lv_iand hx hb dL_low_3 ?_
  refine lv_iload_n hx hb dL_low_4 rfl (lv_at hl 1 rfl) ?_
  refine lv_irem hx hb dL_low_5 hy ?_
  rw [hr]
  exact W.iret (v := r) hx hb hrt (fun t9 ht _ => ⟨_, rfl, rfl, ht⟩) (fun _ h => nomatch h) dL_low_6
theorem zs_bX {b L : Nat} {xs : Nat → Int32} {av : List Value} : FrameBlind (va_Pc av (fun U => va_X b L xs U U.heap)) := fun x U g9 mk h => ⟨h.1, va_X.moved (u := U) (U := U.calling g9 mk x) (Vm.Alike.refl U.vm) h.2⟩
set_option maxHeartbeats 4000000 in
theorem k_at (l : Launch) (b L : Nat) (xs : Nat → Int32) (k : Nat) (hk : k < L) (hL : L < 2 ^ 31) : Met l yL_at wsL_at ({ frames := 0, cells := 0, slots := 0, locals := 0 }) (va_Pc [.ref b, .int (nI k)] (fun U => va_X b L xs U U.heap)) (va_Qi (fun z (_ : Unit) => z = xs k) (fun _ _ => True) (fun _ => False)) 0 0 (fun _ => False) := by
  refine Met.ofW (cc := cL_at) (maxL := 2) (ret := (some .int)) (by decide) rfl ?_
  intro p e s m args below meth c s₁ B9 hml hv
  obtain ⟨rfl, hX⟩ := hv
  have hx := B9.exec
  have hb := B9.bytes
  have hrt := B9.returns
  have hlk := B9.notSynchronized
  have hbl : b < s.heap.size := by
    obtain ⟨scr, h1, -⟩ := hX
    exact (Array.getElem?_eq_some_iff.mp h1).1
  have hS : va_S (fun _ => False) s.heap s.heap [] := va_S.rf
  have hl := lv_entry ([.ref b, .int (nI k)]) (n := 2) (Nat.le_of_ble_eq_true rfl)
  rw [lg_entry_eq]
  generalize (lg_sl ([.ref b, .int (nI k)]) ++ List.replicate (2 - (lg_sl ([.ref b, .int (nI k)])).length) Slot.unset).toArray = ls at hl ⊢
  have hl : lv_has ls 2 [(0, .ref b), (1, .int (nI k))] := hl
  refine lv_iload_n hx hb dL_at_0 rfl (lv_at hl 1 rfl) ?_
  refine lv_aload_n hx hb dL_at_1 rfl (lv_at hl 0 rfl) ?_
  refine va_slen hx hb hX hbl (fun h => h) hS dL_at_2 ?_
  refine lv_icmp_ge (tgt := 12) hx hb dL_at_3 (by decide) (fun c9 => absurd c9 (nI_ge hk hL)) (fun _ => ?_)
  refine lv_aload_n hx hb dL_at_6 rfl (lv_at hl 0 rfl) ?_
  refine lv_iload_n hx hb dL_at_7 rfl (lv_at hl 1 rfl) ?_
  refine va_sld hx hb hX hbl (fun h => h) hS (vp_in_nI hk hL) dL_at_8 ?_
  rw [nI_clamp (by omega)]
  refine lv_goto (tgt := 21) hx hb dL_at_9 (by decide) ?_
  exact W.iret (v := xs k) hx hb hrt (fun t9 ht _ => ⟨⟨_, (), rfl, rfl, trivial⟩, hS.F ht⟩) hS.2.2 dL_at_21
/-- the law's two arrays that are read: lengths of breaks, counts -/
def zs_W (cI : ClassId) (ll gg : Nat) (fl fg : Nat → Int32) : va_W := [(ll, .inl (cI, 24, .inl fl)), (gg, .inl (cI, 3, .inl fg))]
section
variable {p : Program} {l : Launch} {e : Env} {R : Room} {s : State} {m : MethodId} {args : Array Value} {below : List Frame} {meth : Method} {c : Code} {H H0 : Heap} {locs : List Loc} {cells slots : Nat} {Q : State → Prop}
variable {cc : ByteArray} {pc nL n k ll gg : Nat} {ls : Array Slot} {rest : List Value} {Ts : List Cond} {G : va_G} {cI cZ cL : ClassId} {own : String} {fl : Nat → Int32} {a b : Nat → Nat} {σ τ : sa_St} {fg : Nat → Int32} {x : Int32}
theorem zs_rg0 (S : CallFix p m c cc nL s args Ts own) (hK : sa_K G cI cZ cL s) (hP : va_P G vwCl (zs_W cI ll gg fl (zs_g n)) H) (hdg : decode cc pc = .ok (.iaload, 1)) (kk : W p l e R s m args below meth c H locs cells slots Q (F0 m (pc + 1) ls (.int (nI n) :: rest))) : W p l e R s m args below meth c H locs cells slots Q (F0 m pc ls (.int 0 :: .ref gg :: rest)) :=
  sa_ldk (k := 0) (n := 3) (f := zs_g n) 1 S hK hP rfl (by decide) (by decide) hdg (by rw [zs_g0]; exact kk)
theorem zs_rg1 (S : CallFix p m c cc nL s args Ts own) (hK : sa_K G cI cZ cL s) (hP : va_P G vwCl (zs_W cI ll gg fl (zs_g n)) H) (hdg : decode cc pc = .ok (.iaload, 1)) (kk : W p l e R s m args below meth c H locs cells slots Q (F0 m (pc + 1) ls (.int 0 :: rest))) : W p l e R s m args below meth c H locs cells slots Q (F0 m pc ls (.int 1 :: .ref gg :: rest)) :=
  sa_ldk (k := 1) (n := 3) (f := zs_g n) 1 S hK hP rfl (by decide) (by decide) hdg (by rw [zs_gj n 1 (by decide)]; exact kk)
theorem zs_rg2 (S : CallFix p m c cc nL s args Ts own) (hK : sa_K G cI cZ cL s) (hP : va_P G vwCl (zs_W cI ll gg fl (zs_g n)) H) (hdg : decode cc pc = .ok (.iaload, 1)) (kk : W p l e R s m args below meth c H locs cells slots Q (F0 m (pc + 1) ls (.int 0 :: rest))) : W p l e R s m args below meth c H locs cells slots Q (F0 m pc ls (.int 2 :: .ref gg :: rest)) :=
  sa_ldk (k := 2) (n := 3) (f := zs_g n) 1 S hK hP rfl (by decide) (by decide) hdg (by rw [zs_gj n 2 (by decide)]; exact kk)
theorem zs_rl (S : CallFix p m c cc nL s args Ts own) (hK : sa_K G cI cZ cL s) (hP : va_P G vwCl (zs_W cI ll gg (zs_l n) fg) H) (hn : n ≤ 24) (hk : k < n) (hdg : decode cc pc = .ok (.iaload, 1)) (kk : W p l e R s m args below meth c H locs cells slots Q (F0 m (pc + 1) ls (.int 15 :: rest))) : W p l e R s m args below meth c H locs cells slots Q (F0 m pc ls (.int (nI k) :: .ref ll :: rest)) :=
  sa_ldk (k := k) (n := 24) (f := zs_l n) 0 S hK hP rfl (by omega) (by decide) hdg (by rw [zs_ll n k hk]; exact kk)
/-- the cells that an act may change, and that they are apart -/
def zs_A (a b : Nat → Nat) (ll gg : Nat) : Nat → Prop := fun q => sa_A a q ∨ sa_A b q ∨ q = ll ∨ q = gg
def zs_C (a b : Nat → Nat) (ll gg : Nat) : Prop := sa_J a ∧ sa_J b ∧ (∀ q, sa_A a q → ¬ sa_A b q) ∧ ¬ sa_A a ll ∧ ¬ sa_A b ll ∧ ¬ sa_A a gg ∧ ¬ sa_A b gg ∧ ¬ ll = gg
theorem zs_Wat {k : Nat} {q : Nat × va_E} (h : (zs_W cI ll gg fl fg)[k]? = some q) : (k = 0 ∧ q.1 = ll) ∨ (k = 1 ∧ q.1 = gg) := by
  have hl : k < 2 := (List.getElem?_eq_some_iff.mp h).1
  match k, hl, h with
  | 0, _, h => cases h; exact Or.inl ⟨rfl, rfl⟩
  | 1, _, h => cases h; exact Or.inr ⟨rfl, rfl⟩
theorem zs_DW (h : ¬ ll = gg) : va_D (fun q => q = ll ∨ q = gg) (zs_W cI ll gg fl fg) := by
  refine ⟨fun i j p q hp hq e => ?_, fun k q hq => ?_⟩
  · rcases zs_Wat hp with ⟨e1, f1⟩ | ⟨e1, f1⟩ <;> rcases zs_Wat hq with ⟨e2, f2⟩ | ⟨e2, f2⟩
    · rw [e1, e2]
    · exact absurd (f1.symm.trans (e.trans f2)) h
    · exact absurd (f2.symm.trans (e.symm.trans f1)) h
    · rw [e1, e2]
  · exact (zs_Wat hq).elim (fun h => Or.inl h.2) (fun h => Or.inr h.2)
theorem zs_wider {A B : Nat → Prop} {H0 H H1 : Heap} {locs locs1 : List Loc} (hS : va_S A H0 H locs) (h1 : va_S B H H1 locs1) (hl : ∀ z ∈ locs1, A z.base) (hBA : ∀ q, B q → A q) : va_S A H0 H1 locs1 :=
  ⟨Nat.le_trans hS.1 h1.1, fun q hq hA => (h1.2.1 q (Nat.lt_of_lt_of_le hq hS.1) (fun h => hA (hBA q h))).trans (hS.2.1 q hq hA), hl⟩
/-- a store into one of the two arrays: all else stays -/
theorem zs_stl (hC : zs_C a b ll gg) (S : CallFix p m c cc nL s args Ts own) (hK : sa_K G cI cZ cL s) (hPa : va_P G vwCl (sa_W0 cI cZ a σ) H) (hPb : va_P G vwCl (sa_W0 cI cZ b τ) H) (hPw : va_P G vwCl (zs_W cI ll gg fl fg) H) (hS : va_S (zs_A a b ll gg) H0 H locs) (hk : k < 24) (hdg : decode cc pc = .ok (.iastore, 1))
    (kk : ∀ (H1 : Heap) (locs1 : List Loc), va_P G vwCl (sa_W0 cI cZ a σ) H1 → va_P G vwCl (sa_W0 cI cZ b τ) H1 → va_P G vwCl (zs_W cI ll gg (upd fl k x) fg) H1 → va_S (zs_A a b ll gg) H0 H1 locs1 → W p l e R s m args below meth c H1 locs1 cells slots Q (F0 m (pc + 1) ls rest)) : W p l e R s m args below meth c H locs cells slots Q (F0 m pc ls (.int x :: .int (nI k) :: .ref ll :: rest)) := by
  have hD : va_D (zs_A a b ll gg) (sa_W0 cI cZ a σ ++ (sa_W0 cI cZ b τ ++ zs_W cI ll gg fl fg)) :=
    va_D.app ((sa_D0 hC.1).weaken fun _ _ _ h => Or.inl h) (va_D.app ((sa_D0 hC.2.1).weaken fun _ _ _ h => Or.inr (Or.inl h)) ((zs_DW hC.2.2.2.2.2.2.2).weaken fun _ _ _ h => Or.inr (Or.inr h))
      (fun i j q r h1 h2 e => by
        have ha : sa_A b q.1 := ⟨i, sa_W0_at h1⟩
        rcases zs_Wat h2 with ⟨-, f⟩ | ⟨-, f⟩ <;> rw [e, f] at ha
        · exact hC.2.2.2.2.1 ha
        · exact hC.2.2.2.2.2.2.1 ha))
      (fun i j q r h1 h2 e => by
        have ha : sa_A a q.1 := ⟨i, sa_W0_at h1⟩
        have hz := List.mem_of_getElem? h2
        rcases List.mem_append.mp hz with hz | hz
        · obtain ⟨i2, h3⟩ := List.getElem?_of_mem hz
          exact hC.2.2.1 q.1 ha (by rw [e]; exact ⟨i2, sa_W0_at h3⟩)
        · obtain ⟨i2, h3⟩ := List.getElem?_of_mem hz
          rcases zs_Wat h3 with ⟨-, f⟩ | ⟨-, f⟩ <;> rw [e, f] at ha
          · exact hC.2.2.2.1 ha
          · exact hC.2.2.2.2.2.1 ha)
  refine va_iast S.1 S.2.1 hK (va_P.app hPa (va_P.app hPb hPw)) hD hS 32 0 rfl rfl (vp_in_nI hk (by decide)) hdg (fun H1 locs1 hP1 _ hS1 => ?_)
  rw [nI_clamp (by omega)] at hP1
  exact kk H1 locs1 (hP1.sub [0, 1, 2, 3, 4, 5, 6, 7, 8, 9, 10, 11, 12, 13, 14, 15] rfl) (hP1.sub [16, 17, 18, 19, 20, 21, 22, 23, 24, 25, 26, 27, 28, 29, 30, 31] rfl) (hP1.sub [32, 33] rfl) hS1
theorem zs_stg (hC : zs_C a b ll gg) (S : CallFix p m c cc nL s args Ts own) (hK : sa_K G cI cZ cL s) (hPa : va_P G vwCl (sa_W0 cI cZ a σ) H) (hPb : va_P G vwCl (sa_W0 cI cZ b τ) H) (hPw : va_P G vwCl (zs_W cI ll gg fl fg) H) (hS : va_S (zs_A a b ll gg) H0 H locs) (hdg : decode cc pc = .ok (.iastore, 1))
    (kk : ∀ (H1 : Heap) (locs1 : List Loc), va_P G vwCl (sa_W0 cI cZ a σ) H1 → va_P G vwCl (sa_W0 cI cZ b τ) H1 → va_P G vwCl (zs_W cI ll gg fl (upd fg 0 x)) H1 → va_S (zs_A a b ll gg) H0 H1 locs1 → W p l e R s m args below meth c H1 locs1 cells slots Q (F0 m (pc + 1) ls rest)) : W p l e R s m args below meth c H locs cells slots Q (F0 m pc ls (.int x :: .int 0 :: .ref gg :: rest)) := by
  have hD : va_D (zs_A a b ll gg) (sa_W0 cI cZ a σ ++ (sa_W0 cI cZ b τ ++ zs_W cI ll gg fl fg)) :=
    va_D.app ((sa_D0 hC.1).weaken fun _ _ _ h => Or.inl h) (va_D.app ((sa_D0 hC.2.1).weaken fun _ _ _ h => Or.inr (Or.inl h)) ((zs_DW hC.2.2.2.2.2.2.2).weaken fun _ _ _ h => Or.inr (Or.inr h))
      (fun i j q r h1 h2 e => by
        have ha : sa_A b q.1 := ⟨i, sa_W0_at h1⟩
        rcases zs_Wat h2 with ⟨-, f⟩ | ⟨-, f⟩ <;> rw [e, f] at ha
        · exact hC.2.2.2.2.1 ha
        · exact hC.2.2.2.2.2.2.1 ha))
      (fun i j q r h1 h2 e => by
        have ha : sa_A a q.1 := ⟨i, sa_W0_at h1⟩
        have hz := List.mem_of_getElem? h2
        rcases List.mem_append.mp hz with hz | hz
        · obtain ⟨i2, h3⟩ := List.getElem?_of_mem hz
          exact hC.2.2.1 q.1 ha (by rw [e]; exact ⟨i2, sa_W0_at h3⟩)
        · obtain ⟨i2, h3⟩ := List.getElem?_of_mem hz
          rcases zs_Wat h3 with ⟨-, f⟩ | ⟨-, f⟩ <;> rw [e, f] at ha
          · exact hC.2.2.2.1 ha
          · exact hC.2.2.2.2.2.1 ha)
  refine va_iast (i := nI 0) S.1 S.2.1 hK (va_P.app hPa (va_P.app hPb hPw)) hD hS 33 0 rfl rfl (vp_in_nI (by decide) (by decide)) hdg (fun H1 locs1 hP1 _ hS1 => ?_)
  rw [nI_clamp (by omega)] at hP1
  exact kk H1 locs1 (hP1.sub [0, 1, 2, 3, 4, 5, 6, 7, 8, 9, 10, 11, 12, 13, 14, 15] rfl) (hP1.sub [16, 17, 18, 19, 20, 21, 22, 23, 24, 25, 26, 27, 28, 29, 30, 31] rfl) (hP1.sub [32, 33] rfl) hS1
end
theorem zs_bB {G : va_G} {cI cZ cL : ClassId} {a : Nat → Nat} {n ll gg lo : Nat} {av : List Value} : FrameBlind (va_Pc av (fun U => (va_P G vwCl (sa_W0 cI cZ a (zs n)) U.heap ∧ va_P G vwCl (zs_W cI ll gg (zs_l n) (zs_g n)) U.heap ∧ sa_K G cI cZ cL U) ∧ sa_TT lo U U.heap)) := fun x U g9 mk h => ⟨h.1, ⟨h.2.1.1, h.2.1.2.1, va_K.moved (u := U) (U := U.calling g9 mk x) (Vm.Alike.refl U.vm) h.2.1.2.2⟩, sa_TT.same (u := U) (U := U.calling g9 mk x) rfl h.2.2⟩
theorem zs_bA {G : va_G} {cI cZ cL : ClassId} {a b : Nat → Nat} {n ll gg lo h0 : Nat} {av : List Value} : FrameBlind (va_Pc av (fun U => ((va_P G vwCl (sa_W0 cI cZ a (zs n)) U.heap ∧ va_P G vwCl (sa_W0 cI cZ b (zs n)) U.heap ∧ va_P G vwCl (zs_W cI ll gg (zs_l n) (zs_g n)) U.heap ∧ sa_K G cI cZ cL U) ∧ sa_TT lo U U.heap) ∧ U.heap.size = h0)) := fun x U g9 mk h => ⟨h.1, ⟨⟨h.2.1.1.1, h.2.1.1.2.1, h.2.1.1.2.2.1, va_K.moved (u := U) (U := U.calling g9 mk x) (Vm.Alike.refl U.vm) h.2.1.1.2.2.2⟩, sa_TT.same (u := U) (U := U.calling g9 mk x) rfl h.2.1.2⟩, h.2.2⟩
set_option maxHeartbeats 8000000 in
set_option maxRecDepth 100000 in
theorem k_breaks (l : Launch) (lo : Nat) (hst : l.stackTraces = false) (G : va_G) (cI cZ cL : ClassId) (a : Nat → Nat) (n dd ll ss gg : Nat) (hn : n ≤ 24) : Met l yL_breaks wsL_breaks ({ frames := 11, cells := 4, slots := 24, locals := 196 }) (va_Pc [.ref (a 0), .ref dd, .ref ll, .ref ss, .ref gg] (fun U => (va_P G vwCl (sa_W0 cI cZ a (zs n)) U.heap ∧ va_P G vwCl (zs_W cI ll gg (zs_l n) (zs_g n)) U.heap ∧ sa_K G cI cZ cL U) ∧ sa_TT lo U U.heap)) (va_Qi (fun z (_ : Unit) => z = 1) (fun _ _ => True) (fun _ => False)) 4 24 (fun _ => False) := by
  refine Met.ofW (cc := cL_breaks) (maxL := 12) (ret := (some .boolean)) (by decide) rfl ?_
  intro p e s m args below meth c s₁ B9 hml hv
  obtain ⟨rfl, ⟨hPa, hPw, hK⟩, hT1⟩ := hv
  have hx := B9.exec
  have hb := B9.bytes
  have hr := B9.returns
  have hlk := B9.notSynchronized
  have hts := atoms_spec (ws := wsL_breaks) B9.pre
  have hown : s.vm.findClass RL = some m.cls := findClass_of_methodNamed B9.named
  have S : CallFix p m c cL_breaks 12 s _ wsL_breaks RL := ⟨hx, hb, hml, hown, hts⟩
  have hl := lv_entry ([.ref (a 0), .ref dd, .ref ll, .ref ss, .ref gg]) (n := 12) (Nat.le_of_ble_eq_true rfl)
  rw [lg_entry_eq]
  generalize (lg_sl ([.ref (a 0), .ref dd, .ref ll, .ref ss, .ref gg]) ++ List.replicate (12 - (lg_sl ([.ref (a 0), .ref dd, .ref ll, .ref ss, .ref gg])).length) Slot.unset).toArray = ls at hl ⊢
  have hl : lv_has ls 12 [(0, .ref (a 0)), (1, .ref dd), (2, .ref ll), (3, .ref ss), (4, .ref gg)] := hl
  have hS : va_S (fun _ => False) s.heap s.heap [] := va_S.rf
  refine lv_iconst (v := 0) hx hb dL_breaks_0 (by decide) ?_
  refine lv_istore (lv' := [(5, .int (0)), (0, .ref (a 0)), (1, .ref dd), (2, .ref ll), (3, .ref ss), (4, .ref gg)]) hx hb dL_breaks_1 hl (by decide) rfl (fun ls hl => ?_)
  have loop : ∀ (j k : Nat), k + j = n → ∀ (H : Heap) (locs : List Loc), va_P G vwCl (sa_W0 cI cZ a (zs n)) H → va_P G vwCl (zs_W cI ll gg (zs_l n) (zs_g n)) H → sa_TT lo s H → va_S (fun _ => False) s.heap H locs → ∀ ls : Array Slot, lv_has ls 12 [(5, .int (nI k)), (0, .ref (a 0)), (1, .ref dd), (2, .ref ll), (3, .ref ss), (4, .ref gg)] → W p l e ({ frames := 11, cells := 4, slots := 24, locals := 196 }) s m (([Value.ref (a 0), Value.ref dd, Value.ref ll, Value.ref ss, Value.ref gg] : List Value).toArray) below meth c H locs 0 0 (MQ below (va_Qi (fun z (_ : Unit) => z = 1) (fun _ _ => True) (fun _ => False)) ([Value.ref (a 0), Value.ref dd, Value.ref ll, Value.ref ss, Value.ref gg] : List Value).toArray s 4 24 (fun _ => False)) (F0 m 3 ls []) := by
    intro j
    induction j with
    | zero =>
      intro k hk2 H locs hPa hPw hT1 hS ls hl
      have hkn : k = n := by omega
      rw [hkn] at hl
      refine lv_iload hx hb dL_breaks_3 (lv_at hl 0 rfl) ?_
      refine lv_aload hx hb dL_breaks_5 (lv_at hl 5 rfl) ?_
      refine lv_iconst (v := 0) hx hb dL_breaks_7 (by decide) ?_
      refine zs_rg0 S hK hPw dL_breaks_8 ?_
      refine lv_icmp_ge (tgt := 103) hx hb dL_breaks_9 (by decide) (fun _ => ?_) (fun c9 => absurd (nI_le (Nat.le_refl n) (by omega)) c9)
      refine lv_iconst (v := 0) hx hb dL_breaks_103 (by decide) ?_
      refine lv_istore (lv' := [(5, .int (0)), (0, .ref (a 0)), (1, .ref dd), (2, .ref ll), (3, .ref ss), (4, .ref gg)]) hx hb dL_breaks_104 hl (by decide) rfl (fun ls hl => ?_)
      refine lv_iload hx hb dL_breaks_106 (lv_at hl 0 rfl) ?_
      refine lv_aload hx hb dL_breaks_108 (lv_at hl 5 rfl) ?_
      refine lv_iconst (v := 2) hx hb dL_breaks_110 (by decide) ?_
      refine zs_rg2 S hK hPw dL_breaks_111 ?_
      refine lv_icmp_ge (tgt := 362) hx hb dL_breaks_112 (by decide) (fun _ => ?_) (fun c9 => absurd (by decide) c9)
      refine lv_aload_n hx hb dL_breaks_362 rfl (lv_at hl 1 rfl) ?_
      refine sa_kRd (r := nI n) (As := []) (rest := []) S (z_breaks l G cI cZ cL a n hn) (cwV 0 hts gL_breaks_X0_breaks rfl rfl rfl (by decide +kernel) ⟨Nat.le_of_ble_eq_true rfl, Nat.le_of_ble_eq_true rfl⟩) hPa hK (ci := 0) rfl rfl rfl hl.1 (Nat.le_of_ble_eq_true rfl) rfl dL_breaks_363 ⟨Nat.le_of_ble_eq_true rfl, Nat.le_of_ble_eq_true rfl⟩ ?_
      refine lv_aload hx hb dL_breaks_366 (lv_at hl 5 rfl) ?_
      refine lv_iconst (v := 0) hx hb dL_breaks_368 (by decide) ?_
      refine zs_rg0 S hK hPw dL_breaks_369 ?_
      refine lv_icmp_ne (tgt := 445) hx hb dL_breaks_370 (by decide) (fun c9 => absurd rfl c9) (fun _ => ?_)
      refine lv_aload_n hx hb dL_breaks_373 rfl (lv_at hl 1 rfl) ?_
      refine sa_kRd (r := 0) (As := []) (rest := []) S (z_orders l G cI cZ cL a n hn) (cwV 0 hts gL_breaks_X0_orders rfl rfl rfl (by decide +kernel) ⟨Nat.le_of_ble_eq_true rfl, Nat.le_of_ble_eq_true rfl⟩) hPa hK (ci := 0) rfl rfl rfl hl.1 (Nat.le_of_ble_eq_true rfl) rfl dL_breaks_374 ⟨Nat.le_of_ble_eq_true rfl, Nat.le_of_ble_eq_true rfl⟩ ?_
      refine lv_aload hx hb dL_breaks_377 (lv_at hl 5 rfl) ?_
      refine lv_iconst (v := 1) hx hb dL_breaks_379 (by decide) ?_
      refine zs_rg1 S hK hPw dL_breaks_380 ?_
      refine lv_icmp_ne (tgt := 445) hx hb dL_breaks_381 (by decide) (fun c9 => absurd (by decide) c9) (fun _ => ?_)
      refine lv_aload_n hx hb dL_breaks_384 rfl (lv_at hl 1 rfl) ?_
      refine sa_kRd (r := 0) (As := []) (rest := []) S (z_spots l G cI cZ cL a n hn) (cwV 0 hts gL_breaks_X0_spots rfl rfl rfl (by decide +kernel) ⟨Nat.le_of_ble_eq_true rfl, Nat.le_of_ble_eq_true rfl⟩) hPa hK (ci := 0) rfl rfl rfl hl.1 (Nat.le_of_ble_eq_true rfl) rfl dL_breaks_385 ⟨Nat.le_of_ble_eq_true rfl, Nat.le_of_ble_eq_true rfl⟩ ?_
      refine lv_aload hx hb dL_breaks_388 (lv_at hl 5 rfl) ?_
      refine lv_iconst (v := 2) hx hb dL_breaks_390 (by decide) ?_
      refine zs_rg2 S hK hPw dL_breaks_391 ?_
      refine lv_icmp_ne (tgt := 445) hx hb dL_breaks_392 (by decide) (fun c9 => absurd (by decide) c9) (fun _ => ?_)
      refine lv_aload_n hx hb dL_breaks_395 rfl (lv_at hl 1 rfl) ?_
      refine lv_aload hx hb dL_breaks_396 (lv_at hl 5 rfl) ?_
      refine lv_iconst (v := 0) hx hb dL_breaks_398 (by decide) ?_
      refine zs_rg0 S hK hPw dL_breaks_399 ?_
      refine sa_kLx (lo := lo) (As := [.ref (a 0), .int (nI n)]) (rest := []) S (z_room_x l lo _ hst G cI cZ cL a (n) hn) (vx_cwSW (hh := [(0, 5, 6, 26)]) 2 hts gL_breaks_L_room rfl rfl rfl (by decide +kernel) ⟨Nat.le_of_ble_eq_true rfl, Nat.le_of_ble_eq_true rfl⟩) hPa hK hT1 hS rfl hl.1 (Nat.le_of_ble_eq_true rfl) rfl dL_breaks_400 ⟨Nat.le_of_ble_eq_true rfl, Nat.le_of_ble_eq_true rfl⟩ (fun H locs hz1 hk9 hS => ?_)
      have hPa := sa_same hPa hk9
      have hPw := sa_same hPw hk9
      have hT1 : sa_TT lo s H := hT1.kept (fun q hq _ => hk9 q hq)
      refine lv_ldc (v := -1000001) hx hb hown (hts (.constant RL 28 (-1000001)) (by decide +kernel)) dL_breaks_403 ?_
      refine lv_icmp_ne (tgt := 445) hx hb dL_breaks_405 (by decide) (fun c9 => absurd (by decide) c9) (fun _ => ?_)
      refine lv_aload_n hx hb dL_breaks_408 rfl (lv_at hl 1 rfl) ?_
      refine lv_iconst (v := (-1)) hx hb dL_breaks_409 (by decide) ?_
      refine sa_kLx (lo := lo) (As := [.ref (a 0), .int ((-1))]) (rest := []) S (z_isAired_x l lo _ hst G cI cZ cL a (n) hn) (vx_cwSW (hh := [(0, 13, 14, 26)]) 2 hts gL_breaks_L_isAired rfl rfl rfl (by decide +kernel) ⟨Nat.le_of_ble_eq_true rfl, Nat.le_of_ble_eq_true rfl⟩) hPa hK hT1 hS rfl hl.1 (Nat.le_of_ble_eq_true rfl) rfl dL_breaks_410 ⟨Nat.le_of_ble_eq_true rfl, Nat.le_of_ble_eq_true rfl⟩ (fun H locs hz2 hk9 hS => ?_)
      have hPa := sa_same hPa hk9
      have hPw := sa_same hPw hk9
      have hT1 : sa_TT lo s H := hT1.kept (fun q hq _ => hk9 q hq)
      refine lv_ldc (v := -1000001) hx hb hown (hts (.constant RL 28 (-1000001)) (by decide +kernel)) dL_breaks_413 ?_
      refine lv_icmp_ne (tgt := 445) hx hb dL_breaks_415 (by decide) (fun c9 => absurd (by decide) c9) (fun _ => ?_)
      refine lv_aload_n hx hb dL_breaks_418 rfl (lv_at hl 1 rfl) ?_
      refine lv_aload hx hb dL_breaks_419 (lv_at hl 5 rfl) ?_
      refine lv_iconst (v := 2) hx hb dL_breaks_421 (by decide) ?_
      refine zs_rg2 S hK hPw dL_breaks_422 ?_
      refine sa_kLx (lo := lo) (As := [.ref (a 0), .int (0)]) (rest := []) S (z_stateOf_x l lo _ hst G cI cZ cL a (n) hn) (vx_cwSW (hh := [(0, 5, 6, 26)]) 2 hts gL_breaks_L_stateOf rfl rfl rfl (by decide +kernel) ⟨Nat.le_of_ble_eq_true rfl, Nat.le_of_ble_eq_true rfl⟩) hPa hK hT1 hS rfl hl.1 (Nat.le_of_ble_eq_true rfl) rfl dL_breaks_423 ⟨Nat.le_of_ble_eq_true rfl, Nat.le_of_ble_eq_true rfl⟩ (fun H locs hz3 hk9 hS => ?_)
      have hPa := sa_same hPa hk9
      have hPw := sa_same hPw hk9
      have hT1 : sa_TT lo s H := hT1.kept (fun q hq _ => hk9 q hq)
      refine lv_ldc (v := -1000001) hx hb hown (hts (.constant RL 28 (-1000001)) (by decide +kernel)) dL_breaks_426 ?_
      refine lv_icmp_ne (tgt := 445) hx hb dL_breaks_428 (by decide) (fun c9 => absurd (by decide) c9) (fun _ => ?_)
      refine lv_aload_n hx hb dL_breaks_431 rfl (lv_at hl 1 rfl) ?_
      refine lv_iconst (v := (-1)) hx hb dL_breaks_432 (by decide) ?_
      refine sa_kLx (lo := lo) (As := [.ref (a 0), .int ((-1))]) (rest := []) S (z_breakOf_x l lo _ hst G cI cZ cL a (n) hn) (vx_cwSW (hh := [(0, 5, 6, 26)]) 2 hts gL_breaks_L_breakOf rfl rfl rfl (by decide +kernel) ⟨Nat.le_of_ble_eq_true rfl, Nat.le_of_ble_eq_true rfl⟩) hPa hK hT1 hS rfl hl.1 (Nat.le_of_ble_eq_true rfl) rfl dL_breaks_433 ⟨Nat.le_of_ble_eq_true rfl, Nat.le_of_ble_eq_true rfl⟩ (fun H locs hz4 hk9 hS => ?_)
      have hPa := sa_same hPa hk9
      have hPw := sa_same hPw hk9
      have hT1 : sa_TT lo s H := hT1.kept (fun q hq _ => hk9 q hq)
      refine lv_ldc (v := -1000001) hx hb hown (hts (.constant RL 28 (-1000001)) (by decide +kernel)) dL_breaks_436 ?_
      refine lv_icmp_ne (tgt := 445) hx hb dL_breaks_438 (by decide) (fun c9 => absurd (by decide) c9) (fun _ => ?_)
      refine lv_iconst (v := 1) hx hb dL_breaks_441 (by decide) ?_
      refine lv_goto (tgt := 446) hx hb dL_breaks_442 (by decide) ?_
      exact W.zret (v := 1) (ty := .boolean) hx hb hr rfl (fun t9 ht _ => ⟨⟨_, (), rfl, rfl, trivial⟩, hS.F ht⟩) hS.2.2 dL_breaks_446
    | succ j ih =>
      intro k hk2 H locs hPa hPw hT1 hS ls hl
      have hk : k < n := by omega
      refine lv_iload hx hb dL_breaks_3 (lv_at hl 0 rfl) ?_
      refine lv_aload hx hb dL_breaks_5 (lv_at hl 5 rfl) ?_
      refine lv_iconst (v := 0) hx hb dL_breaks_7 (by decide) ?_
      refine zs_rg0 S hK hPw dL_breaks_8 ?_
      refine lv_icmp_ge (tgt := 103) hx hb dL_breaks_9 (by decide) (fun c9 => absurd c9 (nI_ge hk (by omega))) (fun _ => ?_)
      refine lv_aload_n hx hb dL_breaks_12 rfl (lv_at hl 3 rfl) ?_
      refine lv_iload hx hb dL_breaks_13 (lv_at hl 0 rfl) ?_
      refine zs_rl (k := k) S hK hPw hn hk dL_breaks_15 ?_
      refine lv_istore (lv' := [(6, .int (15)), (5, .int (nI k)), (0, .ref (a 0)), (1, .ref dd), (2, .ref ll), (3, .ref ss), (4, .ref gg)]) hx hb dL_breaks_16 hl (by decide) rfl (fun ls hl => ?_)
      refine lv_iconst (v := 0) hx hb dL_breaks_18 (by decide) ?_
      refine lv_istore (lv' := [(7, .int (0)), (6, .int (15)), (5, .int (nI k)), (0, .ref (a 0)), (1, .ref dd), (2, .ref ll), (3, .ref ss), (4, .ref gg)]) hx hb dL_breaks_19 hl (by decide) rfl (fun ls hl => ?_)
      refine lv_iload hx hb dL_breaks_21 (lv_at hl 0 rfl) ?_
      refine lv_aload hx hb dL_breaks_23 (lv_at hl 7 rfl) ?_
      refine lv_iconst (v := 2) hx hb dL_breaks_25 (by decide) ?_
      refine zs_rg2 S hK hPw dL_breaks_26 ?_
      refine lv_icmp_ge (tgt := 79) hx hb dL_breaks_27 (by decide) (fun _ => ?_) (fun c9 => absurd (by decide) c9)
      refine lv_aload_n hx hb dL_breaks_79 rfl (lv_at hl 3 rfl) ?_
      refine lv_iload hx hb dL_breaks_80 (lv_at hl 2 rfl) ?_
      refine sa_kLr (As := [.ref (a 0), .int (nI k)]) (rest := []) S (z_room l G cI cZ cL a n hn k hk) (vx_cwSW (hh := [(0, 5, 6, 26)]) 2 hts gL_breaks_L_room rfl rfl rfl (by decide +kernel) ⟨Nat.le_of_ble_eq_true rfl, Nat.le_of_ble_eq_true rfl⟩) hPa hK hS rfl hl.1 (Nat.le_of_ble_eq_true rfl) rfl dL_breaks_82 ⟨Nat.le_of_ble_eq_true rfl, Nat.le_of_ble_eq_true rfl⟩ (fun H locs hz hk9 hS => ?_)
      have hPa := sa_same hPa hk9
      have hPw := sa_same hPw hk9
      have hT1 : sa_TT lo s H := hT1.kept (fun q hq _ => hk9 q hq)
      refine lv_iload hx hb dL_breaks_85 (lv_at hl 1 rfl) ?_
      refine lv_icmp_ne (tgt := 95) hx hb dL_breaks_87 (by decide) (fun c9 => absurd (by decide) c9) (fun _ => ?_)
      refine lv_iload hx hb dL_breaks_90 (lv_at hl 1 rfl) ?_
      refine lv_if_ge (tgt := 97) hx hb dL_breaks_92 (by decide) (fun _ => ?_) (fun c9 => absurd (by decide) c9)
      refine lv_iinc (v := nI (k + 1)) (lv' := [(5, .int (nI (k + 1))), (7, .int (0)), (6, .int (15)), (0, .ref (a 0)), (1, .ref dd), (2, .ref ll), (3, .ref ss), (4, .ref gg)]) hx hb dL_breaks_97 hl (k := 2) rfl (nI_1 k) (by decide) rfl (fun ls hl => ?_)
      refine lv_goto (tgt := 3) hx hb dL_breaks_100 (by decide) ?_
      exact ih (k + 1) (by omega) H locs hPa hPw hT1 hS ls (lv_sub hl [0, 3, 4, 5, 6, 7] rfl)
  exact loop n 0 (Nat.zero_add _) _ _ hPa hPw hT1 hS ls (lv_sub hl [0, 1, 2, 3, 4, 5] rfl)
set_option maxHeartbeats 8000000 in
set_option maxRecDepth 100000 in
theorem k_orders (l : Launch) (lo : Nat) (hst : l.stackTraces = false) (G : va_G) (cI cZ cL : ClassId) (a : Nat → Nat) (n dd ll ss gg : Nat) (hn : n ≤ 24) : Met l yL_orders wsL_orders ({ frames := 10, cells := 5, slots := 30, locals := 177 }) (va_Pc [.ref (a 0), .ref dd, .ref ss, .ref gg] (fun U => (va_P G vwCl (sa_W0 cI cZ a (zs n)) U.heap ∧ va_P G vwCl (zs_W cI ll gg (zs_l n) (zs_g n)) U.heap ∧ sa_K G cI cZ cL U) ∧ sa_TT lo U U.heap)) (va_Qi (fun z (_ : Unit) => z = 1) (fun _ _ => True) (fun _ => False)) 5 30 (fun _ => False) := by
  refine Met.ofW (cc := cL_orders) (maxL := 11) (ret := (some .boolean)) (by decide) rfl ?_
  intro p e s m args below meth c s₁ B9 hml hv
  obtain ⟨rfl, ⟨hPa, hPw, hK⟩, hT1⟩ := hv
  have hx := B9.exec
  have hb := B9.bytes
  have hr := B9.returns
  have hlk := B9.notSynchronized
  have hts := atoms_spec (ws := wsL_orders) B9.pre
  have hown : s.vm.findClass RL = some m.cls := findClass_of_methodNamed B9.named
  have S : CallFix p m c cL_orders 11 s _ wsL_orders RL := ⟨hx, hb, hml, hown, hts⟩
  have hl := lv_entry ([.ref (a 0), .ref dd, .ref ss, .ref gg]) (n := 11) (Nat.le_of_ble_eq_true rfl)
  rw [lg_entry_eq]
  generalize (lg_sl ([.ref (a 0), .ref dd, .ref ss, .ref gg]) ++ List.replicate (11 - (lg_sl ([.ref (a 0), .ref dd, .ref ss, .ref gg])).length) Slot.unset).toArray = ls at hl ⊢
  have hl : lv_has ls 11 [(0, .ref (a 0)), (1, .ref dd), (2, .ref ss), (3, .ref gg)] := hl
  have hS : va_S (fun _ => False) s.heap s.heap [] := va_S.rf
  refine lv_iconst (v := (-1)) hx hb dL_orders_0 (by decide) ?_
  refine lv_istore (lv' := [(4, .int ((-1))), (0, .ref (a 0)), (1, .ref dd), (2, .ref ss), (3, .ref gg)]) hx hb dL_orders_1 hl (by decide) rfl (fun ls hl => ?_)
  refine lv_iconst (v := 0) hx hb dL_orders_3 (by decide) ?_
  refine lv_istore (lv' := [(5, .int (0)), (4, .int ((-1))), (0, .ref (a 0)), (1, .ref dd), (2, .ref ss), (3, .ref gg)]) hx hb dL_orders_4 hl (by decide) rfl (fun ls hl => ?_)
  refine lv_iload hx hb dL_orders_6 (lv_at hl 0 rfl) ?_
  refine lv_aload_n hx hb dL_orders_8 rfl (lv_at hl 5 rfl) ?_
  refine lv_iconst (v := 1) hx hb dL_orders_9 (by decide) ?_
  refine zs_rg1 S hK hPw dL_orders_10 ?_
  refine lv_icmp_ge (tgt := 342) hx hb dL_orders_11 (by decide) (fun _ => ?_) (fun c9 => absurd (by decide) c9)
  refine lv_iconst (v := 0) hx hb dL_orders_342 (by decide) ?_
  refine lv_istore (lv' := [(5, .int (0)), (4, .int ((-1))), (0, .ref (a 0)), (1, .ref dd), (2, .ref ss), (3, .ref gg)]) hx hb dL_orders_343 hl (by decide) rfl (fun ls hl => ?_)
  have loop : ∀ (j k : Nat), k + j = 10 → ∀ (H : Heap) (locs : List Loc), va_P G vwCl (sa_W0 cI cZ a (zs n)) H → va_P G vwCl (zs_W cI ll gg (zs_l n) (zs_g n)) H → sa_TT lo s H → va_S (fun _ => False) s.heap H locs → ∀ ls : Array Slot, lv_has ls 11 [(5, .int (nI k)), (4, .int ((-1))), (0, .ref (a 0)), (1, .ref dd), (2, .ref ss), (3, .ref gg)] → W p l e ({ frames := 10, cells := 5, slots := 30, locals := 177 }) s m (([Value.ref (a 0), Value.ref dd, Value.ref ss, Value.ref gg] : List Value).toArray) below meth c H locs 0 0 (MQ below (va_Qi (fun z (_ : Unit) => z = 1) (fun _ _ => True) (fun _ => False)) ([Value.ref (a 0), Value.ref dd, Value.ref ss, Value.ref gg] : List Value).toArray s 5 30 (fun _ => False)) (F0 m 345 ls []) := by
    intro j
    induction j with
    | zero =>
      intro k hk2 H locs hPa hPw hT1 hS ls hl
      have hk10 : k = 10 := by omega
      subst hk10
      refine lv_iload hx hb dL_orders_345 (lv_at hl 0 rfl) ?_
      refine lv_bipush (v := 10) hx hb dL_orders_347 (by decide) ?_
      refine lv_icmp_ge (tgt := 418) hx hb dL_orders_349 (by decide) (fun _ => ?_) (fun c9 => absurd (nI_le (Nat.le_refl 10) (by decide)) c9)
      refine lv_aload_n hx hb dL_orders_418 rfl (lv_at hl 2 rfl) ?_
      refine sa_kRd (r := -1) (As := []) (rest := []) S (z_mostOwed l G cI cZ cL a n hn) (cwV 0 hts gL_orders_X0_mostOwed rfl rfl rfl (by decide +kernel) ⟨Nat.le_of_ble_eq_true rfl, Nat.le_of_ble_eq_true rfl⟩) hPa hK (ci := 0) rfl rfl rfl hl.1 (Nat.le_of_ble_eq_true rfl) rfl dL_orders_419 ⟨Nat.le_of_ble_eq_true rfl, Nat.le_of_ble_eq_true rfl⟩ ?_
      refine lv_iload hx hb dL_orders_422 (lv_at hl 1 rfl) ?_
      refine lv_icmp_ne (tgt := 486) hx hb dL_orders_424 (by decide) (fun c9 => absurd (by decide) c9) (fun _ => ?_)
      refine lv_aload_n hx hb dL_orders_427 rfl (lv_at hl 2 rfl) ?_
      refine lv_bipush (v := 10) hx hb dL_orders_428 (by decide) ?_
      refine sa_kLx (lo := lo) (As := [.ref (a 0), .int (10)]) (rest := []) S (z_billTo_x l lo _ hst G cI cZ cL a (n) hn) (vx_cwSW (hh := [(0, 5, 6, 16)]) 2 hts gL_orders_L_billTo rfl rfl rfl (by decide +kernel) ⟨Nat.le_of_ble_eq_true rfl, Nat.le_of_ble_eq_true rfl⟩) hPa hK hT1 hS rfl hl.1 (Nat.le_of_ble_eq_true rfl) rfl dL_orders_430 ⟨Nat.le_of_ble_eq_true rfl, Nat.le_of_ble_eq_true rfl⟩ (fun H locs hz1 hk9 hS => ?_)
      have hPa := sa_same hPa hk9
      have hPw := sa_same hPw hk9
      have hT1 : sa_TT lo s H := hT1.kept (fun q hq _ => hk9 q hq)
      refine lv_ldc (v := -1000002) hx hb hown (hts (.constant RL 18 (-1000002)) (by decide +kernel)) dL_orders_433 ?_
      refine lv_icmp_ne (tgt := 486) hx hb dL_orders_435 (by decide) (fun c9 => absurd (by decide) c9) (fun _ => ?_)
      refine lv_aload_n hx hb dL_orders_438 rfl (lv_at hl 2 rfl) ?_
      refine lv_aload_n hx hb dL_orders_439 rfl (lv_at hl 5 rfl) ?_
      refine lv_iconst (v := 1) hx hb dL_orders_440 (by decide) ?_
      refine zs_rg1 S hK hPw dL_orders_441 ?_
      refine sa_kLx (lo := lo) (As := [.ref (a 0), .int (0)]) (rest := []) S (z_delivered_x l lo _ hst G cI cZ cL a (n) hn) (vx_cwSW (hh := [(0, 5, 6, 26)]) 2 hts gL_orders_L_delivered rfl rfl rfl (by decide +kernel) ⟨Nat.le_of_ble_eq_true rfl, Nat.le_of_ble_eq_true rfl⟩) hPa hK hT1 hS rfl hl.1 (Nat.le_of_ble_eq_true rfl) rfl dL_orders_442 ⟨Nat.le_of_ble_eq_true rfl, Nat.le_of_ble_eq_true rfl⟩ (fun H locs hz2 hk9 hS => ?_)
      have hPa := sa_same hPa hk9
      have hPw := sa_same hPw hk9
      have hT1 : sa_TT lo s H := hT1.kept (fun q hq _ => hk9 q hq)
      refine lv_ldc (v := -1000001) hx hb hown (hts (.constant RL 28 (-1000001)) (by decide +kernel)) dL_orders_445 ?_
      refine lv_icmp_ne (tgt := 486) hx hb dL_orders_447 (by decide) (fun c9 => absurd (by decide) c9) (fun _ => ?_)
      refine lv_aload_n hx hb dL_orders_450 rfl (lv_at hl 2 rfl) ?_
      refine lv_iconst (v := (-1)) hx hb dL_orders_451 (by decide) ?_
      refine sa_kLx (lo := lo) (As := [.ref (a 0), .int ((-1))]) (rest := []) S (z_owed_x l lo _ hst G cI cZ cL a (n) hn) (vx_cwSW (hh := [(0, 5, 6, 26)]) 2 hts gL_orders_L_owed rfl rfl rfl (by decide +kernel) ⟨Nat.le_of_ble_eq_true rfl, Nat.le_of_ble_eq_true rfl⟩) hPa hK hT1 hS rfl hl.1 (Nat.le_of_ble_eq_true rfl) rfl dL_orders_452 ⟨Nat.le_of_ble_eq_true rfl, Nat.le_of_ble_eq_true rfl⟩ (fun H locs hz3 hk9 hS => ?_)
      have hPa := sa_same hPa hk9
      have hPw := sa_same hPw hk9
      have hT1 : sa_TT lo s H := hT1.kept (fun q hq _ => hk9 q hq)
      refine lv_ldc (v := -1000001) hx hb hown (hts (.constant RL 28 (-1000001)) (by decide +kernel)) dL_orders_455 ?_
      refine lv_icmp_ne (tgt := 486) hx hb dL_orders_457 (by decide) (fun c9 => absurd (by decide) c9) (fun _ => ?_)
      refine lv_aload_n hx hb dL_orders_460 rfl (lv_at hl 2 rfl) ?_
      refine lv_aload_n hx hb dL_orders_461 rfl (lv_at hl 5 rfl) ?_
      refine lv_iconst (v := 1) hx hb dL_orders_462 (by decide) ?_
      refine zs_rg1 S hK hPw dL_orders_463 ?_
      refine sa_kLx (lo := lo) (As := [.ref (a 0), .int (0)]) (rest := []) S (z_rest_x l lo _ hst G cI cZ cL a (n) hn) (vx_cwSW (hh := [(0, 5, 6, 26)]) 2 hts gL_orders_L_rest rfl rfl rfl (by decide +kernel) ⟨Nat.le_of_ble_eq_true rfl, Nat.le_of_ble_eq_true rfl⟩) hPa hK hT1 hS rfl hl.1 (Nat.le_of_ble_eq_true rfl) rfl dL_orders_464 ⟨Nat.le_of_ble_eq_true rfl, Nat.le_of_ble_eq_true rfl⟩ (fun H locs hz4 hk9 hS => ?_)
      have hPa := sa_same hPa hk9
      have hPw := sa_same hPw hk9
      have hT1 : sa_TT lo s H := hT1.kept (fun q hq _ => hk9 q hq)
      refine lv_ldc (v := -1000001) hx hb hown (hts (.constant RL 28 (-1000001)) (by decide +kernel)) dL_orders_467 ?_
      refine lv_icmp_ne (tgt := 486) hx hb dL_orders_469 (by decide) (fun c9 => absurd (by decide) c9) (fun _ => ?_)
      refine lv_aload_n hx hb dL_orders_472 rfl (lv_at hl 2 rfl) ?_
      refine lv_iconst (v := (-1)) hx hb dL_orders_473 (by decide) ?_
      refine sa_kLx (lo := lo) (As := [.ref (a 0), .int ((-1))]) (rest := []) S (z_bill_x l lo _ hst G cI cZ cL a (n) hn) (vx_cwSW (hh := [(0, 5, 6, 26)]) 2 hts gL_orders_L_bill rfl rfl rfl (by decide +kernel) ⟨Nat.le_of_ble_eq_true rfl, Nat.le_of_ble_eq_true rfl⟩) hPa hK hT1 hS rfl hl.1 (Nat.le_of_ble_eq_true rfl) rfl dL_orders_474 ⟨Nat.le_of_ble_eq_true rfl, Nat.le_of_ble_eq_true rfl⟩ (fun H locs hz5 hk9 hS => ?_)
      have hPa := sa_same hPa hk9
      have hPw := sa_same hPw hk9
      have hT1 : sa_TT lo s H := hT1.kept (fun q hq _ => hk9 q hq)
      refine lv_ldc (v := -1000001) hx hb hown (hts (.constant RL 28 (-1000001)) (by decide +kernel)) dL_orders_477 ?_
      refine lv_icmp_ne (tgt := 486) hx hb dL_orders_479 (by decide) (fun c9 => absurd (by decide) c9) (fun _ => ?_)
      refine lv_iconst (v := 1) hx hb dL_orders_482 (by decide) ?_
      refine lv_goto (tgt := 487) hx hb dL_orders_483 (by decide) ?_
      exact W.zret (v := 1) (ty := .boolean) hx hb hr rfl (fun t9 ht _ => ⟨⟨_, (), rfl, rfl, trivial⟩, hS.F ht⟩) hS.2.2 dL_orders_487
    | succ j ih =>
      intro k hk2 H locs hPa hPw hT1 hS ls hl
      have hk : k < 10 := by omega
      refine lv_iload hx hb dL_orders_345 (lv_at hl 0 rfl) ?_
      refine lv_bipush (v := 10) hx hb dL_orders_347 (by decide) ?_
      refine lv_icmp_ge (tgt := 418) hx hb dL_orders_349 (by decide) (fun c9 => absurd c9 (nI_ge hk (by decide))) (fun _ => ?_)
      refine lv_iconst (v := 0) hx hb dL_orders_352 (by decide) ?_
      refine lv_istore (lv' := [(6, .int (0)), (5, .int (nI k)), (4, .int ((-1))), (0, .ref (a 0)), (1, .ref dd), (2, .ref ss), (3, .ref gg)]) hx hb dL_orders_353 hl (by decide) rfl (fun ls hl => ?_)
      refine lv_iconst (v := 0) hx hb dL_orders_355 (by decide) ?_
      refine lv_istore (lv' := [(7, .int (0)), (6, .int (0)), (5, .int (nI k)), (4, .int ((-1))), (0, .ref (a 0)), (1, .ref dd), (2, .ref ss), (3, .ref gg)]) hx hb dL_orders_356 hl (by decide) rfl (fun ls hl => ?_)
      refine lv_iload hx hb dL_orders_358 (lv_at hl 0 rfl) ?_
      refine lv_aload_n hx hb dL_orders_360 rfl (lv_at hl 7 rfl) ?_
      refine lv_iconst (v := 1) hx hb dL_orders_361 (by decide) ?_
      refine zs_rg1 S hK hPw dL_orders_362 ?_
      refine lv_icmp_ge (tgt := 399) hx hb dL_orders_363 (by decide) (fun _ => ?_) (fun c9 => absurd (by decide) c9)
      refine lv_aload_n hx hb dL_orders_399 rfl (lv_at hl 4 rfl) ?_
      refine lv_iload hx hb dL_orders_400 (lv_at hl 2 rfl) ?_
      refine sa_kLr (As := [.ref (a 0), .int (nI k)]) (rest := []) S (z_billTo l G cI cZ cL a n hn k hk) (vx_cwSW (hh := [(0, 5, 6, 16)]) 2 hts gL_orders_L_billTo rfl rfl rfl (by decide +kernel) ⟨Nat.le_of_ble_eq_true rfl, Nat.le_of_ble_eq_true rfl⟩) hPa hK hS rfl hl.1 (Nat.le_of_ble_eq_true rfl) rfl dL_orders_402 ⟨Nat.le_of_ble_eq_true rfl, Nat.le_of_ble_eq_true rfl⟩ (fun H locs hz hk9 hS => ?_)
      have hPa := sa_same hPa hk9
      have hPw := sa_same hPw hk9
      have hT1 : sa_TT lo s H := hT1.kept (fun q hq _ => hk9 q hq)
      refine lv_iload hx hb dL_orders_405 (lv_at hl 1 rfl) ?_
      refine lv_icmp_eq (tgt := 412) hx hb dL_orders_407 (by decide) (fun _ => ?_) (fun c9 => absurd (by decide) c9)
      refine lv_iinc (v := nI (k + 1)) (lv' := [(5, .int (nI (k + 1))), (7, .int (0)), (6, .int (0)), (4, .int ((-1))), (0, .ref (a 0)), (1, .ref dd), (2, .ref ss), (3, .ref gg)]) hx hb dL_orders_412 hl (k := 2) rfl (nI_1 k) (by decide) rfl (fun ls hl => ?_)
      refine lv_goto (tgt := 345) hx hb dL_orders_415 (by decide) ?_
      exact ih (k + 1) (by omega) H locs hPa hPw hT1 hS ls (lv_sub hl [0, 3, 4, 5, 6, 7] rfl)
  exact loop 10 0 (Nat.zero_add _) _ _ hPa hPw hT1 hS ls (lv_sub hl [0, 1, 2, 3, 4, 5] rfl)
set_option maxHeartbeats 8000000 in
set_option maxRecDepth 100000 in
theorem k_acts (l : Launch) (lo h0 : Nat) (hst : l.stackTraces = false) (G : va_G) (cI cZ cL : ClassId) (a b : Nat → Nat) (n dd ll ss gg : Nat) (hn : n ≤ 24) (hk : n < 24) (hC : zs_C a b ll gg) (hlo : ∀ q, zs_A a b ll gg q → lo ≤ q) : Met l yL_acts wsL_acts ({ frames := 12, cells := 2, slots := 12, locals := 227 }) (va_Pc [.ref (a 0), .ref (b 0), .ref dd, .ref ll, .ref ss, .ref gg, .int (0), .int (0)] (fun U => ((va_P G vwCl (sa_W0 cI cZ a (zs n)) U.heap ∧ va_P G vwCl (sa_W0 cI cZ b (zs n)) U.heap ∧ va_P G vwCl (zs_W cI ll gg (zs_l n) (zs_g n)) U.heap ∧ sa_K G cI cZ cL U) ∧ sa_TT lo U U.heap) ∧ U.heap.size = h0)) (va_Qi (fun z (_ : Unit) => z = 1) (fun _ t => va_P G vwCl (sa_W0 cI cZ a (zs (n + 1))) t.heap ∧ va_P G vwCl (sa_W0 cI cZ b (zs (n + 1))) t.heap ∧ va_P G vwCl (zs_W cI ll gg (zs_l (n + 1)) (zs_g (n + 1))) t.heap ∧ h0 + 2 ≤ t.heap.size) (zs_A a b ll gg)) 2 12 (zs_A a b ll gg) := by
  refine Met.ofW (cc := cL_acts) (maxL := 17) (ret := (some .boolean)) (by decide) rfl ?_
  intro p e s m args below meth c s₁ B9 hml hv
  obtain ⟨rfl, ⟨⟨hPa, hPb, hPw, hK⟩, hT⟩, hh0⟩ := hv
  have hx := B9.exec
  have hb := B9.bytes
  have hr := B9.returns
  have hlk := B9.notSynchronized
  have hts := atoms_spec (ws := wsL_acts) B9.pre
  have hown : s.vm.findClass RL = some m.cls := findClass_of_methodNamed B9.named
  have S : CallFix p m c cL_acts 17 s _ wsL_acts RL := ⟨hx, hb, hml, hown, hts⟩
  have hl := lv_entry ([.ref (a 0), .ref (b 0), .ref dd, .ref ll, .ref ss, .ref gg, .int (0), .int (0)]) (n := 17) (Nat.le_of_ble_eq_true rfl)
  rw [lg_entry_eq]
  generalize (lg_sl ([.ref (a 0), .ref (b 0), .ref dd, .ref ll, .ref ss, .ref gg, .int (0), .int (0)]) ++ List.replicate (17 - (lg_sl ([.ref (a 0), .ref (b 0), .ref dd, .ref ll, .ref ss, .ref gg, .int (0), .int (0)])).length) Slot.unset).toArray = ls at hl ⊢
  have hl : lv_has ls 17 [(0, .ref (a 0)), (1, .ref (b 0)), (2, .ref dd), (3, .ref ll), (4, .ref ss), (5, .ref gg), (6, .int (0)), (7, .int (0))] := hl
  have hS : va_S (zs_A a b ll gg) s.heap s.heap [] := va_S.rf
  refine lv_iload hx hb dL_acts_0 (lv_at hl 6 rfl) ?_
  refine lv_bipush (v := 28) hx hb dL_acts_2 (by decide) ?_
  refine sa_kRs (r := 0) (As := [.int (0), .int (28)]) (rest := []) S (k_low l 0 28 0 (by decide) (by decide)) (va_cwS 2 hts gL_acts_L_low rfl rfl rfl (by decide +kernel) ⟨Nat.le_of_ble_eq_true rfl, Nat.le_of_ble_eq_true rfl⟩) rfl hl.1 (Nat.le_of_ble_eq_true rfl) rfl dL_acts_4 ⟨Nat.le_of_ble_eq_true rfl, Nat.le_of_ble_eq_true rfl⟩ ?_
  refine lv_istore (lv' := [(8, .int (0)), (0, .ref (a 0)), (1, .ref (b 0)), (2, .ref dd), (3, .ref ll), (4, .ref ss), (5, .ref gg), (6, .int (0)), (7, .int (0))]) hx hb dL_acts_7 hl (by decide) rfl (fun ls hl => ?_)
  refine lv_aload hx hb dL_acts_9 (lv_at hl 6 rfl) ?_
  refine lv_iconst (v := 0) hx hb dL_acts_11 (by decide) ?_
  refine zs_rg0 S hK hPw dL_acts_12 ?_
  refine lv_iconst (v := 3) hx hb dL_acts_13 (by decide) ?_
  refine lv_icmp_lt (tgt := 22) hx hb dL_acts_14 (by decide) (fun _ => ?_) (fun _ => ?_)
  · skip
    refine lv_iload hx hb dL_acts_22 (lv_at hl 8 rfl) ?_
    refine lv_iconst (v := 3) hx hb dL_acts_24 (by decide) ?_
    refine sa_kRs (r := 0) (As := [.int (0), .int (3)]) (rest := []) S (k_low l 0 3 0 (by decide) (by decide)) (va_cwS 2 hts gL_acts_L_low rfl rfl rfl (by decide +kernel) ⟨Nat.le_of_ble_eq_true rfl, Nat.le_of_ble_eq_true rfl⟩) rfl hl.1 (Nat.le_of_ble_eq_true rfl) rfl dL_acts_25 ⟨Nat.le_of_ble_eq_true rfl, Nat.le_of_ble_eq_true rfl⟩ ?_
    refine lv_if_ne (tgt := 47) hx hb dL_acts_28 (by decide) (fun c9 => absurd (by decide) c9) (fun _ => ?_)
    refine lv_bipush (v := 15) hx hb dL_acts_31 (by decide) ?_
    refine lv_iload hx hb dL_acts_33 (lv_at hl 8 rfl) ?_
    refine lv_iconst (v := 2) hx hb dL_acts_35 (by decide) ?_
    refine lv_ishr hx hb dL_acts_36 ?_
    rw [show (0 : Int32) >>> ((2 : Int32) &&& 31) = 0 from by decide]
    refine lv_sipush (v := 586) hx hb dL_acts_37 (by decide) ?_
    refine sa_kRs (r := 0) (As := [.int (0), .int (586)]) (rest := [.int (15)]) S (k_low l 0 586 0 (by decide) (by decide)) (va_cwS 2 hts gL_acts_L_low rfl rfl rfl (by decide +kernel) ⟨Nat.le_of_ble_eq_true rfl, Nat.le_of_ble_eq_true rfl⟩) rfl hl.1 (Nat.le_of_ble_eq_true rfl) rfl dL_acts_40 ⟨Nat.le_of_ble_eq_true rfl, Nat.le_of_ble_eq_true rfl⟩ ?_
    refine lv_iadd hx hb dL_acts_43 ?_
    rw [show (15 : Int32) + 0 = 15 from by decide]
    refine lv_goto (tgt := 60) hx hb dL_acts_44 (by decide) ?_
    refine lv_istore (lv' := [(9, .int (15)), (8, .int (0)), (0, .ref (a 0)), (1, .ref (b 0)), (2, .ref dd), (3, .ref ll), (4, .ref ss), (5, .ref gg), (6, .int (0)), (7, .int (0))]) hx hb dL_acts_60 hl (by decide) rfl (fun ls hl => ?_)
    refine lv_aload hx hb dL_acts_62 (lv_at hl 7 rfl) ?_
    refine lv_iconst (v := 0) hx hb dL_acts_64 (by decide) ?_
    refine zs_rg0 S hK hPw dL_acts_65 ?_
    refine lv_bipush (v := 24) hx hb dL_acts_66 (by decide) ?_
    refine lv_icmp_ge (tgt := 78) hx hb dL_acts_68 (by decide) (fun c9 => absurd c9 (nI_ge hk (by decide))) (fun _ => ?_)
    refine lv_aload hx hb dL_acts_71 (lv_at hl 7 rfl) ?_
    refine lv_iconst (v := 0) hx hb dL_acts_73 (by decide) ?_
    refine zs_rg0 S hK hPw dL_acts_74 ?_
    refine lv_goto (tgt := 80) hx hb dL_acts_75 (by decide) ?_
    refine lv_istore (lv' := [(10, .int (nI n)), (9, .int (15)), (8, .int (0)), (0, .ref (a 0)), (1, .ref (b 0)), (2, .ref dd), (3, .ref ll), (4, .ref ss), (5, .ref gg), (6, .int (0)), (7, .int (0))]) hx hb dL_acts_80 hl (by decide) rfl (fun ls hl => ?_)
    refine lv_iload hx hb dL_acts_82 (lv_at hl 0 rfl) ?_
    refine lv_if_lt (tgt := 101) hx hb dL_acts_84 (by decide) (fun c9 => absurd c9 (nI_pos (by omega))) (fun _ => ?_)
    refine lv_aload_n hx hb dL_acts_87 rfl (lv_at hl 6 rfl) ?_
    refine lv_iload hx hb dL_acts_88 (lv_at hl 0 rfl) ?_
    refine lv_iload hx hb dL_acts_90 (lv_at hl 1 rfl) ?_
    refine zs_stl (k := n) hC S hK hPa hPb hPw hS hk dL_acts_92 (fun H locs hPa hPb hPw hS => ?_)
    refine lv_aload hx hb dL_acts_93 (lv_at hl 8 rfl) ?_
    refine lv_iconst (v := 0) hx hb dL_acts_95 (by decide) ?_
    refine lv_dup2_11 hx hb dL_acts_96 rfl rfl ?_
    refine zs_rg0 S hK hPw dL_acts_97 ?_
    refine lv_iconst (v := 1) hx hb dL_acts_98 (by decide) ?_
    refine lv_iadd hx hb dL_acts_99 ?_
    refine zs_stg hC S hK hPa hPb hPw hS dL_acts_100 (fun H locs hPa hPb hPw hS => ?_)
    refine lv_aload_n hx hb dL_acts_101 rfl (lv_at hl 3 rfl) ?_
    refine lv_iload hx hb dL_acts_102 (lv_at hl 1 rfl) ?_
    have hz0 := hS.1
    refine sa_kLw (As := [.ref (a 0), .int (15)]) (rest := []) S (z_addBreak l G cI cZ cL a n hn hC.1 hk) (vx_cwSW (hh := [(0, 5, 6, 16), (0, 5, 10, 19)]) 2 hts gL_acts_L_addBreak rfl rfl rfl (by decide +kernel) ⟨Nat.le_of_ble_eq_true rfl, Nat.le_of_ble_eq_true rfl⟩) hPa hK hS (fun _ h => Or.inl h) rfl hl.1 (Nat.le_of_ble_eq_true rfl) rfl dL_acts_104 ⟨Nat.le_of_ble_eq_true rfl, Nat.le_of_ble_eq_true rfl⟩ (fun H locs hPa hz hk9 hS => ?_)
    have hPb := sa_keepP hPb (A := sa_A a) (fun k q hq h => hC.2.2.1 _ h ⟨k, sa_W0_at hq⟩) hk9
    have hPw := sa_keepP hPw (A := sa_A a) (fun k q hq h => (zs_Wat hq).elim (fun z => hC.2.2.2.1 (by rw [← z.2]; exact h)) (fun z => hC.2.2.2.2.2.1 (by rw [← z.2]; exact h))) hk9
    have hzA := hz
    refine lv_iload hx hb dL_acts_107 (lv_at hl 0 rfl) ?_
    refine lv_icmp_ne (tgt := 150) hx hb dL_acts_109 (by decide) (fun c9 => absurd rfl c9) (fun _ => ?_)
    refine lv_aload_n hx hb dL_acts_112 rfl (lv_at hl 4 rfl) ?_
    refine lv_iload hx hb dL_acts_113 (lv_at hl 1 rfl) ?_
    refine sa_kLw (As := [.ref (b 0), .int (15)]) (rest := []) S (z_addBreak l G cI cZ cL b n hn hC.2.1 hk) (vx_cwSW (hh := [(0, 5, 6, 16), (0, 5, 10, 19)]) 2 hts gL_acts_L_addBreak rfl rfl rfl (by decide +kernel) ⟨Nat.le_of_ble_eq_true rfl, Nat.le_of_ble_eq_true rfl⟩) hPb hK hS (fun _ h => Or.inr (Or.inl h)) rfl hl.1 (Nat.le_of_ble_eq_true rfl) rfl dL_acts_115 ⟨Nat.le_of_ble_eq_true rfl, Nat.le_of_ble_eq_true rfl⟩ (fun H locs hPb hz hk9 hS => ?_)
    have hPa := sa_keepP hPa (A := sa_A b) (fun k q hq h => hC.2.2.1 _ ⟨k, sa_W0_at hq⟩ h) hk9
    have hPw := sa_keepP hPw (A := sa_A b) (fun k q hq h => (zs_Wat hq).elim (fun z => hC.2.2.2.2.1 (by rw [← z.2]; exact h)) (fun z => hC.2.2.2.2.2.2.1 (by rw [← z.2]; exact h))) hk9
    have hzB := hz
    refine lv_iload hx hb dL_acts_118 (lv_at hl 0 rfl) ?_
    refine lv_icmp_ne (tgt := 150) hx hb dL_acts_120 (by decide) (fun c9 => absurd rfl c9) (fun _ => ?_)
    refine lv_aload_n hx hb dL_acts_123 rfl (lv_at hl 3 rfl) ?_
    refine lv_bipush (v := 14) hx hb dL_acts_124 (by decide) ?_
    have hT1 : sa_TT lo s H := hT.kept (fun q hq hq2 => hS.2.1 q hq (fun h => hq2 (hlo q h)))
    refine sa_kLx (lo := lo) (As := [.ref (a 0), .int (14)]) (rest := []) S (z_add14 l lo _ hst G cI cZ cL a (n + 1) (show n + 1 ≤ 24 from hk)) (vx_cwSW (hh := [(0, 5, 6, 16), (0, 5, 10, 19)]) 2 hts gL_acts_L_addBreak rfl rfl rfl (by decide +kernel) ⟨Nat.le_of_ble_eq_true rfl, Nat.le_of_ble_eq_true rfl⟩) hPa hK hT1 hS rfl hl.1 (Nat.le_of_ble_eq_true rfl) rfl dL_acts_126 ⟨Nat.le_of_ble_eq_true rfl, Nat.le_of_ble_eq_true rfl⟩ (fun H locs hz1 hk9 hS => ?_)
    have hPa := sa_same hPa hk9
    have hPb := sa_same hPb hk9
    have hPw := sa_same hPw hk9
    refine lv_ldc (v := -1000002) hx hb hown (hts (.constant RL 18 (-1000002)) (by decide +kernel)) dL_acts_129 ?_
    refine lv_icmp_ne (tgt := 150) hx hb dL_acts_131 (by decide) (fun c9 => absurd (by decide) c9) (fun _ => ?_)
    refine lv_aload_n hx hb dL_acts_134 rfl (lv_at hl 3 rfl) ?_
    refine lv_sipush (v := 601) hx hb dL_acts_135 (by decide) ?_
    have hT1 : sa_TT lo s H := hT.kept (fun q hq hq2 => hS.2.1 q hq (fun h => hq2 (hlo q h)))
    refine sa_kLx (lo := lo) (As := [.ref (a 0), .int (601)]) (rest := []) S (z_add601 l lo _ hst G cI cZ cL a (n + 1) (show n + 1 ≤ 24 from hk)) (vx_cwSW (hh := [(0, 5, 6, 16), (0, 5, 10, 19)]) 2 hts gL_acts_L_addBreak rfl rfl rfl (by decide +kernel) ⟨Nat.le_of_ble_eq_true rfl, Nat.le_of_ble_eq_true rfl⟩) hPa hK hT1 hS rfl hl.1 (Nat.le_of_ble_eq_true rfl) rfl dL_acts_138 ⟨Nat.le_of_ble_eq_true rfl, Nat.le_of_ble_eq_true rfl⟩ (fun H locs hz2 hk9 hS => ?_)
    have hPa := sa_same hPa hk9
    have hPb := sa_same hPb hk9
    have hPw := sa_same hPw hk9
    refine lv_ldc (v := -1000002) hx hb hown (hts (.constant RL 18 (-1000002)) (by decide +kernel)) dL_acts_141 ?_
    refine lv_icmp_ne (tgt := 150) hx hb dL_acts_143 (by decide) (fun c9 => absurd (by decide) c9) (fun _ => ?_)
    refine lv_iconst (v := 1) hx hb dL_acts_146 (by decide) ?_
    refine lv_goto (tgt := 151) hx hb dL_acts_147 (by decide) ?_
    exact W.zret (v := 1) (ty := .boolean) hx hb hr rfl (fun t9 ht _ => ⟨⟨_, (), rfl, rfl, ⟨by show va_P G vwCl _ t9.heap; rw [ht]; exact hPa, by show va_P G vwCl _ t9.heap; rw [ht]; exact hPb, by show va_P G vwCl _ t9.heap; rw [ht]; exact hPw, by rw [ht]; omega⟩⟩, hS.F ht⟩) hS.2.2 dL_acts_151
  · skip
    refine lv_iload hx hb dL_acts_17 (lv_at hl 0 rfl) ?_
    refine lv_if_ne (tgt := 152) hx hb dL_acts_19 (by decide) (fun c9 => absurd (by decide) c9) (fun _ => ?_)
    refine lv_iload hx hb dL_acts_22 (lv_at hl 8 rfl) ?_
    refine lv_iconst (v := 3) hx hb dL_acts_24 (by decide) ?_
    refine sa_kRs (r := 0) (As := [.int (0), .int (3)]) (rest := []) S (k_low l 0 3 0 (by decide) (by decide)) (va_cwS 2 hts gL_acts_L_low rfl rfl rfl (by decide +kernel) ⟨Nat.le_of_ble_eq_true rfl, Nat.le_of_ble_eq_true rfl⟩) rfl hl.1 (Nat.le_of_ble_eq_true rfl) rfl dL_acts_25 ⟨Nat.le_of_ble_eq_true rfl, Nat.le_of_ble_eq_true rfl⟩ ?_
    refine lv_if_ne (tgt := 47) hx hb dL_acts_28 (by decide) (fun c9 => absurd (by decide) c9) (fun _ => ?_)
    refine lv_bipush (v := 15) hx hb dL_acts_31 (by decide) ?_
    refine lv_iload hx hb dL_acts_33 (lv_at hl 8 rfl) ?_
    refine lv_iconst (v := 2) hx hb dL_acts_35 (by decide) ?_
    refine lv_ishr hx hb dL_acts_36 ?_
    rw [show (0 : Int32) >>> ((2 : Int32) &&& 31) = 0 from by decide]
    refine lv_sipush (v := 586) hx hb dL_acts_37 (by decide) ?_
    refine sa_kRs (r := 0) (As := [.int (0), .int (586)]) (rest := [.int (15)]) S (k_low l 0 586 0 (by decide) (by decide)) (va_cwS 2 hts gL_acts_L_low rfl rfl rfl (by decide +kernel) ⟨Nat.le_of_ble_eq_true rfl, Nat.le_of_ble_eq_true rfl⟩) rfl hl.1 (Nat.le_of_ble_eq_true rfl) rfl dL_acts_40 ⟨Nat.le_of_ble_eq_true rfl, Nat.le_of_ble_eq_true rfl⟩ ?_
    refine lv_iadd hx hb dL_acts_43 ?_
    rw [show (15 : Int32) + 0 = 15 from by decide]
    refine lv_goto (tgt := 60) hx hb dL_acts_44 (by decide) ?_
    refine lv_istore (lv' := [(9, .int (15)), (8, .int (0)), (0, .ref (a 0)), (1, .ref (b 0)), (2, .ref dd), (3, .ref ll), (4, .ref ss), (5, .ref gg), (6, .int (0)), (7, .int (0))]) hx hb dL_acts_60 hl (by decide) rfl (fun ls hl => ?_)
    refine lv_aload hx hb dL_acts_62 (lv_at hl 7 rfl) ?_
    refine lv_iconst (v := 0) hx hb dL_acts_64 (by decide) ?_
    refine zs_rg0 S hK hPw dL_acts_65 ?_
    refine lv_bipush (v := 24) hx hb dL_acts_66 (by decide) ?_
    refine lv_icmp_ge (tgt := 78) hx hb dL_acts_68 (by decide) (fun c9 => absurd c9 (nI_ge hk (by decide))) (fun _ => ?_)
    refine lv_aload hx hb dL_acts_71 (lv_at hl 7 rfl) ?_
    refine lv_iconst (v := 0) hx hb dL_acts_73 (by decide) ?_
    refine zs_rg0 S hK hPw dL_acts_74 ?_
    refine lv_goto (tgt := 80) hx hb dL_acts_75 (by decide) ?_
    refine lv_istore (lv' := [(10, .int (nI n)), (9, .int (15)), (8, .int (0)), (0, .ref (a 0)), (1, .ref (b 0)), (2, .ref dd), (3, .ref ll), (4, .ref ss), (5, .ref gg), (6, .int (0)), (7, .int (0))]) hx hb dL_acts_80 hl (by decide) rfl (fun ls hl => ?_)
    refine lv_iload hx hb dL_acts_82 (lv_at hl 0 rfl) ?_
    refine lv_if_lt (tgt := 101) hx hb dL_acts_84 (by decide) (fun c9 => absurd c9 (nI_pos (by omega))) (fun _ => ?_)
    refine lv_aload_n hx hb dL_acts_87 rfl (lv_at hl 6 rfl) ?_
    refine lv_iload hx hb dL_acts_88 (lv_at hl 0 rfl) ?_
    refine lv_iload hx hb dL_acts_90 (lv_at hl 1 rfl) ?_
    refine zs_stl (k := n) hC S hK hPa hPb hPw hS hk dL_acts_92 (fun H locs hPa hPb hPw hS => ?_)
    refine lv_aload hx hb dL_acts_93 (lv_at hl 8 rfl) ?_
    refine lv_iconst (v := 0) hx hb dL_acts_95 (by decide) ?_
    refine lv_dup2_11 hx hb dL_acts_96 rfl rfl ?_
    refine zs_rg0 S hK hPw dL_acts_97 ?_
    refine lv_iconst (v := 1) hx hb dL_acts_98 (by decide) ?_
    refine lv_iadd hx hb dL_acts_99 ?_
    refine zs_stg hC S hK hPa hPb hPw hS dL_acts_100 (fun H locs hPa hPb hPw hS => ?_)
    refine lv_aload_n hx hb dL_acts_101 rfl (lv_at hl 3 rfl) ?_
    refine lv_iload hx hb dL_acts_102 (lv_at hl 1 rfl) ?_
    have hz0 := hS.1
    refine sa_kLw (As := [.ref (a 0), .int (15)]) (rest := []) S (z_addBreak l G cI cZ cL a n hn hC.1 hk) (vx_cwSW (hh := [(0, 5, 6, 16), (0, 5, 10, 19)]) 2 hts gL_acts_L_addBreak rfl rfl rfl (by decide +kernel) ⟨Nat.le_of_ble_eq_true rfl, Nat.le_of_ble_eq_true rfl⟩) hPa hK hS (fun _ h => Or.inl h) rfl hl.1 (Nat.le_of_ble_eq_true rfl) rfl dL_acts_104 ⟨Nat.le_of_ble_eq_true rfl, Nat.le_of_ble_eq_true rfl⟩ (fun H locs hPa hz hk9 hS => ?_)
    have hPb := sa_keepP hPb (A := sa_A a) (fun k q hq h => hC.2.2.1 _ h ⟨k, sa_W0_at hq⟩) hk9
    have hPw := sa_keepP hPw (A := sa_A a) (fun k q hq h => (zs_Wat hq).elim (fun z => hC.2.2.2.1 (by rw [← z.2]; exact h)) (fun z => hC.2.2.2.2.2.1 (by rw [← z.2]; exact h))) hk9
    have hzA := hz
    refine lv_iload hx hb dL_acts_107 (lv_at hl 0 rfl) ?_
    refine lv_icmp_ne (tgt := 150) hx hb dL_acts_109 (by decide) (fun c9 => absurd rfl c9) (fun _ => ?_)
    refine lv_aload_n hx hb dL_acts_112 rfl (lv_at hl 4 rfl) ?_
    refine lv_iload hx hb dL_acts_113 (lv_at hl 1 rfl) ?_
    refine sa_kLw (As := [.ref (b 0), .int (15)]) (rest := []) S (z_addBreak l G cI cZ cL b n hn hC.2.1 hk) (vx_cwSW (hh := [(0, 5, 6, 16), (0, 5, 10, 19)]) 2 hts gL_acts_L_addBreak rfl rfl rfl (by decide +kernel) ⟨Nat.le_of_ble_eq_true rfl, Nat.le_of_ble_eq_true rfl⟩) hPb hK hS (fun _ h => Or.inr (Or.inl h)) rfl hl.1 (Nat.le_of_ble_eq_true rfl) rfl dL_acts_115 ⟨Nat.le_of_ble_eq_true rfl, Nat.le_of_ble_eq_true rfl⟩ (fun H locs hPb hz hk9 hS => ?_)
    have hPa := sa_keepP hPa (A := sa_A b) (fun k q hq h => hC.2.2.1 _ ⟨k, sa_W0_at hq⟩ h) hk9
    have hPw := sa_keepP hPw (A := sa_A b) (fun k q hq h => (zs_Wat hq).elim (fun z => hC.2.2.2.2.1 (by rw [← z.2]; exact h)) (fun z => hC.2.2.2.2.2.2.1 (by rw [← z.2]; exact h))) hk9
    have hzB := hz
    refine lv_iload hx hb dL_acts_118 (lv_at hl 0 rfl) ?_
    refine lv_icmp_ne (tgt := 150) hx hb dL_acts_120 (by decide) (fun c9 => absurd rfl c9) (fun _ => ?_)
    refine lv_aload_n hx hb dL_acts_123 rfl (lv_at hl 3 rfl) ?_
    refine lv_bipush (v := 14) hx hb dL_acts_124 (by decide) ?_
    have hT1 : sa_TT lo s H := hT.kept (fun q hq hq2 => hS.2.1 q hq (fun h => hq2 (hlo q h)))
    refine sa_kLx (lo := lo) (As := [.ref (a 0), .int (14)]) (rest := []) S (z_add14 l lo _ hst G cI cZ cL a (n + 1) (show n + 1 ≤ 24 from hk)) (vx_cwSW (hh := [(0, 5, 6, 16), (0, 5, 10, 19)]) 2 hts gL_acts_L_addBreak rfl rfl rfl (by decide +kernel) ⟨Nat.le_of_ble_eq_true rfl, Nat.le_of_ble_eq_true rfl⟩) hPa hK hT1 hS rfl hl.1 (Nat.le_of_ble_eq_true rfl) rfl dL_acts_126 ⟨Nat.le_of_ble_eq_true rfl, Nat.le_of_ble_eq_true rfl⟩ (fun H locs hz1 hk9 hS => ?_)
    have hPa := sa_same hPa hk9
    have hPb := sa_same hPb hk9
    have hPw := sa_same hPw hk9
    refine lv_ldc (v := -1000002) hx hb hown (hts (.constant RL 18 (-1000002)) (by decide +kernel)) dL_acts_129 ?_
    refine lv_icmp_ne (tgt := 150) hx hb dL_acts_131 (by decide) (fun c9 => absurd (by decide) c9) (fun _ => ?_)
    refine lv_aload_n hx hb dL_acts_134 rfl (lv_at hl 3 rfl) ?_
    refine lv_sipush (v := 601) hx hb dL_acts_135 (by decide) ?_
    have hT1 : sa_TT lo s H := hT.kept (fun q hq hq2 => hS.2.1 q hq (fun h => hq2 (hlo q h)))
    refine sa_kLx (lo := lo) (As := [.ref (a 0), .int (601)]) (rest := []) S (z_add601 l lo _ hst G cI cZ cL a (n + 1) (show n + 1 ≤ 24 from hk)) (vx_cwSW (hh := [(0, 5, 6, 16), (0, 5, 10, 19)]) 2 hts gL_acts_L_addBreak rfl rfl rfl (by decide +kernel) ⟨Nat.le_of_ble_eq_true rfl, Nat.le_of_ble_eq_true rfl⟩) hPa hK hT1 hS rfl hl.1 (Nat.le_of_ble_eq_true rfl) rfl dL_acts_138 ⟨Nat.le_of_ble_eq_true rfl, Nat.le_of_ble_eq_true rfl⟩ (fun H locs hz2 hk9 hS => ?_)
    have hPa := sa_same hPa hk9
    have hPb := sa_same hPb hk9
    have hPw := sa_same hPw hk9
    refine lv_ldc (v := -1000002) hx hb hown (hts (.constant RL 18 (-1000002)) (by decide +kernel)) dL_acts_141 ?_
    refine lv_icmp_ne (tgt := 150) hx hb dL_acts_143 (by decide) (fun c9 => absurd (by decide) c9) (fun _ => ?_)
    refine lv_iconst (v := 1) hx hb dL_acts_146 (by decide) ?_
    refine lv_goto (tgt := 151) hx hb dL_acts_147 (by decide) ?_
    exact W.zret (v := 1) (ty := .boolean) hx hb hr rfl (fun t9 ht _ => ⟨⟨_, (), rfl, rfl, ⟨by show va_P G vwCl _ t9.heap; rw [ht]; exact hPa, by show va_P G vwCl _ t9.heap; rw [ht]; exact hPb, by show va_P G vwCl _ t9.heap; rw [ht]; exact hPw, by rw [ht]; omega⟩⟩, hS.F ht⟩) hS.2.2 dL_acts_151
set_option maxHeartbeats 8000000 in
set_option maxRecDepth 100000 in
theorem k_actsF (l : Launch) (lo h0 : Nat) (hst : l.stackTraces = false) (G : va_G) (cI cZ cL : ClassId) (a b : Nat → Nat) (n dd ll ss gg : Nat) (hn : n ≤ 24) (hf : n = 24) (hC : zs_C a b ll gg) (hlo : ∀ q, zs_A a b ll gg q → lo ≤ q) : Met l yL_acts wsL_acts ({ frames := 12, cells := 4, slots := 24, locals := 227 }) (va_Pc [.ref (a 0), .ref (b 0), .ref dd, .ref ll, .ref ss, .ref gg, .int (0), .int (0)] (fun U => ((va_P G vwCl (sa_W0 cI cZ a (zs n)) U.heap ∧ va_P G vwCl (sa_W0 cI cZ b (zs n)) U.heap ∧ va_P G vwCl (zs_W cI ll gg (zs_l n) (zs_g n)) U.heap ∧ sa_K G cI cZ cL U) ∧ sa_TT lo U U.heap) ∧ U.heap.size = h0)) (va_Qi (fun z (_ : Unit) => z = 1) (fun _ t => va_P G vwCl (sa_W0 cI cZ a (zs n)) t.heap ∧ va_P G vwCl (sa_W0 cI cZ b (zs n)) t.heap ∧ va_P G vwCl (zs_W cI ll gg (zs_l n) (zs_g n)) t.heap ∧ h0 + 2 ≤ t.heap.size) (zs_A a b ll gg)) 4 24 (zs_A a b ll gg) := by
  refine Met.ofW (cc := cL_acts) (maxL := 17) (ret := (some .boolean)) (by decide) rfl ?_
  intro p e s m args below meth c s₁ B9 hml hv
  obtain ⟨rfl, ⟨⟨hPa, hPb, hPw, hK⟩, hT⟩, hh0⟩ := hv
  have hx := B9.exec
  have hb := B9.bytes
  have hr := B9.returns
  have hlk := B9.notSynchronized
  have hts := atoms_spec (ws := wsL_acts) B9.pre
  have hown : s.vm.findClass RL = some m.cls := findClass_of_methodNamed B9.named
  have S : CallFix p m c cL_acts 17 s _ wsL_acts RL := ⟨hx, hb, hml, hown, hts⟩
  have hl := lv_entry ([.ref (a 0), .ref (b 0), .ref dd, .ref ll, .ref ss, .ref gg, .int (0), .int (0)]) (n := 17) (Nat.le_of_ble_eq_true rfl)
  rw [lg_entry_eq]
  generalize (lg_sl ([.ref (a 0), .ref (b 0), .ref dd, .ref ll, .ref ss, .ref gg, .int (0), .int (0)]) ++ List.replicate (17 - (lg_sl ([.ref (a 0), .ref (b 0), .ref dd, .ref ll, .ref ss, .ref gg, .int (0), .int (0)])).length) Slot.unset).toArray = ls at hl ⊢
  have hl : lv_has ls 17 [(0, .ref (a 0)), (1, .ref (b 0)), (2, .ref dd), (3, .ref ll), (4, .ref ss), (5, .ref gg), (6, .int (0)), (7, .int (0))] := hl
  have hS : va_S (zs_A a b ll gg) s.heap s.heap [] := va_S.rf
  refine lv_iload hx hb dL_acts_0 (lv_at hl 6 rfl) ?_
  refine lv_bipush (v := 28) hx hb dL_acts_2 (by decide) ?_
  refine sa_kRs (r := 0) (As := [.int (0), .int (28)]) (rest := []) S (k_low l 0 28 0 (by decide) (by decide)) (va_cwS 2 hts gL_acts_L_low rfl rfl rfl (by decide +kernel) ⟨Nat.le_of_ble_eq_true rfl, Nat.le_of_ble_eq_true rfl⟩) rfl hl.1 (Nat.le_of_ble_eq_true rfl) rfl dL_acts_4 ⟨Nat.le_of_ble_eq_true rfl, Nat.le_of_ble_eq_true rfl⟩ ?_
  refine lv_istore (lv' := [(8, .int (0)), (0, .ref (a 0)), (1, .ref (b 0)), (2, .ref dd), (3, .ref ll), (4, .ref ss), (5, .ref gg), (6, .int (0)), (7, .int (0))]) hx hb dL_acts_7 hl (by decide) rfl (fun ls hl => ?_)
  refine lv_aload hx hb dL_acts_9 (lv_at hl 6 rfl) ?_
  refine lv_iconst (v := 0) hx hb dL_acts_11 (by decide) ?_
  refine zs_rg0 S hK hPw dL_acts_12 ?_
  refine lv_iconst (v := 3) hx hb dL_acts_13 (by decide) ?_
  refine lv_icmp_lt (tgt := 22) hx hb dL_acts_14 (by decide) (fun _ => ?_) (fun _ => ?_)
  · skip
    refine lv_iload hx hb dL_acts_22 (lv_at hl 8 rfl) ?_
    refine lv_iconst (v := 3) hx hb dL_acts_24 (by decide) ?_
    refine sa_kRs (r := 0) (As := [.int (0), .int (3)]) (rest := []) S (k_low l 0 3 0 (by decide) (by decide)) (va_cwS 2 hts gL_acts_L_low rfl rfl rfl (by decide +kernel) ⟨Nat.le_of_ble_eq_true rfl, Nat.le_of_ble_eq_true rfl⟩) rfl hl.1 (Nat.le_of_ble_eq_true rfl) rfl dL_acts_25 ⟨Nat.le_of_ble_eq_true rfl, Nat.le_of_ble_eq_true rfl⟩ ?_
    refine lv_if_ne (tgt := 47) hx hb dL_acts_28 (by decide) (fun c9 => absurd (by decide) c9) (fun _ => ?_)
    refine lv_bipush (v := 15) hx hb dL_acts_31 (by decide) ?_
    refine lv_iload hx hb dL_acts_33 (lv_at hl 8 rfl) ?_
    refine lv_iconst (v := 2) hx hb dL_acts_35 (by decide) ?_
    refine lv_ishr hx hb dL_acts_36 ?_
    rw [show (0 : Int32) >>> ((2 : Int32) &&& 31) = 0 from by decide]
    refine lv_sipush (v := 586) hx hb dL_acts_37 (by decide) ?_
    refine sa_kRs (r := 0) (As := [.int (0), .int (586)]) (rest := [.int (15)]) S (k_low l 0 586 0 (by decide) (by decide)) (va_cwS 2 hts gL_acts_L_low rfl rfl rfl (by decide +kernel) ⟨Nat.le_of_ble_eq_true rfl, Nat.le_of_ble_eq_true rfl⟩) rfl hl.1 (Nat.le_of_ble_eq_true rfl) rfl dL_acts_40 ⟨Nat.le_of_ble_eq_true rfl, Nat.le_of_ble_eq_true rfl⟩ ?_
    refine lv_iadd hx hb dL_acts_43 ?_
    rw [show (15 : Int32) + 0 = 15 from by decide]
    refine lv_goto (tgt := 60) hx hb dL_acts_44 (by decide) ?_
    refine lv_istore (lv' := [(9, .int (15)), (8, .int (0)), (0, .ref (a 0)), (1, .ref (b 0)), (2, .ref dd), (3, .ref ll), (4, .ref ss), (5, .ref gg), (6, .int (0)), (7, .int (0))]) hx hb dL_acts_60 hl (by decide) rfl (fun ls hl => ?_)
    refine lv_aload hx hb dL_acts_62 (lv_at hl 7 rfl) ?_
    refine lv_iconst (v := 0) hx hb dL_acts_64 (by decide) ?_
    refine zs_rg0 S hK hPw dL_acts_65 ?_
    refine lv_bipush (v := 24) hx hb dL_acts_66 (by decide) ?_
    refine lv_icmp_ge (tgt := 78) hx hb dL_acts_68 (by decide) (fun _ => ?_) (fun c9 => absurd (by rw [hf]; exact nI_le (Nat.le_refl 24) (by decide)) c9)
    refine lv_ldc (v := -1000003) hx hb hown (hts (.constant RL 21 (-1000003)) (by decide +kernel)) dL_acts_78 ?_
    refine lv_istore (lv' := [(10, .int ((-1000003))), (9, .int (15)), (8, .int (0)), (0, .ref (a 0)), (1, .ref (b 0)), (2, .ref dd), (3, .ref ll), (4, .ref ss), (5, .ref gg), (6, .int (0)), (7, .int (0))]) hx hb dL_acts_80 hl (by decide) rfl (fun ls hl => ?_)
    refine lv_iload hx hb dL_acts_82 (lv_at hl 0 rfl) ?_
    refine lv_if_lt (tgt := 101) hx hb dL_acts_84 (by decide) (fun _ => ?_) (fun c9 => absurd (by decide) c9)
    refine lv_aload_n hx hb dL_acts_101 rfl (lv_at hl 3 rfl) ?_
    refine lv_iload hx hb dL_acts_102 (lv_at hl 1 rfl) ?_
    have hz0 := hS.1
    have hT1 : sa_TT lo s s.heap := hT.kept (fun q hq hq2 => hS.2.1 q hq (fun h => hq2 (hlo q h)))
    refine sa_kLx (lo := lo) (As := [.ref (a 0), .int (15)]) (rest := []) S (z_addFull l lo _ hst G cI cZ cL a (n) hn hf) (vx_cwSW (hh := [(0, 5, 6, 16), (0, 5, 10, 19)]) 2 hts gL_acts_L_addBreak rfl rfl rfl (by decide +kernel) ⟨Nat.le_of_ble_eq_true rfl, Nat.le_of_ble_eq_true rfl⟩) hPa hK hT1 hS rfl hl.1 (Nat.le_of_ble_eq_true rfl) rfl dL_acts_104 ⟨Nat.le_of_ble_eq_true rfl, Nat.le_of_ble_eq_true rfl⟩ (fun H locs hz1 hk9 hS => ?_)
    have hPa := sa_same hPa hk9
    have hPb := sa_same hPb hk9
    have hPw := sa_same hPw hk9
    refine lv_iload hx hb dL_acts_107 (lv_at hl 0 rfl) ?_
    refine lv_icmp_ne (tgt := 150) hx hb dL_acts_109 (by decide) (fun c9 => absurd (by decide) c9) (fun _ => ?_)
    refine lv_aload_n hx hb dL_acts_112 rfl (lv_at hl 4 rfl) ?_
    refine lv_iload hx hb dL_acts_113 (lv_at hl 1 rfl) ?_
    have hT1 : sa_TT lo s H := hT.kept (fun q hq hq2 => hS.2.1 q hq (fun h => hq2 (hlo q h)))
    refine sa_kLx (lo := lo) (As := [.ref (b 0), .int (15)]) (rest := []) S (z_addFull l lo _ hst G cI cZ cL b (n) hn hf) (vx_cwSW (hh := [(0, 5, 6, 16), (0, 5, 10, 19)]) 2 hts gL_acts_L_addBreak rfl rfl rfl (by decide +kernel) ⟨Nat.le_of_ble_eq_true rfl, Nat.le_of_ble_eq_true rfl⟩) hPb hK hT1 hS rfl hl.1 (Nat.le_of_ble_eq_true rfl) rfl dL_acts_115 ⟨Nat.le_of_ble_eq_true rfl, Nat.le_of_ble_eq_true rfl⟩ (fun H locs hz2 hk9 hS => ?_)
    have hPa := sa_same hPa hk9
    have hPb := sa_same hPb hk9
    have hPw := sa_same hPw hk9
    refine lv_iload hx hb dL_acts_118 (lv_at hl 0 rfl) ?_
    refine lv_icmp_ne (tgt := 150) hx hb dL_acts_120 (by decide) (fun c9 => absurd (by decide) c9) (fun _ => ?_)
    refine lv_aload_n hx hb dL_acts_123 rfl (lv_at hl 3 rfl) ?_
    refine lv_bipush (v := 14) hx hb dL_acts_124 (by decide) ?_
    have hT1 : sa_TT lo s H := hT.kept (fun q hq hq2 => hS.2.1 q hq (fun h => hq2 (hlo q h)))
    refine sa_kLx (lo := lo) (As := [.ref (a 0), .int (14)]) (rest := []) S (z_add14 l lo _ hst G cI cZ cL a (n) hn) (vx_cwSW (hh := [(0, 5, 6, 16), (0, 5, 10, 19)]) 2 hts gL_acts_L_addBreak rfl rfl rfl (by decide +kernel) ⟨Nat.le_of_ble_eq_true rfl, Nat.le_of_ble_eq_true rfl⟩) hPa hK hT1 hS rfl hl.1 (Nat.le_of_ble_eq_true rfl) rfl dL_acts_126 ⟨Nat.le_of_ble_eq_true rfl, Nat.le_of_ble_eq_true rfl⟩ (fun H locs hz3 hk9 hS => ?_)
    have hPa := sa_same hPa hk9
    have hPb := sa_same hPb hk9
    have hPw := sa_same hPw hk9
    refine lv_ldc (v := -1000002) hx hb hown (hts (.constant RL 18 (-1000002)) (by decide +kernel)) dL_acts_129 ?_
    refine lv_icmp_ne (tgt := 150) hx hb dL_acts_131 (by decide) (fun c9 => absurd (by decide) c9) (fun _ => ?_)
    refine lv_aload_n hx hb dL_acts_134 rfl (lv_at hl 3 rfl) ?_
    refine lv_sipush (v := 601) hx hb dL_acts_135 (by decide) ?_
    have hT1 : sa_TT lo s H := hT.kept (fun q hq hq2 => hS.2.1 q hq (fun h => hq2 (hlo q h)))
    refine sa_kLx (lo := lo) (As := [.ref (a 0), .int (601)]) (rest := []) S (z_add601 l lo _ hst G cI cZ cL a (n) hn) (vx_cwSW (hh := [(0, 5, 6, 16), (0, 5, 10, 19)]) 2 hts gL_acts_L_addBreak rfl rfl rfl (by decide +kernel) ⟨Nat.le_of_ble_eq_true rfl, Nat.le_of_ble_eq_true rfl⟩) hPa hK hT1 hS rfl hl.1 (Nat.le_of_ble_eq_true rfl) rfl dL_acts_138 ⟨Nat.le_of_ble_eq_true rfl, Nat.le_of_ble_eq_true rfl⟩ (fun H locs hz4 hk9 hS => ?_)
    have hPa := sa_same hPa hk9
    have hPb := sa_same hPb hk9
    have hPw := sa_same hPw hk9
    refine lv_ldc (v := -1000002) hx hb hown (hts (.constant RL 18 (-1000002)) (by decide +kernel)) dL_acts_141 ?_
    refine lv_icmp_ne (tgt := 150) hx hb dL_acts_143 (by decide) (fun c9 => absurd (by decide) c9) (fun _ => ?_)
    refine lv_iconst (v := 1) hx hb dL_acts_146 (by decide) ?_
    refine lv_goto (tgt := 151) hx hb dL_acts_147 (by decide) ?_
    exact W.zret (v := 1) (ty := .boolean) hx hb hr rfl (fun t9 ht _ => ⟨⟨_, (), rfl, rfl, ⟨by show va_P G vwCl _ t9.heap; rw [ht]; exact hPa, by show va_P G vwCl _ t9.heap; rw [ht]; exact hPb, by show va_P G vwCl _ t9.heap; rw [ht]; exact hPw, by rw [ht]; omega⟩⟩, hS.F ht⟩) hS.2.2 dL_acts_151
  · skip
    refine lv_iload hx hb dL_acts_17 (lv_at hl 0 rfl) ?_
    refine lv_if_ne (tgt := 152) hx hb dL_acts_19 (by decide) (fun c9 => absurd (by decide) c9) (fun _ => ?_)
    refine lv_iload hx hb dL_acts_22 (lv_at hl 8 rfl) ?_
    refine lv_iconst (v := 3) hx hb dL_acts_24 (by decide) ?_
    refine sa_kRs (r := 0) (As := [.int (0), .int (3)]) (rest := []) S (k_low l 0 3 0 (by decide) (by decide)) (va_cwS 2 hts gL_acts_L_low rfl rfl rfl (by decide +kernel) ⟨Nat.le_of_ble_eq_true rfl, Nat.le_of_ble_eq_true rfl⟩) rfl hl.1 (Nat.le_of_ble_eq_true rfl) rfl dL_acts_25 ⟨Nat.le_of_ble_eq_true rfl, Nat.le_of_ble_eq_true rfl⟩ ?_
    refine lv_if_ne (tgt := 47) hx hb dL_acts_28 (by decide) (fun c9 => absurd (by decide) c9) (fun _ => ?_)
    refine lv_bipush (v := 15) hx hb dL_acts_31 (by decide) ?_
    refine lv_iload hx hb dL_acts_33 (lv_at hl 8 rfl) ?_
    refine lv_iconst (v := 2) hx hb dL_acts_35 (by decide) ?_
    refine lv_ishr hx hb dL_acts_36 ?_
    rw [show (0 : Int32) >>> ((2 : Int32) &&& 31) = 0 from by decide]
    refine lv_sipush (v := 586) hx hb dL_acts_37 (by decide) ?_
    refine sa_kRs (r := 0) (As := [.int (0), .int (586)]) (rest := [.int (15)]) S (k_low l 0 586 0 (by decide) (by decide)) (va_cwS 2 hts gL_acts_L_low rfl rfl rfl (by decide +kernel) ⟨Nat.le_of_ble_eq_true rfl, Nat.le_of_ble_eq_true rfl⟩) rfl hl.1 (Nat.le_of_ble_eq_true rfl) rfl dL_acts_40 ⟨Nat.le_of_ble_eq_true rfl, Nat.le_of_ble_eq_true rfl⟩ ?_
    refine lv_iadd hx hb dL_acts_43 ?_
    rw [show (15 : Int32) + 0 = 15 from by decide]
    refine lv_goto (tgt := 60) hx hb dL_acts_44 (by decide) ?_
    refine lv_istore (lv' := [(9, .int (15)), (8, .int (0)), (0, .ref (a 0)), (1, .ref (b 0)), (2, .ref dd), (3, .ref ll), (4, .ref ss), (5, .ref gg), (6, .int (0)), (7, .int (0))]) hx hb dL_acts_60 hl (by decide) rfl (fun ls hl => ?_)
    refine lv_aload hx hb dL_acts_62 (lv_at hl 7 rfl) ?_
    refine lv_iconst (v := 0) hx hb dL_acts_64 (by decide) ?_
    refine zs_rg0 S hK hPw dL_acts_65 ?_
    refine lv_bipush (v := 24) hx hb dL_acts_66 (by decide) ?_
    refine lv_icmp_ge (tgt := 78) hx hb dL_acts_68 (by decide) (fun _ => ?_) (fun c9 => absurd (by rw [hf]; exact nI_le (Nat.le_refl 24) (by decide)) c9)
    refine lv_ldc (v := -1000003) hx hb hown (hts (.constant RL 21 (-1000003)) (by decide +kernel)) dL_acts_78 ?_
    refine lv_istore (lv' := [(10, .int ((-1000003))), (9, .int (15)), (8, .int (0)), (0, .ref (a 0)), (1, .ref (b 0)), (2, .ref dd), (3, .ref ll), (4, .ref ss), (5, .ref gg), (6, .int (0)), (7, .int (0))]) hx hb dL_acts_80 hl (by decide) rfl (fun ls hl => ?_)
    refine lv_iload hx hb dL_acts_82 (lv_at hl 0 rfl) ?_
    refine lv_if_lt (tgt := 101) hx hb dL_acts_84 (by decide) (fun _ => ?_) (fun c9 => absurd (by decide) c9)
    refine lv_aload_n hx hb dL_acts_101 rfl (lv_at hl 3 rfl) ?_
    refine lv_iload hx hb dL_acts_102 (lv_at hl 1 rfl) ?_
    have hz0 := hS.1
    have hT1 : sa_TT lo s s.heap := hT.kept (fun q hq hq2 => hS.2.1 q hq (fun h => hq2 (hlo q h)))
    refine sa_kLx (lo := lo) (As := [.ref (a 0), .int (15)]) (rest := []) S (z_addFull l lo _ hst G cI cZ cL a (n) hn hf) (vx_cwSW (hh := [(0, 5, 6, 16), (0, 5, 10, 19)]) 2 hts gL_acts_L_addBreak rfl rfl rfl (by decide +kernel) ⟨Nat.le_of_ble_eq_true rfl, Nat.le_of_ble_eq_true rfl⟩) hPa hK hT1 hS rfl hl.1 (Nat.le_of_ble_eq_true rfl) rfl dL_acts_104 ⟨Nat.le_of_ble_eq_true rfl, Nat.le_of_ble_eq_true rfl⟩ (fun H locs hz1 hk9 hS => ?_)
    have hPa := sa_same hPa hk9
    have hPb := sa_same hPb hk9
    have hPw := sa_same hPw hk9
    refine lv_iload hx hb dL_acts_107 (lv_at hl 0 rfl) ?_
    refine lv_icmp_ne (tgt := 150) hx hb dL_acts_109 (by decide) (fun c9 => absurd (by decide) c9) (fun _ => ?_)
    refine lv_aload_n hx hb dL_acts_112 rfl (lv_at hl 4 rfl) ?_
    refine lv_iload hx hb dL_acts_113 (lv_at hl 1 rfl) ?_
    have hT1 : sa_TT lo s H := hT.kept (fun q hq hq2 => hS.2.1 q hq (fun h => hq2 (hlo q h)))
    refine sa_kLx (lo := lo) (As := [.ref (b 0), .int (15)]) (rest := []) S (z_addFull l lo _ hst G cI cZ cL b (n) hn hf) (vx_cwSW (hh := [(0, 5, 6, 16), (0, 5, 10, 19)]) 2 hts gL_acts_L_addBreak rfl rfl rfl (by decide +kernel) ⟨Nat.le_of_ble_eq_true rfl, Nat.le_of_ble_eq_true rfl⟩) hPb hK hT1 hS rfl hl.1 (Nat.le_of_ble_eq_true rfl) rfl dL_acts_115 ⟨Nat.le_of_ble_eq_true rfl, Nat.le_of_ble_eq_true rfl⟩ (fun H locs hz2 hk9 hS => ?_)
    have hPa := sa_same hPa hk9
    have hPb := sa_same hPb hk9
    have hPw := sa_same hPw hk9
    refine lv_iload hx hb dL_acts_118 (lv_at hl 0 rfl) ?_
    refine lv_icmp_ne (tgt := 150) hx hb dL_acts_120 (by decide) (fun c9 => absurd (by decide) c9) (fun _ => ?_)
    refine lv_aload_n hx hb dL_acts_123 rfl (lv_at hl 3 rfl) ?_
    refine lv_bipush (v := 14) hx hb dL_acts_124 (by decide) ?_
    have hT1 : sa_TT lo s H := hT.kept (fun q hq hq2 => hS.2.1 q hq (fun h => hq2 (hlo q h)))
    refine sa_kLx (lo := lo) (As := [.ref (a 0), .int (14)]) (rest := []) S (z_add14 l lo _ hst G cI cZ cL a (n) hn) (vx_cwSW (hh := [(0, 5, 6, 16), (0, 5, 10, 19)]) 2 hts gL_acts_L_addBreak rfl rfl rfl (by decide +kernel) ⟨Nat.le_of_ble_eq_true rfl, Nat.le_of_ble_eq_true rfl⟩) hPa hK hT1 hS rfl hl.1 (Nat.le_of_ble_eq_true rfl) rfl dL_acts_126 ⟨Nat.le_of_ble_eq_true rfl, Nat.le_of_ble_eq_true rfl⟩ (fun H locs hz3 hk9 hS => ?_)
    have hPa := sa_same hPa hk9
    have hPb := sa_same hPb hk9
    have hPw := sa_same hPw hk9
    refine lv_ldc (v := -1000002) hx hb hown (hts (.constant RL 18 (-1000002)) (by decide +kernel)) dL_acts_129 ?_
    refine lv_icmp_ne (tgt := 150) hx hb dL_acts_131 (by decide) (fun c9 => absurd (by decide) c9) (fun _ => ?_)
    refine lv_aload_n hx hb dL_acts_134 rfl (lv_at hl 3 rfl) ?_
    refine lv_sipush (v := 601) hx hb dL_acts_135 (by decide) ?_
    have hT1 : sa_TT lo s H := hT.kept (fun q hq hq2 => hS.2.1 q hq (fun h => hq2 (hlo q h)))
    refine sa_kLx (lo := lo) (As := [.ref (a 0), .int (601)]) (rest := []) S (z_add601 l lo _ hst G cI cZ cL a (n) hn) (vx_cwSW (hh := [(0, 5, 6, 16), (0, 5, 10, 19)]) 2 hts gL_acts_L_addBreak rfl rfl rfl (by decide +kernel) ⟨Nat.le_of_ble_eq_true rfl, Nat.le_of_ble_eq_true rfl⟩) hPa hK hT1 hS rfl hl.1 (Nat.le_of_ble_eq_true rfl) rfl dL_acts_138 ⟨Nat.le_of_ble_eq_true rfl, Nat.le_of_ble_eq_true rfl⟩ (fun H locs hz4 hk9 hS => ?_)
    have hPa := sa_same hPa hk9
    have hPb := sa_same hPb hk9
    have hPw := sa_same hPw hk9
    refine lv_ldc (v := -1000002) hx hb hown (hts (.constant RL 18 (-1000002)) (by decide +kernel)) dL_acts_141 ?_
    refine lv_icmp_ne (tgt := 150) hx hb dL_acts_143 (by decide) (fun c9 => absurd (by decide) c9) (fun _ => ?_)
    refine lv_iconst (v := 1) hx hb dL_acts_146 (by decide) ?_
    refine lv_goto (tgt := 151) hx hb dL_acts_147 (by decide) ?_
    exact W.zret (v := 1) (ty := .boolean) hx hb hr rfl (fun t9 ht _ => ⟨⟨_, (), rfl, rfl, ⟨by show va_P G vwCl _ t9.heap; rw [ht]; exact hPa, by show va_P G vwCl _ t9.heap; rw [ht]; exact hPb, by show va_P G vwCl _ t9.heap; rw [ht]; exact hPw, by rw [ht]; omega⟩⟩, hS.F ht⟩) hS.2.2 dL_acts_151
