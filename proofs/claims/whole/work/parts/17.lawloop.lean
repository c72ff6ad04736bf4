def R_law : String := "SpotAccountLaw"
def lw_P (b : Addr) (xs : List Int32) (args : Array Value) (s : State) : Prop := args = #[.ref b] ∧ s.IntsAt b xs ∧ xs.length ≤ 4096 ∧ (Jvm.Cond.and given_1 narrow_1).before args s = true
def lw_Q (_ : Array Value) (s : State) (o : Outcome) (t : State) : Prop := o = .returned (some (.int 1)) ∧ Framed s o t [] 1060 10008
def lw_Z (below : List Frame) (a : Array Value) (s : State) : State → Prop := fun t => ∃ o, t.status = .running ∧ Ended t below o ∧ lw_Q a s o t
/-- the law's own end, with 1 on the stack, nothing written that was there before, its room as the claim has it -/
theorem lw_ret {p : Program} {l : Launch} {e : Env} {s : State} {m : MethodId} {below : List Frame} {meth : Method} {c : Code} {b : Nat} (hx : p.tables.exec = Jvm.exec) (hb : c.code = code) (hr : meth.sig.returnType = ret) (hlocks : meth.locks = false) {pc : Nat} {H : Heap} {ls : Array Slot} (hdg : decode code pc = .ok (.ireturn, 1)) : W p l e room_1 s m #[Value.ref b] below meth c H [] 1060 10008 (lw_Z below #[Value.ref b] s) (F0 m pc ls [.int 1]) := by
  intro T hT X
  obtain ⟨fs, hret, hrun, hended, hW, hframe⟩ := X.leave (v := some (.int 1)) (hlocks := hlocks) (fun h => by rw [hr] at h; cases h)
  have hmeth' : T.vm.method? m = some meth := X.method'
  refine ⟨T.setFrames fs, ?_, .returned (some (.int 1)), hrun, hended, rfl, ⟨_, rfl⟩, hW, hframe⟩
  jvm_step X.here [X.here.top, hx, hb, hdg, hmeth', hr, ret, narrow_b1]
  (try refine ⟨rfl, ?_⟩); (try refine ⟨rfl, ?_⟩)
  first | (intro acts; rw [hret _ acts rfl rfl rfl]) | rw [hret _ _ rfl rfl rfl]
  exact Steps.refl _
/-- what holds at the law's entry: the machine, the code, the tables' words (any of lw_tbl by 'hts w (by decide +kernel)'), the script of L ints xs at the cell b, what the Statement gives of the start (any of its parts by flat_of_before) -/
def lw_At (p : Program) (s : State) (m : MethodId) (meth : Method) (c : Code) (b L : Nat) (xs : Nat → Int32) : Prop :=
  p.tables.exec = Jvm.exec ∧ c.code = code ∧ meth.sig.returnType = ret ∧ c.maxLocals = 7 ∧ s.vm.findClass R_law = some m.cls ∧ (∀ w ∈ lw_tbl, w.before #[Value.ref b] s = true) ∧ va_X b L xs s s.heap ∧ b < s.heap.size ∧ meth.locks = false ∧ (Jvm.Cond.and given_1 narrow_1).before #[Value.ref b] s = true

theorem sa_le8 {i L : Nat} (hi : i ≤ 4096) (hL : L ≤ 4096) (h : ¬ nI L - 8 < nI i) : i + 8 ≤ L := by
  rcases Nat.lt_or_ge L (i + 8) with q | q
  · exfalso
    apply h
    rw [Int32.lt_iff_toInt_lt, show (8 : Int32) = nI 8 from rfl, pk_sub_toInt (by omega) (by decide), nI_toInt (by omega)]
    omega
  · exact q
set_option maxHeartbeats 4000000 in
set_option maxRecDepth 100000 in
theorem law_loop {p : Program} {l : Launch} {e : Env} {s : State} {m : MethodId} {below : List Frame} {meth : Method} {c : Code} {G : va_G} {cI cZ cL : ClassId} {b0 L : Nat} {xs : Nat → Int32} {a b : Nat → Nat} {w : Nat} (C0 : sa_LC l p s m meth c G cI cZ cL b0 L xs a b w) :
    ∀ (n i cells slots : Nat) (σ : sa_St) (th : Int32) (g : Nat → Int64) (H : Heap) (locs : List Loc) (ls : Array Slot), i ≤ L → L ≤ i + 8 * n → cells + n ≤ 1060 → slots + 6 * n ≤ 10008 → sa_I σ → sa_LS G cI cZ cL a b w σ σ th g s H locs → lv_has ls 7 [(0, .ref b0), (1, .ref (a 0)), (2, .ref (b 0)), (3, .ref w), (4, .int (nI i))] →
      W p l e room_1 s m #[Value.ref b0] below meth c H locs cells slots (lw_Z below #[Value.ref b0] s) (F0 m 23 ls []) := by
  have S := C0.1
  have hx := S.1
  have hb := S.2.1
  have hX := C0.2.1.1
  have hbl := C0.2.1.2
  have hL := C0.2.2.2.2.2.2.2.2.2
  intro n
  induction n with
  | zero =>
    intro i cells slots σ th g H locs ls hi hn hc hs hI hLS hl
    refine lv_iload hx hb dL_law_23 (lv_at hl 4 rfl) ?_
    refine lv_aload_n hx hb dL_law_25 rfl (lv_at hl 0 rfl) ?_
    refine va_slen hx hb hX hbl (Nat.not_le.mpr hbl) hLS.2.2.2 dL_law_26 ?_
    refine lv_bipush (v := 8) hx hb dL_law_27 (by decide) ?_
    refine lv_isub hx hb dL_law_29 ?_
    refine lv_icmp_gt (tgt := 1616) hx hb dL_law_30 (by decide) (fun c9 => ?_) (fun c9 => ?_)
    · refine lv_iconst (v := 1) hx hb dL_law_1616 (by decide) ?_
      refine va_forget (fun q hq => hLS.2.2.2.2.2 q hq) ?_
      refine W.widen (k := 1060) (n := 10008) (by omega) (by omega) ?_
      exact lw_ret hx hb C0.2.2.1.1 C0.2.2.1.2 dL_law_1617
    · have := sa_le8 (by omega) hL c9
      omega
  | succ n ih =>
    intro i cells slots σ th g H locs ls hi hn hc hs hI hLS hl
    refine lv_iload hx hb dL_law_23 (lv_at hl 4 rfl) ?_
    refine lv_aload_n hx hb dL_law_25 rfl (lv_at hl 0 rfl) ?_
    refine va_slen hx hb hX hbl (Nat.not_le.mpr hbl) hLS.2.2.2 dL_law_26 ?_
    refine lv_bipush (v := 8) hx hb dL_law_27 (by decide) ?_
    refine lv_isub hx hb dL_law_29 ?_
    refine lv_icmp_gt (tgt := 1616) hx hb dL_law_30 (by decide) (fun c9 => ?_) (fun c9 => ?_)
    · refine lv_iconst (v := 1) hx hb dL_law_1616 (by decide) ?_
      refine va_forget (fun q hq => hLS.2.2.2.2.2 q hq) ?_
      refine W.widen (k := 1060) (n := 10008) (by omega) (by omega) ?_
      exact lw_ret hx hb C0.2.2.1.1 C0.2.2.1.2 dL_law_1617
    · have hi8 : i + 8 ≤ L := sa_le8 (by omega) hL c9
      have K : ∀ (σ : sa_St) (th : Int32) (g : Nat → Int64) (H : Heap) (locs : List Loc) (ls : Array Slot), sa_I σ → sa_LS G cI cZ cL a b w σ σ th g s H locs → lv_has ls 7 [(0, .ref b0), (1, .ref (a 0)), (2, .ref (b 0)), (3, .ref w), (4, .int (nI i))] → W p l e room_1 s m #[Value.ref b0] below meth c H locs (cells + 1) (slots + 6) (lw_Z below #[Value.ref b0] s) (F0 m 1610 ls []) := by
        intro σ th g H locs ls hI hLS hl
        refine lv_iinc (v := nI (i + 8)) (lv' := [(4, .int (nI (i + 8))), (0, .ref b0), (1, .ref (a 0)), (2, .ref (b 0)), (3, .ref w)]) hx hb dL_law_1610 hl (k := 4) rfl (nI_add i 8) (by decide) rfl (fun ls hl => ?_)
        refine lv_goto (tgt := 23) hx hb dL_law_1613 (by decide) ?_
        exact ih (i + 8) (cells + 1) (slots + 6) σ th g H locs ls hi8 (by omega) (by omega) (by omega) hI hLS (lv_sub hl [1, 2, 3, 4, 0] rfl)
      refine lv_aload_n hx hb dL_law_33 rfl (lv_at hl 0 rfl) ?_
      refine lv_iload hx hb dL_law_34 (lv_at hl 4 rfl) ?_
      refine sa_scl C0 hLS (by omega) dL_law_36 ?_
      refine lv_bipush (v := 31) hx hb dL_law_37 (by decide) ?_
      refine lv_iand hx hb dL_law_39 ?_
      obtain ⟨j, hj, ej⟩ := pk_andE (xs i) (m := 31) 5 (by decide)
      rw [ej]
      have hc1 : cells + 1 ≤ 1060 := by omega
      have hs1 : slots + 6 ≤ 10008 := by omega
      have hj2 : j < 32 := hj
      clear ej hj
      match j, hj2 with
      | 0, _ =>
        refine lv_tableIn (off := 120) (tgt := 160) hx hb dL_law_40 (by decide) (by decide) (by decide) (by decide) ?_
        exact law_c0 C0 hI hLS hi8 hc1 hs1 hl K
      | 1, _ =>
        refine lv_tableIn (off := 176) (tgt := 216) hx hb dL_law_40 (by decide) (by decide) (by decide) (by decide) ?_
        exact law_c1 C0 hI hLS hi8 hc1 hs1 hl K
      | 2, _ =>
        refine lv_tableIn (off := 256) (tgt := 296) hx hb dL_law_40 (by decide) (by decide) (by decide) (by decide) ?_
        exact law_c2 C0 hI hLS hi8 hc1 hs1 hl K
      | 3, _ =>
        refine lv_tableIn (off := 312) (tgt := 352) hx hb dL_law_40 (by decide) (by decide) (by decide) (by decide) ?_
        exact law_c3 C0 hI hLS hi8 hc1 hs1 hl K
      | 4, _ =>
        refine lv_tableIn (off := 325) (tgt := 365) hx hb dL_law_40 (by decide) (by decide) (by decide) (by decide) ?_
        exact law_c4 C0 hI hLS hi8 hc1 hs1 hl K
      | 5, _ =>
        refine lv_tableIn (off := 388) (tgt := 428) hx hb dL_law_40 (by decide) (by decide) (by decide) (by decide) ?_
        exact law_c5 C0 hI hLS hi8 hc1 hs1 hl K
      | 6, _ =>
        refine lv_tableIn (off := 444) (tgt := 484) hx hb dL_law_40 (by decide) (by decide) (by decide) (by decide) ?_
        exact law_c6 C0 hI hLS hi8 hc1 hs1 hl K
      | 7, _ =>
        refine lv_tableIn (off := 512) (tgt := 552) hx hb dL_law_40 (by decide) (by decide) (by decide) (by decide) ?_
        exact law_c7 C0 hI hLS hi8 hc1 hs1 hl K
      | 8, _ =>
        refine lv_tableIn (off := 644) (tgt := 684) hx hb dL_law_40 (by decide) (by decide) (by decide) (by decide) ?_
        exact law_c8 C0 hI hLS hi8 hc1 hs1 hl K
      | 9, _ =>
        refine lv_tableIn (off := 700) (tgt := 740) hx hb dL_law_40 (by decide) (by decide) (by decide) (by decide) ?_
        exact law_c9 C0 hI hLS hi8 hc1 hs1 hl K
      | 10, _ =>
        refine lv_tableIn (off := 713) (tgt := 753) hx hb dL_law_40 (by decide) (by decide) (by decide) (by decide) ?_
        exact law_c10 C0 hI hLS hi8 hc1 hs1 hl K
      | 11, _ =>
        refine lv_tableIn (off := 781) (tgt := 821) hx hb dL_law_40 (by decide) (by decide) (by decide) (by decide) ?_
        exact law_c11 C0 hI hLS hi8 hc1 hs1 hl K
      | 12, _ =>
        refine lv_tableIn (off := 849) (tgt := 889) hx hb dL_law_40 (by decide) (by decide) (by decide) (by decide) ?_
        exact law_c12 C0 hI hLS hi8 hc1 hs1 hl K
      | 13, _ =>
        refine lv_tableIn (off := 917) (tgt := 957) hx hb dL_law_40 (by decide) (by decide) (by decide) (by decide) ?_
        exact law_c13 C0 hI hLS hi8 hc1 hs1 hl K
      | 14, _ =>
        refine lv_tableIn (off := 985) (tgt := 1025) hx hb dL_law_40 (by decide) (by decide) (by decide) (by decide) ?_
        exact law_c14 C0 hI hLS hi8 hc1 hs1 hl K
      | 15, _ =>
        refine lv_tableIn (off := 1053) (tgt := 1093) hx hb dL_law_40 (by decide) (by decide) (by decide) (by decide) ?_
        exact law_c15 C0 hI hLS hi8 hc1 hs1 hl K
      | 16, _ =>
        refine lv_tableIn (off := 1116) (tgt := 1156) hx hb dL_law_40 (by decide) (by decide) (by decide) (by decide) ?_
        exact law_c16 C0 hI hLS hi8 hc1 hs1 hl K
      | 17, _ =>
        refine lv_tableIn (off := 1152) (tgt := 1192) hx hb dL_law_40 (by decide) (by decide) (by decide) (by decide) ?_
        exact law_c17 C0 hI hLS hi8 hc1 hs1 hl K
      | 18, _ =>
        refine lv_tableIn (off := 1165) (tgt := 1205) hx hb dL_law_40 (by decide) (by decide) (by decide) (by decide) ?_
        exact law_c18 C0 hI hLS hi8 hc1 hs1 hl K
      | 19, _ =>
        refine lv_tableIn (off := 1221) (tgt := 1261) hx hb dL_law_40 (by decide) (by decide) (by decide) (by decide) ?_
        exact law_c19 C0 hI hLS hi8 hc1 hs1 hl K
      | 20, _ =>
        refine lv_tableIn (off := 1277) (tgt := 1317) hx hb dL_law_40 (by decide) (by decide) (by decide) (by decide) ?_
        exact law_c20 C0 hI hLS hi8 hc1 hs1 hl K
      | 21, _ =>
        refine lv_tableIn (off := 1333) (tgt := 1373) hx hb dL_law_40 (by decide) (by decide) (by decide) (by decide) ?_
        exact law_c21 C0 hI hLS hi8 hc1 hs1 hl K
      | 22, _ =>
        refine lv_tableIn (off := 1389) (tgt := 1429) hx hb dL_law_40 (by decide) (by decide) (by decide) (by decide) ?_
        exact law_c22 C0 hI hLS hi8 hc1 hs1 hl K
      | 23, _ =>
        refine lv_tableIn (off := 1445) (tgt := 1485) hx hb dL_law_40 (by decide) (by decide) (by decide) (by decide) ?_
        exact law_c23 C0 hI hLS hi8 hc1 hs1 hl K
      | 24, _ =>
        refine lv_tableIn (off := 1501) (tgt := 1541) hx hb dL_law_40 (by decide) (by decide) (by decide) (by decide) ?_
        exact law_c24 C0 hI hLS hi8 hc1 hs1 hl K
      | 25, _ =>
        refine lv_tableIn (off := 1557) (tgt := 1597) hx hb dL_law_40 (by decide) (by decide) (by decide) (by decide) ?_
        exact law_c25 C0 hI hLS hi8 hc1 hs1 hl K
      | 26, _ =>
        refine lv_tableOut (tgt := 1610) hx hb dL_law_40 (by decide) (by decide) ?_
        exact W.widen (k := cells + 1) (n := slots + 6) (by omega) (by omega) (K σ th g H locs ls hI hLS hl)
      | 27, _ =>
        refine lv_tableOut (tgt := 1610) hx hb dL_law_40 (by decide) (by decide) ?_
        exact W.widen (k := cells + 1) (n := slots + 6) (by omega) (by omega) (K σ th g H locs ls hI hLS hl)
      | 28, _ =>
        refine lv_tableOut (tgt := 1610) hx hb dL_law_40 (by decide) (by decide) ?_
        exact W.widen (k := cells + 1) (n := slots + 6) (by omega) (by omega) (K σ th g H locs ls hI hLS hl)
      | 29, _ =>
        refine lv_tableOut (tgt := 1610) hx hb dL_law_40 (by decide) (by decide) ?_
        exact W.widen (k := cells + 1) (n := slots + 6) (by omega) (by omega) (K σ th g H locs ls hI hLS hl)
      | 30, _ =>
        refine lv_tableOut (tgt := 1610) hx hb dL_law_40 (by decide) (by decide) ?_
        exact W.widen (k := cells + 1) (n := slots + 6) (by omega) (by omega) (K σ th g H locs ls hI hLS hl)
      | 31, _ =>
        refine lv_tableOut (tgt := 1610) hx hb dL_law_40 (by decide) (by decide) ?_
        exact W.widen (k := cells + 1) (n := slots + 6) (by omega) (by omega) (K σ th g H locs ls hI hLS hl)
      | k + 32, h => exact absurd h (by omega)
