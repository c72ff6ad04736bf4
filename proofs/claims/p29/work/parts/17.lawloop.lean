def R_law : String := "SpotAccountLaw"
/-- what holds at the law's entry: the machine, the code, the tables' words (any of lw_tbl by 'hts w (by decide +kernel)'), the script of L ints xs at the cell b, what the Statement gives of the start (any of its parts by flat_of_before) -/
def lw_At (p : Program) (s : State) (m : MethodId) (meth : Method) (c : Code) (b L : Nat) (xs : Nat → Int32) : Prop :=
  p.tables.exec = Jvm.exec ∧ c.code = code ∧ meth.sig.returnType = ret ∧ c.maxLocals = 9 ∧ s.vm.findClass R_law = some m.cls ∧ (∀ w ∈ lw_tbl, w.before #[Value.ref b] s = true) ∧ va_X b L xs s s.heap ∧ b < s.heap.size ∧ meth.locks = false ∧ (Jvm.Cond.and given_1 narrow_1).before #[Value.ref b] s = true

/-- room enough for the law's run on zeros -/
def zs_R : Room := { frames := 15, cells := 2100, slots := 16000, locals := 602 }
/-- the end: it has returned 1, and has made more than 103 cells -/
def zs_Q (s : State) (o : Outcome) (t : State) : Prop := o = .returned (some (.int 1)) ∧ s.heap.size + 103 < t.heap.size
def zs_Z (below : List Frame) (s : State) : State → Prop := fun t => ∃ o, t.status = .running ∧ Ended t below o ∧ zs_Q s o t
theorem zs_ret {p : Program} {l : Launch} {e : Env} {s : State} {m : MethodId} {below : List Frame} {meth : Method} {c : Code} {b : Nat} (hx : p.tables.exec = Jvm.exec) (hb : c.code = code) (hr : meth.sig.returnType = ret) (hlocks : meth.locks = false) {pc cells slots : Nat} {H : Heap} {locs : List Loc} {ls : Array Slot} (hH : s.heap.size + 103 < H.size) (hdg : decode code pc = .ok (.ireturn, 1)) : W p l e zs_R s m #[Value.ref b] below meth c H locs cells slots (zs_Z below s) (F0 m pc ls [.int 1]) := by
  intro T hT X
  obtain ⟨fs, hret, hrun, hended, hW, hframe⟩ := X.leave (v := some (.int 1)) (hlocks := hlocks) (fun h => by rw [hr] at h; cases h)
  have hmeth' : T.vm.method? m = some meth := X.method'
  refine ⟨T.setFrames fs, ?_, .returned (some (.int 1)), hrun, hended, rfl, by show s.heap.size + 103 < T.heap.size; rw [hT]; exact hH⟩
  jvm_step X.here [X.here.top, hx, hb, hdg, hmeth', hr, ret, narrow_b1]
  (try refine ⟨rfl, ?_⟩); (try refine ⟨rfl, ?_⟩)
  first | (intro acts; rw [hret _ acts rfl rfl rfl]) | rw [hret _ _ rfl rfl rfl]
  exact Steps.refl _
def zs_LC (p : Program) (l : Launch) (s : State) (m : MethodId) (meth : Method) (c : Code) (G : va_G) (cI cZ cL : ClassId) (b0 : Nat) (a b : Nat → Nat) (ll gg : Nat) : Prop :=
  CallFix p m c code 9 s #[Value.ref b0] wsL_law RL ∧ (va_X b0 180 (fun _ => 0) s s.heap ∧ b0 < s.heap.size) ∧ (meth.sig.returnType = ret ∧ meth.locks = false) ∧ sa_K G cI cZ cL s ∧ (sa_TT s.heap.size s s.heap ∧ l.stackTraces = false) ∧ zs_C a b ll gg ∧ ∀ q, zs_A a b ll gg q → s.heap.size ≤ q
def zs_LS (G : va_G) (cI cZ : ClassId) (a b : Nat → Nat) (ll gg n : Nat) (s : State) (H : Heap) (locs : List Loc) : Prop :=
  va_P G vwCl (sa_W0 cI cZ a (zs n)) H ∧ va_P G vwCl (sa_W0 cI cZ b (zs n)) H ∧ va_P G vwCl (zs_W cI ll gg (zs_l n) (zs_g n)) H ∧ va_S (fun q => s.heap.size ≤ q) s.heap H locs
section
variable {p : Program} {l : Launch} {e : Env} {s : State} {m : MethodId} {below : List Frame} {meth : Method} {c : Code} {G : va_G} {cI cZ cL : ClassId} {b0 ll gg dd ss n k : Nat} {a b a1 : Nat → Nat} {H : Heap} {locs : List Loc} {cells slots pc : Nat} {ls : Array Slot} {rest : List Value} {Q : State → Prop}
theorem zs_LS.same {H1 : Heap} {locs1 : List Loc} (hL : zs_LS G cI cZ a b ll gg n s H locs) (hk : ∀ q : Nat, q < H.size → H1[q]? = H[q]?) (hS : va_S (fun q => s.heap.size ≤ q) s.heap H1 locs1) : zs_LS G cI cZ a b ll gg n s H1 locs1 :=
  ⟨sa_same hL.1 hk, sa_same hL.2.1 hk, sa_same hL.2.2.1 hk, hS⟩
theorem zs_LS.tt (C0 : zs_LC p l s m meth c G cI cZ cL b0 a b ll gg) (hL : zs_LS G cI cZ a b ll gg n s H locs) : sa_TT s.heap.size s H :=
  C0.2.2.2.2.1.1.kept (fun q hq hn => hL.2.2.2.2.1 q hq hn)
theorem zs_kAt (C0 : zs_LC p l s m meth c G cI cZ cL b0 a b ll gg) (hL : zs_LS G cI cZ a b ll gg n s H locs) (hk : k < 180) (hls : ls.size = 9) (hst : (rest.map fun v => v.category).sum ≤ 8) (hc : cells ≤ 2100) (hs : slots ≤ 16000) (hdg : decode code pc = .ok (.invokestatic 170, 3))
    (kk : ∀ (H1 : Heap) (locs1 : List Loc), zs_LS G cI cZ a b ll gg n s H1 locs1 → H.size ≤ H1.size → W p l e zs_R s m #[Value.ref b0] below meth c H1 locs1 cells slots Q (F0 m (pc + 3) ls (.int 0 :: rest))) :
    W p l e zs_R s m #[Value.ref b0] below meth c H locs cells slots Q (F0 m pc ls (.int (nI k) :: .ref b0 :: rest)) := by
  obtain ⟨S, ⟨hX, hbl⟩, -, hK, -, -, -⟩ := id C0
  have hts := S.2.2.2.2
  have hX1 : va_X b0 180 (fun _ => 0) s H := hX.kept (hL.2.2.2.2.1 b0 hbl (Nat.not_le.mpr hbl))
  exact va_calli (A1 := fun _ => False) (va_runS (As := [.ref b0, .int (nI k)]) (rest := rest) S (k_at l b0 180 (fun _ => 0) k hk (by decide)) (va_cwS 2 hts gL_law_L_at rfl rfl rfl (by decide +kernel) ⟨Nat.le_of_ble_eq_true rfl, Nat.le_of_ble_eq_true rfl⟩)
    ⟨zs_bX, fun U hU hW => ⟨rfl, by show va_X b0 180 (fun _ => 0) U U.heap; rw [hU]; exact hX1.moved hW.alike⟩⟩ rfl rfl hls rfl (lv_room hst) hdg ⟨by show cells + 0 ≤ 2100; omega, by show slots + 0 ≤ 16000; omega⟩) hL.2.2.2 (fun q _ h => h.elim) (fun q h => h.elim)
    (fun z u t H1 locs1 ht _ hz hB h1 h2 h3 => by
      have hz0 : z = 0 := hz
      subst hz0
      exact kk H1 locs1 (hL.same (fun q hq => h2 q hq (fun h => h)) h3) h1)
theorem zs_kB (C0 : zs_LC p l s m meth c G cI cZ cL b0 a b ll gg) (hL : zs_LS G cI cZ a b ll gg n s H locs) (hP : va_P G vwCl (sa_W0 cI cZ a1 (zs n)) H) (hn : n ≤ 24) (hls : ls.size = 9) (hc : cells + 4 ≤ 2100) (hs : slots + 24 ≤ 16000) (hdg : decode code pc = .ok (.invokestatic 178, 3))
    (kk : ∀ (H1 : Heap) (locs1 : List Loc), zs_LS G cI cZ a b ll gg n s H1 locs1 → H.size ≤ H1.size → W p l e zs_R s m #[Value.ref b0] below meth c H1 locs1 (cells + 4) (slots + 24) Q (F0 m (pc + 3) ls [.int 1])) :
    W p l e zs_R s m #[Value.ref b0] below meth c H locs cells slots Q (F0 m pc ls [.ref gg, .ref ss, .ref ll, .ref dd, .ref (a1 0)]) := by
  obtain ⟨S, -, -, hK, ⟨-, hst⟩, -, -⟩ := id C0
  have hts := S.2.2.2.2
  have hT1 := zs_LS.tt C0 hL
  exact va_calli (A1 := fun _ => False) (va_runS (As := [.ref (a1 0), .ref dd, .ref ll, .ref ss, .ref gg]) (rest := []) S (k_breaks l s.heap.size hst G cI cZ cL a1 n dd ll ss gg hn) (va_cwS 5 hts gL_law_L_breaks rfl rfl rfl (by decide +kernel) ⟨Nat.le_of_ble_eq_true rfl, Nat.le_of_ble_eq_true rfl⟩)
    ⟨zs_bB, fun U hU hW => ⟨rfl, ⟨by rw [hU]; exact hP, by rw [hU]; exact hL.2.2.1, va_K.moved hW.alike hK⟩, by rw [hU]; exact hT1.warm hW⟩⟩ rfl rfl hls rfl (lv_room (Nat.le_of_ble_eq_true rfl)) hdg ⟨hc, hs⟩) hL.2.2.2 (fun q _ h => h.elim) (fun q h => h.elim)
    (fun z u t H1 locs1 ht _ hz hB h1 h2 h3 => by subst hz; exact kk H1 locs1 (hL.same (fun q hq => h2 q hq (fun h => h)) h3) h1)
theorem zs_kO (C0 : zs_LC p l s m meth c G cI cZ cL b0 a b ll gg) (hL : zs_LS G cI cZ a b ll gg n s H locs) (hP : va_P G vwCl (sa_W0 cI cZ a1 (zs n)) H) (hn : n ≤ 24) (hls : ls.size = 9) (hc : cells + 5 ≤ 2100) (hs : slots + 30 ≤ 16000) (hdg : decode code pc = .ok (.invokestatic 181, 3))
    (kk : ∀ (H1 : Heap) (locs1 : List Loc), zs_LS G cI cZ a b ll gg n s H1 locs1 → H.size ≤ H1.size → W p l e zs_R s m #[Value.ref b0] below meth c H1 locs1 (cells + 5) (slots + 30) Q (F0 m (pc + 3) ls [.int 1])) :
    W p l e zs_R s m #[Value.ref b0] below meth c H locs cells slots Q (F0 m pc ls [.ref gg, .ref ss, .ref dd, .ref (a1 0)]) := by
  obtain ⟨S, -, -, hK, ⟨-, hst⟩, -, -⟩ := id C0
  have hts := S.2.2.2.2
  have hT1 := zs_LS.tt C0 hL
  exact va_calli (A1 := fun _ => False) (va_runS (As := [.ref (a1 0), .ref dd, .ref ss, .ref gg]) (rest := []) S (k_orders l s.heap.size hst G cI cZ cL a1 n dd ll ss gg hn) (va_cwS 4 hts gL_law_L_orders rfl rfl rfl (by decide +kernel) ⟨Nat.le_of_ble_eq_true rfl, Nat.le_of_ble_eq_true rfl⟩)
    ⟨zs_bB, fun U hU hW => ⟨rfl, ⟨by rw [hU]; exact hP, by rw [hU]; exact hL.2.2.1, va_K.moved hW.alike hK⟩, by rw [hU]; exact hT1.warm hW⟩⟩ rfl rfl hls rfl (lv_room (Nat.le_of_ble_eq_true rfl)) hdg ⟨hc, hs⟩) hL.2.2.2 (fun q _ h => h.elim) (fun q h => h.elim)
    (fun z u t H1 locs1 ht _ hz hB h1 h2 h3 => by subst hz; exact kk H1 locs1 (hL.same (fun q hq => h2 q hq (fun h => h)) h3) h1)
/-- an act: two cells more at least -/
theorem zs_kA (C0 : zs_LC p l s m meth c G cI cZ cL b0 a b ll gg) (hL : zs_LS G cI cZ a b ll gg n s H locs) (hn : n ≤ 24) (hls : ls.size = 9) (hc : cells + 4 ≤ 2100) (hs : slots + 24 ≤ 16000) (hdg : decode code pc = .ok (.invokestatic 174, 3))
    (kk : ∀ (H1 : Heap) (locs1 : List Loc) (n1 : Nat), n1 = (if n < 24 then n + 1 else n) → zs_LS G cI cZ a b ll gg n1 s H1 locs1 → H.size + 2 ≤ H1.size → W p l e zs_R s m #[Value.ref b0] below meth c H1 locs1 (cells + 4) (slots + 24) Q (F0 m (pc + 3) ls [.int 1])) :
    W p l e zs_R s m #[Value.ref b0] below meth c H locs cells slots Q (F0 m pc ls [.int 0, .int 0, .ref gg, .ref ss, .ref ll, .ref dd, .ref (b 0), .ref (a 0)]) := by
  obtain ⟨S, -, -, hK, ⟨-, hst⟩, hC, hlo⟩ := id C0
  have hts := S.2.2.2.2
  have hT1 := zs_LS.tt C0 hL
  by_cases hk : n < 24
  · exact va_calli (A1 := zs_A a b ll gg) (va_runS (As := [.ref (a 0), .ref (b 0), .ref dd, .ref ll, .ref ss, .ref gg, .int 0, .int 0]) (rest := []) S (k_acts l s.heap.size H.size hst G cI cZ cL a b n dd ll ss gg hn hk hC hlo) (va_cwS 8 hts gL_law_L_acts rfl rfl rfl (by decide +kernel) ⟨Nat.le_of_ble_eq_true rfl, Nat.le_of_ble_eq_true rfl⟩)
      ⟨zs_bA, fun U hU hW => ⟨rfl, ⟨⟨by rw [hU]; exact hL.1, by rw [hU]; exact hL.2.1, by rw [hU]; exact hL.2.2.1, va_K.moved hW.alike hK⟩, by rw [hU]; exact hT1.warm hW⟩, by rw [hU]⟩⟩ rfl rfl hls rfl (lv_room (Nat.le_of_ble_eq_true rfl)) hdg ⟨by show cells + 2 ≤ 2100; omega, by show slots + 12 ≤ 16000; omega⟩) hL.2.2.2 (fun q _ h => hlo q h) (fun q h => hlo q h)
      (fun z u t H1 locs1 ht _ hz hB h1 h2 h3 => by
        subst hz
        refine W.widen (k := cells + 4) (n := slots + 24) (by omega) (by omega) ?_
        exact kk H1 locs1 (n + 1) (by rw [if_pos hk]) ⟨by rw [← ht]; exact hB.1, by rw [← ht]; exact hB.2.1, by rw [← ht]; exact hB.2.2.1, h3⟩ (by rw [← ht]; exact hB.2.2.2))
  · have hf : n = 24 := by omega
    exact va_calli (A1 := zs_A a b ll gg) (va_runS (As := [.ref (a 0), .ref (b 0), .ref dd, .ref ll, .ref ss, .ref gg, .int 0, .int 0]) (rest := []) S (k_actsF l s.heap.size H.size hst G cI cZ cL a b n dd ll ss gg hn hf hC hlo) (va_cwS 8 hts gL_law_L_acts rfl rfl rfl (by decide +kernel) ⟨Nat.le_of_ble_eq_true rfl, Nat.le_of_ble_eq_true rfl⟩)
      ⟨zs_bA, fun U hU hW => ⟨rfl, ⟨⟨by rw [hU]; exact hL.1, by rw [hU]; exact hL.2.1, by rw [hU]; exact hL.2.2.1, va_K.moved hW.alike hK⟩, by rw [hU]; exact hT1.warm hW⟩, by rw [hU]⟩⟩ rfl rfl hls rfl (lv_room (Nat.le_of_ble_eq_true rfl)) hdg ⟨hc, hs⟩) hL.2.2.2 (fun q _ h => hlo q h) (fun q h => hlo q h)
      (fun z u t H1 locs1 ht _ hz hB h1 h2 h3 => by
        subst hz
        exact kk H1 locs1 n (by rw [if_neg hk]) ⟨by rw [← ht]; exact hB.1, by rw [← ht]; exact hB.2.1, by rw [← ht]; exact hB.2.2.1, h3⟩ (by rw [← ht]; exact hB.2.2.2))
end
set_option maxHeartbeats 4000000 in
set_option maxRecDepth 100000 in
theorem zs_loop {p : Program} {l : Launch} {e : Env} {s : State} {m : MethodId} {below : List Frame} {meth : Method} {c : Code} {G : va_G} {cI cZ cL : ClassId} {b0 ll gg dd ss : Nat} {a b : Nat → Nat} (C0 : zs_LC p l s m meth c G cI cZ cL b0 a b ll gg) :
    ∀ (j k n cells slots : Nat) (H : Heap) (locs : List Loc) (ls : Array Slot), k + j = 90 → n ≤ 24 → cells + 22 * j ≤ 2100 → slots + 132 * j ≤ 16000 → zs_LS G cI cZ a b ll gg n s H locs → s.heap.size + 2 * k ≤ H.size → lv_has ls 9 [(8, .int (nI k)), (7, .int 1), (0, .ref b0), (1, .ref (a 0)), (2, .ref (b 0)), (3, .ref dd), (4, .ref ll), (5, .ref ss), (6, .ref gg)] →
      W p l e zs_R s m #[Value.ref b0] below meth c H locs cells slots (zs_Z below s) (F0 m 86 ls []) := by
  have S := C0.1
  have hx := S.1
  have hb := S.2.1
  intro j
  induction j with
  | zero =>
    intro k n cells slots H locs ls hk hn hc hs hL hz hl
    have hk90 : k = 90 := by omega
    subst hk90
    refine lv_iload hx hb dL_law_86 (lv_at hl 0 rfl) ?_
    refine lv_bipush (v := 90) hx hb dL_law_88 (by decide) ?_
    refine lv_icmp_ge (tgt := 208) hx hb dL_law_90 (by decide) (fun _ => ?_) (fun c9 => absurd (nI_le (Nat.le_refl 90) (by decide)) c9)
    refine lv_iload hx hb dL_law_208 (lv_at hl 1 rfl) ?_
    exact zs_ret hx hb C0.2.2.1.1 C0.2.2.1.2 (by omega) dL_law_210
  | succ j ih =>
    intro k n cells slots H locs ls hk hn hc hs hL hz hl
    have hk90 : k < 90 := by omega
    have K : ∀ (n1 : Nat) (H : Heap) (locs : List Loc) (ls : Array Slot), n1 ≤ 24 → zs_LS G cI cZ a b ll gg n1 s H locs → s.heap.size + 2 * (k + 1) ≤ H.size → lv_has ls 9 [(8, .int (nI k)), (7, .int 1), (0, .ref b0), (1, .ref (a 0)), (2, .ref (b 0)), (3, .ref dd), (4, .ref ll), (5, .ref ss), (6, .ref gg)] → W p l e zs_R s m #[Value.ref b0] below meth c H locs (cells + 22) (slots + 132) (zs_Z below s) (F0 m 202 ls []) := by
      intro n1 H locs ls hn1 hL hz hl
      refine lv_iinc (v := nI (k + 1)) (lv' := [(8, .int (nI (k + 1))), (7, .int 1), (0, .ref b0), (1, .ref (a 0)), (2, .ref (b 0)), (3, .ref dd), (4, .ref ll), (5, .ref ss), (6, .ref gg)]) hx hb dL_law_202 hl (k := 0) rfl (nI_1 k) (by decide) rfl (fun ls hl => ?_)
      refine lv_goto (tgt := 86) hx hb dL_law_205 (by decide) ?_
      exact ih (k + 1) n1 (cells + 22) (slots + 132) H locs ls (by omega) hn1 (by omega) (by omega) hL hz hl
    refine lv_iload hx hb dL_law_86 (lv_at hl 0 rfl) ?_
    refine lv_bipush (v := 90) hx hb dL_law_88 (by decide) ?_
    refine lv_icmp_ge (tgt := 208) hx hb dL_law_90 (by decide) (fun c9 => absurd c9 (nI_ge hk90 (by decide))) (fun _ => ?_)
    refine lv_iload hx hb dL_law_93 (lv_at hl 1 rfl) ?_
    refine lv_if_eq (tgt := 208) hx hb dL_law_95 (by decide) (fun c9 => absurd c9 (by decide)) (fun _ => ?_)
    refine lv_aload_n hx hb dL_law_98 rfl (lv_at hl 3 rfl) ?_
    refine lv_aload_n hx hb dL_law_99 rfl (lv_at hl 4 rfl) ?_
    refine lv_aload_n hx hb dL_law_100 rfl (lv_at hl 5 rfl) ?_
    refine lv_aload hx hb dL_law_101 (lv_at hl 6 rfl) ?_
    refine lv_aload hx hb dL_law_103 (lv_at hl 7 rfl) ?_
    refine lv_aload hx hb dL_law_105 (lv_at hl 8 rfl) ?_
    refine lv_aload_n hx hb dL_law_107 rfl (lv_at hl 2 rfl) ?_
    refine lv_iconst (v := 2) hx hb dL_law_108 (by decide) ?_
    refine lv_iload hx hb dL_law_109 (lv_at hl 0 rfl) ?_
    refine lv_imul hx hb dL_law_111 ?_
    rw [show (2 : Int32) * nI k = nI (2 * k) from pk_mul 2 k]
    refine zs_kAt C0 hL (by omega) hl.1 (Nat.le_of_ble_eq_true rfl) (by omega) (by omega) dL_law_112 (fun H locs hL hz1 => ?_)
    refine lv_aload_n hx hb dL_law_115 rfl (lv_at hl 2 rfl) ?_
    refine lv_iconst (v := 2) hx hb dL_law_116 (by decide) ?_
    refine lv_iload hx hb dL_law_117 (lv_at hl 0 rfl) ?_
    refine lv_imul hx hb dL_law_119 ?_
    rw [show (2 : Int32) * nI k = nI (2 * k) from pk_mul 2 k]
    refine lv_iconst (v := 1) hx hb dL_law_120 (by decide) ?_
    refine lv_iadd hx hb dL_law_121 ?_
    rw [nI_1]
    refine zs_kAt C0 hL (by omega) hl.1 (Nat.le_of_ble_eq_true rfl) (by omega) (by omega) dL_law_122 (fun H locs hL hz2 => ?_)
    refine zs_kA C0 hL hn hl.1 (by omega) (by omega) dL_law_125 (fun H locs n1 hn1 hL hz3 => ?_)
    have hn1 : n1 ≤ 24 := by rw [hn1]; split <;> omega
    refine lv_istore (lv' := [(7, .int 1), (8, .int (nI k)), (0, .ref b0), (1, .ref (a 0)), (2, .ref (b 0)), (3, .ref dd), (4, .ref ll), (5, .ref ss), (6, .ref gg)]) hx hb dL_law_128 hl (by decide) rfl (fun ls hl => ?_)
    refine lv_iload hx hb dL_law_130 (lv_at hl 0 rfl) ?_
    refine lv_if_eq (tgt := 202) hx hb dL_law_132 (by decide) (fun c9 => absurd c9 (by decide)) (fun _ => ?_)
    refine lv_iload hx hb dL_law_135 (lv_at hl 1 rfl) ?_
    refine lv_iconst (v := 4) hx hb dL_law_137 (by decide) ?_
    refine lv_irem hx hb dL_law_138 (by decide) ?_
    refine lv_iconst (v := 3) hx hb dL_law_139 (by decide) ?_
    refine lv_icmp_ne (tgt := 202) hx hb dL_law_140 (by decide) (fun _ => ?_) (fun _ => ?_)
    · refine W.widen (k := cells + 22) (n := slots + 132) (by omega) (by omega) ?_
      exact K n1 H locs ls hn1 hL (by omega) (lv_sub hl [1, 0, 2, 3, 4, 5, 6, 7, 8] rfl)
    · refine lv_aload_n hx hb dL_law_143 rfl (lv_at hl 3 rfl) ?_
      refine lv_aload_n hx hb dL_law_144 rfl (lv_at hl 5 rfl) ?_
      refine lv_aload hx hb dL_law_145 (lv_at hl 6 rfl) ?_
      refine lv_aload hx hb dL_law_147 (lv_at hl 7 rfl) ?_
      refine lv_aload hx hb dL_law_149 (lv_at hl 8 rfl) ?_
      refine zs_kB C0 hL hL.1 hn1 hl.1 (by omega) (by omega) dL_law_151 (fun H locs hL hz4 => ?_)
      refine lv_if_eq (tgt := 199) hx hb dL_law_154 (by decide) (fun c9 => absurd c9 (by decide)) (fun _ => ?_)
      refine lv_aload_n hx hb dL_law_157 rfl (lv_at hl 3 rfl) ?_
      refine lv_aload_n hx hb dL_law_158 rfl (lv_at hl 5 rfl) ?_
      refine lv_aload hx hb dL_law_159 (lv_at hl 7 rfl) ?_
      refine lv_aload hx hb dL_law_161 (lv_at hl 8 rfl) ?_
      refine zs_kO C0 hL hL.1 hn1 hl.1 (by omega) (by omega) dL_law_163 (fun H locs hL hz5 => ?_)
      refine lv_if_eq (tgt := 199) hx hb dL_law_166 (by decide) (fun c9 => absurd c9 (by decide)) (fun _ => ?_)
      refine lv_aload_n hx hb dL_law_169 rfl (lv_at hl 4 rfl) ?_
      refine lv_aload_n hx hb dL_law_170 rfl (lv_at hl 5 rfl) ?_
      refine lv_aload hx hb dL_law_171 (lv_at hl 6 rfl) ?_
      refine lv_aload hx hb dL_law_173 (lv_at hl 7 rfl) ?_
      refine lv_aload hx hb dL_law_175 (lv_at hl 8 rfl) ?_
      refine zs_kB C0 hL hL.2.1 hn1 hl.1 (by omega) (by omega) dL_law_177 (fun H locs hL hz6 => ?_)
      refine lv_if_eq (tgt := 199) hx hb dL_law_180 (by decide) (fun c9 => absurd c9 (by decide)) (fun _ => ?_)
      refine lv_aload_n hx hb dL_law_183 rfl (lv_at hl 4 rfl) ?_
      refine lv_aload_n hx hb dL_law_184 rfl (lv_at hl 5 rfl) ?_
      refine lv_aload hx hb dL_law_185 (lv_at hl 7 rfl) ?_
      refine lv_aload hx hb dL_law_187 (lv_at hl 8 rfl) ?_
      refine zs_kO C0 hL hL.2.1 hn1 hl.1 (by omega) (by omega) dL_law_189 (fun H locs hL hz7 => ?_)
      refine lv_if_eq (tgt := 199) hx hb dL_law_192 (by decide) (fun c9 => absurd c9 (by decide)) (fun _ => ?_)
      refine lv_iconst (v := 1) hx hb dL_law_195 (by decide) ?_
      refine lv_goto (tgt := 200) hx hb dL_law_196 (by decide) ?_
      refine lv_istore (lv' := [(7, .int 1), (8, .int (nI k)), (0, .ref b0), (1, .ref (a 0)), (2, .ref (b 0)), (3, .ref dd), (4, .ref ll), (5, .ref ss), (6, .ref gg)]) hx hb dL_law_200 hl (by decide) rfl (fun ls hl => ?_)
      refine W.widen (k := cells + 22) (n := slots + 132) (by omega) (by omega) ?_
      exact K n1 H locs ls hn1 hL (by omega) (lv_sub hl [1, 0, 2, 3, 4, 5, 6, 7, 8] rfl)
