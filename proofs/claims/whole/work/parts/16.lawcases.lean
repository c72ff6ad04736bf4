/-! what is so stays so, call by call -/
theorem sa_I_fill {o : Int32} : ∀ {σ : sa_St}, sa_I σ → vp_in o (σ.1 1) → ∀ (n i : Nat), sa_I (sa_fill o n i σ).2 := by
  intro σ hI ho n
  induction n generalizing σ with
  | zero => intro i; exact hI
  | succ n ih =>
    intro i
    by_cases h : sa_more σ o
    · rw [sa_fill_y h]
      exact ih (sa_I_add hI h.1 ho (sa_best_in _ (by have := hI.1; omega) h.2.2)) ho (i + 1)
    · rw [sa_fill_n h]; exact hI
theorem si_addBreak {σ : sa_St} {x : Int32} (hI : sa_I σ) : sa_I (sp_addBreak σ x).2.2 := by
  by_cases h : (sp_addBreak σ x).1 = 0
  · obtain ⟨h1, h2, h3⟩ := sa_go_ok h
    rw [show sp_addBreak σ x = (0, _) from sa_go0 h1 h2 h3]
    exact sa_I_addBreak hI h2
  · rw [show (sp_addBreak σ x).2.2 = σ from sa_lo.2 h]; exact hI
theorem si_rate {σ : sa_St} {at' gr v : Int32} (hI : sa_I σ) : sa_I (sp_rate σ at' gr v).2.2 := by
  by_cases h : (sp_rate σ at' gr v).1 = 0
  · obtain ⟨h1, h2, h3⟩ := sa_go_ok h
    rw [show sp_rate σ at' gr v = (0, _) from sa_go0 h1 h2 h3]
    exact sa_I_f hI (by decide) (by decide) (by decide) (by decide)
  · rw [show (sp_rate σ at' gr v).2.2 = σ from sa_lo.2 h]; exact hI
theorem si_air {σ : sa_St} {at' : Int32} (hI : sa_I σ) : sa_I (sp_air σ at').2.2 := by
  by_cases h : (sp_air σ at').1 = 0
  · obtain ⟨h1, h2, h3⟩ := sa_go_ok h
    rw [show sp_air σ at' = (0, _) from sa_go0 h1 h2 h3]
    exact sa_I_air hI
  · rw [show (sp_air σ at').2.2 = σ from sa_lo.2 h]; exact hI
theorem si_isAired {σ : sa_St} {at' : Int32} (hI : sa_I σ) : sa_I (sp_isAired σ at').2.2 := by
  by_cases h : (sp_isAired σ at').1 = 0
  · obtain ⟨h1, h2, h3⟩ := sa_go_ok h
    rw [show sp_isAired σ at' = (0, _) from sa_go0 h1 h2 h3]
    exact hI
  · rw [show (sp_isAired σ at').2.2 = σ from sa_lo.2 h]; exact hI
theorem si_room {σ : sa_St} {at' : Int32} (hI : sa_I σ) : sa_I (sp_room σ at').2.2 := by
  by_cases h : (sp_room σ at').1 = 0
  · obtain ⟨h1, h2, h3⟩ := sa_go_ok h
    rw [show sp_room σ at' = (0, _) from sa_go0 h1 h2 h3]
    exact hI
  · rw [show (sp_room σ at').2.2 = σ from sa_lo.2 h]; exact hI
theorem si_rating {σ : sa_St} {at' gr : Int32} (hI : sa_I σ) : sa_I (sp_rating σ at' gr).2.2 := by
  by_cases h : (sp_rating σ at' gr).1 = 0
  · obtain ⟨h1, h2, h3⟩ := sa_go_ok h
    rw [show sp_rating σ at' gr = (0, _) from sa_go0 h1 h2 h3]
    exact hI
  · rw [show (sp_rating σ at' gr).2.2 = σ from sa_lo.2 h]; exact hI
theorem si_addOrder {σ : sa_St} {x1 x2 x3 x4 x5 x6 x7 : Int32} (hI : sa_I σ) : sa_I (sp_addOrder σ x1 x2 x3 x4 x5 x6 x7).2.2 := by
  by_cases h : (sp_addOrder σ x1 x2 x3 x4 x5 x6 x7).1 = 0
  · obtain ⟨h1, h2, h3⟩ := sa_go_ok h
    rw [show sp_addOrder σ x1 x2 x3 x4 x5 x6 x7 = (0, _) from sa_go0 h1 h2 h3]
    exact sa_I_ord hI h2 h1.2.2.1
  · rw [show (sp_addOrder σ x1 x2 x3 x4 x5 x6 x7).2.2 = σ from sa_lo.2 h]; exact hI
theorem si_close {σ : sa_St} {o : Int32} (hI : sa_I σ) : sa_I (sp_close σ o).2.2 := by
  by_cases h : (sp_close σ o).1 = 0
  · obtain ⟨h1, h2, h3⟩ := sa_go_ok h
    rw [show sp_close σ o = (0, _) from sa_go0 h1 h2 h3]
    exact sa_I_clo hI
  · rw [show (sp_close σ o).2.2 = σ from sa_lo.2 h]; exact hI
theorem si_whyNot {σ : sa_St} {o at' : Int32} (hI : sa_I σ) : sa_I (sp_whyNot σ o at').2.2 := by
  by_cases h : (sp_whyNot σ o at').1 = 0
  · obtain ⟨h1, h2, h3⟩ := sa_go_ok h
    rw [show sp_whyNot σ o at' = (0, _) from sa_go0 h1 h2 h3]
    exact hI
  · rw [show (sp_whyNot σ o at').2.2 = σ from sa_lo.2 h]; exact hI
theorem si_place {σ : sa_St} {o at' : Int32} (hI : sa_I σ) : sa_I (sp_place σ o at').2.2 := by
  by_cases h : (sp_place σ o at').1 = 0
  · obtain ⟨h1, h2, h3⟩ := sa_go_ok h
    rw [show sp_place σ o at' = (0, _) from sa_go0 h1 h2 h3]
    exact sa_I_add hI (sa_ltN (by have := hI.2.2.1; omega) (by decide) h2.2.1) (sa_inv (by have := hI.2.1; omega) h1.1) (sa_inv (by have := hI.1; omega) h1.2)
  · rw [show (sp_place σ o at').2.2 = σ from sa_lo.2 h]; exact hI
theorem si_give {σ : sa_St} {o at' : Int32} (hI : sa_I σ) : sa_I (sp_give σ o at').2.2 := by
  by_cases h : (sp_give σ o at').1 = 0
  · obtain ⟨h1, h2, h3⟩ := sa_go_ok h
    rw [show sp_give σ o at' = (0, _) from sa_go0 h1 h2 h3]
    exact sa_I_add hI (sa_ltN (by have := hI.2.2.1; omega) (by decide) h2.2.1) (sa_inv (by have := hI.2.1; omega) h1.1) (sa_inv (by have := hI.1; omega) h1.2)
  · rw [show (sp_give σ o at').2.2 = σ from sa_lo.2 h]; exact hI
theorem si_fill {σ : sa_St} {o most : Int32} (hI : sa_I σ) : sa_I (sp_fill σ o most).2.2 := by
  by_cases h : (sp_fill σ o most).1 = 0
  · obtain ⟨h1, h2, h3⟩ := sa_go_ok h
    rw [show sp_fill σ o most = (0, _) from sa_go0 h1 h2 h3]
    exact sa_I_fill hI (sa_inv (by have := hI.2.1; omega) h1) _ _
  · rw [show (sp_fill σ o most).2.2 = σ from sa_lo.2 h]; exact hI
theorem si_move {σ : sa_St} {x at' : Int32} (hI : sa_I σ) : sa_I (sp_move σ x at').2.2 := by
  by_cases h : (sp_move σ x at').1 = 0
  · obtain ⟨h1, h2, h3⟩ := sa_go_ok h
    rw [show sp_move σ x at' = (0, _) from sa_go0 h1 h2 h3]
    exact sa_I_mv hI (sa_inv (by have := hI.1; omega) h1.2)
  · rw [show (sp_move σ x at').2.2 = σ from sa_lo.2 h]; exact hI
theorem si_miss {σ : sa_St} {x : Int32} (hI : sa_I σ) : sa_I (sp_miss σ x).2.2 := by
  by_cases h : (sp_miss σ x).1 = 0
  · obtain ⟨h1, h2, h3⟩ := sa_go_ok h
    rw [show sp_miss σ x = (0, _) from sa_go0 h1 h2 h3]
    exact sa_I_f hI (by decide) (by decide) (by decide) (by decide)
  · rw [show (sp_miss σ x).2.2 = σ from sa_lo.2 h]; exact hI
theorem si_drop {σ : sa_St} {x : Int32} (hI : sa_I σ) : sa_I (sp_drop σ x).2.2 := by
  by_cases h : (sp_drop σ x).1 = 0
  · obtain ⟨h1, h2, h3⟩ := sa_go_ok h
    rw [show sp_drop σ x = (0, _) from sa_go0 h1 h2 h3]
    exact sa_I_f hI (by decide) (by decide) (by decide) (by decide)
  · rw [show (sp_drop σ x).2.2 = σ from sa_lo.2 h]; exact hI
theorem si_stateOf {σ : sa_St} {x : Int32} (hI : sa_I σ) : sa_I (sp_stateOf σ x).2.2 := by
  by_cases h : (sp_stateOf σ x).1 = 0
  · obtain ⟨h1, h2, h3⟩ := sa_go_ok h
    rw [show sp_stateOf σ x = (0, _) from sa_go0 h1 h2 h3]
    exact hI
  · rw [show (sp_stateOf σ x).2.2 = σ from sa_lo.2 h]; exact hI
theorem si_breakOf {σ : sa_St} {x : Int32} (hI : sa_I σ) : sa_I (sp_breakOf σ x).2.2 := by
  by_cases h : (sp_breakOf σ x).1 = 0
  · obtain ⟨h1, h2, h3⟩ := sa_go_ok h
    rw [show sp_breakOf σ x = (0, _) from sa_go0 h1 h2 h3]
    exact hI
  · rw [show (sp_breakOf σ x).2.2 = σ from sa_lo.2 h]; exact hI
theorem si_delivered {σ : sa_St} {o : Int32} (hI : sa_I σ) : sa_I (sp_delivered σ o).2.2 := by
  by_cases h : (sp_delivered σ o).1 = 0
  · obtain ⟨h1, h2, h3⟩ := sa_go_ok h
    rw [show sp_delivered σ o = (0, _) from sa_go0 h1 h2 h3]
    exact hI
  · rw [show (sp_delivered σ o).2.2 = σ from sa_lo.2 h]; exact hI
theorem si_owed {σ : sa_St} {o : Int32} (hI : sa_I σ) : sa_I (sp_owed σ o).2.2 := by
  by_cases h : (sp_owed σ o).1 = 0
  · obtain ⟨h1, h2, h3⟩ := sa_go_ok h
    rw [show sp_owed σ o = (0, _) from sa_go0 h1 h2 h3]
    exact hI
  · rw [show (sp_owed σ o).2.2 = σ from sa_lo.2 h]; exact hI
theorem si_rest {σ : sa_St} {o : Int32} (hI : sa_I σ) : sa_I (sp_rest σ o).2.2 := by
  by_cases h : (sp_rest σ o).1 = 0
  · obtain ⟨h1, h2, h3⟩ := sa_go_ok h
    rw [show sp_rest σ o = (0, _) from sa_go0 h1 h2 h3]
    exact hI
  · rw [show (sp_rest σ o).2.2 = σ from sa_lo.2 h]; exact hI
theorem si_bill {σ : sa_St} {o : Int32} (hI : sa_I σ) : sa_I (sp_bill σ o).2.2 := by
  by_cases h : (sp_bill σ o).1 = 0
  · obtain ⟨h1, h2, h3⟩ := sa_go_ok h
    rw [show sp_bill σ o = (0, _) from sa_go0 h1 h2 h3]
    exact hI
  · rw [show (sp_bill σ o).2.2 = σ from sa_lo.2 h]; exact hI
theorem si_billTo {σ : sa_St} {x : Int32} (hI : sa_I σ) : sa_I (sp_billTo σ x).2.2 := by
  by_cases h : (sp_billTo σ x).1 = 0
  · obtain ⟨h1, h2, h3⟩ := sa_go_ok h
    rw [show sp_billTo σ x = (0, _) from sa_go0 h1 h2 h3]
    exact hI
  · rw [show (sp_billTo σ x).2.2 = σ from sa_lo.2 h]; exact hI
theorem sb_isAired {σ : sa_St} {at' : Int32} (hI : sa_I σ) (h : (sp_isAired σ at').1 = 0) : (sp_isAired σ at').2.1 = 0 ∨ (sp_isAired σ at').2.1 = 1 := by
  obtain ⟨h1, h2, h3⟩ := sa_go_ok h
  rw [show sp_isAired σ at' = (0, _) from sa_go0 h1 h2 h3]
  exact hI.2.2.2.2.2.2 _
theorem sb_miss {σ : sa_St} {x : Int32} (hI : sa_I σ) (h : (sp_miss σ x).1 = 0) : (sp_miss σ x).2.1 = 0 ∨ (sp_miss σ x).2.1 = 1 := by
  obtain ⟨h1, h2, h3⟩ := sa_go_ok h
  rw [show sp_miss σ x = (0, _) from sa_go0 h1 h2 h3]
  exact sa_b_or
set_option maxHeartbeats 4000000 in
set_option maxRecDepth 100000 in
theorem law_c0 {p : Program} {l : Launch} {e : Env} {s : State} {m : MethodId} {below : List Frame} {meth : Method} {c : Code} {G : va_G} {cI cZ cL : ClassId} {b0 L : Nat} {xs : Nat → Int32} {a b : Nat → Nat} {w : Nat} {σ : sa_St} {th : Int32} {g : Nat → Int64} {H : Heap} {locs : List Loc} {cells slots i : Nat} {ls : Array Slot} {Q : State → Prop} (C0 : sa_LC l p s m meth c G cI cZ cL b0 L xs a b w) (hI : sa_I σ) (hLS : sa_LS G cI cZ cL a b w σ σ th g s H locs) (hi : i + 8 ≤ L) (hc : cells + 1 ≤ 1060) (hs : slots + 6 ≤ 10008) (hl : lv_has ls 7 [(0, .ref b0), (1, .ref (a 0)), (2, .ref (b 0)), (3, .ref w), (4, .int (nI i))])
    (K : ∀ (σ : sa_St) (th : Int32) (g : Nat → Int64) (H : Heap) (locs : List Loc) (ls : Array Slot), sa_I σ → sa_LS G cI cZ cL a b w σ σ th g s H locs → lv_has ls 7 [(0, .ref b0), (1, .ref (a 0)), (2, .ref (b 0)), (3, .ref w), (4, .int (nI i))] → W p l e room_1 s m #[Value.ref b0] below meth c H locs (cells + 1) (slots + 6) Q (F0 m 1610 ls [])) : W p l e room_1 s m #[Value.ref b0] below meth c H locs cells slots Q (F0 m 160 ls []) := by
  have S := C0.1
  have hx := S.1
  have hb := S.2.1
  have hts := S.2.2.2.2
  have hK := C0.2.2.2.1
  have hst9 := C0.2.2.2.2.1.2
  have hJa := C0.2.2.2.2.2.1.1
  have hJb := C0.2.2.2.2.2.1.2
  have hw2 := C0.2.2.2.2.2.2.2.2.1.2.1
  refine lv_aload_n hx hb dL_law_160 rfl (lv_at hl 1 rfl) ?_
  refine lv_aload_n hx hb dL_law_161 rfl (lv_at hl 0 rfl) ?_
  refine lv_iload hx hb dL_law_162 (lv_at hl 4 rfl) ?_
  refine lv_iconst (v := 1) hx hb dL_law_164 (by decide) ?_
  refine sa_iaddk (j := 1) hx hb rfl dL_law_165 ?_
  refine sa_scl C0 hLS (by omega) dL_law_166 ?_
  refine lv_aload_n hx hb dL_law_167 rfl (lv_at hl 3 rfl) ?_
  refine sa_wstep (SP := (sp_addBreak σ (xs (i + 1)))) (As := [.ref (a 0), .int (xs (i + 1)), .ref w]) (rest := []) C0 hLS (fun h => k_addBreak_ok l G cI cZ cL a σ w g hI hJa hw2 (xs (i + 1)) h) (fun h => k_addBreak_ex l s.heap.size hst9 G cI cZ cL a σ w hI (xs (i + 1)) h) sa_lo.2 (vx_cwSW (hh := [(0, 9, 12, 13), (0, 9, 15, 15)]) 3 hts gL_law_L_addBreak rfl rfl rfl (by decide +kernel) ⟨Nat.le_of_ble_eq_true rfl, Nat.le_of_ble_eq_true rfl⟩) (vx_cwSW (hh := [(0, 9, 12, 13), (0, 9, 15, 15)]) 3 hts gL_law_L_addBreak rfl rfl rfl (by decide +kernel) ⟨Nat.le_of_ble_eq_true rfl, Nat.le_of_ble_eq_true rfl⟩) rfl hl.1 (Nat.le_of_ble_eq_true rfl) rfl dL_law_168 hc hs (fun H locs g hg hLS => ?_)
  refine lv_istore (lv' := [(5, .int (nI (sp_addBreak σ (xs (i + 1))).1)), (0, .ref b0), (1, .ref (a 0)), (2, .ref (b 0)), (3, .ref w), (4, .int (nI i))]) hx hb dL_law_171 hl (by decide) rfl (fun ls hl => ?_)
  refine lv_aload_n hx hb dL_law_173 rfl (lv_at hl 3 rfl) ?_
  refine lv_aload_n hx hb dL_law_174 rfl (lv_at hl 1 rfl) ?_
  refine lv_iload hx hb dL_law_175 (lv_at hl 5 rfl) ?_
  refine lv_iconst (v := 1) hx hb dL_law_177 (by decide) ?_
  refine sa_iaddk (j := 1) hx hb rfl dL_law_178 ?_
  refine sa_scl C0 hLS (by omega) dL_law_179 ?_
  refine sa_mstep (th2 := nI (sp_addBreak σ (xs (i + 1))).1) (σ2 := (sp_addBreak σ (xs (i + 1))).2.2) (As := [.int (xs (i + 1))]) (rest := []) C0 hLS (c_X1_addBreak l G cI cZ cL b σ th hI hJb (xs (i + 1))) (cwV 1 hts gL_law_X1_addBreak rfl rfl rfl (by decide +kernel) ⟨Nat.le_of_ble_eq_true rfl, Nat.le_of_ble_eq_true rfl⟩) rfl hl.1 (Nat.le_of_ble_eq_true rfl) rfl dL_law_180 (by omega) (by omega) (fun H locs hLS => ?_)
  refine lv_istore (lv' := [(6, .int ((sp_addBreak σ (xs (i + 1))).2.1)), (5, .int (nI (sp_addBreak σ (xs (i + 1))).1)), (0, .ref b0), (1, .ref (a 0)), (2, .ref (b 0)), (3, .ref w), (4, .int (nI i))]) hx hb dL_law_183 hl (by decide) rfl (fun ls hl => ?_)
  refine lv_aload_n hx hb dL_law_185 rfl (lv_at hl 4 rfl) ?_
  refine sa_kRd (As := []) (rest := []) S (c_X1_thrown l G cI cZ cL b (sp_addBreak σ (xs (i + 1))).2.2 (nI (sp_addBreak σ (xs (i + 1))).1)) (cwV 0 hts gL_law_X1_thrown rfl rfl rfl (by decide +kernel) ⟨Nat.le_of_ble_eq_true rfl, Nat.le_of_ble_eq_true rfl⟩) hLS.2.1 hK (ci := 1) rfl rfl rfl hl.1 (Nat.le_of_ble_eq_true rfl) rfl dL_law_186 ⟨by show cells + 1 ≤ 1060; omega, by show slots + 6 ≤ 10008; omega⟩ ?_
  refine lv_iload hx hb dL_law_189 (lv_at hl 1 rfl) ?_
  refine lv_icmp_eq (tgt := 196) hx hb dL_law_191 (by decide) (fun _ => ?_) (fun c9 => absurd rfl c9)
  refine lv_iload hx hb dL_law_196 (lv_at hl 1 rfl) ?_
  refine lv_if_ne (tgt := 213) hx hb dL_law_198 (by decide) (fun c_198 => ?_) (fun c_198 => ?_)
  · skip
    refine lv_goto (tgt := 1610) hx hb dL_law_213 (by decide) ?_
    exact K _ _ _ H locs ls (si_addBreak hI) hLS (lv_sub hl [2, 3, 4, 5, 6] rfl)
  · skip
    have hz := sa_n0 sa_lo.1 c_198
    refine lv_aload_n hx hb dL_law_201 rfl (lv_at hl 5 rfl) ?_
    refine lv_iconst (v := 0) hx hb dL_law_202 (by decide) ?_
    refine sa_old C0 hLS dL_law_203 ?_
    refine lv_iload hx hb dL_law_204 (lv_at hl 0 rfl) ?_
    refine lv_i2l hx hb dL_law_206 rfl ?_
    refine W.lcmp hx hb dL_law_207 ?_
    rw [sa_cmp0 (hg hz)]
    refine lv_if_eq (tgt := 213) hx hb dL_law_208 (by decide) (fun _ => ?_) (fun c9 => absurd (by decide) c9)
    refine lv_goto (tgt := 1610) hx hb dL_law_213 (by decide) ?_
    exact K _ _ _ H locs ls (si_addBreak hI) hLS (lv_sub hl [2, 3, 4, 5, 6] rfl)
set_option maxHeartbeats 4000000 in
set_option maxRecDepth 100000 in
theorem law_c1 {p : Program} {l : Launch} {e : Env} {s : State} {m : MethodId} {below : List Frame} {meth : Method} {c : Code} {G : va_G} {cI cZ cL : ClassId} {b0 L : Nat} {xs : Nat → Int32} {a b : Nat → Nat} {w : Nat} {σ : sa_St} {th : Int32} {g : Nat → Int64} {H : Heap} {locs : List Loc} {cells slots i : Nat} {ls : Array Slot} {Q : State → Prop} (C0 : sa_LC l p s m meth c G cI cZ cL b0 L xs a b w) (hI : sa_I σ) (hLS : sa_LS G cI cZ cL a b w σ σ th g s H locs) (hi : i + 8 ≤ L) (hc : cells + 1 ≤ 1060) (hs : slots + 6 ≤ 10008) (hl : lv_has ls 7 [(0, .ref b0), (1, .ref (a 0)), (2, .ref (b 0)), (3, .ref w), (4, .int (nI i))])
    (K : ∀ (σ : sa_St) (th : Int32) (g : Nat → Int64) (H : Heap) (locs : List Loc) (ls : Array Slot), sa_I σ → sa_LS G cI cZ cL a b w σ σ th g s H locs → lv_has ls 7 [(0, .ref b0), (1, .ref (a 0)), (2, .ref (b 0)), (3, .ref w), (4, .int (nI i))] → W p l e room_1 s m #[Value.ref b0] below meth c H locs (cells + 1) (slots + 6) Q (F0 m 1610 ls [])) : W p l e room_1 s m #[Value.ref b0] below meth c H locs cells slots Q (F0 m 216 ls []) := by
  have S := C0.1
  have hx := S.1
  have hb := S.2.1
  have hts := S.2.2.2.2
  have hK := C0.2.2.2.1
  have hst9 := C0.2.2.2.2.1.2
  have hJa := C0.2.2.2.2.2.1.1
  have hJb := C0.2.2.2.2.2.1.2
  have hw2 := C0.2.2.2.2.2.2.2.2.1.2.1
  refine lv_aload_n hx hb dL_law_216 rfl (lv_at hl 1 rfl) ?_
  refine lv_aload_n hx hb dL_law_217 rfl (lv_at hl 0 rfl) ?_
  refine lv_iload hx hb dL_law_218 (lv_at hl 4 rfl) ?_
  refine lv_iconst (v := 1) hx hb dL_law_220 (by decide) ?_
  refine sa_iaddk (j := 1) hx hb rfl dL_law_221 ?_
  refine sa_scl C0 hLS (by omega) dL_law_222 ?_
  refine lv_aload_n hx hb dL_law_223 rfl (lv_at hl 0 rfl) ?_
  refine lv_iload hx hb dL_law_224 (lv_at hl 4 rfl) ?_
  refine lv_iconst (v := 2) hx hb dL_law_226 (by decide) ?_
  refine sa_iaddk (j := 2) hx hb rfl dL_law_227 ?_
  refine sa_scl C0 hLS (by omega) dL_law_228 ?_
  refine lv_aload_n hx hb dL_law_229 rfl (lv_at hl 0 rfl) ?_
  refine lv_iload hx hb dL_law_230 (lv_at hl 4 rfl) ?_
  refine lv_iconst (v := 3) hx hb dL_law_232 (by decide) ?_
  refine sa_iaddk (j := 3) hx hb rfl dL_law_233 ?_
  refine sa_scl C0 hLS (by omega) dL_law_234 ?_
  refine lv_aload_n hx hb dL_law_235 rfl (lv_at hl 3 rfl) ?_
  refine sa_wstep (SP := (sp_rate σ (xs (i + 1)) (xs (i + 2)) (xs (i + 3)))) (As := [.ref (a 0), .int (xs (i + 1)), .int (xs (i + 2)), .int (xs (i + 3)), .ref w]) (rest := []) C0 hLS (fun h => k_rate_ok l G cI cZ cL a σ w g hI hJa hw2 (xs (i + 1)) (xs (i + 2)) (xs (i + 3)) h) (fun h => k_rate_ex l s.heap.size hst9 G cI cZ cL a σ w hI (xs (i + 1)) (xs (i + 2)) (xs (i + 3)) h) sa_lo.2 (vx_cwSW (hh := [(0, 12, 15, 21), (0, 12, 19, 13)]) 5 hts gL_law_L_rate rfl rfl rfl (by decide +kernel) ⟨Nat.le_of_ble_eq_true rfl, Nat.le_of_ble_eq_true rfl⟩) (vx_cwSW (hh := [(0, 12, 15, 21), (0, 12, 19, 13)]) 5 hts gL_law_L_rate rfl rfl rfl (by decide +kernel) ⟨Nat.le_of_ble_eq_true rfl, Nat.le_of_ble_eq_true rfl⟩) rfl hl.1 (Nat.le_of_ble_eq_true rfl) rfl dL_law_236 hc hs (fun H locs g hg hLS => ?_)
  refine lv_istore (lv' := [(5, .int (nI (sp_rate σ (xs (i + 1)) (xs (i + 2)) (xs (i + 3))).1)), (0, .ref b0), (1, .ref (a 0)), (2, .ref (b 0)), (3, .ref w), (4, .int (nI i))]) hx hb dL_law_239 hl (by decide) rfl (fun ls hl => ?_)
  refine lv_aload_n hx hb dL_law_241 rfl (lv_at hl 3 rfl) ?_
  refine lv_aload_n hx hb dL_law_242 rfl (lv_at hl 1 rfl) ?_
  refine lv_iload hx hb dL_law_243 (lv_at hl 5 rfl) ?_
  refine lv_iconst (v := 1) hx hb dL_law_245 (by decide) ?_
  refine sa_iaddk (j := 1) hx hb rfl dL_law_246 ?_
  refine sa_scl C0 hLS (by omega) dL_law_247 ?_
  refine lv_aload_n hx hb dL_law_248 rfl (lv_at hl 1 rfl) ?_
  refine lv_iload hx hb dL_law_249 (lv_at hl 5 rfl) ?_
  refine lv_iconst (v := 2) hx hb dL_law_251 (by decide) ?_
  refine sa_iaddk (j := 2) hx hb rfl dL_law_252 ?_
  refine sa_scl C0 hLS (by omega) dL_law_253 ?_
  refine lv_aload_n hx hb dL_law_254 rfl (lv_at hl 1 rfl) ?_
  refine lv_iload hx hb dL_law_255 (lv_at hl 5 rfl) ?_
  refine lv_iconst (v := 3) hx hb dL_law_257 (by decide) ?_
  refine sa_iaddk (j := 3) hx hb rfl dL_law_258 ?_
  refine sa_scl C0 hLS (by omega) dL_law_259 ?_
  refine sa_mstep (th2 := nI (sp_rate σ (xs (i + 1)) (xs (i + 2)) (xs (i + 3))).1) (σ2 := (sp_rate σ (xs (i + 1)) (xs (i + 2)) (xs (i + 3))).2.2) (As := [.int (xs (i + 1)), .int (xs (i + 2)), .int (xs (i + 3))]) (rest := []) C0 hLS (c_X1_rate l G cI cZ cL b σ th hI hJb (xs (i + 1)) (xs (i + 2)) (xs (i + 3))) (cwV 3 hts gL_law_X1_rate rfl rfl rfl (by decide +kernel) ⟨Nat.le_of_ble_eq_true rfl, Nat.le_of_ble_eq_true rfl⟩) rfl hl.1 (Nat.le_of_ble_eq_true rfl) rfl dL_law_260 (by omega) (by omega) (fun H locs hLS => ?_)
  refine lv_istore (lv' := [(6, .int ((sp_rate σ (xs (i + 1)) (xs (i + 2)) (xs (i + 3))).2.1)), (5, .int (nI (sp_rate σ (xs (i + 1)) (xs (i + 2)) (xs (i + 3))).1)), (0, .ref b0), (1, .ref (a 0)), (2, .ref (b 0)), (3, .ref w), (4, .int (nI i))]) hx hb dL_law_263 hl (by decide) rfl (fun ls hl => ?_)
  refine lv_aload_n hx hb dL_law_265 rfl (lv_at hl 4 rfl) ?_
  refine sa_kRd (As := []) (rest := []) S (c_X1_thrown l G cI cZ cL b (sp_rate σ (xs (i + 1)) (xs (i + 2)) (xs (i + 3))).2.2 (nI (sp_rate σ (xs (i + 1)) (xs (i + 2)) (xs (i + 3))).1)) (cwV 0 hts gL_law_X1_thrown rfl rfl rfl (by decide +kernel) ⟨Nat.le_of_ble_eq_true rfl, Nat.le_of_ble_eq_true rfl⟩) hLS.2.1 hK (ci := 1) rfl rfl rfl hl.1 (Nat.le_of_ble_eq_true rfl) rfl dL_law_266 ⟨by show cells + 1 ≤ 1060; omega, by show slots + 6 ≤ 10008; omega⟩ ?_
  refine lv_iload hx hb dL_law_269 (lv_at hl 1 rfl) ?_
  refine lv_icmp_eq (tgt := 276) hx hb dL_law_271 (by decide) (fun _ => ?_) (fun c9 => absurd rfl c9)
  refine lv_iload hx hb dL_law_276 (lv_at hl 1 rfl) ?_
  refine lv_if_ne (tgt := 293) hx hb dL_law_278 (by decide) (fun c_278 => ?_) (fun c_278 => ?_)
  · skip
    refine lv_goto (tgt := 1610) hx hb dL_law_293 (by decide) ?_
    exact K _ _ _ H locs ls (si_rate hI) hLS (lv_sub hl [2, 3, 4, 5, 6] rfl)
  · skip
    have hz := sa_n0 sa_lo.1 c_278
    refine lv_aload_n hx hb dL_law_281 rfl (lv_at hl 5 rfl) ?_
    refine lv_iconst (v := 0) hx hb dL_law_282 (by decide) ?_
    refine sa_old C0 hLS dL_law_283 ?_
    refine lv_iload hx hb dL_law_284 (lv_at hl 0 rfl) ?_
    refine lv_i2l hx hb dL_law_286 rfl ?_
    refine W.lcmp hx hb dL_law_287 ?_
    rw [sa_cmp0 (hg hz)]
    refine lv_if_eq (tgt := 293) hx hb dL_law_288 (by decide) (fun _ => ?_) (fun c9 => absurd (by decide) c9)
    refine lv_goto (tgt := 1610) hx hb dL_law_293 (by decide) ?_
    exact K _ _ _ H locs ls (si_rate hI) hLS (lv_sub hl [2, 3, 4, 5, 6] rfl)
set_option maxHeartbeats 4000000 in
set_option maxRecDepth 100000 in
theorem law_c2 {p : Program} {l : Launch} {e : Env} {s : State} {m : MethodId} {below : List Frame} {meth : Method} {c : Code} {G : va_G} {cI cZ cL : ClassId} {b0 L : Nat} {xs : Nat → Int32} {a b : Nat → Nat} {w : Nat} {σ : sa_St} {th : Int32} {g : Nat → Int64} {H : Heap} {locs : List Loc} {cells slots i : Nat} {ls : Array Slot} {Q : State → Prop} (C0 : sa_LC l p s m meth c G cI cZ cL b0 L xs a b w) (hI : sa_I σ) (hLS : sa_LS G cI cZ cL a b w σ σ th g s H locs) (hi : i + 8 ≤ L) (hc : cells + 1 ≤ 1060) (hs : slots + 6 ≤ 10008) (hl : lv_has ls 7 [(0, .ref b0), (1, .ref (a 0)), (2, .ref (b 0)), (3, .ref w), (4, .int (nI i))])
    (K : ∀ (σ : sa_St) (th : Int32) (g : Nat → Int64) (H : Heap) (locs : List Loc) (ls : Array Slot), sa_I σ → sa_LS G cI cZ cL a b w σ σ th g s H locs → lv_has ls 7 [(0, .ref b0), (1, .ref (a 0)), (2, .ref (b 0)), (3, .ref w), (4, .int (nI i))] → W p l e room_1 s m #[Value.ref b0] below meth c H locs (cells + 1) (slots + 6) Q (F0 m 1610 ls [])) : W p l e room_1 s m #[Value.ref b0] below meth c H locs cells slots Q (F0 m 296 ls []) := by
  have S := C0.1
  have hx := S.1
  have hb := S.2.1
  have hts := S.2.2.2.2
  have hK := C0.2.2.2.1
  have hst9 := C0.2.2.2.2.1.2
  have hJa := C0.2.2.2.2.2.1.1
  have hJb := C0.2.2.2.2.2.1.2
  have hw2 := C0.2.2.2.2.2.2.2.2.1.2.1
  refine lv_aload_n hx hb dL_law_296 rfl (lv_at hl 1 rfl) ?_
  refine lv_aload_n hx hb dL_law_297 rfl (lv_at hl 0 rfl) ?_
  refine lv_iload hx hb dL_law_298 (lv_at hl 4 rfl) ?_
  refine lv_iconst (v := 1) hx hb dL_law_300 (by decide) ?_
  refine sa_iaddk (j := 1) hx hb rfl dL_law_301 ?_
  refine sa_scl C0 hLS (by omega) dL_law_302 ?_
  refine lv_aload_n hx hb dL_law_303 rfl (lv_at hl 3 rfl) ?_
  refine sa_wstep (SP := (sp_air σ (xs (i + 1)))) (As := [.ref (a 0), .int (xs (i + 1)), .ref w]) (rest := []) C0 hLS (fun h => k_air_ok l G cI cZ cL a σ w g hI hJa hw2 (xs (i + 1)) h) (fun h => k_air_ex l s.heap.size hst9 G cI cZ cL a σ w hI (xs (i + 1)) h) sa_lo.2 (vx_cwSW (hh := [(0, 9, 12, 21), (0, 9, 15, 15)]) 3 hts gL_law_L_air rfl rfl rfl (by decide +kernel) ⟨Nat.le_of_ble_eq_true rfl, Nat.le_of_ble_eq_true rfl⟩) (vx_cwSW (hh := [(0, 9, 12, 21), (0, 9, 15, 15)]) 3 hts gL_law_L_air rfl rfl rfl (by decide +kernel) ⟨Nat.le_of_ble_eq_true rfl, Nat.le_of_ble_eq_true rfl⟩) rfl hl.1 (Nat.le_of_ble_eq_true rfl) rfl dL_law_304 hc hs (fun H locs g hg hLS => ?_)
  refine lv_istore (lv' := [(5, .int (nI (sp_air σ (xs (i + 1))).1)), (0, .ref b0), (1, .ref (a 0)), (2, .ref (b 0)), (3, .ref w), (4, .int (nI i))]) hx hb dL_law_307 hl (by decide) rfl (fun ls hl => ?_)
  refine lv_aload_n hx hb dL_law_309 rfl (lv_at hl 3 rfl) ?_
  refine lv_aload_n hx hb dL_law_310 rfl (lv_at hl 1 rfl) ?_
  refine lv_iload hx hb dL_law_311 (lv_at hl 5 rfl) ?_
  refine lv_iconst (v := 1) hx hb dL_law_313 (by decide) ?_
  refine sa_iaddk (j := 1) hx hb rfl dL_law_314 ?_
  refine sa_scl C0 hLS (by omega) dL_law_315 ?_
  refine sa_mstep (th2 := nI (sp_air σ (xs (i + 1))).1) (σ2 := (sp_air σ (xs (i + 1))).2.2) (As := [.int (xs (i + 1))]) (rest := []) C0 hLS (c_X1_air l G cI cZ cL b σ th hI hJb (xs (i + 1))) (cwV 1 hts gL_law_X1_air rfl rfl rfl (by decide +kernel) ⟨Nat.le_of_ble_eq_true rfl, Nat.le_of_ble_eq_true rfl⟩) rfl hl.1 (Nat.le_of_ble_eq_true rfl) rfl dL_law_316 (by omega) (by omega) (fun H locs hLS => ?_)
  refine lv_istore (lv' := [(6, .int ((sp_air σ (xs (i + 1))).2.1)), (5, .int (nI (sp_air σ (xs (i + 1))).1)), (0, .ref b0), (1, .ref (a 0)), (2, .ref (b 0)), (3, .ref w), (4, .int (nI i))]) hx hb dL_law_319 hl (by decide) rfl (fun ls hl => ?_)
  refine lv_aload_n hx hb dL_law_321 rfl (lv_at hl 4 rfl) ?_
  refine sa_kRd (As := []) (rest := []) S (c_X1_thrown l G cI cZ cL b (sp_air σ (xs (i + 1))).2.2 (nI (sp_air σ (xs (i + 1))).1)) (cwV 0 hts gL_law_X1_thrown rfl rfl rfl (by decide +kernel) ⟨Nat.le_of_ble_eq_true rfl, Nat.le_of_ble_eq_true rfl⟩) hLS.2.1 hK (ci := 1) rfl rfl rfl hl.1 (Nat.le_of_ble_eq_true rfl) rfl dL_law_322 ⟨by show cells + 1 ≤ 1060; omega, by show slots + 6 ≤ 10008; omega⟩ ?_
  refine lv_iload hx hb dL_law_325 (lv_at hl 1 rfl) ?_
  refine lv_icmp_eq (tgt := 332) hx hb dL_law_327 (by decide) (fun _ => ?_) (fun c9 => absurd rfl c9)
  refine lv_iload hx hb dL_law_332 (lv_at hl 1 rfl) ?_
  refine lv_if_ne (tgt := 349) hx hb dL_law_334 (by decide) (fun c_334 => ?_) (fun c_334 => ?_)
  · skip
    refine lv_goto (tgt := 1610) hx hb dL_law_349 (by decide) ?_
    exact K _ _ _ H locs ls (si_air hI) hLS (lv_sub hl [2, 3, 4, 5, 6] rfl)
  · skip
    have hz := sa_n0 sa_lo.1 c_334
    refine lv_aload_n hx hb dL_law_337 rfl (lv_at hl 5 rfl) ?_
    refine lv_iconst (v := 0) hx hb dL_law_338 (by decide) ?_
    refine sa_old C0 hLS dL_law_339 ?_
    refine lv_iload hx hb dL_law_340 (lv_at hl 0 rfl) ?_
    refine lv_i2l hx hb dL_law_342 rfl ?_
    refine W.lcmp hx hb dL_law_343 ?_
    rw [sa_cmp0 (hg hz)]
    refine lv_if_eq (tgt := 349) hx hb dL_law_344 (by decide) (fun _ => ?_) (fun c9 => absurd (by decide) c9)
    refine lv_goto (tgt := 1610) hx hb dL_law_349 (by decide) ?_
    exact K _ _ _ H locs ls (si_air hI) hLS (lv_sub hl [2, 3, 4, 5, 6] rfl)
set_option maxHeartbeats 4000000 in
set_option maxRecDepth 100000 in
theorem law_c3 {p : Program} {l : Launch} {e : Env} {s : State} {m : MethodId} {below : List Frame} {meth : Method} {c : Code} {G : va_G} {cI cZ cL : ClassId} {b0 L : Nat} {xs : Nat → Int32} {a b : Nat → Nat} {w : Nat} {σ : sa_St} {th : Int32} {g : Nat → Int64} {H : Heap} {locs : List Loc} {cells slots i : Nat} {ls : Array Slot} {Q : State → Prop} (C0 : sa_LC l p s m meth c G cI cZ cL b0 L xs a b w) (hI : sa_I σ) (hLS : sa_LS G cI cZ cL a b w σ σ th g s H locs) (hi : i + 8 ≤ L) (hc : cells + 1 ≤ 1060) (hs : slots + 6 ≤ 10008) (hl : lv_has ls 7 [(0, .ref b0), (1, .ref (a 0)), (2, .ref (b 0)), (3, .ref w), (4, .int (nI i))])
    (K : ∀ (σ : sa_St) (th : Int32) (g : Nat → Int64) (H : Heap) (locs : List Loc) (ls : Array Slot), sa_I σ → sa_LS G cI cZ cL a b w σ σ th g s H locs → lv_has ls 7 [(0, .ref b0), (1, .ref (a 0)), (2, .ref (b 0)), (3, .ref w), (4, .int (nI i))] → W p l e room_1 s m #[Value.ref b0] below meth c H locs (cells + 1) (slots + 6) Q (F0 m 1610 ls [])) : W p l e room_1 s m #[Value.ref b0] below meth c H locs cells slots Q (F0 m 352 ls []) := by
  have S := C0.1
  have hx := S.1
  have hb := S.2.1
  have hts := S.2.2.2.2
  have hK := C0.2.2.2.1
  have hst9 := C0.2.2.2.2.1.2
  have hJa := C0.2.2.2.2.2.1.1
  have hJb := C0.2.2.2.2.2.1.2
  have hw2 := C0.2.2.2.2.2.2.2.2.1.2.1
  refine lv_aload_n hx hb dL_law_352 rfl (lv_at hl 1 rfl) ?_
  refine sa_kRd (As := []) (rest := []) S (c_X0_breaks_ok l G cI cZ cL a σ hI) (cwV 0 hts gL_law_X0_breaks rfl rfl rfl (by decide +kernel) ⟨Nat.le_of_ble_eq_true rfl, Nat.le_of_ble_eq_true rfl⟩) hLS.1 hK (ci := 0) rfl rfl rfl hl.1 (Nat.le_of_ble_eq_true rfl) rfl dL_law_353 ⟨by show cells ≤ 1060; omega, by show slots ≤ 10008; omega⟩ ?_
  refine lv_aload_n hx hb dL_law_356 rfl (lv_at hl 2 rfl) ?_
  refine sa_mstep (th2 := 0) (σ2 := σ) (As := []) (rest := [.int (nI (σ.1 0))]) C0 hLS (c_X1_breaks l G cI cZ cL b σ th hI hJb) (cwV 0 hts gL_law_X1_breaks rfl rfl rfl (by decide +kernel) ⟨Nat.le_of_ble_eq_true rfl, Nat.le_of_ble_eq_true rfl⟩) rfl hl.1 (Nat.le_of_ble_eq_true rfl) rfl dL_law_357 (by omega) (by omega) (fun H locs hLS => ?_)
  refine lv_icmp_eq (tgt := 1610) hx hb dL_law_360 (by decide) (fun _ => ?_) (fun c9 => absurd rfl c9)
  refine W.widen (k := cells + 1) (n := slots + 6) (by omega) (by omega) ?_
  exact K _ _ _ H locs ls hI hLS (lv_sub hl [0, 1, 2, 3, 4] rfl)
set_option maxHeartbeats 4000000 in
set_option maxRecDepth 100000 in
theorem law_c4 {p : Program} {l : Launch} {e : Env} {s : State} {m : MethodId} {below : List Frame} {meth : Method} {c : Code} {G : va_G} {cI cZ cL : ClassId} {b0 L : Nat} {xs : Nat → Int32} {a b : Nat → Nat} {w : Nat} {σ : sa_St} {th : Int32} {g : Nat → Int64} {H : Heap} {locs : List Loc} {cells slots i : Nat} {ls : Array Slot} {Q : State → Prop} (C0 : sa_LC l p s m meth c G cI cZ cL b0 L xs a b w) (hI : sa_I σ) (hLS : sa_LS G cI cZ cL a b w σ σ th g s H locs) (hi : i + 8 ≤ L) (hc : cells + 1 ≤ 1060) (hs : slots + 6 ≤ 10008) (hl : lv_has ls 7 [(0, .ref b0), (1, .ref (a 0)), (2, .ref (b 0)), (3, .ref w), (4, .int (nI i))])
    (K : ∀ (σ : sa_St) (th : Int32) (g : Nat → Int64) (H : Heap) (locs : List Loc) (ls : Array Slot), sa_I σ → sa_LS G cI cZ cL a b w σ σ th g s H locs → lv_has ls 7 [(0, .ref b0), (1, .ref (a 0)), (2, .ref (b 0)), (3, .ref w), (4, .int (nI i))] → W p l e room_1 s m #[Value.ref b0] below meth c H locs (cells + 1) (slots + 6) Q (F0 m 1610 ls [])) : W p l e room_1 s m #[Value.ref b0] below meth c H locs cells slots Q (F0 m 365 ls []) := by
  have S := C0.1
  have hx := S.1
  have hb := S.2.1
  have hts := S.2.2.2.2
  have hK := C0.2.2.2.1
  have hst9 := C0.2.2.2.2.1.2
  have hJa := C0.2.2.2.2.2.1.1
  have hJb := C0.2.2.2.2.2.1.2
  have hw2 := C0.2.2.2.2.2.2.2.2.1.2.1
  refine lv_aload_n hx hb dL_law_365 rfl (lv_at hl 1 rfl) ?_
  refine lv_aload_n hx hb dL_law_366 rfl (lv_at hl 0 rfl) ?_
  refine lv_iload hx hb dL_law_367 (lv_at hl 4 rfl) ?_
  refine lv_iconst (v := 1) hx hb dL_law_369 (by decide) ?_
  refine sa_iaddk (j := 1) hx hb rfl dL_law_370 ?_
  refine sa_scl C0 hLS (by omega) dL_law_371 ?_
  refine lv_aload_n hx hb dL_law_372 rfl (lv_at hl 3 rfl) ?_
  refine sa_wstep (SP := (sp_isAired σ (xs (i + 1)))) (As := [.ref (a 0), .int (xs (i + 1)), .ref w]) (rest := []) C0 hLS (fun h => k_isAired_ok l G cI cZ cL a σ w g hI hJa hw2 (xs (i + 1)) h) (fun h => k_isAired_ex l s.heap.size hst9 G cI cZ cL a σ w hI (xs (i + 1)) h) sa_lo.2 (vx_cwSW (hh := [(0, 16, 19, 21)]) 3 hts gL_law_L_isAired rfl rfl rfl (by decide +kernel) ⟨Nat.le_of_ble_eq_true rfl, Nat.le_of_ble_eq_true rfl⟩) (vx_cwSW (hh := [(0, 16, 19, 21)]) 3 hts gL_law_L_isAired rfl rfl rfl (by decide +kernel) ⟨Nat.le_of_ble_eq_true rfl, Nat.le_of_ble_eq_true rfl⟩) rfl hl.1 (Nat.le_of_ble_eq_true rfl) rfl dL_law_373 hc hs (fun H locs g hg hLS => ?_)
  refine lv_istore (lv' := [(5, .int (nI (sp_isAired σ (xs (i + 1))).1)), (0, .ref b0), (1, .ref (a 0)), (2, .ref (b 0)), (3, .ref w), (4, .int (nI i))]) hx hb dL_law_376 hl (by decide) rfl (fun ls hl => ?_)
  refine lv_aload_n hx hb dL_law_378 rfl (lv_at hl 3 rfl) ?_
  refine lv_aload_n hx hb dL_law_379 rfl (lv_at hl 1 rfl) ?_
  refine lv_iload hx hb dL_law_380 (lv_at hl 5 rfl) ?_
  refine lv_iconst (v := 1) hx hb dL_law_382 (by decide) ?_
  refine sa_iaddk (j := 1) hx hb rfl dL_law_383 ?_
  refine sa_scl C0 hLS (by omega) dL_law_384 ?_
  refine sa_mstep (th2 := nI (sp_isAired σ (xs (i + 1))).1) (σ2 := (sp_isAired σ (xs (i + 1))).2.2) (As := [.int (xs (i + 1))]) (rest := []) C0 hLS (c_X1_isAired l G cI cZ cL b σ th hI hJb (xs (i + 1))) (cwV 1 hts gL_law_X1_isAired rfl rfl rfl (by decide +kernel) ⟨Nat.le_of_ble_eq_true rfl, Nat.le_of_ble_eq_true rfl⟩) rfl hl.1 (Nat.le_of_ble_eq_true rfl) rfl dL_law_385 (by omega) (by omega) (fun H locs hLS => ?_)
  refine lv_istore (lv' := [(6, .int ((sp_isAired σ (xs (i + 1))).2.1)), (5, .int (nI (sp_isAired σ (xs (i + 1))).1)), (0, .ref b0), (1, .ref (a 0)), (2, .ref (b 0)), (3, .ref w), (4, .int (nI i))]) hx hb dL_law_388 hl (by decide) rfl (fun ls hl => ?_)
  refine lv_aload_n hx hb dL_law_390 rfl (lv_at hl 4 rfl) ?_
  refine sa_kRd (As := []) (rest := []) S (c_X1_thrown l G cI cZ cL b (sp_isAired σ (xs (i + 1))).2.2 (nI (sp_isAired σ (xs (i + 1))).1)) (cwV 0 hts gL_law_X1_thrown rfl rfl rfl (by decide +kernel) ⟨Nat.le_of_ble_eq_true rfl, Nat.le_of_ble_eq_true rfl⟩) hLS.2.1 hK (ci := 1) rfl rfl rfl hl.1 (Nat.le_of_ble_eq_true rfl) rfl dL_law_391 ⟨by show cells + 1 ≤ 1060; omega, by show slots + 6 ≤ 10008; omega⟩ ?_
  refine lv_iload hx hb dL_law_394 (lv_at hl 1 rfl) ?_
  refine lv_icmp_eq (tgt := 401) hx hb dL_law_396 (by decide) (fun _ => ?_) (fun c9 => absurd rfl c9)
  refine lv_iload hx hb dL_law_401 (lv_at hl 1 rfl) ?_
  refine lv_if_ne (tgt := 425) hx hb dL_law_403 (by decide) (fun c_403 => ?_) (fun c_403 => ?_)
  · skip
    refine lv_goto (tgt := 1610) hx hb dL_law_425 (by decide) ?_
    exact K _ _ _ H locs ls (si_isAired hI) hLS (lv_sub hl [2, 3, 4, 5, 6] rfl)
  · skip
    have hz := sa_n0 sa_lo.1 c_403
    refine lv_aload_n hx hb dL_law_406 rfl (lv_at hl 5 rfl) ?_
    refine lv_iconst (v := 0) hx hb dL_law_407 (by decide) ?_
    refine sa_old C0 hLS dL_law_408 ?_
    refine lv_iload hx hb dL_law_409 (lv_at hl 0 rfl) ?_
    refine lv_if_eq (tgt := 418) hx hb dL_law_411 (by decide) (fun c_411 => ?_) (fun c_411 => ?_)
    · skip
      refine lv_lconst (v := 0) hx hb dL_law_418 (by decide) ?_
      refine W.lcmp hx hb dL_law_419 ?_
      rw [sa_cmp0 (x := g 0) (y := 0) ((hg hz).trans (by rw [c_411]; rfl))]
      refine lv_if_eq (tgt := 425) hx hb dL_law_420 (by decide) (fun _ => ?_) (fun c9 => absurd (by decide) c9)
      refine lv_goto (tgt := 1610) hx hb dL_law_425 (by decide) ?_
      exact K _ _ _ H locs ls (si_isAired hI) hLS (lv_sub hl [2, 3, 4, 5, 6] rfl)
    · skip
      refine lv_lconst (v := 1) hx hb dL_law_414 (by decide) ?_
      refine lv_goto (tgt := 419) hx hb dL_law_415 (by decide) ?_
      refine W.lcmp hx hb dL_law_419 ?_
      rw [sa_cmp0 (x := g 0) (y := 1) ((hg hz).trans (by rw [Or.resolve_left (sb_isAired hI hz) c_411]; rfl))]
      refine lv_if_eq (tgt := 425) hx hb dL_law_420 (by decide) (fun _ => ?_) (fun c9 => absurd (by decide) c9)
      refine lv_goto (tgt := 1610) hx hb dL_law_425 (by decide) ?_
      exact K _ _ _ H locs ls (si_isAired hI) hLS (lv_sub hl [2, 3, 4, 5, 6] rfl)
set_option maxHeartbeats 4000000 in
set_option maxRecDepth 100000 in
theorem law_c5 {p : Program} {l : Launch} {e : Env} {s : State} {m : MethodId} {below : List Frame} {meth : Method} {c : Code} {G : va_G} {cI cZ cL : ClassId} {b0 L : Nat} {xs : Nat → Int32} {a b : Nat → Nat} {w : Nat} {σ : sa_St} {th : Int32} {g : Nat → Int64} {H : Heap} {locs : List Loc} {cells slots i : Nat} {ls : Array Slot} {Q : State → Prop} (C0 : sa_LC l p s m meth c G cI cZ cL b0 L xs a b w) (hI : sa_I σ) (hLS : sa_LS G cI cZ cL a b w σ σ th g s H locs) (hi : i + 8 ≤ L) (hc : cells + 1 ≤ 1060) (hs : slots + 6 ≤ 10008) (hl : lv_has ls 7 [(0, .ref b0), (1, .ref (a 0)), (2, .ref (b 0)), (3, .ref w), (4, .int (nI i))])
    (K : ∀ (σ : sa_St) (th : Int32) (g : Nat → Int64) (H : Heap) (locs : List Loc) (ls : Array Slot), sa_I σ → sa_LS G cI cZ cL a b w σ σ th g s H locs → lv_has ls 7 [(0, .ref b0), (1, .ref (a 0)), (2, .ref (b 0)), (3, .ref w), (4, .int (nI i))] → W p l e room_1 s m #[Value.ref b0] below meth c H locs (cells + 1) (slots + 6) Q (F0 m 1610 ls [])) : W p l e room_1 s m #[Value.ref b0] below meth c H locs cells slots Q (F0 m 428 ls []) := by
  have S := C0.1
  have hx := S.1
  have hb := S.2.1
  have hts := S.2.2.2.2
  have hK := C0.2.2.2.1
  have hst9 := C0.2.2.2.2.1.2
  have hJa := C0.2.2.2.2.2.1.1
  have hJb := C0.2.2.2.2.2.1.2
  have hw2 := C0.2.2.2.2.2.2.2.2.1.2.1
  refine lv_aload_n hx hb dL_law_428 rfl (lv_at hl 1 rfl) ?_
  refine lv_aload_n hx hb dL_law_429 rfl (lv_at hl 0 rfl) ?_
  refine lv_iload hx hb dL_law_430 (lv_at hl 4 rfl) ?_
  refine lv_iconst (v := 1) hx hb dL_law_432 (by decide) ?_
  refine sa_iaddk (j := 1) hx hb rfl dL_law_433 ?_
  refine sa_scl C0 hLS (by omega) dL_law_434 ?_
  refine lv_aload_n hx hb dL_law_435 rfl (lv_at hl 3 rfl) ?_
  refine sa_wstep (SP := (sp_room σ (xs (i + 1)))) (As := [.ref (a 0), .int (xs (i + 1)), .ref w]) (rest := []) C0 hLS (fun h => k_room_ok l G cI cZ cL a σ w g hI hJa hw2 (xs (i + 1)) h) (fun h => k_room_ex l s.heap.size hst9 G cI cZ cL a σ w hI (xs (i + 1)) h) sa_lo.2 (vx_cwSW (hh := [(0, 9, 12, 21)]) 3 hts gL_law_L_room rfl rfl rfl (by decide +kernel) ⟨Nat.le_of_ble_eq_true rfl, Nat.le_of_ble_eq_true rfl⟩) (vx_cwSW (hh := [(0, 9, 12, 21)]) 3 hts gL_law_L_room rfl rfl rfl (by decide +kernel) ⟨Nat.le_of_ble_eq_true rfl, Nat.le_of_ble_eq_true rfl⟩) rfl hl.1 (Nat.le_of_ble_eq_true rfl) rfl dL_law_436 hc hs (fun H locs g hg hLS => ?_)
  refine lv_istore (lv' := [(5, .int (nI (sp_room σ (xs (i + 1))).1)), (0, .ref b0), (1, .ref (a 0)), (2, .ref (b 0)), (3, .ref w), (4, .int (nI i))]) hx hb dL_law_439 hl (by decide) rfl (fun ls hl => ?_)
  refine lv_aload_n hx hb dL_law_441 rfl (lv_at hl 3 rfl) ?_
  refine lv_aload_n hx hb dL_law_442 rfl (lv_at hl 1 rfl) ?_
  refine lv_iload hx hb dL_law_443 (lv_at hl 5 rfl) ?_
  refine lv_iconst (v := 1) hx hb dL_law_445 (by decide) ?_
  refine sa_iaddk (j := 1) hx hb rfl dL_law_446 ?_
  refine sa_scl C0 hLS (by omega) dL_law_447 ?_
  refine sa_mstep (th2 := nI (sp_room σ (xs (i + 1))).1) (σ2 := (sp_room σ (xs (i + 1))).2.2) (As := [.int (xs (i + 1))]) (rest := []) C0 hLS (c_X1_room l G cI cZ cL b σ th hI hJb (xs (i + 1))) (cwV 1 hts gL_law_X1_room rfl rfl rfl (by decide +kernel) ⟨Nat.le_of_ble_eq_true rfl, Nat.le_of_ble_eq_true rfl⟩) rfl hl.1 (Nat.le_of_ble_eq_true rfl) rfl dL_law_448 (by omega) (by omega) (fun H locs hLS => ?_)
  refine lv_istore (lv' := [(6, .int ((sp_room σ (xs (i + 1))).2.1)), (5, .int (nI (sp_room σ (xs (i + 1))).1)), (0, .ref b0), (1, .ref (a 0)), (2, .ref (b 0)), (3, .ref w), (4, .int (nI i))]) hx hb dL_law_451 hl (by decide) rfl (fun ls hl => ?_)
  refine lv_aload_n hx hb dL_law_453 rfl (lv_at hl 4 rfl) ?_
  refine sa_kRd (As := []) (rest := []) S (c_X1_thrown l G cI cZ cL b (sp_room σ (xs (i + 1))).2.2 (nI (sp_room σ (xs (i + 1))).1)) (cwV 0 hts gL_law_X1_thrown rfl rfl rfl (by decide +kernel) ⟨Nat.le_of_ble_eq_true rfl, Nat.le_of_ble_eq_true rfl⟩) hLS.2.1 hK (ci := 1) rfl rfl rfl hl.1 (Nat.le_of_ble_eq_true rfl) rfl dL_law_454 ⟨by show cells + 1 ≤ 1060; omega, by show slots + 6 ≤ 10008; omega⟩ ?_
  refine lv_iload hx hb dL_law_457 (lv_at hl 1 rfl) ?_
  refine lv_icmp_eq (tgt := 464) hx hb dL_law_459 (by decide) (fun _ => ?_) (fun c9 => absurd rfl c9)
  refine lv_iload hx hb dL_law_464 (lv_at hl 1 rfl) ?_
  refine lv_if_ne (tgt := 481) hx hb dL_law_466 (by decide) (fun c_466 => ?_) (fun c_466 => ?_)
  · skip
    refine lv_goto (tgt := 1610) hx hb dL_law_481 (by decide) ?_
    exact K _ _ _ H locs ls (si_room hI) hLS (lv_sub hl [2, 3, 4, 5, 6] rfl)
  · skip
    have hz := sa_n0 sa_lo.1 c_466
    refine lv_aload_n hx hb dL_law_469 rfl (lv_at hl 5 rfl) ?_
    refine lv_iconst (v := 0) hx hb dL_law_470 (by decide) ?_
    refine sa_old C0 hLS dL_law_471 ?_
    refine lv_iload hx hb dL_law_472 (lv_at hl 0 rfl) ?_
    refine lv_i2l hx hb dL_law_474 rfl ?_
    refine W.lcmp hx hb dL_law_475 ?_
    rw [sa_cmp0 (hg hz)]
    refine lv_if_eq (tgt := 481) hx hb dL_law_476 (by decide) (fun _ => ?_) (fun c9 => absurd (by decide) c9)
    refine lv_goto (tgt := 1610) hx hb dL_law_481 (by decide) ?_
    exact K _ _ _ H locs ls (si_room hI) hLS (lv_sub hl [2, 3, 4, 5, 6] rfl)
set_option maxHeartbeats 4000000 in
set_option maxRecDepth 100000 in
theorem law_c6 {p : Program} {l : Launch} {e : Env} {s : State} {m : MethodId} {below : List Frame} {meth : Method} {c : Code} {G : va_G} {cI cZ cL : ClassId} {b0 L : Nat} {xs : Nat → Int32} {a b : Nat → Nat} {w : Nat} {σ : sa_St} {th : Int32} {g : Nat → Int64} {H : Heap} {locs : List Loc} {cells slots i : Nat} {ls : Array Slot} {Q : State → Prop} (C0 : sa_LC l p s m meth c G cI cZ cL b0 L xs a b w) (hI : sa_I σ) (hLS : sa_LS G cI cZ cL a b w σ σ th g s H locs) (hi : i + 8 ≤ L) (hc : cells + 1 ≤ 1060) (hs : slots + 6 ≤ 10008) (hl : lv_has ls 7 [(0, .ref b0), (1, .ref (a 0)), (2, .ref (b 0)), (3, .ref w), (4, .int (nI i))])
    (K : ∀ (σ : sa_St) (th : Int32) (g : Nat → Int64) (H : Heap) (locs : List Loc) (ls : Array Slot), sa_I σ → sa_LS G cI cZ cL a b w σ σ th g s H locs → lv_has ls 7 [(0, .ref b0), (1, .ref (a 0)), (2, .ref (b 0)), (3, .ref w), (4, .int (nI i))] → W p l e room_1 s m #[Value.ref b0] below meth c H locs (cells + 1) (slots + 6) Q (F0 m 1610 ls [])) : W p l e room_1 s m #[Value.ref b0] below meth c H locs cells slots Q (F0 m 484 ls []) := by
  have S := C0.1
  have hx := S.1
  have hb := S.2.1
  have hts := S.2.2.2.2
  have hK := C0.2.2.2.1
  have hst9 := C0.2.2.2.2.1.2
  have hJa := C0.2.2.2.2.2.1.1
  have hJb := C0.2.2.2.2.2.1.2
  have hw2 := C0.2.2.2.2.2.2.2.2.1.2.1
  refine lv_aload_n hx hb dL_law_484 rfl (lv_at hl 1 rfl) ?_
  refine lv_aload_n hx hb dL_law_485 rfl (lv_at hl 0 rfl) ?_
  refine lv_iload hx hb dL_law_486 (lv_at hl 4 rfl) ?_
  refine lv_iconst (v := 1) hx hb dL_law_488 (by decide) ?_
  refine sa_iaddk (j := 1) hx hb rfl dL_law_489 ?_
  refine sa_scl C0 hLS (by omega) dL_law_490 ?_
  refine lv_aload_n hx hb dL_law_491 rfl (lv_at hl 0 rfl) ?_
  refine lv_iload hx hb dL_law_492 (lv_at hl 4 rfl) ?_
  refine lv_iconst (v := 2) hx hb dL_law_494 (by decide) ?_
  refine sa_iaddk (j := 2) hx hb rfl dL_law_495 ?_
  refine sa_scl C0 hLS (by omega) dL_law_496 ?_
  refine lv_aload_n hx hb dL_law_497 rfl (lv_at hl 3 rfl) ?_
  refine sa_wstep (SP := (sp_rating σ (xs (i + 1)) (xs (i + 2)))) (As := [.ref (a 0), .int (xs (i + 1)), .int (xs (i + 2)), .ref w]) (rest := []) C0 hLS (fun h => k_rating_ok l G cI cZ cL a σ w g hI hJa hw2 (xs (i + 1)) (xs (i + 2)) h) (fun h => k_rating_ex l s.heap.size hst9 G cI cZ cL a σ w hI (xs (i + 1)) (xs (i + 2)) h) sa_lo.2 (vx_cwSW (hh := [(0, 10, 13, 21), (0, 10, 17, 13)]) 4 hts gL_law_L_rating rfl rfl rfl (by decide +kernel) ⟨Nat.le_of_ble_eq_true rfl, Nat.le_of_ble_eq_true rfl⟩) (vx_cwSW (hh := [(0, 10, 13, 21), (0, 10, 17, 13)]) 4 hts gL_law_L_rating rfl rfl rfl (by decide +kernel) ⟨Nat.le_of_ble_eq_true rfl, Nat.le_of_ble_eq_true rfl⟩) rfl hl.1 (Nat.le_of_ble_eq_true rfl) rfl dL_law_498 hc hs (fun H locs g hg hLS => ?_)
  refine lv_istore (lv' := [(5, .int (nI (sp_rating σ (xs (i + 1)) (xs (i + 2))).1)), (0, .ref b0), (1, .ref (a 0)), (2, .ref (b 0)), (3, .ref w), (4, .int (nI i))]) hx hb dL_law_501 hl (by decide) rfl (fun ls hl => ?_)
  refine lv_aload_n hx hb dL_law_503 rfl (lv_at hl 3 rfl) ?_
  refine lv_aload_n hx hb dL_law_504 rfl (lv_at hl 1 rfl) ?_
  refine lv_iload hx hb dL_law_505 (lv_at hl 5 rfl) ?_
  refine lv_iconst (v := 1) hx hb dL_law_507 (by decide) ?_
  refine sa_iaddk (j := 1) hx hb rfl dL_law_508 ?_
  refine sa_scl C0 hLS (by omega) dL_law_509 ?_
  refine lv_aload_n hx hb dL_law_510 rfl (lv_at hl 1 rfl) ?_
  refine lv_iload hx hb dL_law_511 (lv_at hl 5 rfl) ?_
  refine lv_iconst (v := 2) hx hb dL_law_513 (by decide) ?_
  refine sa_iaddk (j := 2) hx hb rfl dL_law_514 ?_
  refine sa_scl C0 hLS (by omega) dL_law_515 ?_
  refine sa_mstep (th2 := nI (sp_rating σ (xs (i + 1)) (xs (i + 2))).1) (σ2 := (sp_rating σ (xs (i + 1)) (xs (i + 2))).2.2) (As := [.int (xs (i + 1)), .int (xs (i + 2))]) (rest := []) C0 hLS (c_X1_rating l G cI cZ cL b σ th hI hJb (xs (i + 1)) (xs (i + 2))) (cwV 2 hts gL_law_X1_rating rfl rfl rfl (by decide +kernel) ⟨Nat.le_of_ble_eq_true rfl, Nat.le_of_ble_eq_true rfl⟩) rfl hl.1 (Nat.le_of_ble_eq_true rfl) rfl dL_law_516 (by omega) (by omega) (fun H locs hLS => ?_)
  refine lv_istore (lv' := [(6, .int ((sp_rating σ (xs (i + 1)) (xs (i + 2))).2.1)), (5, .int (nI (sp_rating σ (xs (i + 1)) (xs (i + 2))).1)), (0, .ref b0), (1, .ref (a 0)), (2, .ref (b 0)), (3, .ref w), (4, .int (nI i))]) hx hb dL_law_519 hl (by decide) rfl (fun ls hl => ?_)
  refine lv_aload_n hx hb dL_law_521 rfl (lv_at hl 4 rfl) ?_
  refine sa_kRd (As := []) (rest := []) S (c_X1_thrown l G cI cZ cL b (sp_rating σ (xs (i + 1)) (xs (i + 2))).2.2 (nI (sp_rating σ (xs (i + 1)) (xs (i + 2))).1)) (cwV 0 hts gL_law_X1_thrown rfl rfl rfl (by decide +kernel) ⟨Nat.le_of_ble_eq_true rfl, Nat.le_of_ble_eq_true rfl⟩) hLS.2.1 hK (ci := 1) rfl rfl rfl hl.1 (Nat.le_of_ble_eq_true rfl) rfl dL_law_522 ⟨by show cells + 1 ≤ 1060; omega, by show slots + 6 ≤ 10008; omega⟩ ?_
  refine lv_iload hx hb dL_law_525 (lv_at hl 1 rfl) ?_
  refine lv_icmp_eq (tgt := 532) hx hb dL_law_527 (by decide) (fun _ => ?_) (fun c9 => absurd rfl c9)
  refine lv_iload hx hb dL_law_532 (lv_at hl 1 rfl) ?_
  refine lv_if_ne (tgt := 549) hx hb dL_law_534 (by decide) (fun c_534 => ?_) (fun c_534 => ?_)
  · skip
    refine lv_goto (tgt := 1610) hx hb dL_law_549 (by decide) ?_
    exact K _ _ _ H locs ls (si_rating hI) hLS (lv_sub hl [2, 3, 4, 5, 6] rfl)
  · skip
    have hz := sa_n0 sa_lo.1 c_534
    refine lv_aload_n hx hb dL_law_537 rfl (lv_at hl 5 rfl) ?_
    refine lv_iconst (v := 0) hx hb dL_law_538 (by decide) ?_
    refine sa_old C0 hLS dL_law_539 ?_
    refine lv_iload hx hb dL_law_540 (lv_at hl 0 rfl) ?_
    refine lv_i2l hx hb dL_law_542 rfl ?_
    refine W.lcmp hx hb dL_law_543 ?_
    rw [sa_cmp0 (hg hz)]
    refine lv_if_eq (tgt := 549) hx hb dL_law_544 (by decide) (fun _ => ?_) (fun c9 => absurd (by decide) c9)
    refine lv_goto (tgt := 1610) hx hb dL_law_549 (by decide) ?_
    exact K _ _ _ H locs ls (si_rating hI) hLS (lv_sub hl [2, 3, 4, 5, 6] rfl)
set_option maxHeartbeats 4000000 in
set_option maxRecDepth 100000 in
theorem law_c7 {p : Program} {l : Launch} {e : Env} {s : State} {m : MethodId} {below : List Frame} {meth : Method} {c : Code} {G : va_G} {cI cZ cL : ClassId} {b0 L : Nat} {xs : Nat → Int32} {a b : Nat → Nat} {w : Nat} {σ : sa_St} {th : Int32} {g : Nat → Int64} {H : Heap} {locs : List Loc} {cells slots i : Nat} {ls : Array Slot} {Q : State → Prop} (C0 : sa_LC l p s m meth c G cI cZ cL b0 L xs a b w) (hI : sa_I σ) (hLS : sa_LS G cI cZ cL a b w σ σ th g s H locs) (hi : i + 8 ≤ L) (hc : cells + 1 ≤ 1060) (hs : slots + 6 ≤ 10008) (hl : lv_has ls 7 [(0, .ref b0), (1, .ref (a 0)), (2, .ref (b 0)), (3, .ref w), (4, .int (nI i))])
    (K : ∀ (σ : sa_St) (th : Int32) (g : Nat → Int64) (H : Heap) (locs : List Loc) (ls : Array Slot), sa_I σ → sa_LS G cI cZ cL a b w σ σ th g s H locs → lv_has ls 7 [(0, .ref b0), (1, .ref (a 0)), (2, .ref (b 0)), (3, .ref w), (4, .int (nI i))] → W p l e room_1 s m #[Value.ref b0] below meth c H locs (cells + 1) (slots + 6) Q (F0 m 1610 ls [])) : W p l e room_1 s m #[Value.ref b0] below meth c H locs cells slots Q (F0 m 552 ls []) := by
  have S := C0.1
  have hx := S.1
  have hb := S.2.1
  have hts := S.2.2.2.2
  have hK := C0.2.2.2.1
  have hst9 := C0.2.2.2.2.1.2
  have hJa := C0.2.2.2.2.2.1.1
  have hJb := C0.2.2.2.2.2.1.2
  have hw2 := C0.2.2.2.2.2.2.2.2.1.2.1
  refine lv_aload_n hx hb dL_law_552 rfl (lv_at hl 1 rfl) ?_
  refine lv_aload_n hx hb dL_law_553 rfl (lv_at hl 0 rfl) ?_
  refine lv_iload hx hb dL_law_554 (lv_at hl 4 rfl) ?_
  refine lv_iconst (v := 1) hx hb dL_law_556 (by decide) ?_
  refine sa_iaddk (j := 1) hx hb rfl dL_law_557 ?_
  refine sa_scl C0 hLS (by omega) dL_law_558 ?_
  refine lv_aload_n hx hb dL_law_559 rfl (lv_at hl 0 rfl) ?_
  refine lv_iload hx hb dL_law_560 (lv_at hl 4 rfl) ?_
  refine lv_iconst (v := 2) hx hb dL_law_562 (by decide) ?_
  refine sa_iaddk (j := 2) hx hb rfl dL_law_563 ?_
  refine sa_scl C0 hLS (by omega) dL_law_564 ?_
  refine lv_aload_n hx hb dL_law_565 rfl (lv_at hl 0 rfl) ?_
  refine lv_iload hx hb dL_law_566 (lv_at hl 4 rfl) ?_
  refine lv_iconst (v := 3) hx hb dL_law_568 (by decide) ?_
  refine sa_iaddk (j := 3) hx hb rfl dL_law_569 ?_
  refine sa_scl C0 hLS (by omega) dL_law_570 ?_
  refine lv_aload_n hx hb dL_law_571 rfl (lv_at hl 0 rfl) ?_
  refine lv_iload hx hb dL_law_572 (lv_at hl 4 rfl) ?_
  refine lv_iconst (v := 4) hx hb dL_law_574 (by decide) ?_
  refine sa_iaddk (j := 4) hx hb rfl dL_law_575 ?_
  refine sa_scl C0 hLS (by omega) dL_law_576 ?_
  refine lv_aload_n hx hb dL_law_577 rfl (lv_at hl 0 rfl) ?_
  refine lv_iload hx hb dL_law_578 (lv_at hl 4 rfl) ?_
  refine lv_iconst (v := 5) hx hb dL_law_580 (by decide) ?_
  refine sa_iaddk (j := 5) hx hb rfl dL_law_581 ?_
  refine sa_scl C0 hLS (by omega) dL_law_582 ?_
  refine lv_aload_n hx hb dL_law_583 rfl (lv_at hl 0 rfl) ?_
  refine lv_iload hx hb dL_law_584 (lv_at hl 4 rfl) ?_
  refine lv_bipush (v := 6) hx hb dL_law_586 (by decide) ?_
  refine sa_iaddk (j := 6) hx hb rfl dL_law_588 ?_
  refine sa_scl C0 hLS (by omega) dL_law_589 ?_
  refine lv_aload_n hx hb dL_law_590 rfl (lv_at hl 0 rfl) ?_
  refine lv_iload hx hb dL_law_591 (lv_at hl 4 rfl) ?_
  refine lv_bipush (v := 7) hx hb dL_law_593 (by decide) ?_
  refine sa_iaddk (j := 7) hx hb rfl dL_law_595 ?_
  refine sa_scl C0 hLS (by omega) dL_law_596 ?_
  refine lv_aload_n hx hb dL_law_597 rfl (lv_at hl 3 rfl) ?_
  refine sa_wstep (SP := (sp_addOrder σ (xs (i + 1)) (xs (i + 2)) (xs (i + 3)) (xs (i + 4)) (xs (i + 5)) (xs (i + 6)) (xs (i + 7)))) (As := [.ref (a 0), .int (xs (i + 1)), .int (xs (i + 2)), .int (xs (i + 3)), .int (xs (i + 4)), .int (xs (i + 5)), .int (xs (i + 6)), .int (xs (i + 7)), .ref w]) (rest := []) C0 hLS (fun h => k_addOrder_ok l G cI cZ cL a σ w g hI hJa hw2 (xs (i + 1)) (xs (i + 2)) (xs (i + 3)) (xs (i + 4)) (xs (i + 5)) (xs (i + 6)) (xs (i + 7)) h) (fun h => k_addOrder_ex l s.heap.size hst9 G cI cZ cL a σ w hI (xs (i + 1)) (xs (i + 2)) (xs (i + 3)) (xs (i + 4)) (xs (i + 5)) (xs (i + 6)) (xs (i + 7)) h) sa_lo.2 (vx_cwSW (hh := [(0, 20, 23, 13), (0, 20, 27, 15)]) 9 hts gL_law_L_addOrder rfl rfl rfl (by decide +kernel) ⟨Nat.le_of_ble_eq_true rfl, Nat.le_of_ble_eq_true rfl⟩) (vx_cwSW (hh := [(0, 20, 23, 13), (0, 20, 27, 15)]) 9 hts gL_law_L_addOrder rfl rfl rfl (by decide +kernel) ⟨Nat.le_of_ble_eq_true rfl, Nat.le_of_ble_eq_true rfl⟩) rfl hl.1 (Nat.le_of_ble_eq_true rfl) rfl dL_law_598 hc hs (fun H locs g hg hLS => ?_)
  refine lv_istore (lv' := [(5, .int (nI (sp_addOrder σ (xs (i + 1)) (xs (i + 2)) (xs (i + 3)) (xs (i + 4)) (xs (i + 5)) (xs (i + 6)) (xs (i + 7))).1)), (0, .ref b0), (1, .ref (a 0)), (2, .ref (b 0)), (3, .ref w), (4, .int (nI i))]) hx hb dL_law_601 hl (by decide) rfl (fun ls hl => ?_)
  refine lv_aload_n hx hb dL_law_603 rfl (lv_at hl 3 rfl) ?_
  refine lv_aload_n hx hb dL_law_604 rfl (lv_at hl 1 rfl) ?_
  refine lv_iload hx hb dL_law_605 (lv_at hl 5 rfl) ?_
  refine lv_iconst (v := 1) hx hb dL_law_607 (by decide) ?_
  refine sa_iaddk (j := 1) hx hb rfl dL_law_608 ?_
  refine sa_scl C0 hLS (by omega) dL_law_609 ?_
  refine lv_aload_n hx hb dL_law_610 rfl (lv_at hl 1 rfl) ?_
  refine lv_iload hx hb dL_law_611 (lv_at hl 5 rfl) ?_
  refine lv_iconst (v := 2) hx hb dL_law_613 (by decide) ?_
  refine sa_iaddk (j := 2) hx hb rfl dL_law_614 ?_
  refine sa_scl C0 hLS (by omega) dL_law_615 ?_
  refine lv_aload_n hx hb dL_law_616 rfl (lv_at hl 1 rfl) ?_
  refine lv_iload hx hb dL_law_617 (lv_at hl 5 rfl) ?_
  refine lv_iconst (v := 3) hx hb dL_law_619 (by decide) ?_
  refine sa_iaddk (j := 3) hx hb rfl dL_law_620 ?_
  refine sa_scl C0 hLS (by omega) dL_law_621 ?_
  refine lv_aload_n hx hb dL_law_622 rfl (lv_at hl 1 rfl) ?_
  refine lv_iload hx hb dL_law_623 (lv_at hl 5 rfl) ?_
  refine lv_iconst (v := 4) hx hb dL_law_625 (by decide) ?_
  refine sa_iaddk (j := 4) hx hb rfl dL_law_626 ?_
  refine sa_scl C0 hLS (by omega) dL_law_627 ?_
  refine lv_aload_n hx hb dL_law_628 rfl (lv_at hl 1 rfl) ?_
  refine lv_iload hx hb dL_law_629 (lv_at hl 5 rfl) ?_
  refine lv_iconst (v := 5) hx hb dL_law_631 (by decide) ?_
  refine sa_iaddk (j := 5) hx hb rfl dL_law_632 ?_
  refine sa_scl C0 hLS (by omega) dL_law_633 ?_
  refine lv_aload_n hx hb dL_law_634 rfl (lv_at hl 1 rfl) ?_
  refine lv_iload hx hb dL_law_635 (lv_at hl 5 rfl) ?_
  refine lv_bipush (v := 6) hx hb dL_law_637 (by decide) ?_
  refine sa_iaddk (j := 6) hx hb rfl dL_law_639 ?_
  refine sa_scl C0 hLS (by omega) dL_law_640 ?_
  refine lv_aload_n hx hb dL_law_641 rfl (lv_at hl 1 rfl) ?_
  refine lv_iload hx hb dL_law_642 (lv_at hl 5 rfl) ?_
  refine lv_bipush (v := 7) hx hb dL_law_644 (by decide) ?_
  refine sa_iaddk (j := 7) hx hb rfl dL_law_646 ?_
  refine sa_scl C0 hLS (by omega) dL_law_647 ?_
  refine sa_mstep (th2 := nI (sp_addOrder σ (xs (i + 1)) (xs (i + 2)) (xs (i + 3)) (xs (i + 4)) (xs (i + 5)) (xs (i + 6)) (xs (i + 7))).1) (σ2 := (sp_addOrder σ (xs (i + 1)) (xs (i + 2)) (xs (i + 3)) (xs (i + 4)) (xs (i + 5)) (xs (i + 6)) (xs (i + 7))).2.2) (As := [.int (xs (i + 1)), .int (xs (i + 2)), .int (xs (i + 3)), .int (xs (i + 4)), .int (xs (i + 5)), .int (xs (i + 6)), .int (xs (i + 7))]) (rest := []) C0 hLS (c_X1_addOrder l G cI cZ cL b σ th hI hJb (xs (i + 1)) (xs (i + 2)) (xs (i + 3)) (xs (i + 4)) (xs (i + 5)) (xs (i + 6)) (xs (i + 7))) (cwV 7 hts gL_law_X1_addOrder rfl rfl rfl (by decide +kernel) ⟨Nat.le_of_ble_eq_true rfl, Nat.le_of_ble_eq_true rfl⟩) rfl hl.1 (Nat.le_of_ble_eq_true rfl) rfl dL_law_648 (by omega) (by omega) (fun H locs hLS => ?_)
  refine lv_istore (lv' := [(6, .int ((sp_addOrder σ (xs (i + 1)) (xs (i + 2)) (xs (i + 3)) (xs (i + 4)) (xs (i + 5)) (xs (i + 6)) (xs (i + 7))).2.1)), (5, .int (nI (sp_addOrder σ (xs (i + 1)) (xs (i + 2)) (xs (i + 3)) (xs (i + 4)) (xs (i + 5)) (xs (i + 6)) (xs (i + 7))).1)), (0, .ref b0), (1, .ref (a 0)), (2, .ref (b 0)), (3, .ref w), (4, .int (nI i))]) hx hb dL_law_651 hl (by decide) rfl (fun ls hl => ?_)
  refine lv_aload_n hx hb dL_law_653 rfl (lv_at hl 4 rfl) ?_
  refine sa_kRd (As := []) (rest := []) S (c_X1_thrown l G cI cZ cL b (sp_addOrder σ (xs (i + 1)) (xs (i + 2)) (xs (i + 3)) (xs (i + 4)) (xs (i + 5)) (xs (i + 6)) (xs (i + 7))).2.2 (nI (sp_addOrder σ (xs (i + 1)) (xs (i + 2)) (xs (i + 3)) (xs (i + 4)) (xs (i + 5)) (xs (i + 6)) (xs (i + 7))).1)) (cwV 0 hts gL_law_X1_thrown rfl rfl rfl (by decide +kernel) ⟨Nat.le_of_ble_eq_true rfl, Nat.le_of_ble_eq_true rfl⟩) hLS.2.1 hK (ci := 1) rfl rfl rfl hl.1 (Nat.le_of_ble_eq_true rfl) rfl dL_law_654 ⟨by show cells + 1 ≤ 1060; omega, by show slots + 6 ≤ 10008; omega⟩ ?_
  refine lv_iload hx hb dL_law_657 (lv_at hl 1 rfl) ?_
  refine lv_icmp_eq (tgt := 664) hx hb dL_law_659 (by decide) (fun _ => ?_) (fun c9 => absurd rfl c9)
  refine lv_iload hx hb dL_law_664 (lv_at hl 1 rfl) ?_
  refine lv_if_ne (tgt := 681) hx hb dL_law_666 (by decide) (fun c_666 => ?_) (fun c_666 => ?_)
  · skip
    refine lv_goto (tgt := 1610) hx hb dL_law_681 (by decide) ?_
    exact K _ _ _ H locs ls (si_addOrder hI) hLS (lv_sub hl [2, 3, 4, 5, 6] rfl)
  · skip
    have hz := sa_n0 sa_lo.1 c_666
    refine lv_aload_n hx hb dL_law_669 rfl (lv_at hl 5 rfl) ?_
    refine lv_iconst (v := 0) hx hb dL_law_670 (by decide) ?_
    refine sa_old C0 hLS dL_law_671 ?_
    refine lv_iload hx hb dL_law_672 (lv_at hl 0 rfl) ?_
    refine lv_i2l hx hb dL_law_674 rfl ?_
    refine W.lcmp hx hb dL_law_675 ?_
    rw [sa_cmp0 (hg hz)]
    refine lv_if_eq (tgt := 681) hx hb dL_law_676 (by decide) (fun _ => ?_) (fun c9 => absurd (by decide) c9)
    refine lv_goto (tgt := 1610) hx hb dL_law_681 (by decide) ?_
    exact K _ _ _ H locs ls (si_addOrder hI) hLS (lv_sub hl [2, 3, 4, 5, 6] rfl)
set_option maxHeartbeats 4000000 in
set_option maxRecDepth 100000 in
theorem law_c8 {p : Program} {l : Launch} {e : Env} {s : State} {m : MethodId} {below : List Frame} {meth : Method} {c : Code} {G : va_G} {cI cZ cL : ClassId} {b0 L : Nat} {xs : Nat → Int32} {a b : Nat → Nat} {w : Nat} {σ : sa_St} {th : Int32} {g : Nat → Int64} {H : Heap} {locs : List Loc} {cells slots i : Nat} {ls : Array Slot} {Q : State → Prop} (C0 : sa_LC l p s m meth c G cI cZ cL b0 L xs a b w) (hI : sa_I σ) (hLS : sa_LS G cI cZ cL a b w σ σ th g s H locs) (hi : i + 8 ≤ L) (hc : cells + 1 ≤ 1060) (hs : slots + 6 ≤ 10008) (hl : lv_has ls 7 [(0, .ref b0), (1, .ref (a 0)), (2, .ref (b 0)), (3, .ref w), (4, .int (nI i))])
    (K : ∀ (σ : sa_St) (th : Int32) (g : Nat → Int64) (H : Heap) (locs : List Loc) (ls : Array Slot), sa_I σ → sa_LS G cI cZ cL a b w σ σ th g s H locs → lv_has ls 7 [(0, .ref b0), (1, .ref (a 0)), (2, .ref (b 0)), (3, .ref w), (4, .int (nI i))] → W p l e room_1 s m #[Value.ref b0] below meth c H locs (cells + 1) (slots + 6) Q (F0 m 1610 ls [])) : W p l e room_1 s m #[Value.ref b0] below meth c H locs cells slots Q (F0 m 684 ls []) := by
  have S := C0.1
  have hx := S.1
  have hb := S.2.1
  have hts := S.2.2.2.2
  have hK := C0.2.2.2.1
  have hst9 := C0.2.2.2.2.1.2
  have hJa := C0.2.2.2.2.2.1.1
  have hJb := C0.2.2.2.2.2.1.2
  have hw2 := C0.2.2.2.2.2.2.2.2.1.2.1
  refine lv_aload_n hx hb dL_law_684 rfl (lv_at hl 1 rfl) ?_
  refine lv_aload_n hx hb dL_law_685 rfl (lv_at hl 0 rfl) ?_
  refine lv_iload hx hb dL_law_686 (lv_at hl 4 rfl) ?_
  refine lv_iconst (v := 1) hx hb dL_law_688 (by decide) ?_
  refine sa_iaddk (j := 1) hx hb rfl dL_law_689 ?_
  refine sa_scl C0 hLS (by omega) dL_law_690 ?_
  refine lv_aload_n hx hb dL_law_691 rfl (lv_at hl 3 rfl) ?_
  refine sa_wstep (SP := (sp_close σ (xs (i + 1)))) (As := [.ref (a 0), .int (xs (i + 1)), .ref w]) (rest := []) C0 hLS (fun h => k_close_ok l G cI cZ cL a σ w g hI hJa hw2 (xs (i + 1)) h) (fun h => k_close_ex l s.heap.size hst9 G cI cZ cL a σ w hI (xs (i + 1)) h) sa_lo.2 (vx_cwSW (hh := [(0, 9, 12, 21), (0, 9, 15, 15)]) 3 hts gL_law_L_close rfl rfl rfl (by decide +kernel) ⟨Nat.le_of_ble_eq_true rfl, Nat.le_of_ble_eq_true rfl⟩) (vx_cwSW (hh := [(0, 9, 12, 21), (0, 9, 15, 15)]) 3 hts gL_law_L_close rfl rfl rfl (by decide +kernel) ⟨Nat.le_of_ble_eq_true rfl, Nat.le_of_ble_eq_true rfl⟩) rfl hl.1 (Nat.le_of_ble_eq_true rfl) rfl dL_law_692 hc hs (fun H locs g hg hLS => ?_)
  refine lv_istore (lv' := [(5, .int (nI (sp_close σ (xs (i + 1))).1)), (0, .ref b0), (1, .ref (a 0)), (2, .ref (b 0)), (3, .ref w), (4, .int (nI i))]) hx hb dL_law_695 hl (by decide) rfl (fun ls hl => ?_)
  refine lv_aload_n hx hb dL_law_697 rfl (lv_at hl 3 rfl) ?_
  refine lv_aload_n hx hb dL_law_698 rfl (lv_at hl 1 rfl) ?_
  refine lv_iload hx hb dL_law_699 (lv_at hl 5 rfl) ?_
  refine lv_iconst (v := 1) hx hb dL_law_701 (by decide) ?_
  refine sa_iaddk (j := 1) hx hb rfl dL_law_702 ?_
  refine sa_scl C0 hLS (by omega) dL_law_703 ?_
  refine sa_mstep (th2 := nI (sp_close σ (xs (i + 1))).1) (σ2 := (sp_close σ (xs (i + 1))).2.2) (As := [.int (xs (i + 1))]) (rest := []) C0 hLS (c_X1_close l G cI cZ cL b σ th hI hJb (xs (i + 1))) (cwV 1 hts gL_law_X1_close rfl rfl rfl (by decide +kernel) ⟨Nat.le_of_ble_eq_true rfl, Nat.le_of_ble_eq_true rfl⟩) rfl hl.1 (Nat.le_of_ble_eq_true rfl) rfl dL_law_704 (by omega) (by omega) (fun H locs hLS => ?_)
  refine lv_istore (lv' := [(6, .int ((sp_close σ (xs (i + 1))).2.1)), (5, .int (nI (sp_close σ (xs (i + 1))).1)), (0, .ref b0), (1, .ref (a 0)), (2, .ref (b 0)), (3, .ref w), (4, .int (nI i))]) hx hb dL_law_707 hl (by decide) rfl (fun ls hl => ?_)
  refine lv_aload_n hx hb dL_law_709 rfl (lv_at hl 4 rfl) ?_
  refine sa_kRd (As := []) (rest := []) S (c_X1_thrown l G cI cZ cL b (sp_close σ (xs (i + 1))).2.2 (nI (sp_close σ (xs (i + 1))).1)) (cwV 0 hts gL_law_X1_thrown rfl rfl rfl (by decide +kernel) ⟨Nat.le_of_ble_eq_true rfl, Nat.le_of_ble_eq_true rfl⟩) hLS.2.1 hK (ci := 1) rfl rfl rfl hl.1 (Nat.le_of_ble_eq_true rfl) rfl dL_law_710 ⟨by show cells + 1 ≤ 1060; omega, by show slots + 6 ≤ 10008; omega⟩ ?_
  refine lv_iload hx hb dL_law_713 (lv_at hl 1 rfl) ?_
  refine lv_icmp_eq (tgt := 720) hx hb dL_law_715 (by decide) (fun _ => ?_) (fun c9 => absurd rfl c9)
  refine lv_iload hx hb dL_law_720 (lv_at hl 1 rfl) ?_
  refine lv_if_ne (tgt := 737) hx hb dL_law_722 (by decide) (fun c_722 => ?_) (fun c_722 => ?_)
  · skip
    refine lv_goto (tgt := 1610) hx hb dL_law_737 (by decide) ?_
    exact K _ _ _ H locs ls (si_close hI) hLS (lv_sub hl [2, 3, 4, 5, 6] rfl)
  · skip
    have hz := sa_n0 sa_lo.1 c_722
    refine lv_aload_n hx hb dL_law_725 rfl (lv_at hl 5 rfl) ?_
    refine lv_iconst (v := 0) hx hb dL_law_726 (by decide) ?_
    refine sa_old C0 hLS dL_law_727 ?_
    refine lv_iload hx hb dL_law_728 (lv_at hl 0 rfl) ?_
    refine lv_i2l hx hb dL_law_730 rfl ?_
    refine W.lcmp hx hb dL_law_731 ?_
    rw [sa_cmp0 (hg hz)]
    refine lv_if_eq (tgt := 737) hx hb dL_law_732 (by decide) (fun _ => ?_) (fun c9 => absurd (by decide) c9)
    refine lv_goto (tgt := 1610) hx hb dL_law_737 (by decide) ?_
    exact K _ _ _ H locs ls (si_close hI) hLS (lv_sub hl [2, 3, 4, 5, 6] rfl)
set_option maxHeartbeats 4000000 in
set_option maxRecDepth 100000 in
theorem law_c9 {p : Program} {l : Launch} {e : Env} {s : State} {m : MethodId} {below : List Frame} {meth : Method} {c : Code} {G : va_G} {cI cZ cL : ClassId} {b0 L : Nat} {xs : Nat → Int32} {a b : Nat → Nat} {w : Nat} {σ : sa_St} {th : Int32} {g : Nat → Int64} {H : Heap} {locs : List Loc} {cells slots i : Nat} {ls : Array Slot} {Q : State → Prop} (C0 : sa_LC l p s m meth c G cI cZ cL b0 L xs a b w) (hI : sa_I σ) (hLS : sa_LS G cI cZ cL a b w σ σ th g s H locs) (hi : i + 8 ≤ L) (hc : cells + 1 ≤ 1060) (hs : slots + 6 ≤ 10008) (hl : lv_has ls 7 [(0, .ref b0), (1, .ref (a 0)), (2, .ref (b 0)), (3, .ref w), (4, .int (nI i))])
    (K : ∀ (σ : sa_St) (th : Int32) (g : Nat → Int64) (H : Heap) (locs : List Loc) (ls : Array Slot), sa_I σ → sa_LS G cI cZ cL a b w σ σ th g s H locs → lv_has ls 7 [(0, .ref b0), (1, .ref (a 0)), (2, .ref (b 0)), (3, .ref w), (4, .int (nI i))] → W p l e room_1 s m #[Value.ref b0] below meth c H locs (cells + 1) (slots + 6) Q (F0 m 1610 ls [])) : W p l e room_1 s m #[Value.ref b0] below meth c H locs cells slots Q (F0 m 740 ls []) := by
  have S := C0.1
  have hx := S.1
  have hb := S.2.1
  have hts := S.2.2.2.2
  have hK := C0.2.2.2.1
  have hst9 := C0.2.2.2.2.1.2
  have hJa := C0.2.2.2.2.2.1.1
  have hJb := C0.2.2.2.2.2.1.2
  have hw2 := C0.2.2.2.2.2.2.2.2.1.2.1
  refine lv_aload_n hx hb dL_law_740 rfl (lv_at hl 1 rfl) ?_
  refine sa_kRd (As := []) (rest := []) S (c_X0_orders_ok l G cI cZ cL a σ hI) (cwV 0 hts gL_law_X0_orders rfl rfl rfl (by decide +kernel) ⟨Nat.le_of_ble_eq_true rfl, Nat.le_of_ble_eq_true rfl⟩) hLS.1 hK (ci := 0) rfl rfl rfl hl.1 (Nat.le_of_ble_eq_true rfl) rfl dL_law_741 ⟨by show cells ≤ 1060; omega, by show slots ≤ 10008; omega⟩ ?_
  refine lv_aload_n hx hb dL_law_744 rfl (lv_at hl 2 rfl) ?_
  refine sa_mstep (th2 := 0) (σ2 := σ) (As := []) (rest := [.int (nI (σ.1 1))]) C0 hLS (c_X1_orders l G cI cZ cL b σ th hI hJb) (cwV 0 hts gL_law_X1_orders rfl rfl rfl (by decide +kernel) ⟨Nat.le_of_ble_eq_true rfl, Nat.le_of_ble_eq_true rfl⟩) rfl hl.1 (Nat.le_of_ble_eq_true rfl) rfl dL_law_745 (by omega) (by omega) (fun H locs hLS => ?_)
  refine lv_icmp_eq (tgt := 1610) hx hb dL_law_748 (by decide) (fun _ => ?_) (fun c9 => absurd rfl c9)
  refine W.widen (k := cells + 1) (n := slots + 6) (by omega) (by omega) ?_
  exact K _ _ _ H locs ls hI hLS (lv_sub hl [0, 1, 2, 3, 4] rfl)
set_option maxHeartbeats 4000000 in
set_option maxRecDepth 100000 in
theorem law_c10 {p : Program} {l : Launch} {e : Env} {s : State} {m : MethodId} {below : List Frame} {meth : Method} {c : Code} {G : va_G} {cI cZ cL : ClassId} {b0 L : Nat} {xs : Nat → Int32} {a b : Nat → Nat} {w : Nat} {σ : sa_St} {th : Int32} {g : Nat → Int64} {H : Heap} {locs : List Loc} {cells slots i : Nat} {ls : Array Slot} {Q : State → Prop} (C0 : sa_LC l p s m meth c G cI cZ cL b0 L xs a b w) (hI : sa_I σ) (hLS : sa_LS G cI cZ cL a b w σ σ th g s H locs) (hi : i + 8 ≤ L) (hc : cells + 1 ≤ 1060) (hs : slots + 6 ≤ 10008) (hl : lv_has ls 7 [(0, .ref b0), (1, .ref (a 0)), (2, .ref (b 0)), (3, .ref w), (4, .int (nI i))])
    (K : ∀ (σ : sa_St) (th : Int32) (g : Nat → Int64) (H : Heap) (locs : List Loc) (ls : Array Slot), sa_I σ → sa_LS G cI cZ cL a b w σ σ th g s H locs → lv_has ls 7 [(0, .ref b0), (1, .ref (a 0)), (2, .ref (b 0)), (3, .ref w), (4, .int (nI i))] → W p l e room_1 s m #[Value.ref b0] below meth c H locs (cells + 1) (slots + 6) Q (F0 m 1610 ls [])) : W p l e room_1 s m #[Value.ref b0] below meth c H locs cells slots Q (F0 m 753 ls []) := by
  have S := C0.1
  have hx := S.1
  have hb := S.2.1
  have hts := S.2.2.2.2
  have hK := C0.2.2.2.1
  have hst9 := C0.2.2.2.2.1.2
  have hJa := C0.2.2.2.2.2.1.1
  have hJb := C0.2.2.2.2.2.1.2
  have hw2 := C0.2.2.2.2.2.2.2.2.1.2.1
  refine lv_aload_n hx hb dL_law_753 rfl (lv_at hl 1 rfl) ?_
  refine lv_aload_n hx hb dL_law_754 rfl (lv_at hl 0 rfl) ?_
  refine lv_iload hx hb dL_law_755 (lv_at hl 4 rfl) ?_
  refine lv_iconst (v := 1) hx hb dL_law_757 (by decide) ?_
  refine sa_iaddk (j := 1) hx hb rfl dL_law_758 ?_
  refine sa_scl C0 hLS (by omega) dL_law_759 ?_
  refine lv_aload_n hx hb dL_law_760 rfl (lv_at hl 0 rfl) ?_
  refine lv_iload hx hb dL_law_761 (lv_at hl 4 rfl) ?_
  refine lv_iconst (v := 2) hx hb dL_law_763 (by decide) ?_
  refine sa_iaddk (j := 2) hx hb rfl dL_law_764 ?_
  refine sa_scl C0 hLS (by omega) dL_law_765 ?_
  refine lv_aload_n hx hb dL_law_766 rfl (lv_at hl 3 rfl) ?_
  refine sa_wstep (SP := (sp_whyNot σ (xs (i + 1)) (xs (i + 2)))) (As := [.ref (a 0), .int (xs (i + 1)), .int (xs (i + 2)), .ref w]) (rest := []) C0 hLS (fun h => k_whyNot_ok l G cI cZ cL a σ w g hI hJa hw2 (xs (i + 1)) (xs (i + 2)) h) (fun h => k_whyNot_ex l s.heap.size hst9 G cI cZ cL a σ w hI (xs (i + 1)) (xs (i + 2)) h) sa_lo.2 (vx_cwSW (hh := [(0, 10, 13, 21)]) 4 hts gL_law_L_whyNot rfl rfl rfl (by decide +kernel) ⟨Nat.le_of_ble_eq_true rfl, Nat.le_of_ble_eq_true rfl⟩) (vx_cwSW (hh := [(0, 10, 13, 21)]) 4 hts gL_law_L_whyNot rfl rfl rfl (by decide +kernel) ⟨Nat.le_of_ble_eq_true rfl, Nat.le_of_ble_eq_true rfl⟩) rfl hl.1 (Nat.le_of_ble_eq_true rfl) rfl dL_law_767 hc hs (fun H locs g hg hLS => ?_)
  refine lv_istore (lv' := [(5, .int (nI (sp_whyNot σ (xs (i + 1)) (xs (i + 2))).1)), (0, .ref b0), (1, .ref (a 0)), (2, .ref (b 0)), (3, .ref w), (4, .int (nI i))]) hx hb dL_law_770 hl (by decide) rfl (fun ls hl => ?_)
  refine lv_aload_n hx hb dL_law_772 rfl (lv_at hl 3 rfl) ?_
  refine lv_aload_n hx hb dL_law_773 rfl (lv_at hl 1 rfl) ?_
  refine lv_iload hx hb dL_law_774 (lv_at hl 5 rfl) ?_
  refine lv_iconst (v := 1) hx hb dL_law_776 (by decide) ?_
  refine sa_iaddk (j := 1) hx hb rfl dL_law_777 ?_
  refine sa_scl C0 hLS (by omega) dL_law_778 ?_
  refine lv_aload_n hx hb dL_law_779 rfl (lv_at hl 1 rfl) ?_
  refine lv_iload hx hb dL_law_780 (lv_at hl 5 rfl) ?_
  refine lv_iconst (v := 2) hx hb dL_law_782 (by decide) ?_
  refine sa_iaddk (j := 2) hx hb rfl dL_law_783 ?_
  refine sa_scl C0 hLS (by omega) dL_law_784 ?_
  refine sa_mstep (th2 := nI (sp_whyNot σ (xs (i + 1)) (xs (i + 2))).1) (σ2 := (sp_whyNot σ (xs (i + 1)) (xs (i + 2))).2.2) (As := [.int (xs (i + 1)), .int (xs (i + 2))]) (rest := []) C0 hLS (c_X1_whyNot l G cI cZ cL b σ th hI hJb (xs (i + 1)) (xs (i + 2))) (cwV 2 hts gL_law_X1_whyNot rfl rfl rfl (by decide +kernel) ⟨Nat.le_of_ble_eq_true rfl, Nat.le_of_ble_eq_true rfl⟩) rfl hl.1 (Nat.le_of_ble_eq_true rfl) rfl dL_law_785 (by omega) (by omega) (fun H locs hLS => ?_)
  refine lv_istore (lv' := [(6, .int ((sp_whyNot σ (xs (i + 1)) (xs (i + 2))).2.1)), (5, .int (nI (sp_whyNot σ (xs (i + 1)) (xs (i + 2))).1)), (0, .ref b0), (1, .ref (a 0)), (2, .ref (b 0)), (3, .ref w), (4, .int (nI i))]) hx hb dL_law_788 hl (by decide) rfl (fun ls hl => ?_)
  refine lv_aload_n hx hb dL_law_790 rfl (lv_at hl 4 rfl) ?_
  refine sa_kRd (As := []) (rest := []) S (c_X1_thrown l G cI cZ cL b (sp_whyNot σ (xs (i + 1)) (xs (i + 2))).2.2 (nI (sp_whyNot σ (xs (i + 1)) (xs (i + 2))).1)) (cwV 0 hts gL_law_X1_thrown rfl rfl rfl (by decide +kernel) ⟨Nat.le_of_ble_eq_true rfl, Nat.le_of_ble_eq_true rfl⟩) hLS.2.1 hK (ci := 1) rfl rfl rfl hl.1 (Nat.le_of_ble_eq_true rfl) rfl dL_law_791 ⟨by show cells + 1 ≤ 1060; omega, by show slots + 6 ≤ 10008; omega⟩ ?_
  refine lv_iload hx hb dL_law_794 (lv_at hl 1 rfl) ?_
  refine lv_icmp_eq (tgt := 801) hx hb dL_law_796 (by decide) (fun _ => ?_) (fun c9 => absurd rfl c9)
  refine lv_iload hx hb dL_law_801 (lv_at hl 1 rfl) ?_
  refine lv_if_ne (tgt := 818) hx hb dL_law_803 (by decide) (fun c_803 => ?_) (fun c_803 => ?_)
  · skip
    refine lv_goto (tgt := 1610) hx hb dL_law_818 (by decide) ?_
    exact K _ _ _ H locs ls (si_whyNot hI) hLS (lv_sub hl [2, 3, 4, 5, 6] rfl)
  · skip
    have hz := sa_n0 sa_lo.1 c_803
    refine lv_aload_n hx hb dL_law_806 rfl (lv_at hl 5 rfl) ?_
    refine lv_iconst (v := 0) hx hb dL_law_807 (by decide) ?_
    refine sa_old C0 hLS dL_law_808 ?_
    refine lv_iload hx hb dL_law_809 (lv_at hl 0 rfl) ?_
    refine lv_i2l hx hb dL_law_811 rfl ?_
    refine W.lcmp hx hb dL_law_812 ?_
    rw [sa_cmp0 (hg hz)]
    refine lv_if_eq (tgt := 818) hx hb dL_law_813 (by decide) (fun _ => ?_) (fun c9 => absurd (by decide) c9)
    refine lv_goto (tgt := 1610) hx hb dL_law_818 (by decide) ?_
    exact K _ _ _ H locs ls (si_whyNot hI) hLS (lv_sub hl [2, 3, 4, 5, 6] rfl)
set_option maxHeartbeats 4000000 in
set_option maxRecDepth 100000 in
theorem law_c11 {p : Program} {l : Launch} {e : Env} {s : State} {m : MethodId} {below : List Frame} {meth : Method} {c : Code} {G : va_G} {cI cZ cL : ClassId} {b0 L : Nat} {xs : Nat → Int32} {a b : Nat → Nat} {w : Nat} {σ : sa_St} {th : Int32} {g : Nat → Int64} {H : Heap} {locs : List Loc} {cells slots i : Nat} {ls : Array Slot} {Q : State → Prop} (C0 : sa_LC l p s m meth c G cI cZ cL b0 L xs a b w) (hI : sa_I σ) (hLS : sa_LS G cI cZ cL a b w σ σ th g s H locs) (hi : i + 8 ≤ L) (hc : cells + 1 ≤ 1060) (hs : slots + 6 ≤ 10008) (hl : lv_has ls 7 [(0, .ref b0), (1, .ref (a 0)), (2, .ref (b 0)), (3, .ref w), (4, .int (nI i))])
    (K : ∀ (σ : sa_St) (th : Int32) (g : Nat → Int64) (H : Heap) (locs : List Loc) (ls : Array Slot), sa_I σ → sa_LS G cI cZ cL a b w σ σ th g s H locs → lv_has ls 7 [(0, .ref b0), (1, .ref (a 0)), (2, .ref (b 0)), (3, .ref w), (4, .int (nI i))] → W p l e room_1 s m #[Value.ref b0] below meth c H locs (cells + 1) (slots + 6) Q (F0 m 1610 ls [])) : W p l e room_1 s m #[Value.ref b0] below meth c H locs cells slots Q (F0 m 821 ls []) := by
  have S := C0.1
  have hx := S.1
  have hb := S.2.1
  have hts := S.2.2.2.2
  have hK := C0.2.2.2.1
  have hst9 := C0.2.2.2.2.1.2
  have hJa := C0.2.2.2.2.2.1.1
  have hJb := C0.2.2.2.2.2.1.2
  have hw2 := C0.2.2.2.2.2.2.2.2.1.2.1
  refine lv_aload_n hx hb dL_law_821 rfl (lv_at hl 1 rfl) ?_
  refine lv_aload_n hx hb dL_law_822 rfl (lv_at hl 0 rfl) ?_
  refine lv_iload hx hb dL_law_823 (lv_at hl 4 rfl) ?_
  refine lv_iconst (v := 1) hx hb dL_law_825 (by decide) ?_
  refine sa_iaddk (j := 1) hx hb rfl dL_law_826 ?_
  refine sa_scl C0 hLS (by omega) dL_law_827 ?_
  refine lv_aload_n hx hb dL_law_828 rfl (lv_at hl 0 rfl) ?_
  refine lv_iload hx hb dL_law_829 (lv_at hl 4 rfl) ?_
  refine lv_iconst (v := 2) hx hb dL_law_831 (by decide) ?_
  refine sa_iaddk (j := 2) hx hb rfl dL_law_832 ?_
  refine sa_scl C0 hLS (by omega) dL_law_833 ?_
  refine lv_aload_n hx hb dL_law_834 rfl (lv_at hl 3 rfl) ?_
  refine sa_wstep (SP := (sp_place σ (xs (i + 1)) (xs (i + 2)))) (As := [.ref (a 0), .int (xs (i + 1)), .int (xs (i + 2)), .ref w]) (rest := []) C0 hLS (fun h => k_place_ok l G cI cZ cL a σ w g hI hJa hw2 (xs (i + 1)) (xs (i + 2)) h) (fun h => k_place_ex l s.heap.size hst9 G cI cZ cL a σ w hI (xs (i + 1)) (xs (i + 2)) h) sa_lo.2 (vx_cwSW (hh := [(0, 10, 13, 21), (0, 10, 17, 15)]) 4 hts gL_law_L_place rfl rfl rfl (by decide +kernel) ⟨Nat.le_of_ble_eq_true rfl, Nat.le_of_ble_eq_true rfl⟩) (vx_cwSW (hh := [(0, 10, 13, 21), (0, 10, 17, 15)]) 4 hts gL_law_L_place rfl rfl rfl (by decide +kernel) ⟨Nat.le_of_ble_eq_true rfl, Nat.le_of_ble_eq_true rfl⟩) rfl hl.1 (Nat.le_of_ble_eq_true rfl) rfl dL_law_835 hc hs (fun H locs g hg hLS => ?_)
  refine lv_istore (lv' := [(5, .int (nI (sp_place σ (xs (i + 1)) (xs (i + 2))).1)), (0, .ref b0), (1, .ref (a 0)), (2, .ref (b 0)), (3, .ref w), (4, .int (nI i))]) hx hb dL_law_838 hl (by decide) rfl (fun ls hl => ?_)
  refine lv_aload_n hx hb dL_law_840 rfl (lv_at hl 3 rfl) ?_
  refine lv_aload_n hx hb dL_law_841 rfl (lv_at hl 1 rfl) ?_
  refine lv_iload hx hb dL_law_842 (lv_at hl 5 rfl) ?_
  refine lv_iconst (v := 1) hx hb dL_law_844 (by decide) ?_
  refine sa_iaddk (j := 1) hx hb rfl dL_law_845 ?_
  refine sa_scl C0 hLS (by omega) dL_law_846 ?_
  refine lv_aload_n hx hb dL_law_847 rfl (lv_at hl 1 rfl) ?_
  refine lv_iload hx hb dL_law_848 (lv_at hl 5 rfl) ?_
  refine lv_iconst (v := 2) hx hb dL_law_850 (by decide) ?_
  refine sa_iaddk (j := 2) hx hb rfl dL_law_851 ?_
  refine sa_scl C0 hLS (by omega) dL_law_852 ?_
  refine sa_mstep (th2 := nI (sp_place σ (xs (i + 1)) (xs (i + 2))).1) (σ2 := (sp_place σ (xs (i + 1)) (xs (i + 2))).2.2) (As := [.int (xs (i + 1)), .int (xs (i + 2))]) (rest := []) C0 hLS (c_X1_place l G cI cZ cL b σ th hI hJb (xs (i + 1)) (xs (i + 2))) (cwV 2 hts gL_law_X1_place rfl rfl rfl (by decide +kernel) ⟨Nat.le_of_ble_eq_true rfl, Nat.le_of_ble_eq_true rfl⟩) rfl hl.1 (Nat.le_of_ble_eq_true rfl) rfl dL_law_853 (by omega) (by omega) (fun H locs hLS => ?_)
  refine lv_istore (lv' := [(6, .int ((sp_place σ (xs (i + 1)) (xs (i + 2))).2.1)), (5, .int (nI (sp_place σ (xs (i + 1)) (xs (i + 2))).1)), (0, .ref b0), (1, .ref (a 0)), (2, .ref (b 0)), (3, .ref w), (4, .int (nI i))]) hx hb dL_law_856 hl (by decide) rfl (fun ls hl => ?_)
  refine lv_aload_n hx hb dL_law_858 rfl (lv_at hl 4 rfl) ?_
  refine sa_kRd (As := []) (rest := []) S (c_X1_thrown l G cI cZ cL b (sp_place σ (xs (i + 1)) (xs (i + 2))).2.2 (nI (sp_place σ (xs (i + 1)) (xs (i + 2))).1)) (cwV 0 hts gL_law_X1_thrown rfl rfl rfl (by decide +kernel) ⟨Nat.le_of_ble_eq_true rfl, Nat.le_of_ble_eq_true rfl⟩) hLS.2.1 hK (ci := 1) rfl rfl rfl hl.1 (Nat.le_of_ble_eq_true rfl) rfl dL_law_859 ⟨by show cells + 1 ≤ 1060; omega, by show slots + 6 ≤ 10008; omega⟩ ?_
  refine lv_iload hx hb dL_law_862 (lv_at hl 1 rfl) ?_
  refine lv_icmp_eq (tgt := 869) hx hb dL_law_864 (by decide) (fun _ => ?_) (fun c9 => absurd rfl c9)
  refine lv_iload hx hb dL_law_869 (lv_at hl 1 rfl) ?_
  refine lv_if_ne (tgt := 886) hx hb dL_law_871 (by decide) (fun c_871 => ?_) (fun c_871 => ?_)
  · skip
    refine lv_goto (tgt := 1610) hx hb dL_law_886 (by decide) ?_
    exact K _ _ _ H locs ls (si_place hI) hLS (lv_sub hl [2, 3, 4, 5, 6] rfl)
  · skip
    have hz := sa_n0 sa_lo.1 c_871
    refine lv_aload_n hx hb dL_law_874 rfl (lv_at hl 5 rfl) ?_
    refine lv_iconst (v := 0) hx hb dL_law_875 (by decide) ?_
    refine sa_old C0 hLS dL_law_876 ?_
    refine lv_iload hx hb dL_law_877 (lv_at hl 0 rfl) ?_
    refine lv_i2l hx hb dL_law_879 rfl ?_
    refine W.lcmp hx hb dL_law_880 ?_
    rw [sa_cmp0 (hg hz)]
    refine lv_if_eq (tgt := 886) hx hb dL_law_881 (by decide) (fun _ => ?_) (fun c9 => absurd (by decide) c9)
    refine lv_goto (tgt := 1610) hx hb dL_law_886 (by decide) ?_
    exact K _ _ _ H locs ls (si_place hI) hLS (lv_sub hl [2, 3, 4, 5, 6] rfl)
set_option maxHeartbeats 4000000 in
set_option maxRecDepth 100000 in
theorem law_c12 {p : Program} {l : Launch} {e : Env} {s : State} {m : MethodId} {below : List Frame} {meth : Method} {c : Code} {G : va_G} {cI cZ cL : ClassId} {b0 L : Nat} {xs : Nat → Int32} {a b : Nat → Nat} {w : Nat} {σ : sa_St} {th : Int32} {g : Nat → Int64} {H : Heap} {locs : List Loc} {cells slots i : Nat} {ls : Array Slot} {Q : State → Prop} (C0 : sa_LC l p s m meth c G cI cZ cL b0 L xs a b w) (hI : sa_I σ) (hLS : sa_LS G cI cZ cL a b w σ σ th g s H locs) (hi : i + 8 ≤ L) (hc : cells + 1 ≤ 1060) (hs : slots + 6 ≤ 10008) (hl : lv_has ls 7 [(0, .ref b0), (1, .ref (a 0)), (2, .ref (b 0)), (3, .ref w), (4, .int (nI i))])
    (K : ∀ (σ : sa_St) (th : Int32) (g : Nat → Int64) (H : Heap) (locs : List Loc) (ls : Array Slot), sa_I σ → sa_LS G cI cZ cL a b w σ σ th g s H locs → lv_has ls 7 [(0, .ref b0), (1, .ref (a 0)), (2, .ref (b 0)), (3, .ref w), (4, .int (nI i))] → W p l e room_1 s m #[Value.ref b0] below meth c H locs (cells + 1) (slots + 6) Q (F0 m 1610 ls [])) : W p l e room_1 s m #[Value.ref b0] below meth c H locs cells slots Q (F0 m 889 ls []) := by
  have S := C0.1
  have hx := S.1
  have hb := S.2.1
  have hts := S.2.2.2.2
  have hK := C0.2.2.2.1
  have hst9 := C0.2.2.2.2.1.2
  have hJa := C0.2.2.2.2.2.1.1
  have hJb := C0.2.2.2.2.2.1.2
  have hw2 := C0.2.2.2.2.2.2.2.2.1.2.1
  refine lv_aload_n hx hb dL_law_889 rfl (lv_at hl 1 rfl) ?_
  refine lv_aload_n hx hb dL_law_890 rfl (lv_at hl 0 rfl) ?_
  refine lv_iload hx hb dL_law_891 (lv_at hl 4 rfl) ?_
  refine lv_iconst (v := 1) hx hb dL_law_893 (by decide) ?_
  refine sa_iaddk (j := 1) hx hb rfl dL_law_894 ?_
  refine sa_scl C0 hLS (by omega) dL_law_895 ?_
  refine lv_aload_n hx hb dL_law_896 rfl (lv_at hl 0 rfl) ?_
  refine lv_iload hx hb dL_law_897 (lv_at hl 4 rfl) ?_
  refine lv_iconst (v := 2) hx hb dL_law_899 (by decide) ?_
  refine sa_iaddk (j := 2) hx hb rfl dL_law_900 ?_
  refine sa_scl C0 hLS (by omega) dL_law_901 ?_
  refine lv_aload_n hx hb dL_law_902 rfl (lv_at hl 3 rfl) ?_
  refine sa_wstep (SP := (sp_give σ (xs (i + 1)) (xs (i + 2)))) (As := [.ref (a 0), .int (xs (i + 1)), .int (xs (i + 2)), .ref w]) (rest := []) C0 hLS (fun h => k_give_ok l G cI cZ cL a σ w g hI hJa hw2 (xs (i + 1)) (xs (i + 2)) h) (fun h => k_give_ex l s.heap.size hst9 G cI cZ cL a σ w hI (xs (i + 1)) (xs (i + 2)) h) sa_lo.2 (vx_cwSW (hh := [(0, 10, 13, 21), (0, 10, 17, 15)]) 4 hts gL_law_L_give rfl rfl rfl (by decide +kernel) ⟨Nat.le_of_ble_eq_true rfl, Nat.le_of_ble_eq_true rfl⟩) (vx_cwSW (hh := [(0, 10, 13, 21), (0, 10, 17, 15)]) 4 hts gL_law_L_give rfl rfl rfl (by decide +kernel) ⟨Nat.le_of_ble_eq_true rfl, Nat.le_of_ble_eq_true rfl⟩) rfl hl.1 (Nat.le_of_ble_eq_true rfl) rfl dL_law_903 hc hs (fun H locs g hg hLS => ?_)
  refine lv_istore (lv' := [(5, .int (nI (sp_give σ (xs (i + 1)) (xs (i + 2))).1)), (0, .ref b0), (1, .ref (a 0)), (2, .ref (b 0)), (3, .ref w), (4, .int (nI i))]) hx hb dL_law_906 hl (by decide) rfl (fun ls hl => ?_)
  refine lv_aload_n hx hb dL_law_908 rfl (lv_at hl 3 rfl) ?_
  refine lv_aload_n hx hb dL_law_909 rfl (lv_at hl 1 rfl) ?_
  refine lv_iload hx hb dL_law_910 (lv_at hl 5 rfl) ?_
  refine lv_iconst (v := 1) hx hb dL_law_912 (by decide) ?_
  refine sa_iaddk (j := 1) hx hb rfl dL_law_913 ?_
  refine sa_scl C0 hLS (by omega) dL_law_914 ?_
  refine lv_aload_n hx hb dL_law_915 rfl (lv_at hl 1 rfl) ?_
  refine lv_iload hx hb dL_law_916 (lv_at hl 5 rfl) ?_
  refine lv_iconst (v := 2) hx hb dL_law_918 (by decide) ?_
  refine sa_iaddk (j := 2) hx hb rfl dL_law_919 ?_
  refine sa_scl C0 hLS (by omega) dL_law_920 ?_
  refine sa_mstep (th2 := nI (sp_give σ (xs (i + 1)) (xs (i + 2))).1) (σ2 := (sp_give σ (xs (i + 1)) (xs (i + 2))).2.2) (As := [.int (xs (i + 1)), .int (xs (i + 2))]) (rest := []) C0 hLS (c_X1_give l G cI cZ cL b σ th hI hJb (xs (i + 1)) (xs (i + 2))) (cwV 2 hts gL_law_X1_give rfl rfl rfl (by decide +kernel) ⟨Nat.le_of_ble_eq_true rfl, Nat.le_of_ble_eq_true rfl⟩) rfl hl.1 (Nat.le_of_ble_eq_true rfl) rfl dL_law_921 (by omega) (by omega) (fun H locs hLS => ?_)
  refine lv_istore (lv' := [(6, .int ((sp_give σ (xs (i + 1)) (xs (i + 2))).2.1)), (5, .int (nI (sp_give σ (xs (i + 1)) (xs (i + 2))).1)), (0, .ref b0), (1, .ref (a 0)), (2, .ref (b 0)), (3, .ref w), (4, .int (nI i))]) hx hb dL_law_924 hl (by decide) rfl (fun ls hl => ?_)
  refine lv_aload_n hx hb dL_law_926 rfl (lv_at hl 4 rfl) ?_
  refine sa_kRd (As := []) (rest := []) S (c_X1_thrown l G cI cZ cL b (sp_give σ (xs (i + 1)) (xs (i + 2))).2.2 (nI (sp_give σ (xs (i + 1)) (xs (i + 2))).1)) (cwV 0 hts gL_law_X1_thrown rfl rfl rfl (by decide +kernel) ⟨Nat.le_of_ble_eq_true rfl, Nat.le_of_ble_eq_true rfl⟩) hLS.2.1 hK (ci := 1) rfl rfl rfl hl.1 (Nat.le_of_ble_eq_true rfl) rfl dL_law_927 ⟨by show cells + 1 ≤ 1060; omega, by show slots + 6 ≤ 10008; omega⟩ ?_
  refine lv_iload hx hb dL_law_930 (lv_at hl 1 rfl) ?_
  refine lv_icmp_eq (tgt := 937) hx hb dL_law_932 (by decide) (fun _ => ?_) (fun c9 => absurd rfl c9)
  refine lv_iload hx hb dL_law_937 (lv_at hl 1 rfl) ?_
  refine lv_if_ne (tgt := 954) hx hb dL_law_939 (by decide) (fun c_939 => ?_) (fun c_939 => ?_)
  · skip
    refine lv_goto (tgt := 1610) hx hb dL_law_954 (by decide) ?_
    exact K _ _ _ H locs ls (si_give hI) hLS (lv_sub hl [2, 3, 4, 5, 6] rfl)
  · skip
    have hz := sa_n0 sa_lo.1 c_939
    refine lv_aload_n hx hb dL_law_942 rfl (lv_at hl 5 rfl) ?_
    refine lv_iconst (v := 0) hx hb dL_law_943 (by decide) ?_
    refine sa_old C0 hLS dL_law_944 ?_
    refine lv_iload hx hb dL_law_945 (lv_at hl 0 rfl) ?_
    refine lv_i2l hx hb dL_law_947 rfl ?_
    refine W.lcmp hx hb dL_law_948 ?_
    rw [sa_cmp0 (hg hz)]
    refine lv_if_eq (tgt := 954) hx hb dL_law_949 (by decide) (fun _ => ?_) (fun c9 => absurd (by decide) c9)
    refine lv_goto (tgt := 1610) hx hb dL_law_954 (by decide) ?_
    exact K _ _ _ H locs ls (si_give hI) hLS (lv_sub hl [2, 3, 4, 5, 6] rfl)
set_option maxHeartbeats 4000000 in
set_option maxRecDepth 100000 in
theorem law_c13 {p : Program} {l : Launch} {e : Env} {s : State} {m : MethodId} {below : List Frame} {meth : Method} {c : Code} {G : va_G} {cI cZ cL : ClassId} {b0 L : Nat} {xs : Nat → Int32} {a b : Nat → Nat} {w : Nat} {σ : sa_St} {th : Int32} {g : Nat → Int64} {H : Heap} {locs : List Loc} {cells slots i : Nat} {ls : Array Slot} {Q : State → Prop} (C0 : sa_LC l p s m meth c G cI cZ cL b0 L xs a b w) (hI : sa_I σ) (hLS : sa_LS G cI cZ cL a b w σ σ th g s H locs) (hi : i + 8 ≤ L) (hc : cells + 1 ≤ 1060) (hs : slots + 6 ≤ 10008) (hl : lv_has ls 7 [(0, .ref b0), (1, .ref (a 0)), (2, .ref (b 0)), (3, .ref w), (4, .int (nI i))])
    (K : ∀ (σ : sa_St) (th : Int32) (g : Nat → Int64) (H : Heap) (locs : List Loc) (ls : Array Slot), sa_I σ → sa_LS G cI cZ cL a b w σ σ th g s H locs → lv_has ls 7 [(0, .ref b0), (1, .ref (a 0)), (2, .ref (b 0)), (3, .ref w), (4, .int (nI i))] → W p l e room_1 s m #[Value.ref b0] below meth c H locs (cells + 1) (slots + 6) Q (F0 m 1610 ls [])) : W p l e room_1 s m #[Value.ref b0] below meth c H locs cells slots Q (F0 m 957 ls []) := by
  have S := C0.1
  have hx := S.1
  have hb := S.2.1
  have hts := S.2.2.2.2
  have hK := C0.2.2.2.1
  have hst9 := C0.2.2.2.2.1.2
  have hJa := C0.2.2.2.2.2.1.1
  have hJb := C0.2.2.2.2.2.1.2
  have hw2 := C0.2.2.2.2.2.2.2.2.1.2.1
  refine lv_aload_n hx hb dL_law_957 rfl (lv_at hl 1 rfl) ?_
  refine lv_aload_n hx hb dL_law_958 rfl (lv_at hl 0 rfl) ?_
  refine lv_iload hx hb dL_law_959 (lv_at hl 4 rfl) ?_
  refine lv_iconst (v := 1) hx hb dL_law_961 (by decide) ?_
  refine sa_iaddk (j := 1) hx hb rfl dL_law_962 ?_
  refine sa_scl C0 hLS (by omega) dL_law_963 ?_
  refine lv_aload_n hx hb dL_law_964 rfl (lv_at hl 0 rfl) ?_
  refine lv_iload hx hb dL_law_965 (lv_at hl 4 rfl) ?_
  refine lv_iconst (v := 2) hx hb dL_law_967 (by decide) ?_
  refine sa_iaddk (j := 2) hx hb rfl dL_law_968 ?_
  refine sa_scl C0 hLS (by omega) dL_law_969 ?_
  refine lv_aload_n hx hb dL_law_970 rfl (lv_at hl 3 rfl) ?_
  refine sa_wstep (SP := (sp_fill σ (xs (i + 1)) (xs (i + 2)))) (As := [.ref (a 0), .int (xs (i + 1)), .int (xs (i + 2)), .ref w]) (rest := []) C0 hLS (fun h => k_fill_ok l G cI cZ cL a σ w g hI hJa hw2 (xs (i + 1)) (xs (i + 2)) h) (fun h => k_fill_ex l s.heap.size hst9 G cI cZ cL a σ w hI (xs (i + 1)) (xs (i + 2)) h) sa_lo.2 (vx_cwSW (hh := [(0, 10, 13, 21), (0, 10, 17, 13), (0, 10, 21, 15)]) 4 hts gL_law_L_fill rfl rfl rfl (by decide +kernel) ⟨Nat.le_of_ble_eq_true rfl, Nat.le_of_ble_eq_true rfl⟩) (vx_cwSW (hh := [(0, 10, 13, 21), (0, 10, 17, 13), (0, 10, 21, 15)]) 4 hts gL_law_L_fill rfl rfl rfl (by decide +kernel) ⟨Nat.le_of_ble_eq_true rfl, Nat.le_of_ble_eq_true rfl⟩) rfl hl.1 (Nat.le_of_ble_eq_true rfl) rfl dL_law_971 hc hs (fun H locs g hg hLS => ?_)
  refine lv_istore (lv' := [(5, .int (nI (sp_fill σ (xs (i + 1)) (xs (i + 2))).1)), (0, .ref b0), (1, .ref (a 0)), (2, .ref (b 0)), (3, .ref w), (4, .int (nI i))]) hx hb dL_law_974 hl (by decide) rfl (fun ls hl => ?_)
  refine lv_aload_n hx hb dL_law_976 rfl (lv_at hl 3 rfl) ?_
  refine lv_aload_n hx hb dL_law_977 rfl (lv_at hl 1 rfl) ?_
  refine lv_iload hx hb dL_law_978 (lv_at hl 5 rfl) ?_
  refine lv_iconst (v := 1) hx hb dL_law_980 (by decide) ?_
  refine sa_iaddk (j := 1) hx hb rfl dL_law_981 ?_
  refine sa_scl C0 hLS (by omega) dL_law_982 ?_
  refine lv_aload_n hx hb dL_law_983 rfl (lv_at hl 1 rfl) ?_
  refine lv_iload hx hb dL_law_984 (lv_at hl 5 rfl) ?_
  refine lv_iconst (v := 2) hx hb dL_law_986 (by decide) ?_
  refine sa_iaddk (j := 2) hx hb rfl dL_law_987 ?_
  refine sa_scl C0 hLS (by omega) dL_law_988 ?_
  refine sa_mstep (th2 := nI (sp_fill σ (xs (i + 1)) (xs (i + 2))).1) (σ2 := (sp_fill σ (xs (i + 1)) (xs (i + 2))).2.2) (As := [.int (xs (i + 1)), .int (xs (i + 2))]) (rest := []) C0 hLS (c_X1_fill l G cI cZ cL b σ th hI hJb (xs (i + 1)) (xs (i + 2))) (cwV 2 hts gL_law_X1_fill rfl rfl rfl (by decide +kernel) ⟨Nat.le_of_ble_eq_true rfl, Nat.le_of_ble_eq_true rfl⟩) rfl hl.1 (Nat.le_of_ble_eq_true rfl) rfl dL_law_989 (by omega) (by omega) (fun H locs hLS => ?_)
  refine lv_istore (lv' := [(6, .int ((sp_fill σ (xs (i + 1)) (xs (i + 2))).2.1)), (5, .int (nI (sp_fill σ (xs (i + 1)) (xs (i + 2))).1)), (0, .ref b0), (1, .ref (a 0)), (2, .ref (b 0)), (3, .ref w), (4, .int (nI i))]) hx hb dL_law_992 hl (by decide) rfl (fun ls hl => ?_)
  refine lv_aload_n hx hb dL_law_994 rfl (lv_at hl 4 rfl) ?_
  refine sa_kRd (As := []) (rest := []) S (c_X1_thrown l G cI cZ cL b (sp_fill σ (xs (i + 1)) (xs (i + 2))).2.2 (nI (sp_fill σ (xs (i + 1)) (xs (i + 2))).1)) (cwV 0 hts gL_law_X1_thrown rfl rfl rfl (by decide +kernel) ⟨Nat.le_of_ble_eq_true rfl, Nat.le_of_ble_eq_true rfl⟩) hLS.2.1 hK (ci := 1) rfl rfl rfl hl.1 (Nat.le_of_ble_eq_true rfl) rfl dL_law_995 ⟨by show cells + 1 ≤ 1060; omega, by show slots + 6 ≤ 10008; omega⟩ ?_
  refine lv_iload hx hb dL_law_998 (lv_at hl 1 rfl) ?_
  refine lv_icmp_eq (tgt := 1005) hx hb dL_law_1000 (by decide) (fun _ => ?_) (fun c9 => absurd rfl c9)
  refine lv_iload hx hb dL_law_1005 (lv_at hl 1 rfl) ?_
  refine lv_if_ne (tgt := 1022) hx hb dL_law_1007 (by decide) (fun c_1007 => ?_) (fun c_1007 => ?_)
  · skip
    refine lv_goto (tgt := 1610) hx hb dL_law_1022 (by decide) ?_
    exact K _ _ _ H locs ls (si_fill hI) hLS (lv_sub hl [2, 3, 4, 5, 6] rfl)
  · skip
    have hz := sa_n0 sa_lo.1 c_1007
    refine lv_aload_n hx hb dL_law_1010 rfl (lv_at hl 5 rfl) ?_
    refine lv_iconst (v := 0) hx hb dL_law_1011 (by decide) ?_
    refine sa_old C0 hLS dL_law_1012 ?_
    refine lv_iload hx hb dL_law_1013 (lv_at hl 0 rfl) ?_
    refine lv_i2l hx hb dL_law_1015 rfl ?_
    refine W.lcmp hx hb dL_law_1016 ?_
    rw [sa_cmp0 (hg hz)]
    refine lv_if_eq (tgt := 1022) hx hb dL_law_1017 (by decide) (fun _ => ?_) (fun c9 => absurd (by decide) c9)
    refine lv_goto (tgt := 1610) hx hb dL_law_1022 (by decide) ?_
    exact K _ _ _ H locs ls (si_fill hI) hLS (lv_sub hl [2, 3, 4, 5, 6] rfl)
set_option maxHeartbeats 4000000 in
set_option maxRecDepth 100000 in
theorem law_c14 {p : Program} {l : Launch} {e : Env} {s : State} {m : MethodId} {below : List Frame} {meth : Method} {c : Code} {G : va_G} {cI cZ cL : ClassId} {b0 L : Nat} {xs : Nat → Int32} {a b : Nat → Nat} {w : Nat} {σ : sa_St} {th : Int32} {g : Nat → Int64} {H : Heap} {locs : List Loc} {cells slots i : Nat} {ls : Array Slot} {Q : State → Prop} (C0 : sa_LC l p s m meth c G cI cZ cL b0 L xs a b w) (hI : sa_I σ) (hLS : sa_LS G cI cZ cL a b w σ σ th g s H locs) (hi : i + 8 ≤ L) (hc : cells + 1 ≤ 1060) (hs : slots + 6 ≤ 10008) (hl : lv_has ls 7 [(0, .ref b0), (1, .ref (a 0)), (2, .ref (b 0)), (3, .ref w), (4, .int (nI i))])
    (K : ∀ (σ : sa_St) (th : Int32) (g : Nat → Int64) (H : Heap) (locs : List Loc) (ls : Array Slot), sa_I σ → sa_LS G cI cZ cL a b w σ σ th g s H locs → lv_has ls 7 [(0, .ref b0), (1, .ref (a 0)), (2, .ref (b 0)), (3, .ref w), (4, .int (nI i))] → W p l e room_1 s m #[Value.ref b0] below meth c H locs (cells + 1) (slots + 6) Q (F0 m 1610 ls [])) : W p l e room_1 s m #[Value.ref b0] below meth c H locs cells slots Q (F0 m 1025 ls []) := by
  have S := C0.1
  have hx := S.1
  have hb := S.2.1
  have hts := S.2.2.2.2
  have hK := C0.2.2.2.1
  have hst9 := C0.2.2.2.2.1.2
  have hJa := C0.2.2.2.2.2.1.1
  have hJb := C0.2.2.2.2.2.1.2
  have hw2 := C0.2.2.2.2.2.2.2.2.1.2.1
  refine lv_aload_n hx hb dL_law_1025 rfl (lv_at hl 1 rfl) ?_
  refine lv_aload_n hx hb dL_law_1026 rfl (lv_at hl 0 rfl) ?_
  refine lv_iload hx hb dL_law_1027 (lv_at hl 4 rfl) ?_
  refine lv_iconst (v := 1) hx hb dL_law_1029 (by decide) ?_
  refine sa_iaddk (j := 1) hx hb rfl dL_law_1030 ?_
  refine sa_scl C0 hLS (by omega) dL_law_1031 ?_
  refine lv_aload_n hx hb dL_law_1032 rfl (lv_at hl 0 rfl) ?_
  refine lv_iload hx hb dL_law_1033 (lv_at hl 4 rfl) ?_
  refine lv_iconst (v := 2) hx hb dL_law_1035 (by decide) ?_
  refine sa_iaddk (j := 2) hx hb rfl dL_law_1036 ?_
  refine sa_scl C0 hLS (by omega) dL_law_1037 ?_
  refine lv_aload_n hx hb dL_law_1038 rfl (lv_at hl 3 rfl) ?_
  refine sa_wstep (SP := (sp_move σ (xs (i + 1)) (xs (i + 2)))) (As := [.ref (a 0), .int (xs (i + 1)), .int (xs (i + 2)), .ref w]) (rest := []) C0 hLS (fun h => k_move_ok l G cI cZ cL a σ w g hI hJa hw2 (xs (i + 1)) (xs (i + 2)) h) (fun h => k_move_ex l s.heap.size hst9 G cI cZ cL a σ w hI (xs (i + 1)) (xs (i + 2)) h) sa_lo.2 (vx_cwSW (hh := [(0, 10, 13, 21), (0, 10, 17, 15)]) 4 hts gL_law_L_move rfl rfl rfl (by decide +kernel) ⟨Nat.le_of_ble_eq_true rfl, Nat.le_of_ble_eq_true rfl⟩) (vx_cwSW (hh := [(0, 10, 13, 21), (0, 10, 17, 15)]) 4 hts gL_law_L_move rfl rfl rfl (by decide +kernel) ⟨Nat.le_of_ble_eq_true rfl, Nat.le_of_ble_eq_true rfl⟩) rfl hl.1 (Nat.le_of_ble_eq_true rfl) rfl dL_law_1039 hc hs (fun H locs g hg hLS => ?_)
  refine lv_istore (lv' := [(5, .int (nI (sp_move σ (xs (i + 1)) (xs (i + 2))).1)), (0, .ref b0), (1, .ref (a 0)), (2, .ref (b 0)), (3, .ref w), (4, .int (nI i))]) hx hb dL_law_1042 hl (by decide) rfl (fun ls hl => ?_)
  refine lv_aload_n hx hb dL_law_1044 rfl (lv_at hl 3 rfl) ?_
  refine lv_aload_n hx hb dL_law_1045 rfl (lv_at hl 1 rfl) ?_
  refine lv_iload hx hb dL_law_1046 (lv_at hl 5 rfl) ?_
  refine lv_iconst (v := 1) hx hb dL_law_1048 (by decide) ?_
  refine sa_iaddk (j := 1) hx hb rfl dL_law_1049 ?_
  refine sa_scl C0 hLS (by omega) dL_law_1050 ?_
  refine lv_aload_n hx hb dL_law_1051 rfl (lv_at hl 1 rfl) ?_
  refine lv_iload hx hb dL_law_1052 (lv_at hl 5 rfl) ?_
  refine lv_iconst (v := 2) hx hb dL_law_1054 (by decide) ?_
  refine sa_iaddk (j := 2) hx hb rfl dL_law_1055 ?_
  refine sa_scl C0 hLS (by omega) dL_law_1056 ?_
  refine sa_mstep (th2 := nI (sp_move σ (xs (i + 1)) (xs (i + 2))).1) (σ2 := (sp_move σ (xs (i + 1)) (xs (i + 2))).2.2) (As := [.int (xs (i + 1)), .int (xs (i + 2))]) (rest := []) C0 hLS (c_X1_move l G cI cZ cL b σ th hI hJb (xs (i + 1)) (xs (i + 2))) (cwV 2 hts gL_law_X1_move rfl rfl rfl (by decide +kernel) ⟨Nat.le_of_ble_eq_true rfl, Nat.le_of_ble_eq_true rfl⟩) rfl hl.1 (Nat.le_of_ble_eq_true rfl) rfl dL_law_1057 (by omega) (by omega) (fun H locs hLS => ?_)
  refine lv_istore (lv' := [(6, .int ((sp_move σ (xs (i + 1)) (xs (i + 2))).2.1)), (5, .int (nI (sp_move σ (xs (i + 1)) (xs (i + 2))).1)), (0, .ref b0), (1, .ref (a 0)), (2, .ref (b 0)), (3, .ref w), (4, .int (nI i))]) hx hb dL_law_1060 hl (by decide) rfl (fun ls hl => ?_)
  refine lv_aload_n hx hb dL_law_1062 rfl (lv_at hl 4 rfl) ?_
  refine sa_kRd (As := []) (rest := []) S (c_X1_thrown l G cI cZ cL b (sp_move σ (xs (i + 1)) (xs (i + 2))).2.2 (nI (sp_move σ (xs (i + 1)) (xs (i + 2))).1)) (cwV 0 hts gL_law_X1_thrown rfl rfl rfl (by decide +kernel) ⟨Nat.le_of_ble_eq_true rfl, Nat.le_of_ble_eq_true rfl⟩) hLS.2.1 hK (ci := 1) rfl rfl rfl hl.1 (Nat.le_of_ble_eq_true rfl) rfl dL_law_1063 ⟨by show cells + 1 ≤ 1060; omega, by show slots + 6 ≤ 10008; omega⟩ ?_
  refine lv_iload hx hb dL_law_1066 (lv_at hl 1 rfl) ?_
  refine lv_icmp_eq (tgt := 1073) hx hb dL_law_1068 (by decide) (fun _ => ?_) (fun c9 => absurd rfl c9)
  refine lv_iload hx hb dL_law_1073 (lv_at hl 1 rfl) ?_
  refine lv_if_ne (tgt := 1090) hx hb dL_law_1075 (by decide) (fun c_1075 => ?_) (fun c_1075 => ?_)
  · skip
    refine lv_goto (tgt := 1610) hx hb dL_law_1090 (by decide) ?_
    exact K _ _ _ H locs ls (si_move hI) hLS (lv_sub hl [2, 3, 4, 5, 6] rfl)
  · skip
    have hz := sa_n0 sa_lo.1 c_1075
    refine lv_aload_n hx hb dL_law_1078 rfl (lv_at hl 5 rfl) ?_
    refine lv_iconst (v := 0) hx hb dL_law_1079 (by decide) ?_
    refine sa_old C0 hLS dL_law_1080 ?_
    refine lv_iload hx hb dL_law_1081 (lv_at hl 0 rfl) ?_
    refine lv_i2l hx hb dL_law_1083 rfl ?_
    refine W.lcmp hx hb dL_law_1084 ?_
    rw [sa_cmp0 (hg hz)]
    refine lv_if_eq (tgt := 1090) hx hb dL_law_1085 (by decide) (fun _ => ?_) (fun c9 => absurd (by decide) c9)
    refine lv_goto (tgt := 1610) hx hb dL_law_1090 (by decide) ?_
    exact K _ _ _ H locs ls (si_move hI) hLS (lv_sub hl [2, 3, 4, 5, 6] rfl)
set_option maxHeartbeats 4000000 in
set_option maxRecDepth 100000 in
theorem law_c15 {p : Program} {l : Launch} {e : Env} {s : State} {m : MethodId} {below : List Frame} {meth : Method} {c : Code} {G : va_G} {cI cZ cL : ClassId} {b0 L : Nat} {xs : Nat → Int32} {a b : Nat → Nat} {w : Nat} {σ : sa_St} {th : Int32} {g : Nat → Int64} {H : Heap} {locs : List Loc} {cells slots i : Nat} {ls : Array Slot} {Q : State → Prop} (C0 : sa_LC l p s m meth c G cI cZ cL b0 L xs a b w) (hI : sa_I σ) (hLS : sa_LS G cI cZ cL a b w σ σ th g s H locs) (hi : i + 8 ≤ L) (hc : cells + 1 ≤ 1060) (hs : slots + 6 ≤ 10008) (hl : lv_has ls 7 [(0, .ref b0), (1, .ref (a 0)), (2, .ref (b 0)), (3, .ref w), (4, .int (nI i))])
    (K : ∀ (σ : sa_St) (th : Int32) (g : Nat → Int64) (H : Heap) (locs : List Loc) (ls : Array Slot), sa_I σ → sa_LS G cI cZ cL a b w σ σ th g s H locs → lv_has ls 7 [(0, .ref b0), (1, .ref (a 0)), (2, .ref (b 0)), (3, .ref w), (4, .int (nI i))] → W p l e room_1 s m #[Value.ref b0] below meth c H locs (cells + 1) (slots + 6) Q (F0 m 1610 ls [])) : W p l e room_1 s m #[Value.ref b0] below meth c H locs cells slots Q (F0 m 1093 ls []) := by
  have S := C0.1
  have hx := S.1
  have hb := S.2.1
  have hts := S.2.2.2.2
  have hK := C0.2.2.2.1
  have hst9 := C0.2.2.2.2.1.2
  have hJa := C0.2.2.2.2.2.1.1
  have hJb := C0.2.2.2.2.2.1.2
  have hw2 := C0.2.2.2.2.2.2.2.2.1.2.1
  refine lv_aload_n hx hb dL_law_1093 rfl (lv_at hl 1 rfl) ?_
  refine lv_aload_n hx hb dL_law_1094 rfl (lv_at hl 0 rfl) ?_
  refine lv_iload hx hb dL_law_1095 (lv_at hl 4 rfl) ?_
  refine lv_iconst (v := 1) hx hb dL_law_1097 (by decide) ?_
  refine sa_iaddk (j := 1) hx hb rfl dL_law_1098 ?_
  refine sa_scl C0 hLS (by omega) dL_law_1099 ?_
  refine lv_aload_n hx hb dL_law_1100 rfl (lv_at hl 3 rfl) ?_
  refine sa_wstep (SP := (sp_miss σ (xs (i + 1)))) (As := [.ref (a 0), .int (xs (i + 1)), .ref w]) (rest := []) C0 hLS (fun h => k_miss_ok l G cI cZ cL a σ w g hI hJa hw2 (xs (i + 1)) h) (fun h => k_miss_ex l s.heap.size hst9 G cI cZ cL a σ w hI (xs (i + 1)) h) sa_lo.2 (vx_cwSW (hh := [(0, 16, 19, 21), (0, 16, 22, 15)]) 3 hts gL_law_L_miss rfl rfl rfl (by decide +kernel) ⟨Nat.le_of_ble_eq_true rfl, Nat.le_of_ble_eq_true rfl⟩) (vx_cwSW (hh := [(0, 16, 19, 21), (0, 16, 22, 15)]) 3 hts gL_law_L_miss rfl rfl rfl (by decide +kernel) ⟨Nat.le_of_ble_eq_true rfl, Nat.le_of_ble_eq_true rfl⟩) rfl hl.1 (Nat.le_of_ble_eq_true rfl) rfl dL_law_1101 hc hs (fun H locs g hg hLS => ?_)
  refine lv_istore (lv' := [(5, .int (nI (sp_miss σ (xs (i + 1))).1)), (0, .ref b0), (1, .ref (a 0)), (2, .ref (b 0)), (3, .ref w), (4, .int (nI i))]) hx hb dL_law_1104 hl (by decide) rfl (fun ls hl => ?_)
  refine lv_aload_n hx hb dL_law_1106 rfl (lv_at hl 3 rfl) ?_
  refine lv_aload_n hx hb dL_law_1107 rfl (lv_at hl 1 rfl) ?_
  refine lv_iload hx hb dL_law_1108 (lv_at hl 5 rfl) ?_
  refine lv_iconst (v := 1) hx hb dL_law_1110 (by decide) ?_
  refine sa_iaddk (j := 1) hx hb rfl dL_law_1111 ?_
  refine sa_scl C0 hLS (by omega) dL_law_1112 ?_
  refine sa_mstep (th2 := nI (sp_miss σ (xs (i + 1))).1) (σ2 := (sp_miss σ (xs (i + 1))).2.2) (As := [.int (xs (i + 1))]) (rest := []) C0 hLS (c_X1_miss l G cI cZ cL b σ th hI hJb (xs (i + 1))) (cwV 1 hts gL_law_X1_miss rfl rfl rfl (by decide +kernel) ⟨Nat.le_of_ble_eq_true rfl, Nat.le_of_ble_eq_true rfl⟩) rfl hl.1 (Nat.le_of_ble_eq_true rfl) rfl dL_law_1113 (by omega) (by omega) (fun H locs hLS => ?_)
  refine lv_istore (lv' := [(6, .int ((sp_miss σ (xs (i + 1))).2.1)), (5, .int (nI (sp_miss σ (xs (i + 1))).1)), (0, .ref b0), (1, .ref (a 0)), (2, .ref (b 0)), (3, .ref w), (4, .int (nI i))]) hx hb dL_law_1116 hl (by decide) rfl (fun ls hl => ?_)
  refine lv_aload_n hx hb dL_law_1118 rfl (lv_at hl 4 rfl) ?_
  refine sa_kRd (As := []) (rest := []) S (c_X1_thrown l G cI cZ cL b (sp_miss σ (xs (i + 1))).2.2 (nI (sp_miss σ (xs (i + 1))).1)) (cwV 0 hts gL_law_X1_thrown rfl rfl rfl (by decide +kernel) ⟨Nat.le_of_ble_eq_true rfl, Nat.le_of_ble_eq_true rfl⟩) hLS.2.1 hK (ci := 1) rfl rfl rfl hl.1 (Nat.le_of_ble_eq_true rfl) rfl dL_law_1119 ⟨by show cells + 1 ≤ 1060; omega, by show slots + 6 ≤ 10008; omega⟩ ?_
  refine lv_iload hx hb dL_law_1122 (lv_at hl 1 rfl) ?_
  refine lv_icmp_eq (tgt := 1129) hx hb dL_law_1124 (by decide) (fun _ => ?_) (fun c9 => absurd rfl c9)
  refine lv_iload hx hb dL_law_1129 (lv_at hl 1 rfl) ?_
  refine lv_if_ne (tgt := 1153) hx hb dL_law_1131 (by decide) (fun c_1131 => ?_) (fun c_1131 => ?_)
  · skip
    refine lv_goto (tgt := 1610) hx hb dL_law_1153 (by decide) ?_
    exact K _ _ _ H locs ls (si_miss hI) hLS (lv_sub hl [2, 3, 4, 5, 6] rfl)
  · skip
    have hz := sa_n0 sa_lo.1 c_1131
    refine lv_aload_n hx hb dL_law_1134 rfl (lv_at hl 5 rfl) ?_
    refine lv_iconst (v := 0) hx hb dL_law_1135 (by decide) ?_
    refine sa_old C0 hLS dL_law_1136 ?_
    refine lv_iload hx hb dL_law_1137 (lv_at hl 0 rfl) ?_
    refine lv_if_eq (tgt := 1146) hx hb dL_law_1139 (by decide) (fun c_1139 => ?_) (fun c_1139 => ?_)
    · skip
      refine lv_lconst (v := 0) hx hb dL_law_1146 (by decide) ?_
      refine W.lcmp hx hb dL_law_1147 ?_
      rw [sa_cmp0 (x := g 0) (y := 0) ((hg hz).trans (by rw [c_1139]; rfl))]
      refine lv_if_eq (tgt := 1153) hx hb dL_law_1148 (by decide) (fun _ => ?_) (fun c9 => absurd (by decide) c9)
      refine lv_goto (tgt := 1610) hx hb dL_law_1153 (by decide) ?_
      exact K _ _ _ H locs ls (si_miss hI) hLS (lv_sub hl [2, 3, 4, 5, 6] rfl)
    · skip
      refine lv_lconst (v := 1) hx hb dL_law_1142 (by decide) ?_
      refine lv_goto (tgt := 1147) hx hb dL_law_1143 (by decide) ?_
      refine W.lcmp hx hb dL_law_1147 ?_
      rw [sa_cmp0 (x := g 0) (y := 1) ((hg hz).trans (by rw [Or.resolve_left (sb_miss hI hz) c_1139]; rfl))]
      refine lv_if_eq (tgt := 1153) hx hb dL_law_1148 (by decide) (fun _ => ?_) (fun c9 => absurd (by decide) c9)
      refine lv_goto (tgt := 1610) hx hb dL_law_1153 (by decide) ?_
      exact K _ _ _ H locs ls (si_miss hI) hLS (lv_sub hl [2, 3, 4, 5, 6] rfl)
set_option maxHeartbeats 4000000 in
set_option maxRecDepth 100000 in
theorem law_c16 {p : Program} {l : Launch} {e : Env} {s : State} {m : MethodId} {below : List Frame} {meth : Method} {c : Code} {G : va_G} {cI cZ cL : ClassId} {b0 L : Nat} {xs : Nat → Int32} {a b : Nat → Nat} {w : Nat} {σ : sa_St} {th : Int32} {g : Nat → Int64} {H : Heap} {locs : List Loc} {cells slots i : Nat} {ls : Array Slot} {Q : State → Prop} (C0 : sa_LC l p s m meth c G cI cZ cL b0 L xs a b w) (hI : sa_I σ) (hLS : sa_LS G cI cZ cL a b w σ σ th g s H locs) (hi : i + 8 ≤ L) (hc : cells + 1 ≤ 1060) (hs : slots + 6 ≤ 10008) (hl : lv_has ls 7 [(0, .ref b0), (1, .ref (a 0)), (2, .ref (b 0)), (3, .ref w), (4, .int (nI i))])
    (K : ∀ (σ : sa_St) (th : Int32) (g : Nat → Int64) (H : Heap) (locs : List Loc) (ls : Array Slot), sa_I σ → sa_LS G cI cZ cL a b w σ σ th g s H locs → lv_has ls 7 [(0, .ref b0), (1, .ref (a 0)), (2, .ref (b 0)), (3, .ref w), (4, .int (nI i))] → W p l e room_1 s m #[Value.ref b0] below meth c H locs (cells + 1) (slots + 6) Q (F0 m 1610 ls [])) : W p l e room_1 s m #[Value.ref b0] below meth c H locs cells slots Q (F0 m 1156 ls []) := by
  have S := C0.1
  have hx := S.1
  have hb := S.2.1
  have hts := S.2.2.2.2
  have hK := C0.2.2.2.1
  have hst9 := C0.2.2.2.2.1.2
  have hJa := C0.2.2.2.2.2.1.1
  have hJb := C0.2.2.2.2.2.1.2
  have hw2 := C0.2.2.2.2.2.2.2.2.1.2.1
  refine lv_aload_n hx hb dL_law_1156 rfl (lv_at hl 1 rfl) ?_
  refine lv_aload_n hx hb dL_law_1157 rfl (lv_at hl 0 rfl) ?_
  refine lv_iload hx hb dL_law_1158 (lv_at hl 4 rfl) ?_
  refine lv_iconst (v := 1) hx hb dL_law_1160 (by decide) ?_
  refine sa_iaddk (j := 1) hx hb rfl dL_law_1161 ?_
  refine sa_scl C0 hLS (by omega) dL_law_1162 ?_
  refine sa_wstepN (SP := (sp_drop σ (xs (i + 1)))) (As := [.ref (a 0), .int (xs (i + 1))]) (rest := []) C0 hLS (fun h => k_drop_ok l G cI cZ cL a σ w g hI hJa hw2 (xs (i + 1)) h) (fun h => k_drop_ex l s.heap.size hst9 G cI cZ cL a σ w hI (xs (i + 1)) h) sa_lo.2 (vx_cwSW (hh := [(0, 5, 8, 21), (0, 5, 11, 15)]) 2 hts gL_law_L_drop rfl rfl rfl (by decide +kernel) ⟨Nat.le_of_ble_eq_true rfl, Nat.le_of_ble_eq_true rfl⟩) (vx_cwSW (hh := [(0, 5, 8, 21), (0, 5, 11, 15)]) 2 hts gL_law_L_drop rfl rfl rfl (by decide +kernel) ⟨Nat.le_of_ble_eq_true rfl, Nat.le_of_ble_eq_true rfl⟩) rfl hl.1 (Nat.le_of_ble_eq_true rfl) rfl dL_law_1163 hc hs (fun H locs hLS => ?_)
  refine lv_istore (lv' := [(5, .int (nI (sp_drop σ (xs (i + 1))).1)), (0, .ref b0), (1, .ref (a 0)), (2, .ref (b 0)), (3, .ref w), (4, .int (nI i))]) hx hb dL_law_1166 hl (by decide) rfl (fun ls hl => ?_)
  refine lv_aload_n hx hb dL_law_1168 rfl (lv_at hl 3 rfl) ?_
  refine lv_aload_n hx hb dL_law_1169 rfl (lv_at hl 1 rfl) ?_
  refine lv_iload hx hb dL_law_1170 (lv_at hl 5 rfl) ?_
  refine lv_iconst (v := 1) hx hb dL_law_1172 (by decide) ?_
  refine sa_iaddk (j := 1) hx hb rfl dL_law_1173 ?_
  refine sa_scl C0 hLS (by omega) dL_law_1174 ?_
  refine sa_mstepV (th2 := nI (sp_drop σ (xs (i + 1))).1) (σ2 := (sp_drop σ (xs (i + 1))).2.2) (As := [.int (xs (i + 1))]) (rest := []) C0 hLS (c_X1_drop l G cI cZ cL b σ th hI hJb (xs (i + 1))) (cwV 1 hts gL_law_X1_drop rfl rfl rfl (by decide +kernel) ⟨Nat.le_of_ble_eq_true rfl, Nat.le_of_ble_eq_true rfl⟩) rfl hl.1 (Nat.le_of_ble_eq_true rfl) rfl dL_law_1175 (by omega) (by omega) (fun H locs hLS => ?_)
  refine lv_aload_n hx hb dL_law_1178 rfl (lv_at hl 3 rfl) ?_
  refine sa_kRd (As := []) (rest := []) S (c_X1_thrown l G cI cZ cL b (sp_drop σ (xs (i + 1))).2.2 (nI (sp_drop σ (xs (i + 1))).1)) (cwV 0 hts gL_law_X1_thrown rfl rfl rfl (by decide +kernel) ⟨Nat.le_of_ble_eq_true rfl, Nat.le_of_ble_eq_true rfl⟩) hLS.2.1 hK (ci := 1) rfl rfl rfl hl.1 (Nat.le_of_ble_eq_true rfl) rfl dL_law_1179 ⟨by show cells + 1 ≤ 1060; omega, by show slots + 6 ≤ 10008; omega⟩ ?_
  refine lv_iload hx hb dL_law_1182 (lv_at hl 0 rfl) ?_
  refine lv_icmp_eq (tgt := 1189) hx hb dL_law_1184 (by decide) (fun _ => ?_) (fun c9 => absurd rfl c9)
  refine lv_goto (tgt := 1610) hx hb dL_law_1189 (by decide) ?_
  exact K _ _ _ H locs ls (si_drop hI) hLS (lv_sub hl [1, 2, 3, 4, 5] rfl)
set_option maxHeartbeats 4000000 in
set_option maxRecDepth 100000 in
theorem law_c17 {p : Program} {l : Launch} {e : Env} {s : State} {m : MethodId} {below : List Frame} {meth : Method} {c : Code} {G : va_G} {cI cZ cL : ClassId} {b0 L : Nat} {xs : Nat → Int32} {a b : Nat → Nat} {w : Nat} {σ : sa_St} {th : Int32} {g : Nat → Int64} {H : Heap} {locs : List Loc} {cells slots i : Nat} {ls : Array Slot} {Q : State → Prop} (C0 : sa_LC l p s m meth c G cI cZ cL b0 L xs a b w) (hI : sa_I σ) (hLS : sa_LS G cI cZ cL a b w σ σ th g s H locs) (hi : i + 8 ≤ L) (hc : cells + 1 ≤ 1060) (hs : slots + 6 ≤ 10008) (hl : lv_has ls 7 [(0, .ref b0), (1, .ref (a 0)), (2, .ref (b 0)), (3, .ref w), (4, .int (nI i))])
    (K : ∀ (σ : sa_St) (th : Int32) (g : Nat → Int64) (H : Heap) (locs : List Loc) (ls : Array Slot), sa_I σ → sa_LS G cI cZ cL a b w σ σ th g s H locs → lv_has ls 7 [(0, .ref b0), (1, .ref (a 0)), (2, .ref (b 0)), (3, .ref w), (4, .int (nI i))] → W p l e room_1 s m #[Value.ref b0] below meth c H locs (cells + 1) (slots + 6) Q (F0 m 1610 ls [])) : W p l e room_1 s m #[Value.ref b0] below meth c H locs cells slots Q (F0 m 1192 ls []) := by
  have S := C0.1
  have hx := S.1
  have hb := S.2.1
  have hts := S.2.2.2.2
  have hK := C0.2.2.2.1
  have hst9 := C0.2.2.2.2.1.2
  have hJa := C0.2.2.2.2.2.1.1
  have hJb := C0.2.2.2.2.2.1.2
  have hw2 := C0.2.2.2.2.2.2.2.2.1.2.1
  refine lv_aload_n hx hb dL_law_1192 rfl (lv_at hl 1 rfl) ?_
  refine sa_kRd (As := []) (rest := []) S (c_X0_spots_ok l G cI cZ cL a σ hI) (cwV 0 hts gL_law_X0_spots rfl rfl rfl (by decide +kernel) ⟨Nat.le_of_ble_eq_true rfl, Nat.le_of_ble_eq_true rfl⟩) hLS.1 hK (ci := 0) rfl rfl rfl hl.1 (Nat.le_of_ble_eq_true rfl) rfl dL_law_1193 ⟨by show cells ≤ 1060; omega, by show slots ≤ 10008; omega⟩ ?_
  refine lv_aload_n hx hb dL_law_1196 rfl (lv_at hl 2 rfl) ?_
  refine sa_mstep (th2 := 0) (σ2 := σ) (As := []) (rest := [.int (nI (σ.1 2))]) C0 hLS (c_X1_spots l G cI cZ cL b σ th hI hJb) (cwV 0 hts gL_law_X1_spots rfl rfl rfl (by decide +kernel) ⟨Nat.le_of_ble_eq_true rfl, Nat.le_of_ble_eq_true rfl⟩) rfl hl.1 (Nat.le_of_ble_eq_true rfl) rfl dL_law_1197 (by omega) (by omega) (fun H locs hLS => ?_)
  refine lv_icmp_eq (tgt := 1610) hx hb dL_law_1200 (by decide) (fun _ => ?_) (fun c9 => absurd rfl c9)
  refine W.widen (k := cells + 1) (n := slots + 6) (by omega) (by omega) ?_
  exact K _ _ _ H locs ls hI hLS (lv_sub hl [0, 1, 2, 3, 4] rfl)
set_option maxHeartbeats 4000000 in
set_option maxRecDepth 100000 in
theorem law_c18 {p : Program} {l : Launch} {e : Env} {s : State} {m : MethodId} {below : List Frame} {meth : Method} {c : Code} {G : va_G} {cI cZ cL : ClassId} {b0 L : Nat} {xs : Nat → Int32} {a b : Nat → Nat} {w : Nat} {σ : sa_St} {th : Int32} {g : Nat → Int64} {H : Heap} {locs : List Loc} {cells slots i : Nat} {ls : Array Slot} {Q : State → Prop} (C0 : sa_LC l p s m meth c G cI cZ cL b0 L xs a b w) (hI : sa_I σ) (hLS : sa_LS G cI cZ cL a b w σ σ th g s H locs) (hi : i + 8 ≤ L) (hc : cells + 1 ≤ 1060) (hs : slots + 6 ≤ 10008) (hl : lv_has ls 7 [(0, .ref b0), (1, .ref (a 0)), (2, .ref (b 0)), (3, .ref w), (4, .int (nI i))])
    (K : ∀ (σ : sa_St) (th : Int32) (g : Nat → Int64) (H : Heap) (locs : List Loc) (ls : Array Slot), sa_I σ → sa_LS G cI cZ cL a b w σ σ th g s H locs → lv_has ls 7 [(0, .ref b0), (1, .ref (a 0)), (2, .ref (b 0)), (3, .ref w), (4, .int (nI i))] → W p l e room_1 s m #[Value.ref b0] below meth c H locs (cells + 1) (slots + 6) Q (F0 m 1610 ls [])) : W p l e room_1 s m #[Value.ref b0] below meth c H locs cells slots Q (F0 m 1205 ls []) := by
  have S := C0.1
  have hx := S.1
  have hb := S.2.1
  have hts := S.2.2.2.2
  have hK := C0.2.2.2.1
  have hst9 := C0.2.2.2.2.1.2
  have hJa := C0.2.2.2.2.2.1.1
  have hJb := C0.2.2.2.2.2.1.2
  have hw2 := C0.2.2.2.2.2.2.2.2.1.2.1
  refine lv_aload_n hx hb dL_law_1205 rfl (lv_at hl 1 rfl) ?_
  refine lv_aload_n hx hb dL_law_1206 rfl (lv_at hl 0 rfl) ?_
  refine lv_iload hx hb dL_law_1207 (lv_at hl 4 rfl) ?_
  refine lv_iconst (v := 1) hx hb dL_law_1209 (by decide) ?_
  refine sa_iaddk (j := 1) hx hb rfl dL_law_1210 ?_
  refine sa_scl C0 hLS (by omega) dL_law_1211 ?_
  refine lv_aload_n hx hb dL_law_1212 rfl (lv_at hl 3 rfl) ?_
  refine sa_wstep (SP := (sp_stateOf σ (xs (i + 1)))) (As := [.ref (a 0), .int (xs (i + 1)), .ref w]) (rest := []) C0 hLS (fun h => k_stateOf_ok l G cI cZ cL a σ w g hI hJa hw2 (xs (i + 1)) h) (fun h => k_stateOf_ex l s.heap.size hst9 G cI cZ cL a σ w hI (xs (i + 1)) h) sa_lo.2 (vx_cwSW (hh := [(0, 9, 12, 21)]) 3 hts gL_law_L_stateOf rfl rfl rfl (by decide +kernel) ⟨Nat.le_of_ble_eq_true rfl, Nat.le_of_ble_eq_true rfl⟩) (vx_cwSW (hh := [(0, 9, 12, 21)]) 3 hts gL_law_L_stateOf rfl rfl rfl (by decide +kernel) ⟨Nat.le_of_ble_eq_true rfl, Nat.le_of_ble_eq_true rfl⟩) rfl hl.1 (Nat.le_of_ble_eq_true rfl) rfl dL_law_1213 hc hs (fun H locs g hg hLS => ?_)
  refine lv_istore (lv' := [(5, .int (nI (sp_stateOf σ (xs (i + 1))).1)), (0, .ref b0), (1, .ref (a 0)), (2, .ref (b 0)), (3, .ref w), (4, .int (nI i))]) hx hb dL_law_1216 hl (by decide) rfl (fun ls hl => ?_)
  refine lv_aload_n hx hb dL_law_1218 rfl (lv_at hl 3 rfl) ?_
  refine lv_aload_n hx hb dL_law_1219 rfl (lv_at hl 1 rfl) ?_
  refine lv_iload hx hb dL_law_1220 (lv_at hl 5 rfl) ?_
  refine lv_iconst (v := 1) hx hb dL_law_1222 (by decide) ?_
  refine sa_iaddk (j := 1) hx hb rfl dL_law_1223 ?_
  refine sa_scl C0 hLS (by omega) dL_law_1224 ?_
  refine sa_mstep (th2 := nI (sp_stateOf σ (xs (i + 1))).1) (σ2 := (sp_stateOf σ (xs (i + 1))).2.2) (As := [.int (xs (i + 1))]) (rest := []) C0 hLS (c_X1_stateOf l G cI cZ cL b σ th hI hJb (xs (i + 1))) (cwV 1 hts gL_law_X1_stateOf rfl rfl rfl (by decide +kernel) ⟨Nat.le_of_ble_eq_true rfl, Nat.le_of_ble_eq_true rfl⟩) rfl hl.1 (Nat.le_of_ble_eq_true rfl) rfl dL_law_1225 (by omega) (by omega) (fun H locs hLS => ?_)
  refine lv_istore (lv' := [(6, .int ((sp_stateOf σ (xs (i + 1))).2.1)), (5, .int (nI (sp_stateOf σ (xs (i + 1))).1)), (0, .ref b0), (1, .ref (a 0)), (2, .ref (b 0)), (3, .ref w), (4, .int (nI i))]) hx hb dL_law_1228 hl (by decide) rfl (fun ls hl => ?_)
  refine lv_aload_n hx hb dL_law_1230 rfl (lv_at hl 4 rfl) ?_
  refine sa_kRd (As := []) (rest := []) S (c_X1_thrown l G cI cZ cL b (sp_stateOf σ (xs (i + 1))).2.2 (nI (sp_stateOf σ (xs (i + 1))).1)) (cwV 0 hts gL_law_X1_thrown rfl rfl rfl (by decide +kernel) ⟨Nat.le_of_ble_eq_true rfl, Nat.le_of_ble_eq_true rfl⟩) hLS.2.1 hK (ci := 1) rfl rfl rfl hl.1 (Nat.le_of_ble_eq_true rfl) rfl dL_law_1231 ⟨by show cells + 1 ≤ 1060; omega, by show slots + 6 ≤ 10008; omega⟩ ?_
  refine lv_iload hx hb dL_law_1234 (lv_at hl 1 rfl) ?_
  refine lv_icmp_eq (tgt := 1241) hx hb dL_law_1236 (by decide) (fun _ => ?_) (fun c9 => absurd rfl c9)
  refine lv_iload hx hb dL_law_1241 (lv_at hl 1 rfl) ?_
  refine lv_if_ne (tgt := 1258) hx hb dL_law_1243 (by decide) (fun c_1243 => ?_) (fun c_1243 => ?_)
  · skip
    refine lv_goto (tgt := 1610) hx hb dL_law_1258 (by decide) ?_
    exact K _ _ _ H locs ls (si_stateOf hI) hLS (lv_sub hl [2, 3, 4, 5, 6] rfl)
  · skip
    have hz := sa_n0 sa_lo.1 c_1243
    refine lv_aload_n hx hb dL_law_1246 rfl (lv_at hl 5 rfl) ?_
    refine lv_iconst (v := 0) hx hb dL_law_1247 (by decide) ?_
    refine sa_old C0 hLS dL_law_1248 ?_
    refine lv_iload hx hb dL_law_1249 (lv_at hl 0 rfl) ?_
    refine lv_i2l hx hb dL_law_1251 rfl ?_
    refine W.lcmp hx hb dL_law_1252 ?_
    rw [sa_cmp0 (hg hz)]
    refine lv_if_eq (tgt := 1258) hx hb dL_law_1253 (by decide) (fun _ => ?_) (fun c9 => absurd (by decide) c9)
    refine lv_goto (tgt := 1610) hx hb dL_law_1258 (by decide) ?_
    exact K _ _ _ H locs ls (si_stateOf hI) hLS (lv_sub hl [2, 3, 4, 5, 6] rfl)
set_option maxHeartbeats 4000000 in
set_option maxRecDepth 100000 in
theorem law_c19 {p : Program} {l : Launch} {e : Env} {s : State} {m : MethodId} {below : List Frame} {meth : Method} {c : Code} {G : va_G} {cI cZ cL : ClassId} {b0 L : Nat} {xs : Nat → Int32} {a b : Nat → Nat} {w : Nat} {σ : sa_St} {th : Int32} {g : Nat → Int64} {H : Heap} {locs : List Loc} {cells slots i : Nat} {ls : Array Slot} {Q : State → Prop} (C0 : sa_LC l p s m meth c G cI cZ cL b0 L xs a b w) (hI : sa_I σ) (hLS : sa_LS G cI cZ cL a b w σ σ th g s H locs) (hi : i + 8 ≤ L) (hc : cells + 1 ≤ 1060) (hs : slots + 6 ≤ 10008) (hl : lv_has ls 7 [(0, .ref b0), (1, .ref (a 0)), (2, .ref (b 0)), (3, .ref w), (4, .int (nI i))])
    (K : ∀ (σ : sa_St) (th : Int32) (g : Nat → Int64) (H : Heap) (locs : List Loc) (ls : Array Slot), sa_I σ → sa_LS G cI cZ cL a b w σ σ th g s H locs → lv_has ls 7 [(0, .ref b0), (1, .ref (a 0)), (2, .ref (b 0)), (3, .ref w), (4, .int (nI i))] → W p l e room_1 s m #[Value.ref b0] below meth c H locs (cells + 1) (slots + 6) Q (F0 m 1610 ls [])) : W p l e room_1 s m #[Value.ref b0] below meth c H locs cells slots Q (F0 m 1261 ls []) := by
  have S := C0.1
  have hx := S.1
  have hb := S.2.1
  have hts := S.2.2.2.2
  have hK := C0.2.2.2.1
  have hst9 := C0.2.2.2.2.1.2
  have hJa := C0.2.2.2.2.2.1.1
  have hJb := C0.2.2.2.2.2.1.2
  have hw2 := C0.2.2.2.2.2.2.2.2.1.2.1
  refine lv_aload_n hx hb dL_law_1261 rfl (lv_at hl 1 rfl) ?_
  refine lv_aload_n hx hb dL_law_1262 rfl (lv_at hl 0 rfl) ?_
  refine lv_iload hx hb dL_law_1263 (lv_at hl 4 rfl) ?_
  refine lv_iconst (v := 1) hx hb dL_law_1265 (by decide) ?_
  refine sa_iaddk (j := 1) hx hb rfl dL_law_1266 ?_
  refine sa_scl C0 hLS (by omega) dL_law_1267 ?_
  refine lv_aload_n hx hb dL_law_1268 rfl (lv_at hl 3 rfl) ?_
  refine sa_wstep (SP := (sp_breakOf σ (xs (i + 1)))) (As := [.ref (a 0), .int (xs (i + 1)), .ref w]) (rest := []) C0 hLS (fun h => k_breakOf_ok l G cI cZ cL a σ w g hI hJa hw2 (xs (i + 1)) h) (fun h => k_breakOf_ex l s.heap.size hst9 G cI cZ cL a σ w hI (xs (i + 1)) h) sa_lo.2 (vx_cwSW (hh := [(0, 9, 12, 21)]) 3 hts gL_law_L_breakOf rfl rfl rfl (by decide +kernel) ⟨Nat.le_of_ble_eq_true rfl, Nat.le_of_ble_eq_true rfl⟩) (vx_cwSW (hh := [(0, 9, 12, 21)]) 3 hts gL_law_L_breakOf rfl rfl rfl (by decide +kernel) ⟨Nat.le_of_ble_eq_true rfl, Nat.le_of_ble_eq_true rfl⟩) rfl hl.1 (Nat.le_of_ble_eq_true rfl) rfl dL_law_1269 hc hs (fun H locs g hg hLS => ?_)
  refine lv_istore (lv' := [(5, .int (nI (sp_breakOf σ (xs (i + 1))).1)), (0, .ref b0), (1, .ref (a 0)), (2, .ref (b 0)), (3, .ref w), (4, .int (nI i))]) hx hb dL_law_1272 hl (by decide) rfl (fun ls hl => ?_)
  refine lv_aload_n hx hb dL_law_1274 rfl (lv_at hl 3 rfl) ?_
  refine lv_aload_n hx hb dL_law_1275 rfl (lv_at hl 1 rfl) ?_
  refine lv_iload hx hb dL_law_1276 (lv_at hl 5 rfl) ?_
  refine lv_iconst (v := 1) hx hb dL_law_1278 (by decide) ?_
  refine sa_iaddk (j := 1) hx hb rfl dL_law_1279 ?_
  refine sa_scl C0 hLS (by omega) dL_law_1280 ?_
  refine sa_mstep (th2 := nI (sp_breakOf σ (xs (i + 1))).1) (σ2 := (sp_breakOf σ (xs (i + 1))).2.2) (As := [.int (xs (i + 1))]) (rest := []) C0 hLS (c_X1_breakOf l G cI cZ cL b σ th hI hJb (xs (i + 1))) (cwV 1 hts gL_law_X1_breakOf rfl rfl rfl (by decide +kernel) ⟨Nat.le_of_ble_eq_true rfl, Nat.le_of_ble_eq_true rfl⟩) rfl hl.1 (Nat.le_of_ble_eq_true rfl) rfl dL_law_1281 (by omega) (by omega) (fun H locs hLS => ?_)
  refine lv_istore (lv' := [(6, .int ((sp_breakOf σ (xs (i + 1))).2.1)), (5, .int (nI (sp_breakOf σ (xs (i + 1))).1)), (0, .ref b0), (1, .ref (a 0)), (2, .ref (b 0)), (3, .ref w), (4, .int (nI i))]) hx hb dL_law_1284 hl (by decide) rfl (fun ls hl => ?_)
  refine lv_aload_n hx hb dL_law_1286 rfl (lv_at hl 4 rfl) ?_
  refine sa_kRd (As := []) (rest := []) S (c_X1_thrown l G cI cZ cL b (sp_breakOf σ (xs (i + 1))).2.2 (nI (sp_breakOf σ (xs (i + 1))).1)) (cwV 0 hts gL_law_X1_thrown rfl rfl rfl (by decide +kernel) ⟨Nat.le_of_ble_eq_true rfl, Nat.le_of_ble_eq_true rfl⟩) hLS.2.1 hK (ci := 1) rfl rfl rfl hl.1 (Nat.le_of_ble_eq_true rfl) rfl dL_law_1287 ⟨by show cells + 1 ≤ 1060; omega, by show slots + 6 ≤ 10008; omega⟩ ?_
  refine lv_iload hx hb dL_law_1290 (lv_at hl 1 rfl) ?_
  refine lv_icmp_eq (tgt := 1297) hx hb dL_law_1292 (by decide) (fun _ => ?_) (fun c9 => absurd rfl c9)
  refine lv_iload hx hb dL_law_1297 (lv_at hl 1 rfl) ?_
  refine lv_if_ne (tgt := 1314) hx hb dL_law_1299 (by decide) (fun c_1299 => ?_) (fun c_1299 => ?_)
  · skip
    refine lv_goto (tgt := 1610) hx hb dL_law_1314 (by decide) ?_
    exact K _ _ _ H locs ls (si_breakOf hI) hLS (lv_sub hl [2, 3, 4, 5, 6] rfl)
  · skip
    have hz := sa_n0 sa_lo.1 c_1299
    refine lv_aload_n hx hb dL_law_1302 rfl (lv_at hl 5 rfl) ?_
    refine lv_iconst (v := 0) hx hb dL_law_1303 (by decide) ?_
    refine sa_old C0 hLS dL_law_1304 ?_
    refine lv_iload hx hb dL_law_1305 (lv_at hl 0 rfl) ?_
    refine lv_i2l hx hb dL_law_1307 rfl ?_
    refine W.lcmp hx hb dL_law_1308 ?_
    rw [sa_cmp0 (hg hz)]
    refine lv_if_eq (tgt := 1314) hx hb dL_law_1309 (by decide) (fun _ => ?_) (fun c9 => absurd (by decide) c9)
    refine lv_goto (tgt := 1610) hx hb dL_law_1314 (by decide) ?_
    exact K _ _ _ H locs ls (si_breakOf hI) hLS (lv_sub hl [2, 3, 4, 5, 6] rfl)
set_option maxHeartbeats 4000000 in
set_option maxRecDepth 100000 in
theorem law_c20 {p : Program} {l : Launch} {e : Env} {s : State} {m : MethodId} {below : List Frame} {meth : Method} {c : Code} {G : va_G} {cI cZ cL : ClassId} {b0 L : Nat} {xs : Nat → Int32} {a b : Nat → Nat} {w : Nat} {σ : sa_St} {th : Int32} {g : Nat → Int64} {H : Heap} {locs : List Loc} {cells slots i : Nat} {ls : Array Slot} {Q : State → Prop} (C0 : sa_LC l p s m meth c G cI cZ cL b0 L xs a b w) (hI : sa_I σ) (hLS : sa_LS G cI cZ cL a b w σ σ th g s H locs) (hi : i + 8 ≤ L) (hc : cells + 1 ≤ 1060) (hs : slots + 6 ≤ 10008) (hl : lv_has ls 7 [(0, .ref b0), (1, .ref (a 0)), (2, .ref (b 0)), (3, .ref w), (4, .int (nI i))])
    (K : ∀ (σ : sa_St) (th : Int32) (g : Nat → Int64) (H : Heap) (locs : List Loc) (ls : Array Slot), sa_I σ → sa_LS G cI cZ cL a b w σ σ th g s H locs → lv_has ls 7 [(0, .ref b0), (1, .ref (a 0)), (2, .ref (b 0)), (3, .ref w), (4, .int (nI i))] → W p l e room_1 s m #[Value.ref b0] below meth c H locs (cells + 1) (slots + 6) Q (F0 m 1610 ls [])) : W p l e room_1 s m #[Value.ref b0] below meth c H locs cells slots Q (F0 m 1317 ls []) := by
  have S := C0.1
  have hx := S.1
  have hb := S.2.1
  have hts := S.2.2.2.2
  have hK := C0.2.2.2.1
  have hst9 := C0.2.2.2.2.1.2
  have hJa := C0.2.2.2.2.2.1.1
  have hJb := C0.2.2.2.2.2.1.2
  have hw2 := C0.2.2.2.2.2.2.2.2.1.2.1
  refine lv_aload_n hx hb dL_law_1317 rfl (lv_at hl 1 rfl) ?_
  refine lv_aload_n hx hb dL_law_1318 rfl (lv_at hl 0 rfl) ?_
  refine lv_iload hx hb dL_law_1319 (lv_at hl 4 rfl) ?_
  refine lv_iconst (v := 1) hx hb dL_law_1321 (by decide) ?_
  refine sa_iaddk (j := 1) hx hb rfl dL_law_1322 ?_
  refine sa_scl C0 hLS (by omega) dL_law_1323 ?_
  refine lv_aload_n hx hb dL_law_1324 rfl (lv_at hl 3 rfl) ?_
  refine sa_wstep (SP := (sp_delivered σ (xs (i + 1)))) (As := [.ref (a 0), .int (xs (i + 1)), .ref w]) (rest := []) C0 hLS (fun h => k_delivered_ok l G cI cZ cL a σ w g hI hJa hw2 (xs (i + 1)) h) (fun h => k_delivered_ex l s.heap.size hst9 G cI cZ cL a σ w hI (xs (i + 1)) h) sa_lo.2 (vx_cwSW (hh := [(0, 9, 12, 21)]) 3 hts gL_law_L_delivered rfl rfl rfl (by decide +kernel) ⟨Nat.le_of_ble_eq_true rfl, Nat.le_of_ble_eq_true rfl⟩) (vx_cwSW (hh := [(0, 9, 12, 21)]) 3 hts gL_law_L_delivered rfl rfl rfl (by decide +kernel) ⟨Nat.le_of_ble_eq_true rfl, Nat.le_of_ble_eq_true rfl⟩) rfl hl.1 (Nat.le_of_ble_eq_true rfl) rfl dL_law_1325 hc hs (fun H locs g hg hLS => ?_)
  refine lv_istore (lv' := [(5, .int (nI (sp_delivered σ (xs (i + 1))).1)), (0, .ref b0), (1, .ref (a 0)), (2, .ref (b 0)), (3, .ref w), (4, .int (nI i))]) hx hb dL_law_1328 hl (by decide) rfl (fun ls hl => ?_)
  refine lv_aload_n hx hb dL_law_1330 rfl (lv_at hl 3 rfl) ?_
  refine lv_aload_n hx hb dL_law_1331 rfl (lv_at hl 1 rfl) ?_
  refine lv_iload hx hb dL_law_1332 (lv_at hl 5 rfl) ?_
  refine lv_iconst (v := 1) hx hb dL_law_1334 (by decide) ?_
  refine sa_iaddk (j := 1) hx hb rfl dL_law_1335 ?_
  refine sa_scl C0 hLS (by omega) dL_law_1336 ?_
  refine sa_mstep (th2 := nI (sp_delivered σ (xs (i + 1))).1) (σ2 := (sp_delivered σ (xs (i + 1))).2.2) (As := [.int (xs (i + 1))]) (rest := []) C0 hLS (c_X1_delivered l G cI cZ cL b σ th hI hJb (xs (i + 1))) (cwV 1 hts gL_law_X1_delivered rfl rfl rfl (by decide +kernel) ⟨Nat.le_of_ble_eq_true rfl, Nat.le_of_ble_eq_true rfl⟩) rfl hl.1 (Nat.le_of_ble_eq_true rfl) rfl dL_law_1337 (by omega) (by omega) (fun H locs hLS => ?_)
  refine lv_istore (lv' := [(6, .int ((sp_delivered σ (xs (i + 1))).2.1)), (5, .int (nI (sp_delivered σ (xs (i + 1))).1)), (0, .ref b0), (1, .ref (a 0)), (2, .ref (b 0)), (3, .ref w), (4, .int (nI i))]) hx hb dL_law_1340 hl (by decide) rfl (fun ls hl => ?_)
  refine lv_aload_n hx hb dL_law_1342 rfl (lv_at hl 4 rfl) ?_
  refine sa_kRd (As := []) (rest := []) S (c_X1_thrown l G cI cZ cL b (sp_delivered σ (xs (i + 1))).2.2 (nI (sp_delivered σ (xs (i + 1))).1)) (cwV 0 hts gL_law_X1_thrown rfl rfl rfl (by decide +kernel) ⟨Nat.le_of_ble_eq_true rfl, Nat.le_of_ble_eq_true rfl⟩) hLS.2.1 hK (ci := 1) rfl rfl rfl hl.1 (Nat.le_of_ble_eq_true rfl) rfl dL_law_1343 ⟨by show cells + 1 ≤ 1060; omega, by show slots + 6 ≤ 10008; omega⟩ ?_
  refine lv_iload hx hb dL_law_1346 (lv_at hl 1 rfl) ?_
  refine lv_icmp_eq (tgt := 1353) hx hb dL_law_1348 (by decide) (fun _ => ?_) (fun c9 => absurd rfl c9)
  refine lv_iload hx hb dL_law_1353 (lv_at hl 1 rfl) ?_
  refine lv_if_ne (tgt := 1370) hx hb dL_law_1355 (by decide) (fun c_1355 => ?_) (fun c_1355 => ?_)
  · skip
    refine lv_goto (tgt := 1610) hx hb dL_law_1370 (by decide) ?_
    exact K _ _ _ H locs ls (si_delivered hI) hLS (lv_sub hl [2, 3, 4, 5, 6] rfl)
  · skip
    have hz := sa_n0 sa_lo.1 c_1355
    refine lv_aload_n hx hb dL_law_1358 rfl (lv_at hl 5 rfl) ?_
    refine lv_iconst (v := 0) hx hb dL_law_1359 (by decide) ?_
    refine sa_old C0 hLS dL_law_1360 ?_
    refine lv_iload hx hb dL_law_1361 (lv_at hl 0 rfl) ?_
    refine lv_i2l hx hb dL_law_1363 rfl ?_
    refine W.lcmp hx hb dL_law_1364 ?_
    rw [sa_cmp0 (hg hz)]
    refine lv_if_eq (tgt := 1370) hx hb dL_law_1365 (by decide) (fun _ => ?_) (fun c9 => absurd (by decide) c9)
    refine lv_goto (tgt := 1610) hx hb dL_law_1370 (by decide) ?_
    exact K _ _ _ H locs ls (si_delivered hI) hLS (lv_sub hl [2, 3, 4, 5, 6] rfl)
set_option maxHeartbeats 4000000 in
set_option maxRecDepth 100000 in
theorem law_c21 {p : Program} {l : Launch} {e : Env} {s : State} {m : MethodId} {below : List Frame} {meth : Method} {c : Code} {G : va_G} {cI cZ cL : ClassId} {b0 L : Nat} {xs : Nat → Int32} {a b : Nat → Nat} {w : Nat} {σ : sa_St} {th : Int32} {g : Nat → Int64} {H : Heap} {locs : List Loc} {cells slots i : Nat} {ls : Array Slot} {Q : State → Prop} (C0 : sa_LC l p s m meth c G cI cZ cL b0 L xs a b w) (hI : sa_I σ) (hLS : sa_LS G cI cZ cL a b w σ σ th g s H locs) (hi : i + 8 ≤ L) (hc : cells + 1 ≤ 1060) (hs : slots + 6 ≤ 10008) (hl : lv_has ls 7 [(0, .ref b0), (1, .ref (a 0)), (2, .ref (b 0)), (3, .ref w), (4, .int (nI i))])
    (K : ∀ (σ : sa_St) (th : Int32) (g : Nat → Int64) (H : Heap) (locs : List Loc) (ls : Array Slot), sa_I σ → sa_LS G cI cZ cL a b w σ σ th g s H locs → lv_has ls 7 [(0, .ref b0), (1, .ref (a 0)), (2, .ref (b 0)), (3, .ref w), (4, .int (nI i))] → W p l e room_1 s m #[Value.ref b0] below meth c H locs (cells + 1) (slots + 6) Q (F0 m 1610 ls [])) : W p l e room_1 s m #[Value.ref b0] below meth c H locs cells slots Q (F0 m 1373 ls []) := by
  have S := C0.1
  have hx := S.1
  have hb := S.2.1
  have hts := S.2.2.2.2
  have hK := C0.2.2.2.1
  have hst9 := C0.2.2.2.2.1.2
  have hJa := C0.2.2.2.2.2.1.1
  have hJb := C0.2.2.2.2.2.1.2
  have hw2 := C0.2.2.2.2.2.2.2.2.1.2.1
  refine lv_aload_n hx hb dL_law_1373 rfl (lv_at hl 1 rfl) ?_
  refine lv_aload_n hx hb dL_law_1374 rfl (lv_at hl 0 rfl) ?_
  refine lv_iload hx hb dL_law_1375 (lv_at hl 4 rfl) ?_
  refine lv_iconst (v := 1) hx hb dL_law_1377 (by decide) ?_
  refine sa_iaddk (j := 1) hx hb rfl dL_law_1378 ?_
  refine sa_scl C0 hLS (by omega) dL_law_1379 ?_
  refine lv_aload_n hx hb dL_law_1380 rfl (lv_at hl 3 rfl) ?_
  refine sa_wstep (SP := (sp_owed σ (xs (i + 1)))) (As := [.ref (a 0), .int (xs (i + 1)), .ref w]) (rest := []) C0 hLS (fun h => k_owed_ok l G cI cZ cL a σ w g hI hJa hw2 (xs (i + 1)) h) (fun h => k_owed_ex l s.heap.size hst9 G cI cZ cL a σ w hI (xs (i + 1)) h) sa_lo.2 (vx_cwSW (hh := [(0, 9, 12, 21)]) 3 hts gL_law_L_owed rfl rfl rfl (by decide +kernel) ⟨Nat.le_of_ble_eq_true rfl, Nat.le_of_ble_eq_true rfl⟩) (vx_cwSW (hh := [(0, 9, 12, 21)]) 3 hts gL_law_L_owed rfl rfl rfl (by decide +kernel) ⟨Nat.le_of_ble_eq_true rfl, Nat.le_of_ble_eq_true rfl⟩) rfl hl.1 (Nat.le_of_ble_eq_true rfl) rfl dL_law_1381 hc hs (fun H locs g hg hLS => ?_)
  refine lv_istore (lv' := [(5, .int (nI (sp_owed σ (xs (i + 1))).1)), (0, .ref b0), (1, .ref (a 0)), (2, .ref (b 0)), (3, .ref w), (4, .int (nI i))]) hx hb dL_law_1384 hl (by decide) rfl (fun ls hl => ?_)
  refine lv_aload_n hx hb dL_law_1386 rfl (lv_at hl 3 rfl) ?_
  refine lv_aload_n hx hb dL_law_1387 rfl (lv_at hl 1 rfl) ?_
  refine lv_iload hx hb dL_law_1388 (lv_at hl 5 rfl) ?_
  refine lv_iconst (v := 1) hx hb dL_law_1390 (by decide) ?_
  refine sa_iaddk (j := 1) hx hb rfl dL_law_1391 ?_
  refine sa_scl C0 hLS (by omega) dL_law_1392 ?_
  refine sa_mstep (th2 := nI (sp_owed σ (xs (i + 1))).1) (σ2 := (sp_owed σ (xs (i + 1))).2.2) (As := [.int (xs (i + 1))]) (rest := []) C0 hLS (c_X1_owed l G cI cZ cL b σ th hI hJb (xs (i + 1))) (cwV 1 hts gL_law_X1_owed rfl rfl rfl (by decide +kernel) ⟨Nat.le_of_ble_eq_true rfl, Nat.le_of_ble_eq_true rfl⟩) rfl hl.1 (Nat.le_of_ble_eq_true rfl) rfl dL_law_1393 (by omega) (by omega) (fun H locs hLS => ?_)
  refine lv_istore (lv' := [(6, .int ((sp_owed σ (xs (i + 1))).2.1)), (5, .int (nI (sp_owed σ (xs (i + 1))).1)), (0, .ref b0), (1, .ref (a 0)), (2, .ref (b 0)), (3, .ref w), (4, .int (nI i))]) hx hb dL_law_1396 hl (by decide) rfl (fun ls hl => ?_)
  refine lv_aload_n hx hb dL_law_1398 rfl (lv_at hl 4 rfl) ?_
  refine sa_kRd (As := []) (rest := []) S (c_X1_thrown l G cI cZ cL b (sp_owed σ (xs (i + 1))).2.2 (nI (sp_owed σ (xs (i + 1))).1)) (cwV 0 hts gL_law_X1_thrown rfl rfl rfl (by decide +kernel) ⟨Nat.le_of_ble_eq_true rfl, Nat.le_of_ble_eq_true rfl⟩) hLS.2.1 hK (ci := 1) rfl rfl rfl hl.1 (Nat.le_of_ble_eq_true rfl) rfl dL_law_1399 ⟨by show cells + 1 ≤ 1060; omega, by show slots + 6 ≤ 10008; omega⟩ ?_
  refine lv_iload hx hb dL_law_1402 (lv_at hl 1 rfl) ?_
  refine lv_icmp_eq (tgt := 1409) hx hb dL_law_1404 (by decide) (fun _ => ?_) (fun c9 => absurd rfl c9)
  refine lv_iload hx hb dL_law_1409 (lv_at hl 1 rfl) ?_
  refine lv_if_ne (tgt := 1426) hx hb dL_law_1411 (by decide) (fun c_1411 => ?_) (fun c_1411 => ?_)
  · skip
    refine lv_goto (tgt := 1610) hx hb dL_law_1426 (by decide) ?_
    exact K _ _ _ H locs ls (si_owed hI) hLS (lv_sub hl [2, 3, 4, 5, 6] rfl)
  · skip
    have hz := sa_n0 sa_lo.1 c_1411
    refine lv_aload_n hx hb dL_law_1414 rfl (lv_at hl 5 rfl) ?_
    refine lv_iconst (v := 0) hx hb dL_law_1415 (by decide) ?_
    refine sa_old C0 hLS dL_law_1416 ?_
    refine lv_iload hx hb dL_law_1417 (lv_at hl 0 rfl) ?_
    refine lv_i2l hx hb dL_law_1419 rfl ?_
    refine W.lcmp hx hb dL_law_1420 ?_
    rw [sa_cmp0 (hg hz)]
    refine lv_if_eq (tgt := 1426) hx hb dL_law_1421 (by decide) (fun _ => ?_) (fun c9 => absurd (by decide) c9)
    refine lv_goto (tgt := 1610) hx hb dL_law_1426 (by decide) ?_
    exact K _ _ _ H locs ls (si_owed hI) hLS (lv_sub hl [2, 3, 4, 5, 6] rfl)
set_option maxHeartbeats 4000000 in
set_option maxRecDepth 100000 in
theorem law_c22 {p : Program} {l : Launch} {e : Env} {s : State} {m : MethodId} {below : List Frame} {meth : Method} {c : Code} {G : va_G} {cI cZ cL : ClassId} {b0 L : Nat} {xs : Nat → Int32} {a b : Nat → Nat} {w : Nat} {σ : sa_St} {th : Int32} {g : Nat → Int64} {H : Heap} {locs : List Loc} {cells slots i : Nat} {ls : Array Slot} {Q : State → Prop} (C0 : sa_LC l p s m meth c G cI cZ cL b0 L xs a b w) (hI : sa_I σ) (hLS : sa_LS G cI cZ cL a b w σ σ th g s H locs) (hi : i + 8 ≤ L) (hc : cells + 1 ≤ 1060) (hs : slots + 6 ≤ 10008) (hl : lv_has ls 7 [(0, .ref b0), (1, .ref (a 0)), (2, .ref (b 0)), (3, .ref w), (4, .int (nI i))])
    (K : ∀ (σ : sa_St) (th : Int32) (g : Nat → Int64) (H : Heap) (locs : List Loc) (ls : Array Slot), sa_I σ → sa_LS G cI cZ cL a b w σ σ th g s H locs → lv_has ls 7 [(0, .ref b0), (1, .ref (a 0)), (2, .ref (b 0)), (3, .ref w), (4, .int (nI i))] → W p l e room_1 s m #[Value.ref b0] below meth c H locs (cells + 1) (slots + 6) Q (F0 m 1610 ls [])) : W p l e room_1 s m #[Value.ref b0] below meth c H locs cells slots Q (F0 m 1429 ls []) := by
  have S := C0.1
  have hx := S.1
  have hb := S.2.1
  have hts := S.2.2.2.2
  have hK := C0.2.2.2.1
  have hst9 := C0.2.2.2.2.1.2
  have hJa := C0.2.2.2.2.2.1.1
  have hJb := C0.2.2.2.2.2.1.2
  have hw2 := C0.2.2.2.2.2.2.2.2.1.2.1
  refine lv_aload_n hx hb dL_law_1429 rfl (lv_at hl 1 rfl) ?_
  refine lv_aload_n hx hb dL_law_1430 rfl (lv_at hl 0 rfl) ?_
  refine lv_iload hx hb dL_law_1431 (lv_at hl 4 rfl) ?_
  refine lv_iconst (v := 1) hx hb dL_law_1433 (by decide) ?_
  refine sa_iaddk (j := 1) hx hb rfl dL_law_1434 ?_
  refine sa_scl C0 hLS (by omega) dL_law_1435 ?_
  refine lv_aload_n hx hb dL_law_1436 rfl (lv_at hl 3 rfl) ?_
  refine sa_wstep (SP := (sp_rest σ (xs (i + 1)))) (As := [.ref (a 0), .int (xs (i + 1)), .ref w]) (rest := []) C0 hLS (fun h => k_rest_ok l G cI cZ cL a σ w g hI hJa hw2 (xs (i + 1)) h) (fun h => k_rest_ex l s.heap.size hst9 G cI cZ cL a σ w hI (xs (i + 1)) h) sa_lo.2 (vx_cwSW (hh := [(0, 9, 12, 21)]) 3 hts gL_law_L_rest rfl rfl rfl (by decide +kernel) ⟨Nat.le_of_ble_eq_true rfl, Nat.le_of_ble_eq_true rfl⟩) (vx_cwSW (hh := [(0, 9, 12, 21)]) 3 hts gL_law_L_rest rfl rfl rfl (by decide +kernel) ⟨Nat.le_of_ble_eq_true rfl, Nat.le_of_ble_eq_true rfl⟩) rfl hl.1 (Nat.le_of_ble_eq_true rfl) rfl dL_law_1437 hc hs (fun H locs g hg hLS => ?_)
  refine lv_istore (lv' := [(5, .int (nI (sp_rest σ (xs (i + 1))).1)), (0, .ref b0), (1, .ref (a 0)), (2, .ref (b 0)), (3, .ref w), (4, .int (nI i))]) hx hb dL_law_1440 hl (by decide) rfl (fun ls hl => ?_)
  refine lv_aload_n hx hb dL_law_1442 rfl (lv_at hl 3 rfl) ?_
  refine lv_aload_n hx hb dL_law_1443 rfl (lv_at hl 1 rfl) ?_
  refine lv_iload hx hb dL_law_1444 (lv_at hl 5 rfl) ?_
  refine lv_iconst (v := 1) hx hb dL_law_1446 (by decide) ?_
  refine sa_iaddk (j := 1) hx hb rfl dL_law_1447 ?_
  refine sa_scl C0 hLS (by omega) dL_law_1448 ?_
  refine sa_mstep (th2 := nI (sp_rest σ (xs (i + 1))).1) (σ2 := (sp_rest σ (xs (i + 1))).2.2) (As := [.int (xs (i + 1))]) (rest := []) C0 hLS (c_X1_rest l G cI cZ cL b σ th hI hJb (xs (i + 1))) (cwV 1 hts gL_law_X1_rest rfl rfl rfl (by decide +kernel) ⟨Nat.le_of_ble_eq_true rfl, Nat.le_of_ble_eq_true rfl⟩) rfl hl.1 (Nat.le_of_ble_eq_true rfl) rfl dL_law_1449 (by omega) (by omega) (fun H locs hLS => ?_)
  refine lv_istore (lv' := [(6, .int ((sp_rest σ (xs (i + 1))).2.1)), (5, .int (nI (sp_rest σ (xs (i + 1))).1)), (0, .ref b0), (1, .ref (a 0)), (2, .ref (b 0)), (3, .ref w), (4, .int (nI i))]) hx hb dL_law_1452 hl (by decide) rfl (fun ls hl => ?_)
  refine lv_aload_n hx hb dL_law_1454 rfl (lv_at hl 4 rfl) ?_
  refine sa_kRd (As := []) (rest := []) S (c_X1_thrown l G cI cZ cL b (sp_rest σ (xs (i + 1))).2.2 (nI (sp_rest σ (xs (i + 1))).1)) (cwV 0 hts gL_law_X1_thrown rfl rfl rfl (by decide +kernel) ⟨Nat.le_of_ble_eq_true rfl, Nat.le_of_ble_eq_true rfl⟩) hLS.2.1 hK (ci := 1) rfl rfl rfl hl.1 (Nat.le_of_ble_eq_true rfl) rfl dL_law_1455 ⟨by show cells + 1 ≤ 1060; omega, by show slots + 6 ≤ 10008; omega⟩ ?_
  refine lv_iload hx hb dL_law_1458 (lv_at hl 1 rfl) ?_
  refine lv_icmp_eq (tgt := 1465) hx hb dL_law_1460 (by decide) (fun _ => ?_) (fun c9 => absurd rfl c9)
  refine lv_iload hx hb dL_law_1465 (lv_at hl 1 rfl) ?_
  refine lv_if_ne (tgt := 1482) hx hb dL_law_1467 (by decide) (fun c_1467 => ?_) (fun c_1467 => ?_)
  · skip
    refine lv_goto (tgt := 1610) hx hb dL_law_1482 (by decide) ?_
    exact K _ _ _ H locs ls (si_rest hI) hLS (lv_sub hl [2, 3, 4, 5, 6] rfl)
  · skip
    have hz := sa_n0 sa_lo.1 c_1467
    refine lv_aload_n hx hb dL_law_1470 rfl (lv_at hl 5 rfl) ?_
    refine lv_iconst (v := 0) hx hb dL_law_1471 (by decide) ?_
    refine sa_old C0 hLS dL_law_1472 ?_
    refine lv_iload hx hb dL_law_1473 (lv_at hl 0 rfl) ?_
    refine lv_i2l hx hb dL_law_1475 rfl ?_
    refine W.lcmp hx hb dL_law_1476 ?_
    rw [sa_cmp0 (hg hz)]
    refine lv_if_eq (tgt := 1482) hx hb dL_law_1477 (by decide) (fun _ => ?_) (fun c9 => absurd (by decide) c9)
    refine lv_goto (tgt := 1610) hx hb dL_law_1482 (by decide) ?_
    exact K _ _ _ H locs ls (si_rest hI) hLS (lv_sub hl [2, 3, 4, 5, 6] rfl)
set_option maxHeartbeats 4000000 in
set_option maxRecDepth 100000 in
theorem law_c23 {p : Program} {l : Launch} {e : Env} {s : State} {m : MethodId} {below : List Frame} {meth : Method} {c : Code} {G : va_G} {cI cZ cL : ClassId} {b0 L : Nat} {xs : Nat → Int32} {a b : Nat → Nat} {w : Nat} {σ : sa_St} {th : Int32} {g : Nat → Int64} {H : Heap} {locs : List Loc} {cells slots i : Nat} {ls : Array Slot} {Q : State → Prop} (C0 : sa_LC l p s m meth c G cI cZ cL b0 L xs a b w) (hI : sa_I σ) (hLS : sa_LS G cI cZ cL a b w σ σ th g s H locs) (hi : i + 8 ≤ L) (hc : cells + 1 ≤ 1060) (hs : slots + 6 ≤ 10008) (hl : lv_has ls 7 [(0, .ref b0), (1, .ref (a 0)), (2, .ref (b 0)), (3, .ref w), (4, .int (nI i))])
    (K : ∀ (σ : sa_St) (th : Int32) (g : Nat → Int64) (H : Heap) (locs : List Loc) (ls : Array Slot), sa_I σ → sa_LS G cI cZ cL a b w σ σ th g s H locs → lv_has ls 7 [(0, .ref b0), (1, .ref (a 0)), (2, .ref (b 0)), (3, .ref w), (4, .int (nI i))] → W p l e room_1 s m #[Value.ref b0] below meth c H locs (cells + 1) (slots + 6) Q (F0 m 1610 ls [])) : W p l e room_1 s m #[Value.ref b0] below meth c H locs cells slots Q (F0 m 1485 ls []) := by
  have S := C0.1
  have hx := S.1
  have hb := S.2.1
  have hts := S.2.2.2.2
  have hK := C0.2.2.2.1
  have hst9 := C0.2.2.2.2.1.2
  have hJa := C0.2.2.2.2.2.1.1
  have hJb := C0.2.2.2.2.2.1.2
  have hw2 := C0.2.2.2.2.2.2.2.2.1.2.1
  refine lv_aload_n hx hb dL_law_1485 rfl (lv_at hl 1 rfl) ?_
  refine lv_aload_n hx hb dL_law_1486 rfl (lv_at hl 0 rfl) ?_
  refine lv_iload hx hb dL_law_1487 (lv_at hl 4 rfl) ?_
  refine lv_iconst (v := 1) hx hb dL_law_1489 (by decide) ?_
  refine sa_iaddk (j := 1) hx hb rfl dL_law_1490 ?_
  refine sa_scl C0 hLS (by omega) dL_law_1491 ?_
  refine lv_aload_n hx hb dL_law_1492 rfl (lv_at hl 3 rfl) ?_
  refine sa_wstep (SP := (sp_bill σ (xs (i + 1)))) (As := [.ref (a 0), .int (xs (i + 1)), .ref w]) (rest := []) C0 hLS (fun h => k_bill_ok l G cI cZ cL a σ w g hI hJa hw2 (xs (i + 1)) h) (fun h => k_bill_ex l s.heap.size hst9 G cI cZ cL a σ w hI (xs (i + 1)) h) sa_lo.2 (vx_cwSW (hh := [(0, 9, 12, 21)]) 3 hts gL_law_L_bill rfl rfl rfl (by decide +kernel) ⟨Nat.le_of_ble_eq_true rfl, Nat.le_of_ble_eq_true rfl⟩) (vx_cwSW (hh := [(0, 9, 12, 21)]) 3 hts gL_law_L_bill rfl rfl rfl (by decide +kernel) ⟨Nat.le_of_ble_eq_true rfl, Nat.le_of_ble_eq_true rfl⟩) rfl hl.1 (Nat.le_of_ble_eq_true rfl) rfl dL_law_1493 hc hs (fun H locs g hg hLS => ?_)
  refine lv_istore (lv' := [(5, .int (nI (sp_bill σ (xs (i + 1))).1)), (0, .ref b0), (1, .ref (a 0)), (2, .ref (b 0)), (3, .ref w), (4, .int (nI i))]) hx hb dL_law_1496 hl (by decide) rfl (fun ls hl => ?_)
  refine lv_aload_n hx hb dL_law_1498 rfl (lv_at hl 3 rfl) ?_
  refine lv_aload_n hx hb dL_law_1499 rfl (lv_at hl 1 rfl) ?_
  refine lv_iload hx hb dL_law_1500 (lv_at hl 5 rfl) ?_
  refine lv_iconst (v := 1) hx hb dL_law_1502 (by decide) ?_
  refine sa_iaddk (j := 1) hx hb rfl dL_law_1503 ?_
  refine sa_scl C0 hLS (by omega) dL_law_1504 ?_
  refine sa_mstep (th2 := nI (sp_bill σ (xs (i + 1))).1) (σ2 := (sp_bill σ (xs (i + 1))).2.2) (As := [.int (xs (i + 1))]) (rest := []) C0 hLS (c_X1_bill l G cI cZ cL b σ th hI hJb (xs (i + 1))) (cwV 1 hts gL_law_X1_bill rfl rfl rfl (by decide +kernel) ⟨Nat.le_of_ble_eq_true rfl, Nat.le_of_ble_eq_true rfl⟩) rfl hl.1 (Nat.le_of_ble_eq_true rfl) rfl dL_law_1505 (by omega) (by omega) (fun H locs hLS => ?_)
  refine lv_istore (lv' := [(6, .int ((sp_bill σ (xs (i + 1))).2.1)), (5, .int (nI (sp_bill σ (xs (i + 1))).1)), (0, .ref b0), (1, .ref (a 0)), (2, .ref (b 0)), (3, .ref w), (4, .int (nI i))]) hx hb dL_law_1508 hl (by decide) rfl (fun ls hl => ?_)
  refine lv_aload_n hx hb dL_law_1510 rfl (lv_at hl 4 rfl) ?_
  refine sa_kRd (As := []) (rest := []) S (c_X1_thrown l G cI cZ cL b (sp_bill σ (xs (i + 1))).2.2 (nI (sp_bill σ (xs (i + 1))).1)) (cwV 0 hts gL_law_X1_thrown rfl rfl rfl (by decide +kernel) ⟨Nat.le_of_ble_eq_true rfl, Nat.le_of_ble_eq_true rfl⟩) hLS.2.1 hK (ci := 1) rfl rfl rfl hl.1 (Nat.le_of_ble_eq_true rfl) rfl dL_law_1511 ⟨by show cells + 1 ≤ 1060; omega, by show slots + 6 ≤ 10008; omega⟩ ?_
  refine lv_iload hx hb dL_law_1514 (lv_at hl 1 rfl) ?_
  refine lv_icmp_eq (tgt := 1521) hx hb dL_law_1516 (by decide) (fun _ => ?_) (fun c9 => absurd rfl c9)
  refine lv_iload hx hb dL_law_1521 (lv_at hl 1 rfl) ?_
  refine lv_if_ne (tgt := 1538) hx hb dL_law_1523 (by decide) (fun c_1523 => ?_) (fun c_1523 => ?_)
  · skip
    refine lv_goto (tgt := 1610) hx hb dL_law_1538 (by decide) ?_
    exact K _ _ _ H locs ls (si_bill hI) hLS (lv_sub hl [2, 3, 4, 5, 6] rfl)
  · skip
    have hz := sa_n0 sa_lo.1 c_1523
    refine lv_aload_n hx hb dL_law_1526 rfl (lv_at hl 5 rfl) ?_
    refine lv_iconst (v := 0) hx hb dL_law_1527 (by decide) ?_
    refine sa_old C0 hLS dL_law_1528 ?_
    refine lv_iload hx hb dL_law_1529 (lv_at hl 0 rfl) ?_
    refine lv_i2l hx hb dL_law_1531 rfl ?_
    refine W.lcmp hx hb dL_law_1532 ?_
    rw [sa_cmp0 (hg hz)]
    refine lv_if_eq (tgt := 1538) hx hb dL_law_1533 (by decide) (fun _ => ?_) (fun c9 => absurd (by decide) c9)
    refine lv_goto (tgt := 1610) hx hb dL_law_1538 (by decide) ?_
    exact K _ _ _ H locs ls (si_bill hI) hLS (lv_sub hl [2, 3, 4, 5, 6] rfl)
set_option maxHeartbeats 4000000 in
set_option maxRecDepth 100000 in
theorem law_c24 {p : Program} {l : Launch} {e : Env} {s : State} {m : MethodId} {below : List Frame} {meth : Method} {c : Code} {G : va_G} {cI cZ cL : ClassId} {b0 L : Nat} {xs : Nat → Int32} {a b : Nat → Nat} {w : Nat} {σ : sa_St} {th : Int32} {g : Nat → Int64} {H : Heap} {locs : List Loc} {cells slots i : Nat} {ls : Array Slot} {Q : State → Prop} (C0 : sa_LC l p s m meth c G cI cZ cL b0 L xs a b w) (hI : sa_I σ) (hLS : sa_LS G cI cZ cL a b w σ σ th g s H locs) (hi : i + 8 ≤ L) (hc : cells + 1 ≤ 1060) (hs : slots + 6 ≤ 10008) (hl : lv_has ls 7 [(0, .ref b0), (1, .ref (a 0)), (2, .ref (b 0)), (3, .ref w), (4, .int (nI i))])
    (K : ∀ (σ : sa_St) (th : Int32) (g : Nat → Int64) (H : Heap) (locs : List Loc) (ls : Array Slot), sa_I σ → sa_LS G cI cZ cL a b w σ σ th g s H locs → lv_has ls 7 [(0, .ref b0), (1, .ref (a 0)), (2, .ref (b 0)), (3, .ref w), (4, .int (nI i))] → W p l e room_1 s m #[Value.ref b0] below meth c H locs (cells + 1) (slots + 6) Q (F0 m 1610 ls [])) : W p l e room_1 s m #[Value.ref b0] below meth c H locs cells slots Q (F0 m 1541 ls []) := by
  have S := C0.1
  have hx := S.1
  have hb := S.2.1
  have hts := S.2.2.2.2
  have hK := C0.2.2.2.1
  have hst9 := C0.2.2.2.2.1.2
  have hJa := C0.2.2.2.2.2.1.1
  have hJb := C0.2.2.2.2.2.1.2
  have hw2 := C0.2.2.2.2.2.2.2.2.1.2.1
  refine lv_aload_n hx hb dL_law_1541 rfl (lv_at hl 1 rfl) ?_
  refine lv_aload_n hx hb dL_law_1542 rfl (lv_at hl 0 rfl) ?_
  refine lv_iload hx hb dL_law_1543 (lv_at hl 4 rfl) ?_
  refine lv_iconst (v := 1) hx hb dL_law_1545 (by decide) ?_
  refine sa_iaddk (j := 1) hx hb rfl dL_law_1546 ?_
  refine sa_scl C0 hLS (by omega) dL_law_1547 ?_
  refine lv_aload_n hx hb dL_law_1548 rfl (lv_at hl 3 rfl) ?_
  refine sa_wstep (SP := (sp_billTo σ (xs (i + 1)))) (As := [.ref (a 0), .int (xs (i + 1)), .ref w]) (rest := []) C0 hLS (fun h => k_billTo_ok l G cI cZ cL a σ w g hI hJa hw2 (xs (i + 1)) h) (fun h => k_billTo_ex l s.heap.size hst9 G cI cZ cL a σ w hI (xs (i + 1)) h) sa_lo.2 (vx_cwSW (hh := [(0, 9, 12, 13)]) 3 hts gL_law_L_billTo rfl rfl rfl (by decide +kernel) ⟨Nat.le_of_ble_eq_true rfl, Nat.le_of_ble_eq_true rfl⟩) (vx_cwSW (hh := [(0, 9, 12, 13)]) 3 hts gL_law_L_billTo rfl rfl rfl (by decide +kernel) ⟨Nat.le_of_ble_eq_true rfl, Nat.le_of_ble_eq_true rfl⟩) rfl hl.1 (Nat.le_of_ble_eq_true rfl) rfl dL_law_1549 hc hs (fun H locs g hg hLS => ?_)
  refine lv_istore (lv' := [(5, .int (nI (sp_billTo σ (xs (i + 1))).1)), (0, .ref b0), (1, .ref (a 0)), (2, .ref (b 0)), (3, .ref w), (4, .int (nI i))]) hx hb dL_law_1552 hl (by decide) rfl (fun ls hl => ?_)
  refine lv_aload_n hx hb dL_law_1554 rfl (lv_at hl 3 rfl) ?_
  refine lv_aload_n hx hb dL_law_1555 rfl (lv_at hl 1 rfl) ?_
  refine lv_iload hx hb dL_law_1556 (lv_at hl 5 rfl) ?_
  refine lv_iconst (v := 1) hx hb dL_law_1558 (by decide) ?_
  refine sa_iaddk (j := 1) hx hb rfl dL_law_1559 ?_
  refine sa_scl C0 hLS (by omega) dL_law_1560 ?_
  refine sa_mstep (th2 := nI (sp_billTo σ (xs (i + 1))).1) (σ2 := (sp_billTo σ (xs (i + 1))).2.2) (As := [.int (xs (i + 1))]) (rest := []) C0 hLS (c_X1_billTo l G cI cZ cL b σ th hI hJb (xs (i + 1))) (cwV 1 hts gL_law_X1_billTo rfl rfl rfl (by decide +kernel) ⟨Nat.le_of_ble_eq_true rfl, Nat.le_of_ble_eq_true rfl⟩) rfl hl.1 (Nat.le_of_ble_eq_true rfl) rfl dL_law_1561 (by omega) (by omega) (fun H locs hLS => ?_)
  refine lv_istore (lv' := [(6, .int ((sp_billTo σ (xs (i + 1))).2.1)), (5, .int (nI (sp_billTo σ (xs (i + 1))).1)), (0, .ref b0), (1, .ref (a 0)), (2, .ref (b 0)), (3, .ref w), (4, .int (nI i))]) hx hb dL_law_1564 hl (by decide) rfl (fun ls hl => ?_)
  refine lv_aload_n hx hb dL_law_1566 rfl (lv_at hl 4 rfl) ?_
  refine sa_kRd (As := []) (rest := []) S (c_X1_thrown l G cI cZ cL b (sp_billTo σ (xs (i + 1))).2.2 (nI (sp_billTo σ (xs (i + 1))).1)) (cwV 0 hts gL_law_X1_thrown rfl rfl rfl (by decide +kernel) ⟨Nat.le_of_ble_eq_true rfl, Nat.le_of_ble_eq_true rfl⟩) hLS.2.1 hK (ci := 1) rfl rfl rfl hl.1 (Nat.le_of_ble_eq_true rfl) rfl dL_law_1567 ⟨by show cells + 1 ≤ 1060; omega, by show slots + 6 ≤ 10008; omega⟩ ?_
  refine lv_iload hx hb dL_law_1570 (lv_at hl 1 rfl) ?_
  refine lv_icmp_eq (tgt := 1577) hx hb dL_law_1572 (by decide) (fun _ => ?_) (fun c9 => absurd rfl c9)
  refine lv_iload hx hb dL_law_1577 (lv_at hl 1 rfl) ?_
  refine lv_if_ne (tgt := 1594) hx hb dL_law_1579 (by decide) (fun c_1579 => ?_) (fun c_1579 => ?_)
  · skip
    refine lv_goto (tgt := 1610) hx hb dL_law_1594 (by decide) ?_
    exact K _ _ _ H locs ls (si_billTo hI) hLS (lv_sub hl [2, 3, 4, 5, 6] rfl)
  · skip
    have hz := sa_n0 sa_lo.1 c_1579
    refine lv_aload_n hx hb dL_law_1582 rfl (lv_at hl 5 rfl) ?_
    refine lv_iconst (v := 0) hx hb dL_law_1583 (by decide) ?_
    refine sa_old C0 hLS dL_law_1584 ?_
    refine lv_iload hx hb dL_law_1585 (lv_at hl 0 rfl) ?_
    refine lv_i2l hx hb dL_law_1587 rfl ?_
    refine W.lcmp hx hb dL_law_1588 ?_
    rw [sa_cmp0 (hg hz)]
    refine lv_if_eq (tgt := 1594) hx hb dL_law_1589 (by decide) (fun _ => ?_) (fun c9 => absurd (by decide) c9)
    refine lv_goto (tgt := 1610) hx hb dL_law_1594 (by decide) ?_
    exact K _ _ _ H locs ls (si_billTo hI) hLS (lv_sub hl [2, 3, 4, 5, 6] rfl)
set_option maxHeartbeats 4000000 in
set_option maxRecDepth 100000 in
theorem law_c25 {p : Program} {l : Launch} {e : Env} {s : State} {m : MethodId} {below : List Frame} {meth : Method} {c : Code} {G : va_G} {cI cZ cL : ClassId} {b0 L : Nat} {xs : Nat → Int32} {a b : Nat → Nat} {w : Nat} {σ : sa_St} {th : Int32} {g : Nat → Int64} {H : Heap} {locs : List Loc} {cells slots i : Nat} {ls : Array Slot} {Q : State → Prop} (C0 : sa_LC l p s m meth c G cI cZ cL b0 L xs a b w) (hI : sa_I σ) (hLS : sa_LS G cI cZ cL a b w σ σ th g s H locs) (hi : i + 8 ≤ L) (hc : cells + 1 ≤ 1060) (hs : slots + 6 ≤ 10008) (hl : lv_has ls 7 [(0, .ref b0), (1, .ref (a 0)), (2, .ref (b 0)), (3, .ref w), (4, .int (nI i))])
    (K : ∀ (σ : sa_St) (th : Int32) (g : Nat → Int64) (H : Heap) (locs : List Loc) (ls : Array Slot), sa_I σ → sa_LS G cI cZ cL a b w σ σ th g s H locs → lv_has ls 7 [(0, .ref b0), (1, .ref (a 0)), (2, .ref (b 0)), (3, .ref w), (4, .int (nI i))] → W p l e room_1 s m #[Value.ref b0] below meth c H locs (cells + 1) (slots + 6) Q (F0 m 1610 ls [])) : W p l e room_1 s m #[Value.ref b0] below meth c H locs cells slots Q (F0 m 1597 ls []) := by
  have S := C0.1
  have hx := S.1
  have hb := S.2.1
  have hts := S.2.2.2.2
  have hK := C0.2.2.2.1
  have hst9 := C0.2.2.2.2.1.2
  have hJa := C0.2.2.2.2.2.1.1
  have hJb := C0.2.2.2.2.2.1.2
  have hw2 := C0.2.2.2.2.2.2.2.2.1.2.1
  refine lv_aload_n hx hb dL_law_1597 rfl (lv_at hl 1 rfl) ?_
  refine sa_kRd (As := []) (rest := []) S (c_X0_mostOwed_ok l G cI cZ cL a σ hI) (cwV 0 hts gL_law_X0_mostOwed rfl rfl rfl (by decide +kernel) ⟨Nat.le_of_ble_eq_true rfl, Nat.le_of_ble_eq_true rfl⟩) hLS.1 hK (ci := 0) rfl rfl rfl hl.1 (Nat.le_of_ble_eq_true rfl) rfl dL_law_1598 ⟨by show cells ≤ 1060; omega, by show slots ≤ 10008; omega⟩ ?_
  refine lv_aload_n hx hb dL_law_1601 rfl (lv_at hl 2 rfl) ?_
  refine sa_mstep (th2 := 0) (σ2 := σ) (As := []) (rest := [.int ((sa_mo σ (σ.1 1)).1)]) C0 hLS (c_X1_mostOwed l G cI cZ cL b σ th hI hJb) (cwV 0 hts gL_law_X1_mostOwed rfl rfl rfl (by decide +kernel) ⟨Nat.le_of_ble_eq_true rfl, Nat.le_of_ble_eq_true rfl⟩) rfl hl.1 (Nat.le_of_ble_eq_true rfl) rfl dL_law_1602 (by omega) (by omega) (fun H locs hLS => ?_)
  refine lv_icmp_eq (tgt := 1610) hx hb dL_law_1605 (by decide) (fun _ => ?_) (fun c9 => absurd rfl c9)
  refine W.widen (k := cells + 1) (n := slots + 6) (by omega) (by omega) ?_
  exact K _ _ _ H locs ls hI hLS (lv_sub hl [0, 1, 2, 3, 4] rfl)
