/-! the law's body: what holds in it, and its steps -/
theorem sa_lo {σ : sa_St} {P1 P2 P3 : Prop} [Decidable P1] [Decidable P2] [Decidable P3] {ok : Int32 × sa_St} : (sa_go P1 P2 P3 σ ok).1 ≤ 3 ∧ (¬ (sa_go P1 P2 P3 σ ok).1 = 0 → (sa_go P1 P2 P3 σ ok).2.2 = σ) := by
  by_cases h1 : P1
  · by_cases h2 : P2
    · by_cases h3 : P3
      · rw [sa_go0 h1 h2 h3]; exact ⟨by show 0 ≤ 3; omega, fun h => absurd rfl h⟩
      · rw [sa_go3 h1 h2 h3]; exact ⟨by show 3 ≤ 3; omega, fun _ => rfl⟩
    · rw [sa_go2 h1 h2]; exact ⟨by show 2 ≤ 3; omega, fun _ => rfl⟩
  · rw [sa_go1 h1]; exact ⟨by show 1 ≤ 3; omega, fun _ => rfl⟩
theorem sa_n0 {k : Nat} (hk : k ≤ 3) (h : nI k = 0) : k = 0 := (nI_eq (a := k) (b := 0) (by omega) (by decide)).mp h
theorem sa_cmp0 {x y : Int64} (h : x = y) : lg_cmp x y = 0 := by subst h; simp [lg_cmp]
def sa_LC (l : Launch) (p : Program) (s : State) (m : MethodId) (meth : Method) (c : Code) (G : va_G) (cI cZ cL : ClassId) (b0 L : Nat) (xs : Nat → Int32) (a b : Nat → Nat) (w : Nat) : Prop :=
  CallFix p m c code 7 s #[Value.ref b0] wsL_law RL ∧ (va_X b0 L xs s s.heap ∧ b0 < s.heap.size) ∧ (meth.sig.returnType = ret ∧ meth.locks = false) ∧ sa_K G cI cZ cL s ∧ (sa_TT s.heap.size s s.heap ∧ l.stackTraces = false) ∧ (sa_J a ∧ sa_J b) ∧
  (∀ q, sa_A a q → s.heap.size ≤ q ∧ ¬ sa_A b q) ∧ (∀ q, sa_A b q → s.heap.size ≤ q) ∧ (s.heap.size ≤ w ∧ ¬ sa_A a w ∧ ¬ sa_A b w) ∧ L ≤ 4096
def sa_LS (G : va_G) (cI cZ cL : ClassId) (a b : Nat → Nat) (w : Nat) (σ0 σ1 : sa_St) (th : Int32) (g : Nat → Int64) (s : State) (H : Heap) (locs : List Loc) : Prop :=
  va_P G vwCl (sa_W0 cI cZ a σ0) H ∧ va_P G vwCl (sa_W1 cI cZ b σ1 th) H ∧ va_P G vwCl (sa_out cL w g) H ∧ va_S (fun q : Nat => s.heap.size ≤ q) s.heap H locs
section
variable {p : Program} {l : Launch} {e : Env} {s : State} {m : MethodId} {below : List Frame} {meth : Method} {c : Code} {H : Heap} {locs : List Loc} {cells slots : Nat} {Q : State → Prop}
variable {bytes : ByteArray} {pc maxL n index : Nat} {ls : Array Slot} {rest st0 As : List Value} {ws : List Cond} {G : va_G} {cI cZ cL : ClassId} {a b : Nat → Nat} {σ0 σ1 σ2 : sa_St} {th th2 : Int32} {w b0 L : Nat} {xs : Nat → Int32} {g : Nat → Int64}
variable {y : MethodName} {ret0 : Option FieldType} {rm rm1 : Room} {hh : List (Nat × Nat × Nat × Nat)} {SP : sa_R} {r : Int32}
theorem sa_TT.at {lo : Nat} {U : State} {H H1 : Heap} (h : sa_TT lo U H) (hq : ∀ q : Nat, q < H.size → ¬ lo ≤ q → H1[q]? = H[q]?) : sa_TT lo U H1 := ⟨h.1.kept hq, h.2⟩
/-- an int of the script -/
theorem sa_scl {k : Nat} (C0 : sa_LC l p s m meth c G cI cZ cL b0 L xs a b w) (hLS : sa_LS G cI cZ cL a b w σ0 σ1 th g s H locs) (hk : k < L) (hdg : decode code pc = .ok (.iaload, 1))
    (kk : W p l e room_1 s m #[Value.ref b0] below meth c H locs cells slots Q (F0 m (pc + 1) ls (.int (xs k) :: rest))) : W p l e room_1 s m #[Value.ref b0] below meth c H locs cells slots Q (F0 m pc ls (.int (nI k) :: .ref b0 :: rest)) := by
  obtain ⟨S, ⟨hX, hbl⟩, -, -, -, -, -, -, -, hL⟩ := C0
  exact va_sld S.1 S.2.1 hX hbl (Nat.not_le.mpr hbl) hLS.2.2.2 (vp_in_nI hk (by omega)) hdg (by rw [nI_clamp (by omega)]; exact kk)
theorem sa_iaddk {cc : ByteArray} {k j : Nat} {v : Int32} (hx : p.tables.exec = Jvm.exec) (hb : c.code = cc) (hv : nI j = v) (hdg : decode cc pc = .ok (.iadd, 1)) {args : Array Value} {R : Room} (kk : W p l e R s m args below meth c H locs cells slots Q (F0 m (pc + 1) ls (.int (nI (k + j)) :: rest))) : W p l e R s m args below meth c H locs cells slots Q (F0 m pc ls (.int v :: .int (nI k) :: rest)) := by
  subst hv
  exact lv_iadd hx hb hdg (by rw [nI_add]; exact kk)
/-- what was answered -/
theorem sa_old (C0 : sa_LC l p s m meth c G cI cZ cL b0 L xs a b w) (hLS : sa_LS G cI cZ cL a b w σ0 σ1 th g s H locs) (hdg : decode code pc = .ok (.laload, 1))
    (kk : W p l e room_1 s m #[Value.ref b0] below meth c H locs cells slots Q (F0 m (pc + 1) ls (.long (g 0) :: rest))) : W p l e room_1 s m #[Value.ref b0] below meth c H locs cells slots Q (F0 m pc ls (.int 0 :: .ref w :: rest)) := by
  obtain ⟨S, -, -, hK, -⟩ := C0
  exact va_lald S.1 S.2.1 hK hLS.2.2.1 0 2 rfl rfl (show vp_in (nI 0) 1 from vp_in_nI (by decide) (by decide)) hdg kk
/-- the law's own method, called on the class's object -/
theorem sa_wstep (C0 : sa_LC l p s m meth c G cI cZ cL b0 L xs a b w) (hLS : sa_LS G cI cZ cL a b w σ0 σ1 th g s H locs)
    (hok : SP.1 = 0 → sa_Lo l y ws rm G cI cZ cL a σ0 w g As SP.2.1 SP.2.2) (hex : ¬ SP.1 = 0 → sa_Lx l y ws rm1 s.heap.size G cI cZ cL a σ0 As SP.1) (hσ : ¬ SP.1 = 0 → SP.2.2 = σ0)
    (cw0 : vx_CSW room_1 s #[Value.ref b0] RL index y bytes maxL (some .int) hh ws rm 0 0 n) (cw1 : vx_CSW room_1 s #[Value.ref b0] RL index y bytes maxL (some .int) hh ws rm1 1 6 n)
    (hn : As.length = n) (hls : ls.size = 7) (hst : (rest.map fun v => v.category).sum ≤ 8) (h0 : st0 = As.reverse ++ rest) (hdg : decode code pc = .ok (.invokestatic index, 3)) (hc : cells + 1 ≤ 1060) (hs : slots + 6 ≤ 10008)
    (kk : ∀ (H1 : Heap) (locs1 : List Loc) (g1 : Nat → Int64), (SP.1 = 0 → g1 0 = SP.2.1.toInt64) → sa_LS G cI cZ cL a b w SP.2.2 σ1 th g1 s H1 locs1 → W p l e room_1 s m #[Value.ref b0] below meth c H1 locs1 (cells + 1) (slots + 6) Q (F0 m (pc + 3) ls (.int (nI SP.1) :: rest))) :
    W p l e room_1 s m #[Value.ref b0] below meth c H locs cells slots Q (F0 m pc ls st0) := by
  obtain ⟨S, -, -, hK, ⟨hT, -⟩, -, hab, hbl, ⟨hw1, hw2, hw3⟩, -⟩ := C0
  obtain ⟨hP, hP1, hO, hS⟩ := hLS
  by_cases hz : SP.1 = 0
  · refine va_calli (A1 := sa_B a w) (vx_runSW S (hok hz) cw0 ⟨sa_bPl, fun U hU hW => ⟨rfl, by rw [hU]; exact hP, by rw [hU]; exact hO, va_K.moved hW.alike hK⟩⟩ rfl hn hls h0 (lv_room hst) hdg ⟨by show cells + 0 ≤ 1060; omega, by show slots + 0 ≤ 10008; omega⟩) hS
      (fun q _ h => h.elim (fun h => (hab q h).1) (fun h => by rw [h]; exact hw1)) (fun q h => h.elim (fun h => (hab q h).1) (fun h => by rw [h]; exact hw1)) (fun z g1 t H1 locs1 ht _ hz1 hB h1 h2 h3 => ?_)
    obtain ⟨rfl, hg⟩ := hz1
    refine W.widen (k := cells + 1) (n := slots + 6) (by omega) (by omega) ?_
    have e9 : (0 : Int32) = nI SP.1 := by rw [hz]; rfl
    rw [e9]
    exact kk H1 locs1 g1 (fun _ => hg) ⟨by rw [← ht]; exact hB.1, sa_keepP hP1 (A := sa_B a w) (fun k q hq h => h.elim (fun h => (hab _ h).2 ⟨k, sa_W1_at hq⟩) (fun h => hw3 (by rw [← h]; exact ⟨k, sa_W1_at hq⟩))) h2, by rw [← ht]; exact hB.2, h3⟩
  · refine va_calli (A1 := fun _ => False) (vx_runSW S (hex hz) cw1 ⟨sa_bPy, fun U hU hW => ⟨rfl, ⟨by rw [hU]; exact hP, va_K.moved hW.alike hK⟩, by rw [hU]; exact (hT.at hS.2.1).warm hW⟩⟩ rfl hn hls h0 (lv_room hst) hdg ⟨hc, hs⟩) hS
      (fun q _ h => h.elim) (fun q h => h.elim) (fun z g1 t H1 locs1 ht _ hz1 hB h1 h2 h3 => ?_)
    subst hz1
    have hk : ∀ q : Nat, q < H.size → ¬ (fun _ : Nat => False) q → H1[q]? = H[q]? := h2
    refine kk H1 locs1 g (fun h => absurd h hz) ⟨?_, sa_keepP hP1 (fun _ _ _ h => h) hk, sa_keepP hO (fun _ _ _ h => h) hk, h3⟩
    rw [hσ hz]
    exact sa_keepP hP (fun _ _ _ h => h) hk
theorem sa_wstepN (C0 : sa_LC l p s m meth c G cI cZ cL b0 L xs a b w) (hLS : sa_LS G cI cZ cL a b w σ0 σ1 th g s H locs)
    (hok : SP.1 = 0 → sa_Ln l y ws rm G cI cZ cL a σ0 As SP.2.2) (hex : ¬ SP.1 = 0 → sa_Lx l y ws rm1 s.heap.size G cI cZ cL a σ0 As SP.1) (hσ : ¬ SP.1 = 0 → SP.2.2 = σ0)
    (cw0 : vx_CSW room_1 s #[Value.ref b0] RL index y bytes maxL (some .int) hh ws rm 0 0 n) (cw1 : vx_CSW room_1 s #[Value.ref b0] RL index y bytes maxL (some .int) hh ws rm1 1 6 n)
    (hn : As.length = n) (hls : ls.size = 7) (hst : (rest.map fun v => v.category).sum ≤ 8) (h0 : st0 = As.reverse ++ rest) (hdg : decode code pc = .ok (.invokestatic index, 3)) (hc : cells + 1 ≤ 1060) (hs : slots + 6 ≤ 10008)
    (kk : ∀ (H1 : Heap) (locs1 : List Loc), sa_LS G cI cZ cL a b w SP.2.2 σ1 th g s H1 locs1 → W p l e room_1 s m #[Value.ref b0] below meth c H1 locs1 (cells + 1) (slots + 6) Q (F0 m (pc + 3) ls (.int (nI SP.1) :: rest))) :
    W p l e room_1 s m #[Value.ref b0] below meth c H locs cells slots Q (F0 m pc ls st0) := by
  obtain ⟨S, -, -, hK, ⟨hT, -⟩, -, hab, hbl, ⟨hw1, hw2, hw3⟩, -⟩ := C0
  obtain ⟨hP, hP1, hO, hS⟩ := hLS
  by_cases hz : SP.1 = 0
  · refine va_calli (A1 := sa_A a) (vx_runSW S (hok hz) cw0 ⟨sa_bPw, fun U hU hW => ⟨rfl, by rw [hU]; exact hP, va_K.moved hW.alike hK⟩⟩ rfl hn hls h0 (lv_room hst) hdg ⟨by show cells + 0 ≤ 1060; omega, by show slots + 0 ≤ 10008; omega⟩) hS
      (fun q _ h => (hab q h).1) (fun q h => (hab q h).1) (fun z g1 t H1 locs1 ht _ hz1 hB h1 h2 h3 => ?_)
    subst hz1
    refine W.widen (k := cells + 1) (n := slots + 6) (by omega) (by omega) ?_
    have e9 : (0 : Int32) = nI SP.1 := by rw [hz]; rfl
    rw [e9]
    exact kk H1 locs1 ⟨by rw [← ht]; exact hB, sa_keepP hP1 (fun k q hq h => (hab _ h).2 ⟨k, sa_W1_at hq⟩) h2, sa_okeep hO hw2 h2, h3⟩
  · refine va_calli (A1 := fun _ => False) (vx_runSW S (hex hz) cw1 ⟨sa_bPy, fun U hU hW => ⟨rfl, ⟨by rw [hU]; exact hP, va_K.moved hW.alike hK⟩, by rw [hU]; exact (hT.at hS.2.1).warm hW⟩⟩ rfl hn hls h0 (lv_room hst) hdg ⟨hc, hs⟩) hS
      (fun q _ h => h.elim) (fun q h => h.elim) (fun z g1 t H1 locs1 ht _ hz1 hB h1 h2 h3 => ?_)
    subst hz1
    have hk : ∀ q : Nat, q < H.size → ¬ (fun _ : Nat => False) q → H1[q]? = H[q]? := h2
    refine kk H1 locs1 ⟨?_, sa_keepP hP1 (fun _ _ _ h => h) hk, sa_keepP hO (fun _ _ _ h => h) hk, h3⟩
    rw [hσ hz]
    exact sa_keepP hP (fun _ _ _ h => h) hk
/-- a call of the reference -/
theorem sa_mstep (C0 : sa_LC l p s m meth c G cI cZ cL b0 L xs a b w) (hLS : sa_LS G cI cZ cL a b w σ0 σ1 th g s H locs)
    (hM : sa_Wr l y ws rm G cI cZ cL (sa_W1 cI cZ b σ1 th) (sa_W1 cI cZ b σ2 th2) (sa_A b) (.ref (b 0) :: As) r) (cw : CallW room_1 s #[Value.ref b0] RL RX1 index y bytes maxL ret0 ws rm 0 0 n)
    (hn : As.length = n) (hls : ls.size = 7) (hst : (rest.map fun v => v.category).sum ≤ 8) (h0 : st0 = As.reverse ++ .ref (b 0) :: rest) (hdg : decode code pc = .ok (.invokevirtual index, 3)) (hc : cells ≤ 1060) (hs : slots ≤ 10008)
    (kk : ∀ (H1 : Heap) (locs1 : List Loc), sa_LS G cI cZ cL a b w σ0 σ2 th2 g s H1 locs1 → W p l e room_1 s m #[Value.ref b0] below meth c H1 locs1 cells slots Q (F0 m (pc + 3) ls (.int r :: rest))) :
    W p l e room_1 s m #[Value.ref b0] below meth c H locs cells slots Q (F0 m pc ls st0) := by
  obtain ⟨S, -, -, hK, -, -, hab, hbl, ⟨hw1, hw2, hw3⟩, -⟩ := C0
  obtain ⟨hP, hP1, hO, hS⟩ := hLS
  exact sa_kWr S hM cw hP1 hK hS hbl (ci := 1) rfl rfl hn hls hst h0 hdg ⟨hc, hs⟩ (fun H1 locs1 hP2 hS1 h1 h2 => kk H1 locs1 ⟨sa_keepP hP (fun k q hq h => (hab _ ⟨k, sa_W0_at hq⟩).2 h) h2, hP2, sa_okeep hO hw3 h2, hS1⟩)
theorem sa_mstepV (C0 : sa_LC l p s m meth c G cI cZ cL b0 L xs a b w) (hLS : sa_LS G cI cZ cL a b w σ0 σ1 th g s H locs)
    (hM : sa_Wv l y ws rm G cI cZ cL (sa_W1 cI cZ b σ1 th) (sa_W1 cI cZ b σ2 th2) (sa_A b) (.ref (b 0) :: As)) (cw : CallW room_1 s #[Value.ref b0] RL RX1 index y bytes maxL ret0 ws rm 0 0 n)
    (hn : As.length = n) (hls : ls.size = 7) (hst : (rest.map fun v => v.category).sum ≤ 8) (h0 : st0 = As.reverse ++ .ref (b 0) :: rest) (hdg : decode code pc = .ok (.invokevirtual index, 3)) (hc : cells ≤ 1060) (hs : slots ≤ 10008)
    (kk : ∀ (H1 : Heap) (locs1 : List Loc), sa_LS G cI cZ cL a b w σ0 σ2 th2 g s H1 locs1 → W p l e room_1 s m #[Value.ref b0] below meth c H1 locs1 cells slots Q (F0 m (pc + 3) ls rest)) :
    W p l e room_1 s m #[Value.ref b0] below meth c H locs cells slots Q (F0 m pc ls st0) := by
  obtain ⟨S, -, -, hK, -, -, hab, hbl, ⟨hw1, hw2, hw3⟩, -⟩ := C0
  obtain ⟨hP, hP1, hO, hS⟩ := hLS
  exact sa_kWv S hM cw hP1 hK hS hbl (ci := 1) rfl rfl hn hls hst h0 hdg ⟨hc, hs⟩ (fun H1 locs1 hP2 hS1 h1 h2 => kk H1 locs1 ⟨sa_keepP hP (fun k q hq h => (hab _ ⟨k, sa_W0_at hq⟩).2 h) h2, hP2, sa_okeep hO hw3 h2, hS1⟩)
end
