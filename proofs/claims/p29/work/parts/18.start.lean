theorem va_tabsR {own tx : String} {k : Nat} {A : Array Value} {U : State} (h : (Cond.stringRef own k tx).before A U = true) : (Cond.stringRef own k tx).before #[] U = true := h
theorem va_evalR {own : String} {k : Nat} {q : Nat} {A : Array Value} {U : State} (h : (Term.string own k).eval A U none [] U = some (.ref q)) : (Term.string own k).eval #[] U none [] U = some (.ref q) := h
theorem zs_apart {A : Nat → Prop} {X : va_W} (hD : va_D A X) {i j : Nat} {p q : Nat × va_E} (hp : X[i]? = some p) (hq : X[j]? = some q) (hij : ¬ i = j) : ¬ p.1 = q.1 := fun e => hij (hD.1 i j p q hp hq e)
set_option maxHeartbeats 8000000 in
set_option maxRecDepth 100000 in
theorem zs_start {p : Program} {e : Env} {s : State} {m : MethodId} {below : List Frame} {meth : Method} {c : Code} (l : Launch) (hflags : l.flags = flags0) {b : Nat} (C0 : lw_At p s m meth c b 180 (fun _ => 0)) : W p l e zs_R s m #[Value.ref b] below meth c s.heap [] 0 0 (zs_Z below s) (entryFrame m ([Value.ref b] : List Value).toArray 9) := by
  obtain ⟨hx, hb, hr, hml, hown, hts0, hX, hbl, hlocks, hgv⟩ := id C0
  have hts : ∀ w ∈ wsL_law, w.before #[Value.ref b] s = true := fun w h => hts0 w (wsL_law_in w h)
  have hnw := flat_of_before _ hgv
  have hst : l.stackTraces = false := by unfold Launch.stackTraces; rw [hflags]; decide +kernel
  have hA : ∀ q : Nat, s.heap.size ≤ q → (fun q : Nat => s.heap.size ≤ q) q := fun _ h => h
  obtain ⟨c0, iS0, hKn0⟩ := u_known (C := RX0) (T := TX0) (N := 18) (n := 18) hts inlX0 (hts0 (.instantiable RX0 18) (by decide +kernel))
  obtain ⟨cI, hI1, hI2⟩ := sa_arrI (hts0 (.arrayClass .int) (by decide +kernel))
  obtain ⟨cZ, hZ1, hZ2⟩ := sa_arrZ (hts0 (.arrayClass .boolean) (by decide +kernel))
  have cL : ClassId := cI
  obtain ⟨G, hKc⟩ : ∃ G : va_G, ∀ (k : Nat) (q : vw_C), vwCl[k]? = some q → u_Kn s q.1 q.2.1 q.2.2 (G.1 k) (G.2 k) := by
    refine ⟨(fun _ => c0, fun _ => iS0), ?_⟩
    intro k q hq
    match k, hq with
    | 0, hq => cases hq; exact hKn0
    | k + 1, hq => simp [vwCl] at hq
  have hK : sa_K G cI cZ cL s := ⟨hKc, fun k q h => by
    match k, h with
    | 0, h => cases h; exact ⟨hI1, hI2⟩
    | 1, h => cases h; exact ⟨hZ1, hZ2⟩
    | k + 2, h => simp [sa_ty] at h⟩
  have hnA : ∀ q : Nat, q < s.heap.size → ¬ s.heap.size ≤ q := fun q h => Nat.not_le.mpr h
  have hstr : ∀ (k : Nat) (tx : String), (Cond.stringRef RX0 k tx).before #[Value.ref b] s = true → (Cond.exactly (Term.string RX0 k) "java/lang/String").before #[Value.ref b] s = true → ∃ q, vk_R RX0 k tx q s := by
    intro k tx h1 h2
    obtain ⟨q, c9, cell, k9, h3, -⟩ := Cond.exactly_spec (first := s) (o := none) (idx := []) h2
    exact ⟨q, va_tabsR h1, va_evalR h3⟩
  have hT : sa_TT s.heap.size s s.heap := by
    refine ⟨⟨vx_Zqof (hts0 (.laysStatic Bundle.tN "UNASSIGNED_STACK" Bundle.steD) (by decide +kernel)) (hts0 (.initialized Bundle.tN) (by decide +kernel)) (hnw (.isRef (.static Bundle.tN "UNASSIGNED_STACK" Bundle.steD)) (by decide +kernel)) hnA,
      vx_Zqof (hts0 (.laysStatic Bundle.tN "SUPPRESSED_SENTINEL" Bundle.listD) (by decide +kernel)) (hts0 (.initialized Bundle.tN) (by decide +kernel)) (hnw (.isRef (.static Bundle.tN "SUPPRESSED_SENTINEL" Bundle.listD)) (by decide +kernel)) hnA,
      hstr 141 sa_T1 (hts0 (.stringRef RX0 141 sa_T1) (by decide +kernel)) (hnw (.exactly (.string RX0 141) "java/lang/String") (by decide +kernel)),
      hstr 148 sa_T2 (hts0 (.stringRef RX0 148 sa_T2) (by decide +kernel)) (hnw (.exactly (.string RX0 148) "java/lang/String") (by decide +kernel)),
      hstr 153 sa_T3 (hts0 (.stringRef RX0 153 sa_T3) (by decide +kernel)) (hnw (.exactly (.string RX0 153) "java/lang/String") (by decide +kernel)),
      va_Nw.of rfl (hts0 (.castable sa_E1 sa_E1) (by decide +kernel)), va_Nw.of rfl (hts0 (.castable sa_E2 sa_E2) (by decide +kernel)), va_Nw.of rfl (hts0 (.castable sa_E3 sa_E3) (by decide +kernel)),
      va_Nw.of rfl (hts0 (.declares (Bundle.initS "java/lang/RuntimeException")) (by decide +kernel)), va_Nw.of rfl (hts0 (.declares (Bundle.initS "java/lang/Exception")) (by decide +kernel)), va_Nw.of rfl (hts0 (.declares (Bundle.initS Bundle.tN)) (by decide +kernel))⟩,
      va_Nc.of (hnw (.not (.castable sa_E2 sa_E1)) (by decide +kernel)), va_Nc.of (hnw (.not (.castable sa_E3 sa_E2)) (by decide +kernel)), va_Nc.of (hnw (.not (.castable sa_E3 sa_E1)) (by decide +kernel))⟩
  have S : CallFix p m c code 9 s #[Value.ref b] wsL_law RL := ⟨hx, hb, hml, hown, hts⟩
  have hS : va_S (fun q : Nat => s.heap.size ≤ q) s.heap s.heap [] := va_S.rf
  have hP : va_P G vwCl [] s.heap := fun k q h => by simp at h
  have hD : va_D (fun q : Nat => s.heap.size ≤ q) [] := ⟨fun i j p q h => by simp at h, fun k q h => by simp at h⟩
  have hl := lv_entry ([.ref b]) (n := 9) (Nat.le_of_ble_eq_true rfl)
  rw [lg_entry_eq]
  generalize (lg_sl ([.ref b]) ++ List.replicate (9 - (lg_sl ([.ref b])).length) Slot.unset).toArray = ls at hl ⊢
  have hl : lv_has ls 9 [(0, .ref b)] := hl
  refine va_new (D := G) (ci := 0) (fs := [.int 0, .null, .null, .null, .int 0, .null, .null, .null, .null, .null, .null, .null, .null, .int 0, .null, .null, .null, .null]) (C := RX0) (T := TX0) (N := 18) hx hb hts inlX0 tyX0 tyX0_ok hown (hts0 (.classLink RL 11 RX0) (by decide +kernel)) (hts0 (.instantiable RX0 18) (by decide +kernel)) (hts0 (.initialized RX0) (by decide +kernel)) hK hP hD hS hA rfl (fun j hj => by
    match j, hj with
    | 0, _ => rfl
    | 1, _ => rfl
    | 2, _ => rfl
    | 3, _ => rfl
    | 4, _ => rfl
    | 5, _ => rfl
    | 6, _ => rfl
    | 7, _ => rfl
    | 8, _ => rfl
    | 9, _ => rfl
    | 10, _ => rfl
    | 11, _ => rfl
    | 12, _ => rfl
    | 13, _ => rfl
    | 14, _ => rfl
    | 15, _ => rfl
    | 16, _ => rfl
    | 17, _ => rfl
    | k + 18, h => exact absurd h (by omega)) (Nat.le_of_ble_eq_true rfl) (Nat.le_of_ble_eq_true rfl) dL_law_0 (fun q0 H hP hD hS => ?_)
  have hP : va_P G vwCl [(q0, .inr (0, [.int 0, .null, .null, .null, .int 0, .null, .null, .null, .null, .null, .null, .null, .null, .int 0, .null, .null, .null, .null]))] H := hP
  have hD : va_D (fun q : Nat => s.heap.size ≤ q) [(q0, .inr (0, [.int 0, .null, .null, .null, .int 0, .null, .null, .null, .null, .null, .null, .null, .null, .int 0, .null, .null, .null, .null]))] := hD
  have hq0 : s.heap.size ≤ q0 := hD.2 0 _ rfl
  refine lv_dup hx hb dL_law_3 rfl ?_
  refine va_callv (va_runI (As := []) (rest := [.ref q0]) S (c_X0_init l G cI cZ cL q0 H.size) (cwI 0 hts gL_law_X0_init rfl rfl rfl (hts0 (.initialized RX0) (by decide +kernel)) (hts0 (.methodLink RL 169 yX0_init) (by decide +kernel)) (hts0 (.instanceMethod yX0_init) (by decide +kernel)) rfl (by decide +kernel) ⟨Nat.le_of_ble_eq_true rfl, Nat.le_of_ble_eq_true rfl⟩)
    ⟨fun x U g9 mk h => ⟨h.1, h.2.1, va_K.moved (u := U) (U := U.calling g9 mk x) (Vm.Alike.refl U.vm) h.2.2.1, h.2.2.2⟩, fun U hU hW => ⟨rfl, by rw [hU]; exact hP, va_K.moved hW.alike hK, by rw [hU]⟩⟩ rfl rfl hl.1 rfl (lv_room (Nat.le_of_ble_eq_true rfl)) dL_law_4 ⟨Nat.le_of_ble_eq_true rfl, Nat.le_of_ble_eq_true rfl⟩) hS
    (fun q hq h => h.elim (fun h => by rw [h]; exact hq0) (fun h => Nat.le_trans hS.1 h)) (fun q h => h.elim (fun h => by rw [h]; exact hq0) (fun h => Nat.le_trans hS.1 h)) (fun a t H1 locs ht hvm hw hB hz1 hk1 hS1 => ?_)
  obtain ⟨ha0, hJa, han⟩ := hw
  have hP0 : va_P G vwCl (sa_W0 cI cZ a sa_0) H1 := by rw [← ht]; exact hB
  have hDa : va_D (fun q : Nat => s.heap.size ≤ q) (sa_W0 cI cZ a sa_0) := (sa_D0 hJa).weaken (fun k q hq h => by
    obtain ⟨j, hj, e9⟩ := h
    rw [e9]
    rcases Nat.eq_zero_or_pos j with h0 | h0
    · rw [h0, ha0]; exact hq0
    · exact Nat.le_trans hS.1 (han j h0 hj))
  clear hP hD hB hk1 hS
  refine lv_astore_n (lv' := [(1, .ref q0), (0, .ref b)]) hx hb dL_law_7 rfl hl (by decide) rfl (fun ls hl => ?_)
  refine va_new (D := G) (ci := 0) (fs := [.int 0, .null, .null, .null, .int 0, .null, .null, .null, .null, .null, .null, .null, .null, .int 0, .null, .null, .null, .null]) (C := RX0) (T := TX0) (N := 18) hx hb hts inlX0 tyX0 tyX0_ok hown (hts0 (.classLink RL 11 RX0) (by decide +kernel)) (hts0 (.instantiable RX0 18) (by decide +kernel)) (hts0 (.initialized RX0) (by decide +kernel)) hK hP0 hDa hS1 hA rfl (fun j hj => by
    match j, hj with
    | 0, _ => rfl
    | 1, _ => rfl
    | 2, _ => rfl
    | 3, _ => rfl
    | 4, _ => rfl
    | 5, _ => rfl
    | 6, _ => rfl
    | 7, _ => rfl
    | 8, _ => rfl
    | 9, _ => rfl
    | 10, _ => rfl
    | 11, _ => rfl
    | 12, _ => rfl
    | 13, _ => rfl
    | 14, _ => rfl
    | 15, _ => rfl
    | 16, _ => rfl
    | 17, _ => rfl
    | k + 18, h => exact absurd h (by omega)) (Nat.le_of_ble_eq_true rfl) (Nat.le_of_ble_eq_true rfl) dL_law_8 (fun q1 H2 hP2 hD2 hS2 => ?_)
  have hq1 : s.heap.size ≤ q1 := hD2.2 16 _ rfl
  have hP0 : va_P G vwCl (sa_W0 cI cZ a sa_0) H2 := hP2.sub [0, 1, 2, 3, 4, 5, 6, 7, 8, 9, 10, 11, 12, 13, 14, 15] rfl
  have hPq : va_P G vwCl [(q1, .inr (0, [.int 0, .null, .null, .null, .int 0, .null, .null, .null, .null, .null, .null, .null, .null, .int 0, .null, .null, .null, .null]))] H2 := hP2.sub [16] rfl
  have haq : ¬ sa_A a q1 := fun h => by
    obtain ⟨j, hj, e9⟩ := h
    obtain ⟨z, hz, e8⟩ := sa_W0_ex (cI := cI) (cZ := cZ) (a := a) (σ := sa_0) hj
    have h7 : (sa_W0 cI cZ a sa_0 ++ [(q1, .inr (0, [.int 0, .null, .null, .null, .int 0, .null, .null, .null, .null, .null, .null, .null, .null, .int 0, .null, .null, .null, .null]))])[j]? = some z := by rw [List.getElem?_append_left (show j < 16 from hj)]; exact hz
    have h6 := hD2.1 j 16 z _ h7 rfl (e8.trans e9.symm)
    omega
  refine lv_dup hx hb dL_law_11 rfl ?_
  refine va_callv (va_runI (As := []) (rest := [.ref q1]) S (c_X0_init l G cI cZ cL q1 H2.size) (cwI 0 hts gL_law_X0_init rfl rfl rfl (hts0 (.initialized RX0) (by decide +kernel)) (hts0 (.methodLink RL 169 yX0_init) (by decide +kernel)) (hts0 (.instanceMethod yX0_init) (by decide +kernel)) rfl (by decide +kernel) ⟨Nat.le_of_ble_eq_true rfl, Nat.le_of_ble_eq_true rfl⟩)
    ⟨fun x U g9 mk h => ⟨h.1, h.2.1, va_K.moved (u := U) (U := U.calling g9 mk x) (Vm.Alike.refl U.vm) h.2.2.1, h.2.2.2⟩, fun U hU hW => ⟨rfl, by rw [hU]; exact hPq, va_K.moved hW.alike hK, by rw [hU]⟩⟩ rfl rfl hl.1 rfl (lv_room (Nat.le_of_ble_eq_true rfl)) dL_law_12 ⟨Nat.le_of_ble_eq_true rfl, Nat.le_of_ble_eq_true rfl⟩) hS2
    (fun q hq h => h.elim (fun h => by rw [h]; exact hq1) (fun h => Nat.le_trans hS2.1 h)) (fun q h => h.elim (fun h => by rw [h]; exact hq1) (fun h => Nat.le_trans hS2.1 h)) (fun bb t H3 locs ht hvm hw hB hz3 hk3 hS3 => ?_)
  obtain ⟨hb0, hJb, hbn⟩ := hw
  have hP1 : va_P G vwCl (sa_W0 cI cZ bb sa_0) H3 := by rw [← ht]; exact hB
  have halt : ∀ q, sa_A a q → q < H2.size := fun q h => by
    obtain ⟨j, hj, e9⟩ := h
    obtain ⟨z, hz, e8⟩ := sa_W0_ex (cI := cI) (cZ := cZ) (a := a) (σ := sa_0) hj
    rw [e9, ← e8]; exact (hP0 j z hz).lt
  have hnb : ∀ q, sa_A a q → ¬ (q = q1 ∨ H2.size ≤ q) := fun q h z => z.elim (fun z => haq (by rw [← z]; exact h)) (fun z => Nat.not_le.mpr (halt q h) z)
  have hP0 : va_P G vwCl (sa_W0 cI cZ a sa_0) H3 := sa_keepP hP0 (fun k q hq => hnb _ ⟨k, sa_W0_at hq⟩) hk3
  have hDb : va_D (fun q : Nat => s.heap.size ≤ q) (sa_W0 cI cZ bb sa_0) := (sa_D0 hJb).weaken (fun k q hq h => by
    obtain ⟨j, hj, e9⟩ := h
    rw [e9]
    rcases Nat.eq_zero_or_pos j with h0 | h0
    · rw [h0, hb0]; exact hq1
    · exact Nat.le_trans hS2.1 (hbn j h0 hj))
  have hab : ∀ q, sa_A a q → ¬ sa_A bb q := fun q h z => by
    obtain ⟨j, hj, e9⟩ := z
    refine hnb q h ?_
    rw [e9]
    rcases Nat.eq_zero_or_pos j with h0 | h0
    · rw [h0]; exact Or.inl hb0
    · exact Or.inr (hbn j h0 hj)
  have hDab : va_D (fun q : Nat => s.heap.size ≤ q) (sa_W0 cI cZ a sa_0 ++ sa_W0 cI cZ bb sa_0) := va_D.app hDa hDb (fun i j q r h1 h2 e9 => hab _ ⟨i, sa_W0_at h1⟩ (by rw [e9]; exact ⟨j, sa_W0_at h2⟩))
  refine lv_astore_n (lv' := [(2, .ref q1), (1, .ref q0), (0, .ref b)]) hx hb dL_law_15 rfl hl (by decide) rfl (fun ls hl => ?_)
  refine lv_bipush (v := 63) hx hb dL_law_16 (by decide) ?_
  refine sa_newI (N := 63) S (by decide +kernel) hK (va_P.app hP0 hP1) hDab hS3 hA (by decide) (by decide) (Nat.le_of_ble_eq_true rfl) (Nat.le_of_ble_eq_true rfl) (Nat.le_of_ble_eq_true rfl) dL_law_18 (fun dd H4 hP4 hD4 hS4 => ?_)
  refine lv_astore_n (lv' := [(3, .ref dd), (2, .ref q1), (1, .ref q0), (0, .ref b)]) hx hb dL_law_20 rfl hl (by decide) rfl (fun ls hl => ?_)
  refine lv_bipush (v := 24) hx hb dL_law_21 (by decide) ?_
  refine sa_newI (N := 24) S (by decide +kernel) hK hP4 hD4 hS4 hA (by decide) (by decide) (Nat.le_of_ble_eq_true rfl) (Nat.le_of_ble_eq_true rfl) (Nat.le_of_ble_eq_true rfl) dL_law_23 (fun ll H5 hP5 hD5 hS5 => ?_)
  refine lv_astore (lv' := [(4, .ref ll), (3, .ref dd), (2, .ref q1), (1, .ref q0), (0, .ref b)]) hx hb dL_law_25 hl (by decide) rfl (fun ls hl => ?_)
  refine lv_bipush (v := 64) hx hb dL_law_27 (by decide) ?_
  refine sa_newI (N := 64) S (by decide +kernel) hK hP5 hD5 hS5 hA (by decide) (by decide) (Nat.le_of_ble_eq_true rfl) (Nat.le_of_ble_eq_true rfl) (Nat.le_of_ble_eq_true rfl) dL_law_29 (fun ss H6 hP6 hD6 hS6 => ?_)
  refine lv_astore (lv' := [(5, .ref ss), (4, .ref ll), (3, .ref dd), (2, .ref q1), (1, .ref q0), (0, .ref b)]) hx hb dL_law_31 hl (by decide) rfl (fun ls hl => ?_)
  refine lv_iconst (v := 3) hx hb dL_law_33 (by decide) ?_
  refine sa_newI (N := 3) S (by decide +kernel) hK hP6 hD6 hS6 hA (by decide) (by decide) (Nat.le_of_ble_eq_true rfl) (Nat.le_of_ble_eq_true rfl) (Nat.le_of_ble_eq_true rfl) dL_law_34 (fun gg H7 hP7 hD7 hS7 => ?_)
  refine lv_astore (lv' := [(6, .ref gg), (5, .ref ss), (4, .ref ll), (3, .ref dd), (2, .ref q1), (1, .ref q0), (0, .ref b)]) hx hb dL_law_36 hl (by decide) rfl (fun ls hl => ?_)
  have hPa : va_P G vwCl (sa_W0 cI cZ a (zs 0)) H7 := hP7.sub [0, 1, 2, 3, 4, 5, 6, 7, 8, 9, 10, 11, 12, 13, 14, 15] rfl
  have hPb : va_P G vwCl (sa_W0 cI cZ bb (zs 0)) H7 := hP7.sub [16, 17, 18, 19, 20, 21, 22, 23, 24, 25, 26, 27, 28, 29, 30, 31] rfl
  have hPw : va_P G vwCl (zs_W cI ll gg (zs_l 0) (zs_g 0)) H7 := hP7.sub [33, 35] rfl
  have hDX : va_D (fun q : Nat => s.heap.size ≤ q) (sa_W0 cI cZ a sa_0 ++ (sa_W0 cI cZ bb sa_0 ++ [(dd, .inl (cI, 63, .inl (fun _ => 0))), (ll, .inl (cI, 24, .inl (fun _ => 0))), (ss, .inl (cI, 64, .inl (fun _ => 0))), (gg, .inl (cI, 3, .inl (fun _ => 0)))])) := hD7
  have hna : ∀ (i : Nat) (r : Nat × va_E), 32 ≤ i → (sa_W0 cI cZ a sa_0 ++ (sa_W0 cI cZ bb sa_0 ++ [(dd, .inl (cI, 63, .inl (fun _ => 0))), (ll, .inl (cI, 24, .inl (fun _ => 0))), (ss, .inl (cI, 64, .inl (fun _ => 0))), (gg, .inl (cI, 3, .inl (fun _ => 0)))]))[i]? = some r → ¬ sa_A a r.1 := fun i r hi hr2 h => by
    obtain ⟨j, hj, e9⟩ := h
    obtain ⟨z, hz, e8⟩ := sa_W0_ex (cI := cI) (cZ := cZ) (a := a) (σ := sa_0) hj
    exact zs_apart hDX (i := j) (j := i) (p := z) (by rw [List.getElem?_append_left (show j < 16 from hj)]; exact hz) hr2 (by omega) (e8.trans e9.symm)
  have hnb2 : ∀ (i : Nat) (r : Nat × va_E), 32 ≤ i → (sa_W0 cI cZ a sa_0 ++ (sa_W0 cI cZ bb sa_0 ++ [(dd, .inl (cI, 63, .inl (fun _ => 0))), (ll, .inl (cI, 24, .inl (fun _ => 0))), (ss, .inl (cI, 64, .inl (fun _ => 0))), (gg, .inl (cI, 3, .inl (fun _ => 0)))]))[i]? = some r → ¬ sa_A bb r.1 := fun i r hi hr2 h => by
    obtain ⟨j, hj, e9⟩ := h
    obtain ⟨z, hz, e8⟩ := sa_W0_ex (cI := cI) (cZ := cZ) (a := bb) (σ := sa_0) hj
    refine zs_apart hDX (i := 16 + j) (j := i) (p := z) ?_ hr2 (by omega) (e8.trans e9.symm)
    rw [List.getElem?_append_right (show 16 ≤ 16 + j by omega), show 16 + j - (sa_W0 cI cZ a sa_0).length = j from (by show 16 + j - 16 = j; omega), List.getElem?_append_left (show j < 16 from hj)]; exact hz
  have hC : zs_C a bb ll gg := ⟨hJa, hJb, hab, hna 33 _ (by decide) rfl, hnb2 33 _ (by decide) rfl, hna 35 _ (by decide) rfl, hnb2 35 _ (by decide) rfl, zs_apart hDX (i := 33) (j := 35) rfl rfl (by decide)⟩
  have hlo : ∀ q, zs_A a bb ll gg q → s.heap.size ≤ q := fun q h => by
    rcases h with h | h | h | h
    · obtain ⟨j, hj, e9⟩ := h
      rw [e9]; exact sa_A0 hDa hj
    · obtain ⟨j, hj, e9⟩ := h
      rw [e9]; exact sa_A0 hDb hj
    · rw [h]; exact hDX.2 33 _ rfl
    · rw [h]; exact hDX.2 35 _ rfl
  have hl : lv_has ls 9 [(6, .ref gg), (5, .ref ss), (4, .ref ll), (3, .ref dd), (2, .ref (bb 0)), (1, .ref (a 0)), (0, .ref b)] := by rw [ha0, hb0]; exact hl
  refine lv_aload_n hx hb dL_law_38 rfl (lv_at hl 5 rfl) ?_
  refine sa_kRd (r := nI 0) (As := []) (rest := []) S (z_breaks l G cI cZ cL a 0 (by decide)) (cwV 0 hts gL_law_X0_breaks rfl rfl rfl (by decide +kernel) ⟨Nat.le_of_ble_eq_true rfl, Nat.le_of_ble_eq_true rfl⟩) hPa hK (ci := 0) rfl rfl rfl hl.1 (Nat.le_of_ble_eq_true rfl) rfl dL_law_39 ⟨Nat.le_of_ble_eq_true rfl, Nat.le_of_ble_eq_true rfl⟩ ?_
  refine lv_if_ne (tgt := 80) hx hb dL_law_42 (by decide) (fun c9 => absurd rfl c9) (fun _ => ?_)
  refine lv_aload_n hx hb dL_law_45 rfl (lv_at hl 5 rfl) ?_
  refine sa_kRd (r := nI 0) (As := []) (rest := []) S (z_orders l G cI cZ cL a 0 (by decide)) (cwV 0 hts gL_law_X0_orders rfl rfl rfl (by decide +kernel) ⟨Nat.le_of_ble_eq_true rfl, Nat.le_of_ble_eq_true rfl⟩) hPa hK (ci := 0) rfl rfl rfl hl.1 (Nat.le_of_ble_eq_true rfl) rfl dL_law_46 ⟨Nat.le_of_ble_eq_true rfl, Nat.le_of_ble_eq_true rfl⟩ ?_
  refine lv_if_ne (tgt := 80) hx hb dL_law_49 (by decide) (fun c9 => absurd rfl c9) (fun _ => ?_)
  refine lv_aload_n hx hb dL_law_52 rfl (lv_at hl 5 rfl) ?_
  refine sa_kRd (r := nI 0) (As := []) (rest := []) S (z_spots l G cI cZ cL a 0 (by decide)) (cwV 0 hts gL_law_X0_spots rfl rfl rfl (by decide +kernel) ⟨Nat.le_of_ble_eq_true rfl, Nat.le_of_ble_eq_true rfl⟩) hPa hK (ci := 0) rfl rfl rfl hl.1 (Nat.le_of_ble_eq_true rfl) rfl dL_law_53 ⟨Nat.le_of_ble_eq_true rfl, Nat.le_of_ble_eq_true rfl⟩ ?_
  refine lv_if_ne (tgt := 80) hx hb dL_law_56 (by decide) (fun c9 => absurd rfl c9) (fun _ => ?_)
  refine lv_aload_n hx hb dL_law_59 rfl (lv_at hl 5 rfl) ?_
  refine sa_kRd (r := -1) (As := []) (rest := []) S (z_mostOwed l G cI cZ cL a 0 (by decide)) (cwV 0 hts gL_law_X0_mostOwed rfl rfl rfl (by decide +kernel) ⟨Nat.le_of_ble_eq_true rfl, Nat.le_of_ble_eq_true rfl⟩) hPa hK (ci := 0) rfl rfl rfl hl.1 (Nat.le_of_ble_eq_true rfl) rfl dL_law_60 ⟨Nat.le_of_ble_eq_true rfl, Nat.le_of_ble_eq_true rfl⟩ ?_
  refine lv_iconst (v := (-1)) hx hb dL_law_63 (by decide) ?_
  refine lv_icmp_ne (tgt := 80) hx hb dL_law_64 (by decide) (fun c9 => absurd rfl c9) (fun _ => ?_)
  refine lv_aload_n hx hb dL_law_67 rfl (lv_at hl 5 rfl) ?_
  refine lv_bipush (v := 9) hx hb dL_law_68 (by decide) ?_
  refine sa_kLr (r := 0) (As := [.ref (a 0), .int 9]) (rest := []) S (z_billTo l G cI cZ cL a 0 (by decide) 9 (by decide)) (vx_cwSW (hh := [(0, 5, 6, 16)]) 2 hts gL_law_L_billTo rfl rfl rfl (by decide +kernel) ⟨Nat.le_of_ble_eq_true rfl, Nat.le_of_ble_eq_true rfl⟩) hPa hK hS7 rfl hl.1 (Nat.le_of_ble_eq_true rfl) rfl dL_law_70 ⟨Nat.le_of_ble_eq_true rfl, Nat.le_of_ble_eq_true rfl⟩ (fun H8 locs hz8 hk8 hS8 => ?_)
  refine lv_if_ne (tgt := 80) hx hb dL_law_73 (by decide) (fun c9 => absurd rfl c9) (fun _ => ?_)
  refine lv_iconst (v := 1) hx hb dL_law_76 (by decide) ?_
  refine lv_goto (tgt := 81) hx hb dL_law_77 (by decide) ?_
  refine lv_istore (lv' := [(7, .int 1), (6, .ref gg), (5, .ref ss), (4, .ref ll), (3, .ref dd), (2, .ref (bb 0)), (1, .ref (a 0)), (0, .ref b)]) hx hb dL_law_81 hl (by decide) rfl (fun ls hl => ?_)
  refine lv_iconst (v := 0) hx hb dL_law_83 (by decide) ?_
  refine lv_istore (lv' := [(8, .int 0), (7, .int 1), (6, .ref gg), (5, .ref ss), (4, .ref ll), (3, .ref dd), (2, .ref (bb 0)), (1, .ref (a 0)), (0, .ref b)]) hx hb dL_law_84 hl (by decide) rfl (fun ls hl => ?_)
  have C1 : zs_LC p l s m meth c G cI cZ cL b a bb ll gg := ⟨S, ⟨hX, hbl⟩, ⟨hr, hlocks⟩, hK, ⟨hT, hst⟩, hC, hlo⟩
  have hL : zs_LS G cI cZ a bb ll gg 0 s H8 locs := ⟨sa_same hPa hk8, sa_same hPb hk8, sa_same hPw hk8, hS8⟩
  refine W.widen (k := 36) (n := 1950) (by decide) (by decide) ?_
  exact zs_loop C1 90 0 0 36 1950 H8 locs ls (by decide) (by decide) (by decide) (by decide) hL (by have := hS8.1; omega) (lv_sub hl [0, 1, 8, 7, 6, 5, 4, 3, 2] rfl)
