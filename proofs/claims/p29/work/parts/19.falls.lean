def zs_zeros : List Int32 := List.replicate 180 0
def zs_P (b : Addr) (args : Array Value) (s : State) : Prop := args = #[.ref b] ∧ s.IntsAt b zs_zeros ∧ (Jvm.Cond.and given_1 narrow_1).before args s = true
set_option maxHeartbeats 4000000 in
/-- in a room that holds the run: on 180 zeros the law returns 1, and has made more than 103 cells -/
theorem zs_walk (l : Launch) (hflags : l.flags = flags0) (b : Addr) : MetFree l x (headSpec (Jvm.Cond.code x code maxLocals ret :: tables_1) zs_R) (zs_P b) (fun _ _ _ _ _ => True) (fun _ s o t => zs_Q s o t) := by
  refine MetFree.of_bodyS (code := code) (maxLocals := maxLocals) (ret := ret) (by decide) ?_ ?_
  · intro args s m h hn
    obtain ⟨meth, c, h1, h2, h3, h4, h5, h6, -, -⟩ := Cond.code_spec hn (atoms_spec (ws := Jvm.Cond.code x code maxLocals ret :: tables_1) h _ List.mem_cons_self)
    exact ⟨meth, c, h1, h2, h3, h4, h5, h6⟩
  · intro p e s m args below meth c s₁ B hml0 hP _
    obtain ⟨rfl, hx, hgv⟩ := hP
    obtain ⟨scr, harrAt, hlist, hof, hsmall⟩ := hx
    obtain ⟨hcb, hkn, -, -⟩ := State.arrayAt?_spec harrAt
    have hown : s.vm.findClass R_law = some m.cls := findClass_of_methodNamed B.named
    have hts0 : ∀ c ∈ (Jvm.Cond.code x code maxLocals ret :: tables_1), c.before #[Value.ref b] s = true := atoms_spec (ws := Jvm.Cond.code x code maxLocals ret :: tables_1) B.pre
    have hts : ∀ w ∈ lw_tbl, w.before #[Value.ref b] s = true := k2_hts_sels lw_privs (fun w hw => hts0 w (List.mem_cons_of_mem _ hw)) lw_privs_ok
    have hml : c.maxLocals = 9 := B.maxLocals_eq (hts0 _ List.mem_cons_self)
    have X₀ : Stand p l e zs_R s m #[Value.ref b] below meth c s₁ [] 0 0 := Stand.of_body B
    have hh0 : s₁.heap = s.heap := by rw [B.state]; rfl
    have hsz : scr.slots.size = 180 := by rw [← Array.length_toList, hlist, List.length_map]; exact List.length_replicate
    have hval : ∀ j : Nat, j < 180 → scr.slots[j]? = some (.int 0) := fun j hj => by
      rw [← Array.getElem?_toList, hlist]
      rw [List.getElem?_map, zs_zeros, List.getElem?_replicate, if_pos hj]; rfl
    have hbl : b < s.heap.size := (Array.getElem?_eq_some_iff.mp hcb).1
    have hX : va_X b 180 (fun _ => 0) s s.heap := ⟨scr, hcb, hof, hkn, hsz, hval⟩
    have K : W p l e zs_R s m #[Value.ref b] below meth c s₁.heap [] 0 0 (zs_Z below s) (entryFrame m ([Value.ref b] : List Value).toArray 9) := by
      rw [hh0]
      exact zs_start l hflags ⟨B.exec, B.bytes, B.returns, hml, hown, hts, hX, hbl, B.notSynchronized, hgv⟩
    obtain ⟨t, a1, o, b1, b2, b3⟩ := K s₁ rfl X₀
    exact ⟨t, o, a1, b1, b2, b3⟩
/-- a start with 180 zeros and a room that holds the run falls: the statement's count of cells is passed -/
theorem zs_falls {l : Launch} {p : Program} {e : Env} {s : State} {m : MethodId} {args : Array Value} {below : List Frame} {b : Addr} (hfl : l.flags = flags0)
    (hA : AtStart classFile x code maxLocals ret World_1 tables_1 room_1 Calls_1 rest_1 Pre_1 l p e s m args below) (hR : (headSpec (Jvm.Cond.code x code maxLocals ret :: tables_1) zs_R).appliesLoose x e.platform s = true)
    (hb : args = #[.ref b]) (hz : s.IntsAt b zs_zeros) : RefutedClaimed_1_1 ∧ RefutedClaimed_1_2 ∧ ¬ Claimed_1_1 ∧ ¬ Claimed_1_2 := by
  obtain ⟨h1, h2, h3, h4, h5, h6, h7, h8, h9, h10, h11, h12, h13⟩ := id hA
  obtain ⟨n, o, hw, hrun, hend, hq⟩ := zs_walk l hfl b p e h3 h5 h6 s m args below h7 hR ⟨hb, hz, h13⟩ trivial
  have hn1 : ∀ L, ¬ Framed s o (stepsAlone p.tables e n s) L 103 2480 := fun L hF => by
    have h := hF.2.2.2.2.1
    have h2 : (stepsAlone p.tables e n s).heap.size ≤ s.heap.size + 103 := h
    have h3 := hq.2
    omega
  refine ⟨⟨l, p, e, s, m, args, below, hfl, hA, n, o, hw, hrun, hend, fun hP => hn1 _ hP.2⟩, ⟨l, p, e, s, m, args, below, hfl, hA, n, o, hw, hrun, hend, fun hP => hn1 _ hP.2⟩, fun hC => ?_, fun hC => ?_⟩
  · obtain ⟨n2, o2, hw2, hrun2, hend2, hP⟩ := hC l hfl h1 h2 p e h3 h5 h6 s m args below h7 h8 h9 h10 ⟨h11, h12, h13⟩
    obtain ⟨e1, e2⟩ := the_end_unique hw hend hw2 hend2
    subst e1 e2
    exact hn1 _ hP.2
  · obtain ⟨n2, o2, hw2, hrun2, hend2, hP⟩ := hC l hfl h1 h2 p e h3 h5 h6 s m args below h7 h8 h9 h10 ⟨h11, h12, h13⟩
    obtain ⟨e1, e2⟩ := the_end_unique hw hend hw2 hend2
    subst e1 e2
    exact hn1 _ hP.2
