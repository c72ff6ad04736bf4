section
-- ===== PART A: goes FIRST, ahead of the names: the tables' words, and 'selects' of the private methods out of them =====
/-- a private method of a class that the tables say can be made, by its rows of tables_1 -/
def lw_okq (q : MethodName × Nat) : Prop := (q.1.cls ≠ "java/lang/invoke/MethodHandle" ∧ q.1.cls ≠ "java/lang/invoke/VarHandle") ∧ Cond.instantiable q.1.cls q.2 ∈ tables_1 ∧ Cond.privateMethod q.1 ∈ tables_1 ∧ Cond.instanceMethod q.1 ∈ tables_1
theorem lw_p0 : lw_okq (⟨"SpotAccount", "restOf", "(I)I"⟩, 18) := ⟨⟨by decide +kernel, by decide +kernel⟩, List.mem_of_getElem? (i := 10) (by decide +kernel), List.mem_of_getElem? (i := 91) (by decide +kernel), List.mem_of_getElem? (i := 92) (by decide +kernel)⟩
theorem lw_p1 : lw_okq (⟨"SpotAccount", "owedTo", "(I)I"⟩, 18) := ⟨⟨by decide +kernel, by decide +kernel⟩, List.mem_of_getElem? (i := 10) (by decide +kernel), List.mem_of_getElem? (i := 95) (by decide +kernel), List.mem_of_getElem? (i := 96) (by decide +kernel)⟩
theorem lw_p2 : lw_okq (⟨"SpotAccount", "audience", "(II)I"⟩, 18) := ⟨⟨by decide +kernel, by decide +kernel⟩, List.mem_of_getElem? (i := 10) (by decide +kernel), List.mem_of_getElem? (i := 99) (by decide +kernel), List.mem_of_getElem? (i := 100) (by decide +kernel)⟩
theorem lw_p3 : lw_okq (⟨"SpotAccount", "ratingFor", "(II)I"⟩, 18) := ⟨⟨by decide +kernel, by decide +kernel⟩, List.mem_of_getElem? (i := 10) (by decide +kernel), List.mem_of_getElem? (i := 103) (by decide +kernel), List.mem_of_getElem? (i := 104) (by decide +kernel)⟩
theorem lw_p4 : lw_okq (⟨"java/lang/Throwable", "fillInStackTrace", "(I)Ljava/lang/Throwable;"⟩, 6) := ⟨⟨by decide +kernel, by decide +kernel⟩, List.mem_of_getElem? (i := 173) (by decide +kernel), List.mem_of_getElem? (i := 171) (by decide +kernel), List.mem_of_getElem? (i := 172) (by decide +kernel)⟩
theorem lw_p5 : lw_okq (⟨"SpotAccount", "billOf", "(I)I"⟩, 18) := ⟨⟨by decide +kernel, by decide +kernel⟩, List.mem_of_getElem? (i := 10) (by decide +kernel), List.mem_of_getElem? (i := 203) (by decide +kernel), List.mem_of_getElem? (i := 204) (by decide +kernel)⟩
theorem lw_p6 : lw_okq (⟨"SpotAccount", "checkSpot", "(I)V"⟩, 18) := ⟨⟨by decide +kernel, by decide +kernel⟩, List.mem_of_getElem? (i := 10) (by decide +kernel), List.mem_of_getElem? (i := 222) (by decide +kernel), List.mem_of_getElem? (i := 223) (by decide +kernel)⟩
theorem lw_p7 : lw_okq (⟨"SpotAccount", "checkBreak", "(I)V"⟩, 18) := ⟨⟨by decide +kernel, by decide +kernel⟩, List.mem_of_getElem? (i := 10) (by decide +kernel), List.mem_of_getElem? (i := 260) (by decide +kernel), List.mem_of_getElem? (i := 261) (by decide +kernel)⟩
theorem lw_p8 : lw_okq (⟨"SpotAccount", "secondsLeft", "(I)I"⟩, 18) := ⟨⟨by decide +kernel, by decide +kernel⟩, List.mem_of_getElem? (i := 10) (by decide +kernel), List.mem_of_getElem? (i := 264) (by decide +kernel), List.mem_of_getElem? (i := 265) (by decide +kernel)⟩
theorem lw_p9 : lw_okq (⟨"SpotAccount", "isInBreak", "(I)Z"⟩, 18) := ⟨⟨by decide +kernel, by decide +kernel⟩, List.mem_of_getElem? (i := 10) (by decide +kernel), List.mem_of_getElem? (i := 268) (by decide +kernel), List.mem_of_getElem? (i := 269) (by decide +kernel)⟩
theorem lw_p10 : lw_okq (⟨"SpotAccount", "checkOrder", "(I)V"⟩, 18) := ⟨⟨by decide +kernel, by decide +kernel⟩, List.mem_of_getElem? (i := 10) (by decide +kernel), List.mem_of_getElem? (i := 299) (by decide +kernel), List.mem_of_getElem? (i := 300) (by decide +kernel)⟩
theorem lw_p11 : lw_okq (⟨"SpotAccount", "obstacle", "(II)I"⟩, 18) := ⟨⟨by decide +kernel, by decide +kernel⟩, List.mem_of_getElem? (i := 10) (by decide +kernel), List.mem_of_getElem? (i := 387) (by decide +kernel), List.mem_of_getElem? (i := 388) (by decide +kernel)⟩
theorem lw_p12 : lw_okq (⟨"SpotAccount", "holdsAdvertiser", "(II)Z"⟩, 18) := ⟨⟨by decide +kernel, by decide +kernel⟩, List.mem_of_getElem? (i := 10) (by decide +kernel), List.mem_of_getElem? (i := 391) (by decide +kernel), List.mem_of_getElem? (i := 392) (by decide +kernel)⟩
theorem lw_p13 : lw_okq (⟨"SpotAccount", "holdsRival", "(II)Z"⟩, 18) := ⟨⟨by decide +kernel, by decide +kernel⟩, List.mem_of_getElem? (i := 10) (by decide +kernel), List.mem_of_getElem? (i := 395) (by decide +kernel), List.mem_of_getElem? (i := 396) (by decide +kernel)⟩
theorem lw_p14 : lw_okq (⟨"SpotAccount", "areRivals", "(II)Z"⟩, 18) := ⟨⟨by decide +kernel, by decide +kernel⟩, List.mem_of_getElem? (i := 10) (by decide +kernel), List.mem_of_getElem? (i := 399) (by decide +kernel), List.mem_of_getElem? (i := 400) (by decide +kernel)⟩
theorem lw_p15 : lw_okq (⟨"SpotAccount", "addSpot", "(IIZ)I"⟩, 18) := ⟨⟨by decide +kernel, by decide +kernel⟩, List.mem_of_getElem? (i := 10) (by decide +kernel), List.mem_of_getElem? (i := 410) (by decide +kernel), List.mem_of_getElem? (i := 411) (by decide +kernel)⟩
def lw_privs_1 : List (MethodName × Nat) := [(⟨"SpotAccount", "restOf", "(I)I"⟩, 18), (⟨"SpotAccount", "owedTo", "(I)I"⟩, 18), (⟨"SpotAccount", "audience", "(II)I"⟩, 18), (⟨"SpotAccount", "ratingFor", "(II)I"⟩, 18), (⟨"java/lang/Throwable", "fillInStackTrace", "(I)Ljava/lang/Throwable;"⟩, 6), (⟨"SpotAccount", "billOf", "(I)I"⟩, 18), (⟨"SpotAccount", "checkSpot", "(I)V"⟩, 18), (⟨"SpotAccount", "checkBreak", "(I)V"⟩, 18), (⟨"SpotAccount", "secondsLeft", "(I)I"⟩, 18), (⟨"SpotAccount", "isInBreak", "(I)Z"⟩, 18), (⟨"SpotAccount", "checkOrder", "(I)V"⟩, 18), (⟨"SpotAccount", "obstacle", "(II)I"⟩, 18), (⟨"SpotAccount", "holdsAdvertiser", "(II)Z"⟩, 18), (⟨"SpotAccount", "holdsRival", "(II)Z"⟩, 18), (⟨"SpotAccount", "areRivals", "(II)Z"⟩, 18), (⟨"SpotAccount", "addSpot", "(IIZ)I"⟩, 18)]
theorem lw_r1 : ∀ q ∈ lw_privs_1, lw_okq q := List.forall_mem_cons.mpr ⟨lw_p0, List.forall_mem_cons.mpr ⟨lw_p1, List.forall_mem_cons.mpr ⟨lw_p2, List.forall_mem_cons.mpr ⟨lw_p3, List.forall_mem_cons.mpr ⟨lw_p4, List.forall_mem_cons.mpr ⟨lw_p5, List.forall_mem_cons.mpr ⟨lw_p6, List.forall_mem_cons.mpr ⟨lw_p7, List.forall_mem_cons.mpr ⟨lw_p8, List.forall_mem_cons.mpr ⟨lw_p9, List.forall_mem_cons.mpr ⟨lw_p10, List.forall_mem_cons.mpr ⟨lw_p11, List.forall_mem_cons.mpr ⟨lw_p12, List.forall_mem_cons.mpr ⟨lw_p13, List.forall_mem_cons.mpr ⟨lw_p14, List.forall_mem_cons.mpr ⟨lw_p15, fun _ h => absurd h List.not_mem_nil⟩⟩⟩⟩⟩⟩⟩⟩⟩⟩⟩⟩⟩⟩⟩⟩
theorem lw_p16 : lw_okq (⟨"SpotAccount", "isShortOfPromise", "(I)Z"⟩, 18) := ⟨⟨by decide +kernel, by decide +kernel⟩, List.mem_of_getElem? (i := 10) (by decide +kernel), List.mem_of_getElem? (i := 431) (by decide +kernel), List.mem_of_getElem? (i := 432) (by decide +kernel)⟩
theorem lw_p17 : lw_okq (⟨"SpotAccount", "bestBreak", "(I)I"⟩, 18) := ⟨⟨by decide +kernel, by decide +kernel⟩, List.mem_of_getElem? (i := 10) (by decide +kernel), List.mem_of_getElem? (i := 435) (by decide +kernel), List.mem_of_getElem? (i := 436) (by decide +kernel)⟩
def lw_privs_2 : List (MethodName × Nat) := [(⟨"SpotAccount", "isShortOfPromise", "(I)Z"⟩, 18), (⟨"SpotAccount", "bestBreak", "(I)I"⟩, 18)]
theorem lw_r2 : ∀ q ∈ lw_privs_2, lw_okq q := List.forall_mem_cons.mpr ⟨lw_p16, List.forall_mem_cons.mpr ⟨lw_p17, fun _ h => absurd h List.not_mem_nil⟩⟩
def lw_privs : List (MethodName × Nat) := lw_privs_1 ++ (lw_privs_2)
def lw_tbl : List Cond := k2_sels lw_privs ++ tables_1
theorem lw_privs_ok : ∀ q ∈ lw_privs, lw_okq q := by
  show ∀ q ∈ lw_privs_1 ++ (lw_privs_2), lw_okq q
  exact List.forall_mem_append.mpr ⟨lw_r1, lw_r2⟩
end
section
/-! ===== BEGIN words of one list among another's, by their places ===== -/
theorem goodIn_r {big : List Cond} (ws : List Cond) (ps : List Nat) (hp : ws = ps.filterMap (fun i => big[i]?)) (h : ws.all goodWord = true) : GoodIn big ws := by
  intro w hw
  have h1 := List.all_eq_true.mp h w hw
  rw [hp] at hw
  obtain ⟨i, -, hi⟩ := List.mem_filterMap.mp hw
  have hm : w ∈ big := by first | exact List.mem_of_getElem? hi | exact List.getElem?_mem hi
  exact ⟨hm, good_of_word h1⟩
theorem goodIn_app {big a b : List Cond} (ha : GoodIn big a) (hb : GoodIn big b) : GoodIn big (a ++ b) := fun w h => (List.mem_append.mp h).elim (ha w) (hb w)
theorem goodIn_ca {big a b : List Cond} {c : Cond} (ha : GoodIn big (c :: a)) (hb : GoodIn big b) : GoodIn big (c :: (a ++ b)) := fun w h => (List.mem_cons.mp h).elim (fun e => ha w (List.mem_cons.mpr (Or.inl e))) (fun h => (List.mem_append.mp h).elim (fun h => ha w (List.mem_cons.mpr (Or.inr h))) (hb w))
theorem goodIn_sub {big ws : List Cond} (hm : ∀ w ∈ ws, w ∈ big) (h : ws.all goodWord = true) : GoodIn big ws := fun w hw => ⟨hm w hw, good_of_word (List.all_eq_true.mp h w hw)⟩
/-! ===== END ===== -/

/-! ===== BEGIN exceptions that leave a method, and their catching by the caller (launches without stack traces) ===== -/
section VXA
/-! The laws vx_back, vx_callV, vx_callS, vx_callSW, vx_throw0, vx_throwS follow proofs of the library, with one case more: JvmDerived/Free/Laws.lean (Back.of_free), Shelf42/LK1.lean (callV, callS), Shelf/KitTraced.lean (throwNew0V, throwNewS). -/
/-- where a method has thrown q: the class by its name, the cell, what was written, the world -/
def vx_T (XC : String → State → State → Prop) (st : State) (q : Addr) (t : State) (mc ms : Nat) (free : Addr → Prop) : Prop :=
  ∃ (E : String) (ce : Cell) (L : List Loc), XC E st t ∧ t.heap[q]? = some ce ∧ ce.vm = .none ∧ st.vm.findClass E = some ce.cls ∧ st.WarmedH t.vm ∧ st.sameButNew ({ t with vm := st.vm } : State) L mc ms ∧ ∀ z ∈ L, free z.base
def vx_Q (Qc : Array Value → State → Outcome → State → Prop) (XC : String → State → State → Prop) (mc ms : Nat) (free : Addr → Prop) : Array Value → State → Outcome → State → Prop := fun a st o t =>
  (Qc a st o t ∧ ∃ L, FrameEnd st o t L mc ms ∧ ∀ q ∈ L, free q.base) ∨ ∃ q, o = .threw q ∧ vx_T XC st q t mc ms free
/-- a callee that returns or throws -/
def vx_Met (l : Launch) (y : MethodName) (ws : List Cond) (rm : Room) (Pc : Array Value → State → Prop) (Qc : Array Value → State → Outcome → State → Prop) (XC : String → State → State → Prop) (mc ms : Nat) (free : Addr → Prop) : Prop :=
  MetFree l y (headSpec ws rm) Pc (fun _ _ _ _ _ => True) (vx_Q Qc XC mc ms free)
def vx_Post (XC : String → State → State → Prop) (mc ms : Nat) (free : Addr → Prop) : Pt → Array Value → Addr → Pt → Prop := fun A a q B =>
  ∃ (g : JFrame) (mk : MethodId) (t : State) (L : List Loc) (E : String) (ce : Cell), B.U.heap = t.heap ∧ B.U.vm = t.vm ∧ XC E (A.U.calling g mk a) t ∧ t.heap[q]? = some ce ∧ ce.vm = .none ∧ A.U.vm.findClass E = some ce.cls ∧ B.locs = A.locs ++ L ∧ (∀ z ∈ L, free z.base) ∧ B.cells = A.cells + mc ∧ B.slots = A.slots + ms
def vx_Back (l : Launch) (R : Room) (p : Program) (e : Env) (below : List Frame) (s : State) (sargs : Array Value) (y : MethodName) (len W9 : Nat)
    (Pre : Pt → Array Value → Prop) (Post : Pt → Array Value → Option Value → Pt → Prop) (PostX : Pt → Array Value → Addr → Pt → Prop) : Prop :=
  ∀ (m : MethodId) (meth : Method) (c : Code) (A : Pt) (g : JFrame) (ig : Instr) (mk : MethodId) (a : Array Value),
    Stand p l e R s m sargs below meth c A.U A.locs A.cells A.slots → g.method = m → g.locals.size = c.maxLocals → decode c.code g.pc = .ok (ig, len) →
    2 * g.monitorRoom + (g.stack.map fun v => v.category).sum ≤ W9 → A.U.methodNamed? y = some mk → Pre A a →
    (∃ (v : Option Value) (B : Pt), Stand p l e R s m sargs below meth c B.U B.locs B.cells B.slots ∧ Post A a v B ∧
      Steps p.tables e below (doInvoke e (A.U.setTop g) [] mk a).1 (B.U.setTop { g with pc := g.pc + len, stack := v.toList ++ g.stack })) ∨
    (∃ (q : Addr) (B : Pt), Stand p l e R s m sargs below meth c B.U B.locs B.cells B.slots ∧ PostX A a q B ∧
      Steps p.tables e below (doInvoke e (A.U.setTop g) [] mk a).1 ((B.U.setTop g).pushFrame (.throwing q)))
section Payer
variable {l : Launch} {R : Room} {p : Program} {e : Env} {below : List Frame} {s : State} {sargs : Array Value} {y : MethodName} {len W9 : Nat}
theorem vx_back {ws : List Cond} {rm : Room} {Pc : Array Value → State → Prop} {Qc : Array Value → State → Outcome → State → Prop} {XC : String → State → State → Prop} {mc ms : Nat} {free : Addr → Prop} {bytes : ByteArray} {maxL : Nat} {ret : Option FieldType}
    (hM : vx_Met l y ws rm Pc Qc XC mc ms free) (hblind : FrameBlind Pc) (hrc : rm.cells = mc) (hrs : rm.slots = ms)
    (hframes : rm.frames + 1 ≤ R.frames) (hlocals : W9 + (maxL + 11) + rm.locals ≤ R.locals)
    (hws : ∀ w ∈ ws, ∀ a' U, s.WarmedH U.vm → w.before a' U = true) (hcode : Cond.code y bytes maxL ret ∈ ws) (hinit : ∀ a' U, s.WarmedH U.vm → (Cond.initialized y.cls).before a' U = true) :
    vx_Back l R p e below s sargs y len W9 (PreOf R mc ms Pc) (PostOf Qc mc ms free) (vx_Post XC mc ms free) := by
  intro m meth c A g ig mk a X hg hsize hdg hW hn hp
  have h1 : (headSpec ws rm).pre.before a A.U = true := atoms_intro fun w hw => hws w hw _ _ X.warmed
  have h2 : (Cond.code y bytes maxL ret).before a A.U = true := hws _ hcode _ _ X.warmed
  have h3 : (Cond.initialized y.cls).before a A.U = true := hinit _ _ X.warmed
  have h4 : A.cells + (headSpec ws rm).room.cells ≤ R.cells := by rw [show (headSpec ws rm).room.cells = mc from hrc]; exact hp.1
  have h5 : A.slots + (headSpec ws rm).room.slots ≤ R.slots := by rw [show (headSpec ws rm).room.slots = ms from hrs]; exact hp.2.1
  have hPc : Pc a (A.U.calling g mk a) := hblind _ _ _ _ hp.2.2
  obtain ⟨U, Ls, c0, s0⟩ := A
  dsimp only [Pt.U, Pt.locs, Pt.cells, Pt.slots] at h1 h2 h3 h4 h5 X hn hPc ⊢
  obtain ⟨methY, cY, hmY, hcY, -, hlY, -, -, -, -⟩ := Cond.code_spec hn h2
  obtain ⟨kY, hkY, -⟩ := className_of_methodNamed hn
  have hinitY : kY.init = .initialized := Cond.initialized_spec (findClass_of_methodNamed hn) hkY h3
  have h : At U g.method c below := by rw [hg]; exact X.here
  have hlocals9 : W9 + (maxL + 11) + (headSpec ws rm).room.locals ≤ R.locals := hlocals
  have happ : (headSpec ws rm).appliesLoose y e.platform (U.calling g mk a) = true :=
    Spec.appliesLoose_calling (g := g) h hdg hn hkY hinitY
      (X.room_calling (g := g) (R' := (headSpec ws rm).room) hsize hmY hcY hframes (by rw [hlY]; omega) h4 h5) h1
  obtain ⟨mid, hmid⟩ := h.above
  have hfr : (U.setTop g).frames = (.java g :: mid) ++ below := by rw [State.frames_setTop' g h.top, hmid]; rfl
  obtain ⟨o, s₂, hsteps, -, hend, hq⟩ := Steps.callFree hM p X.admits X.cas X.clock (acts := []) hfr happ hPc trivial
  have hq' : vx_Q Qc XC mc ms free a (U.calling g mk a) o s₂ := hq
  rw [State.frames_setTop' g h.top] at hend
  obtain ⟨g₀, hg0⟩ := Option.isSome_iff_exists.mp h.top
  obtain ⟨r, hr⟩ := State.topJava?_eq_some.mp hg0
  have hr' : (({ U with heap := s₂.heap, slotsUsed := s₂.slotsUsed } : State).setVm s₂.vm).frames = .java g₀ :: r := hr
  rcases hq' with ⟨hqc, L, hfe, hL⟩ | ⟨q, rfl, E, ce, L, hx, hce, hcv, hcl, hW₂, hsm, hL⟩
  · obtain ⟨⟨v, rfl⟩, hW₂, e2, q2, q3, q4, q5, q6⟩ := id hfe
    have e3 : s₂ = ({ (U.calling g mk a).setFrames s₂.frames with heap := s₂.heap, slotsUsed := s₂.slotsUsed } : State).setVm s₂.vm := by
      have : s₂ = ({ s₂ with vm := (U.calling g mk a).vm } : State).setVm s₂.vm := rfl
      rw [e2] at this
      exact this
    obtain ⟨c₂, i₂, len₂, hc₂, hd₂, hf₂⟩ := hend
    have hW' : U.WarmedH s₂.vm := hW₂
    have hcc : c₂ = c := by
      have h1 : s₂.code? g.method = U.code? g.method := by
        rw [State.code?_eq, State.code?_eq, hW'.alike.method?]
      exact Option.some.inj (hc₂.symm.trans (h1.trans h.code))
    subst hcc
    have hlen : len₂ = len := by rw [hdg] at hd₂; cases hd₂; rfl
    subst hlen
    have hs₂ : s₂ = (({ U with heap := s₂.heap, slotsUsed := s₂.slotsUsed } : State).setVm s₂.vm).setTop { g with pc := g.pc + len₂, stack := v.toList ++ g.stack } := by
      refine e3.trans ?_
      rw [hf₂, State.calling_eq h.top, State.setFrames_setFrames, State.setTop_of_frames _ hr', hr]
      rfl
    have hsame : U.sameButNew ({ U with heap := s₂.heap, slotsUsed := s₂.slotsUsed } : State) L mc ms := by
      refine ⟨?_, q2, q3, q4, q5, q6⟩
      obtain ⟨t, ht, -⟩ := State.frames_cons hr
      show ({ U with heap := s₂.heap, slotsUsed := s₂.slotsUsed } : State) = { U.setFrames U.frames with heap := s₂.heap, slotsUsed := s₂.slotsUsed }
      rw [State.setFrames_self ht]
    subst hg
    refine Or.inl ⟨v, ⟨(({ U with heap := s₂.heap, slotsUsed := s₂.slotsUsed } : State).setVm s₂.vm), Ls ++ L, c0 + mc, s0 + ms⟩,
      ⟨X.admits, X.cas, X.clock, X.frames, X.room, X.hears, X.method, X.code, (X.here.setHeapUsed s₂.heap s₂.slotsUsed).setVm hW'.alike, X.tail, State.WarmedH.trans X.warmed hW', X.limits, X.bytes, X.same.trans (hsame.setVm s.vm)⟩,
      ⟨g, mk, s₂, L, rfl, rfl, hqc, rfl, hL, rfl, rfl⟩, ?_⟩
    show Steps p.tables e below _ ((({ U with heap := s₂.heap, slotsUsed := s₂.slotsUsed } : State).setVm s₂.vm).setTop { g with pc := g.pc + len₂, stack := v.toList ++ g.stack })
    rw [← hs₂]
    exact hsteps
  · obtain ⟨e2, q2, q3, q4, q5, q6⟩ := id hsm
    have e3 : s₂ = ({ (U.calling g mk a).setFrames s₂.frames with heap := s₂.heap, slotsUsed := s₂.slotsUsed } : State).setVm s₂.vm := by
      have : s₂ = ({ s₂ with vm := (U.calling g mk a).vm } : State).setVm s₂.vm := rfl
      rw [e2] at this
      exact this
    have hf₂ : s₂.frames = .throwing q :: .java g :: U.frames.tail := hend
    have hW' : U.WarmedH s₂.vm := hW₂
    have hs₂ : s₂ = ((({ U with heap := s₂.heap, slotsUsed := s₂.slotsUsed } : State).setVm s₂.vm).setTop g).pushFrame (.throwing q) := by
      refine e3.trans ?_
      rw [hf₂, State.calling_eq h.top, State.setFrames_setFrames, State.pushFrame, State.frames_setTop _ hr', State.setTop_of_frames _ hr', State.setFrames_setFrames, hr]
      rfl
    have hsame : U.sameButNew ({ U with heap := s₂.heap, slotsUsed := s₂.slotsUsed } : State) L mc ms := by
      refine ⟨?_, q2, q3, q4, q5, q6⟩
      obtain ⟨t, ht, -⟩ := State.frames_cons hr
      show ({ U with heap := s₂.heap, slotsUsed := s₂.slotsUsed } : State) = { U.setFrames U.frames with heap := s₂.heap, slotsUsed := s₂.slotsUsed }
      rw [State.setFrames_self ht]
    subst hg
    refine Or.inr ⟨q, ⟨(({ U with heap := s₂.heap, slotsUsed := s₂.slotsUsed } : State).setVm s₂.vm), Ls ++ L, c0 + mc, s0 + ms⟩,
      ⟨X.admits, X.cas, X.clock, X.frames, X.room, X.hears, X.method, X.code, (X.here.setHeapUsed s₂.heap s₂.slotsUsed).setVm hW'.alike, X.tail, State.WarmedH.trans X.warmed hW', X.limits, X.bytes, X.same.trans (hsame.setVm s.vm)⟩,
      ⟨g, mk, s₂, L, E, ce, rfl, rfl, hx, hce, hcv, hcl, rfl, hL, rfl, rfl⟩, ?_⟩
    show Steps p.tables e below _ (((({ U with heap := s₂.heap, slotsUsed := s₂.slotsUsed } : State).setVm s₂.vm).setTop g).pushFrame (.throwing q))
    rw [← hs₂]
    exact hsteps
end Payer
section Calls
variable {p : Program} {l : Launch} {e : Env} {R : Room} {s : State} {m : MethodId} {args : Array Value} {below : List Frame} {meth : Method} {c : Code} {T : State} {locs : List Loc} {cells slots : Nat}
theorem vx_callV (X : Stand p l e R s m args below meth c T locs cells slots) (hexec : p.tables.exec = Jvm.exec) {own C : String} {index : Nat} {y : MethodName} {bytes : ByteArray} {maxL : Nat} {ret : Option FieldType}
    (hown : s.vm.findClass own = some m.cls) (hlink : (Cond.methodLink own index y).before args s = true) (hinst : (Cond.instanceMethod y).before args s = true) (hsel : (Cond.selects C y y).before args s = true)
    (hcode : (Cond.code y bytes maxL ret).before args s = true) (hy : y.cls ≠ "java/lang/invoke/MethodHandle" ∧ y.cls ≠ "java/lang/invoke/VarHandle")
    {W9 : Nat} {Pre : Pt → Array Value → Prop} {Post : Pt → Array Value → Option Value → Pt → Prop} {PostX : Pt → Array Value → Addr → Pt → Prop} (hK : vx_Back l R p e below s args y 3 W9 Pre Post PostX)
    {b : Addr} {cellB : Cell} (hcell : T.heap[b]? = some cellB) (hobj : cellB.vm.isStatics = false) (hcls : s.vm.findClass C = some cellB.cls)
    {g : JFrame} (hg : g.method = m) (hsize : g.locals.size = c.maxLocals) {argsL rest : List Value} (hlen : ∀ sig, parseMethodDescriptor y.desc = some sig → argsL.length = sig.parameters.length)
    (hstack : g.stack = argsL.reverse ++ .ref b :: rest) (hW : 2 * g.monitorRoom + (rest.map fun v => v.category).sum ≤ W9) (hdg : decode c.code g.pc = .ok (.invokevirtual index, 3))
    (hpre : ∀ vm₁, s.WarmedH vm₁ → Pre ⟨T.setVm vm₁, locs, cells, slots⟩ (Value.ref b :: argsL).toArray) :
    (∃ (v : Option Value) (vm₁ : Vm) (B : Pt), s.WarmedH vm₁ ∧ Stand p l e R s m args below meth c B.U B.locs B.cells B.slots ∧ Post ⟨T.setVm vm₁, locs, cells, slots⟩ (Value.ref b :: argsL).toArray v B ∧
      ∀ target, Steps p.tables e below (B.U.setTop { g with pc := g.pc + 3, stack := v.toList ++ rest }) target → Steps p.tables e below (T.setTop g) target) ∨
    (∃ (q : Addr) (vm₁ : Vm) (B : Pt), s.WarmedH vm₁ ∧ Stand p l e R s m args below meth c B.U B.locs B.cells B.slots ∧ PostX ⟨T.setVm vm₁, locs, cells, slots⟩ (Value.ref b :: argsL).toArray q B ∧
      Steps p.tables e below (T.setTop g) ((B.U.setTop { g with stack := rest }).pushFrame (.throwing q))) := by
  obtain ⟨mk, methM, hnamed, hmethM, hstM, habM⟩ := Cond.instanceMethod_spec hinst
  obtain ⟨methM', cM, hmethM', -, -, -, -, -, -, hsigM⟩ := Cond.code_spec hnamed hcode
  cases hmethM.symm.trans hmethM'
  obtain ⟨c2, r2, m2, q1, q2, q3, q4, kP, hkP, hkPi⟩ := Cond.selects_spec hsel
  cases hcls.symm.trans q1
  cases (State.methodFound?_of_named hnamed hy).symm.trans q2
  cases hnamed.symm.trans q3
  have hselP : selectMethod e.platform s.vm cellB.cls mk = .method mk := by rw [Launch.admits_selectMethod X.admits]; exact q4
  obtain ⟨vm₁, X₁, hstep₁⟩ := X.invokevirtual hexec hown hlink hnamed hmethM hstM hkP hkPi hy (a := b) (cell := cellB) hcell
    (fun z h => by rw [h] at hobj; cases hobj) hselP hmethM habM hkP hkPi (g := g) hg (argsL := argsL) (rest := rest) (hlen _ hsigM) hstack hdg
  rcases hK m meth c ⟨T.setVm vm₁, locs, cells, slots⟩ { g with stack := rest } (.invokevirtual index) mk (Value.ref b :: argsL).toArray X₁ hg hsize hdg hW (X₁.named hnamed) (hpre vm₁ X₁.warmed) with ⟨v, B, X', hpost, hsteps⟩ | ⟨q, B, X', hpost, hsteps⟩
  · exact Or.inl ⟨v, vm₁, B, X₁.warmed, X', hpost, fun target h => hstep₁ _ fun acts => by rw [doInvoke_state]; exact hsteps.trans h⟩
  · exact Or.inr ⟨q, vm₁, B, X₁.warmed, X', hpost, hstep₁ _ fun acts => by rw [doInvoke_state]; exact hsteps⟩
theorem vx_callS (X : Stand p l e R s m args below meth c T locs cells slots) (hexec : p.tables.exec = Jvm.exec) {own : String} {index : Nat} {y : MethodName} {bytes : ByteArray} {maxL : Nat} {ret : Option FieldType}
    (hown : s.vm.findClass own = some m.cls) (hlink : (Cond.methodLink own index y).before args s = true) (hstat : (Cond.static y).before args s = true) (hinit : (Cond.initialized y.cls).before args s = true)
    (hcode : (Cond.code y bytes maxL ret).before args s = true) (hy : y.cls ≠ "java/lang/invoke/MethodHandle" ∧ y.cls ≠ "java/lang/invoke/VarHandle")
    {W9 : Nat} {Pre : Pt → Array Value → Prop} {Post : Pt → Array Value → Option Value → Pt → Prop} {PostX : Pt → Array Value → Addr → Pt → Prop} (hK : vx_Back l R p e below s args y 3 W9 Pre Post PostX)
    {g : JFrame} (hg : g.method = m) (hsize : g.locals.size = c.maxLocals) {argsL rest : List Value} (hlen : ∀ sig, parseMethodDescriptor y.desc = some sig → argsL.length = sig.parameters.length)
    (hstack : g.stack = argsL.reverse ++ rest) (hW : 2 * g.monitorRoom + (rest.map fun v => v.category).sum ≤ W9) (hdg : decode c.code g.pc = .ok (.invokestatic index, 3))
    (hpre : ∀ vm₁, s.WarmedH vm₁ → Pre ⟨T.setVm vm₁, locs, cells, slots⟩ argsL.toArray) :
    (∃ (v : Option Value) (vm₁ : Vm) (B : Pt), s.WarmedH vm₁ ∧ Stand p l e R s m args below meth c B.U B.locs B.cells B.slots ∧ Post ⟨T.setVm vm₁, locs, cells, slots⟩ argsL.toArray v B ∧
      ∀ target, Steps p.tables e below (B.U.setTop { g with pc := g.pc + 3, stack := v.toList ++ rest }) target → Steps p.tables e below (T.setTop g) target) ∨
    (∃ (q : Addr) (vm₁ : Vm) (B : Pt), s.WarmedH vm₁ ∧ Stand p l e R s m args below meth c B.U B.locs B.cells B.slots ∧ PostX ⟨T.setVm vm₁, locs, cells, slots⟩ argsL.toArray q B ∧
      Steps p.tables e below (T.setTop g) ((B.U.setTop { g with stack := rest }).pushFrame (.throwing q))) := by
  obtain ⟨mk, hnamed⟩ := Cond.code_named hcode
  obtain ⟨methM, cM, hmethM, -, -, -, -, -, -, hsigM⟩ := Cond.code_spec hnamed hcode
  have hstatic : methM.isStatic = true := Cond.static_spec hnamed hmethM hstat
  obtain ⟨kP, hkP, -⟩ := className_of_methodNamed hnamed
  have hinitP : kP.init = .initialized := Cond.initialized_spec (findClass_of_methodNamed hnamed) hkP hinit
  obtain ⟨vm₁, X₁, hstep₁⟩ := X.invokestatic hexec hown hlink hnamed hmethM hstatic hkP hinitP hy (g := g) hg (argsL := argsL) (rest := rest) (hlen _ hsigM) hstack hdg
  rcases hK m meth c ⟨T.setVm vm₁, locs, cells, slots⟩ { g with stack := rest } (.invokestatic index) mk argsL.toArray X₁ hg hsize hdg hW (X₁.named hnamed) (hpre vm₁ X₁.warmed) with ⟨v, B, X', hpost, hsteps⟩ | ⟨q, B, X', hpost, hsteps⟩
  · exact Or.inl ⟨v, vm₁, B, X₁.warmed, X', hpost, fun target h => hstep₁ _ fun acts => by rw [doInvoke_state]; exact hsteps.trans h⟩
  · exact Or.inr ⟨q, vm₁, B, X₁.warmed, X', hpost, hstep₁ _ fun acts => by rw [doInvoke_state]; exact hsteps⟩
end Calls
theorem vx_cls {s : State} {T : State} {vm₁ : Vm} {E : String} {k : ClassId} (hW : s.WarmedH vm₁) (h : (T.setVm vm₁).vm.findClass E = some k) : s.vm.findClass E = some k := by
  have h1 : vm₁.findClass E = some k := h
  rw [hW.alike.findClass] at h1
  exact h1
/-- the method's frame g, with q thrown over it -/
def vx_W (p : Program) (l : Launch) (e : Env) (R : Room) (s : State) (m : MethodId) (args : Array Value) (below : List Frame) (meth : Method) (c : Code) (H : Heap) (locs : List Loc) (cells slots : Nat) (Q : State → Prop) (g : JFrame) (q : Addr) : Prop :=
  ∀ T : State, T.heap = H → Stand p l e R s m args below meth c T locs cells slots → ∃ t, Steps p.tables e below ((T.setTop g).pushFrame (.throwing q)) t ∧ Q t
def vx_Run (p : Program) (l : Launch) (e : Env) (R : Room) (s : State) (m : MethodId) (args : Array Value) (below : List Frame) (meth : Method) (c : Code) (H : Heap) (locs : List Loc) (cells slots mc ms : Nat) (g : JFrame) (rest : List Value) (Qa : State → Outcome → State → Prop) (XC : String → State → State → Prop) (free : Addr → Prop) : Prop :=
  ∀ T : State, T.heap = H → Stand p l e R s m args below meth c T locs cells slots →
    (∃ (v : Option Value) (st₀ t T' : State) (L : List Loc), st₀.heap = H ∧ Stand p l e R s m args below meth c T' (locs ++ L) (cells + mc) (slots + ms) ∧ (∀ q ∈ L, free q.base) ∧ T'.heap = t.heap ∧ T'.vm = t.vm ∧ Qa st₀ (.returned v) t ∧
      Goes p e below T g T' { g with pc := g.pc + 3, stack := v.toList ++ rest }) ∨
    (∃ (q : Addr) (st₀ t T' : State) (L : List Loc) (E : String) (ce : Cell), st₀.heap = H ∧ Stand p l e R s m args below meth c T' (locs ++ L) (cells + mc) (slots + ms) ∧ (∀ z ∈ L, free z.base) ∧ T'.heap = t.heap ∧ T'.vm = t.vm ∧ XC E st₀ t ∧ t.heap[q]? = some ce ∧ ce.vm = .none ∧ s.vm.findClass E = some ce.cls ∧
      Steps p.tables e below (T.setTop g) ((T'.setTop { g with stack := rest }).pushFrame (.throwing q)))
def vx_X {S : Type} (px : S → Prop) (B : String → S → State → Prop) (A : Nat → Prop) : String → State → State → Prop := fun E st t => ∃ u : S, px u ∧ B E u t ∧ va_F A st t
section Runs
variable {p : Program} {l : Launch} {e : Env} {R : Room} {s : State} {m : MethodId} {args : Array Value} {below : List Frame} {meth : Method} {c : Code} {H : Heap} {locs : List Loc} {cells slots : Nat}
variable {y : MethodName} {bytes cc : ByteArray} {maxL nL mc ms n index : Nat} {ret : Option FieldType} {ws : List Cond} {rm : Room} {Pc : Array Value → State → Prop} {Qc : Array Value → State → Outcome → State → Prop} {XC : String → State → State → Prop} {free : Addr → Prop} {Ts : List Cond} {own C : String} {b : Addr} {As rest : List Value} {g : JFrame}
theorem vx_callBack (cb : CallB R s args own index y bytes maxL ret ws rm mc ms n) (hM : vx_Met l y ws rm Pc Qc XC mc ms free) (hbl : FrameBlind Pc) : vx_Back l R p e below s args y 3 8 (PreOf R mc ms Pc) (PostOf Qc mc ms free) (vx_Post XC mc ms free) := by
  obtain ⟨hrc, hrs, hfr, hlo, hws, hcw, -, hini, -⟩ := cb
  exact vx_back (bytes := bytes) (maxL := maxL) (ret := ret) hM hbl hrc hrs hfr hlo hws hcw (fun a' U hW => word_at hW (Or.inl (by first | rfl | simp [Cond.onTables, Cond.keeps, Cond.steady])) hini)
theorem vx_runV (S : CallFix p m c cc nL s args Ts own) (hM : vx_Met l y ws rm Pc Qc XC mc ms free) (cw : CallW R s args own C index y bytes maxL ret ws rm mc ms n) (hp : PreV s H C b Pc As)
    (hg : g.method = m) (hn : As.length = n) (hsize : g.locals.size = nL) (hstack : g.stack = As.reverse ++ .ref b :: rest) (hW : 2 * g.monitorRoom + (rest.map fun v => v.category).sum ≤ 8) (hdg : decode cc g.pc = .ok (.invokevirtual index, 3)) (hf : cells + mc ≤ R.cells ∧ slots + ms ≤ R.slots) :
    vx_Run p l e R s m args below meth c H locs cells slots mc ms g rest (Qc (Value.ref b :: As).toArray) XC free := by
  have hK : vx_Back l R p e below s args y 3 8 (PreOf R mc ms Pc) (PostOf Qc mc ms free) (vx_Post XC mc ms free) := vx_callBack cw.1 hM hp.1
  obtain ⟨⟨-, -, -, -, -, -, hcode, -, hy, hlen, hl⟩, hin, hse⟩ := cw
  obtain ⟨hx, hb, hml, ho, -⟩ := S
  obtain ⟨-, ⟨cellB, hcB, hoB, hclB⟩, hPc⟩ := hp
  intro T hT X
  rcases vx_callV X hx (C := C) (bytes := bytes) (maxL := maxL) (ret := ret) ho hl hin hse hcode hy hK (by rw [hT]; exact hcB) hoB hclB hg (hsize.trans hml.symm) (argsL := As) (rest := rest) (fun sig h => hn.trans (hlen sig h)) hstack hW (by rw [hb]; exact hdg)
    (fun vm₁ hW₁ => ⟨hf.1, hf.2, hPc (T.setVm vm₁) hT hW₁⟩) with ⟨v, vm₁, ⟨U', l2, c2, s2⟩, hW₁, X', ⟨g', mk, t, L, e1, e2, hq, h1, hL, h2, h3⟩, st⟩ | ⟨q, vm₁, ⟨U', l2, c2, s2⟩, hW₁, X', ⟨g', mk, t, L, E, ce, e1, e2, hq, hce, hcv, hcl, h1, hL, h2, h3⟩, st⟩
  · dsimp only [Pt.U, Pt.locs, Pt.cells, Pt.slots] at X' e1 e2 h1 h2 h3 st
    subst h1; subst h2; subst h3
    exact Or.inl ⟨v, (T.setVm vm₁).calling g' mk (Value.ref b :: As).toArray, t, U', L, hT, X', hL, e1, e2, hq, st⟩
  · dsimp only [Pt.U, Pt.locs, Pt.cells, Pt.slots] at X' e1 e2 h1 h2 h3 st hcl
    subst h1; subst h2; subst h3
    exact Or.inr ⟨q, (T.setVm vm₁).calling g' mk (Value.ref b :: As).toArray, t, U', L, E, ce, hT, X', hL, e1, e2, hq, hce, hcv, vx_cls hW₁ hcl, st⟩
theorem vx_runS (S : CallFix p m c cc nL s args Ts own) (hM : vx_Met l y ws rm Pc Qc XC mc ms free) (cw : CallB R s args own index y bytes maxL ret ws rm mc ms n ∧ (Cond.static y).before args s = true) (hp : PreS s H Pc As)
    (hg : g.method = m) (hn : As.length = n) (hsize : g.locals.size = nL) (hstack : g.stack = As.reverse ++ rest) (hW : 2 * g.monitorRoom + (rest.map fun v => v.category).sum ≤ 8) (hdg : decode cc g.pc = .ok (.invokestatic index, 3)) (hf : cells + mc ≤ R.cells ∧ slots + ms ≤ R.slots) :
    vx_Run p l e R s m args below meth c H locs cells slots mc ms g rest (Qc As.toArray) XC free := by
  have hK : vx_Back l R p e below s args y 3 8 (PreOf R mc ms Pc) (PostOf Qc mc ms free) (vx_Post XC mc ms free) := vx_callBack cw.1 hM hp.1
  obtain ⟨⟨-, -, -, -, -, -, hcode, hini, hy, hlen, hl⟩, hstt⟩ := cw
  obtain ⟨hx, hb, hml, ho, -⟩ := S
  intro T hT X
  rcases vx_callS X hx (bytes := bytes) (maxL := maxL) (ret := ret) ho hl hstt hini hcode hy hK hg (hsize.trans hml.symm) (argsL := As) (rest := rest) (fun sig h => hn.trans (hlen sig h)) hstack hW (by rw [hb]; exact hdg)
    (fun vm₁ hW₁ => ⟨hf.1, hf.2, hp.2 (T.setVm vm₁) hT hW₁⟩) with ⟨v, vm₁, ⟨U', l2, c2, s2⟩, hW₁, X', ⟨g', mk, t, L, e1, e2, hq, h1, hL, h2, h3⟩, st⟩ | ⟨q, vm₁, ⟨U', l2, c2, s2⟩, hW₁, X', ⟨g', mk, t, L, E, ce, e1, e2, hq, hce, hcv, hcl, h1, hL, h2, h3⟩, st⟩
  · dsimp only [Pt.U, Pt.locs, Pt.cells, Pt.slots] at X' e1 e2 h1 h2 h3 st
    subst h1; subst h2; subst h3
    exact Or.inl ⟨v, (T.setVm vm₁).calling g' mk As.toArray, t, U', L, hT, X', hL, e1, e2, hq, st⟩
  · dsimp only [Pt.U, Pt.locs, Pt.cells, Pt.slots] at X' e1 e2 h1 h2 h3 st hcl
    subst h1; subst h2; subst h3
    exact Or.inr ⟨q, (T.setVm vm₁).calling g' mk As.toArray, t, U', L, E, ce, hT, X', hL, e1, e2, hq, hce, hcv, vx_cls hW₁ hcl, st⟩
end Runs
section Rows
variable {p : Program} {l : Launch} {e : Env} {R : Room} {s : State} {m : MethodId} {args : Array Value} {below : List Frame} {meth : Method} {c : Code} {H : Heap} {locs : List Loc} {cells slots : Nat} {Q : State → Prop}
variable {mc ms : Nat} {free : Addr → Prop} {A0 A1 : Nat → Prop} {H0 : Heap} {a : Array Value} {pc : Nat} {ls : Array Slot} {st0 rest : List Value}
theorem vx_keep {st₀ t T' : State} {L : List Loc} (h0 : st₀.heap = H) (e1 : T'.heap = t.heap) (hS : va_S A0 H0 H locs) (hA : ∀ q, q < H.size → A1 q → A0 q) (hf : ∀ q, free q → A0 q) (hL : ∀ q ∈ L, free q.base) (hF : va_F A1 st₀ t) :
    H.size ≤ T'.heap.size ∧ (∀ q : Nat, q < H.size → ¬ A1 q → T'.heap[q]? = H[q]?) ∧ va_S A0 H0 T'.heap (locs ++ L) := by
  obtain ⟨hz, hk⟩ := hF
  rw [h0] at hz hk
  exact ⟨by rw [e1]; exact hz, fun q h1 h2 => by rw [e1]; exact hk q h1 h2,
    ⟨Nat.le_trans hS.1 (by rw [e1]; exact hz), fun q h1 h2 => by rw [e1, hk q (Nat.lt_of_lt_of_le h1 hS.1) (fun z => h2 (hA q (Nat.lt_of_lt_of_le h1 hS.1) z))]; exact hS.2.1 q h1 h2, fun q hq => by
      rcases List.mem_append.mp hq with h | h
      · exact hS.2.2 q h
      · exact hf _ (hL q h)⟩⟩
theorem vx_calli {S SX : Type} {post : Int32 → S → Prop} {px : SX → Prop} {B : S → State → Prop} {BX : String → SX → State → Prop} {AX : Nat → Prop} (hr : vx_Run p l e R s m args below meth c H locs cells slots mc ms (F0 m pc ls st0) rest (va_Qi post B A1 a) (vx_X px BX AX) free) (hS : va_S A0 H0 H locs) (hA : ∀ q, q < H.size → A1 q → A0 q) (hf : ∀ q, free q → A0 q) (hAX : ∀ q, q < H.size → AX q → A0 q)
    (kx : ∀ (E : String) (ce : Cell) (q9 : Addr) (u : SX) (t : State) (H1 : Heap) (locs1 : List Loc), t.heap = H1 → s.vm.Alike t.vm → px u → BX E u t → H.size ≤ H1.size → (∀ q : Nat, q < H.size → ¬ AX q → H1[q]? = H[q]?) → va_S A0 H0 H1 locs1 → H1[q9]? = some ce → ce.vm = .none → s.vm.findClass E = some ce.cls → vx_W p l e R s m args below meth c H1 locs1 (cells + mc) (slots + ms) Q (F0 m pc ls rest) q9)
    (kk : ∀ (r : Int32) (u : S) (t : State) (H1 : Heap) (locs1 : List Loc), t.heap = H1 → s.vm.Alike t.vm → post r u → B u t → H.size ≤ H1.size → (∀ q : Nat, q < H.size → ¬ A1 q → H1[q]? = H[q]?) → va_S A0 H0 H1 locs1 → W p l e R s m args below meth c H1 locs1 (cells + mc) (slots + ms) Q (F0 m (pc + 3) ls (.int r :: rest))) : W p l e R s m args below meth c H locs cells slots Q (F0 m pc ls st0) := by
  intro T hT X
  rcases hr T hT X with ⟨v, st₀, t, T', L, h0, X', hL, e1, e2, ⟨⟨r, u, hv, hp, hb⟩, hF⟩, st⟩ | ⟨q, st₀, t, T', L, E, ce, h0, X', hL, e1, e2, ⟨u, hp, hb, hF⟩, hce, hcv, hcl, st⟩
  · cases hv
    obtain ⟨k1, k2, k3⟩ := vx_keep h0 e1 hS hA hf hL hF
    obtain ⟨t2, a1, b1⟩ := kk r u t T'.heap (locs ++ L) e1.symm (by rw [← e2]; exact X'.warmed.alike) hp hb k1 k2 k3 T' rfl X'
    exact ⟨t2, st t2 a1, b1⟩
  · obtain ⟨k1, k2, k3⟩ := vx_keep h0 e1 hS hAX hf hL hF
    obtain ⟨t2, a1, b1⟩ := kx E ce q u t T'.heap (locs ++ L) e1.symm (by rw [← e2]; exact X'.warmed.alike) hp hb k1 k2 k3 (by rw [e1]; exact hce) hcv hcl T' rfl X'
    exact ⟨t2, st.trans a1, b1⟩
theorem vx_calll {S SX : Type} {post : Int64 → S → Prop} {px : SX → Prop} {B : S → State → Prop} {BX : String → SX → State → Prop} {AX : Nat → Prop} (hr : vx_Run p l e R s m args below meth c H locs cells slots mc ms (F0 m pc ls st0) rest (va_Ql post B A1 a) (vx_X px BX AX) free) (hS : va_S A0 H0 H locs) (hA : ∀ q, q < H.size → A1 q → A0 q) (hf : ∀ q, free q → A0 q) (hAX : ∀ q, q < H.size → AX q → A0 q)
    (kx : ∀ (E : String) (ce : Cell) (q9 : Addr) (u : SX) (t : State) (H1 : Heap) (locs1 : List Loc), t.heap = H1 → s.vm.Alike t.vm → px u → BX E u t → H.size ≤ H1.size → (∀ q : Nat, q < H.size → ¬ AX q → H1[q]? = H[q]?) → va_S A0 H0 H1 locs1 → H1[q9]? = some ce → ce.vm = .none → s.vm.findClass E = some ce.cls → vx_W p l e R s m args below meth c H1 locs1 (cells + mc) (slots + ms) Q (F0 m pc ls rest) q9)
    (kk : ∀ (r : Int64) (u : S) (t : State) (H1 : Heap) (locs1 : List Loc), t.heap = H1 → s.vm.Alike t.vm → post r u → B u t → H.size ≤ H1.size → (∀ q : Nat, q < H.size → ¬ A1 q → H1[q]? = H[q]?) → va_S A0 H0 H1 locs1 → W p l e R s m args below meth c H1 locs1 (cells + mc) (slots + ms) Q (F0 m (pc + 3) ls (.long r :: rest))) : W p l e R s m args below meth c H locs cells slots Q (F0 m pc ls st0) := by
  intro T hT X
  rcases hr T hT X with ⟨v, st₀, t, T', L, h0, X', hL, e1, e2, ⟨⟨r, u, hv, hp, hb⟩, hF⟩, st⟩ | ⟨q, st₀, t, T', L, E, ce, h0, X', hL, e1, e2, ⟨u, hp, hb, hF⟩, hce, hcv, hcl, st⟩
  · cases hv
    obtain ⟨k1, k2, k3⟩ := vx_keep h0 e1 hS hA hf hL hF
    obtain ⟨t2, a1, b1⟩ := kk r u t T'.heap (locs ++ L) e1.symm (by rw [← e2]; exact X'.warmed.alike) hp hb k1 k2 k3 T' rfl X'
    exact ⟨t2, st t2 a1, b1⟩
  · obtain ⟨k1, k2, k3⟩ := vx_keep h0 e1 hS hAX hf hL hF
    obtain ⟨t2, a1, b1⟩ := kx E ce q u t T'.heap (locs ++ L) e1.symm (by rw [← e2]; exact X'.warmed.alike) hp hb k1 k2 k3 (by rw [e1]; exact hce) hcv hcl T' rfl X'
    exact ⟨t2, st.trans a1, b1⟩
theorem vx_callf {S SX : Type} {post : UInt32 → S → Prop} {px : SX → Prop} {B : S → State → Prop} {BX : String → SX → State → Prop} {AX : Nat → Prop} (hr : vx_Run p l e R s m args below meth c H locs cells slots mc ms (F0 m pc ls st0) rest (va_Qf post B A1 a) (vx_X px BX AX) free) (hS : va_S A0 H0 H locs) (hA : ∀ q, q < H.size → A1 q → A0 q) (hf : ∀ q, free q → A0 q) (hAX : ∀ q, q < H.size → AX q → A0 q)
    (kx : ∀ (E : String) (ce : Cell) (q9 : Addr) (u : SX) (t : State) (H1 : Heap) (locs1 : List Loc), t.heap = H1 → s.vm.Alike t.vm → px u → BX E u t → H.size ≤ H1.size → (∀ q : Nat, q < H.size → ¬ AX q → H1[q]? = H[q]?) → va_S A0 H0 H1 locs1 → H1[q9]? = some ce → ce.vm = .none → s.vm.findClass E = some ce.cls → vx_W p l e R s m args below meth c H1 locs1 (cells + mc) (slots + ms) Q (F0 m pc ls rest) q9)
    (kk : ∀ (r : UInt32) (u : S) (t : State) (H1 : Heap) (locs1 : List Loc), t.heap = H1 → s.vm.Alike t.vm → post r u → B u t → H.size ≤ H1.size → (∀ q : Nat, q < H.size → ¬ A1 q → H1[q]? = H[q]?) → va_S A0 H0 H1 locs1 → W p l e R s m args below meth c H1 locs1 (cells + mc) (slots + ms) Q (F0 m (pc + 3) ls (.float r :: rest))) : W p l e R s m args below meth c H locs cells slots Q (F0 m pc ls st0) := by
  intro T hT X
  rcases hr T hT X with ⟨v, st₀, t, T', L, h0, X', hL, e1, e2, ⟨⟨r, u, hv, hp, hb⟩, hF⟩, st⟩ | ⟨q, st₀, t, T', L, E, ce, h0, X', hL, e1, e2, ⟨u, hp, hb, hF⟩, hce, hcv, hcl, st⟩
  · cases hv
    obtain ⟨k1, k2, k3⟩ := vx_keep h0 e1 hS hA hf hL hF
    obtain ⟨t2, a1, b1⟩ := kk r u t T'.heap (locs ++ L) e1.symm (by rw [← e2]; exact X'.warmed.alike) hp hb k1 k2 k3 T' rfl X'
    exact ⟨t2, st t2 a1, b1⟩
  · obtain ⟨k1, k2, k3⟩ := vx_keep h0 e1 hS hAX hf hL hF
    obtain ⟨t2, a1, b1⟩ := kx E ce q u t T'.heap (locs ++ L) e1.symm (by rw [← e2]; exact X'.warmed.alike) hp hb k1 k2 k3 (by rw [e1]; exact hce) hcv hcl T' rfl X'
    exact ⟨t2, st.trans a1, b1⟩
theorem vx_calld {S SX : Type} {post : UInt64 → S → Prop} {px : SX → Prop} {B : S → State → Prop} {BX : String → SX → State → Prop} {AX : Nat → Prop} (hr : vx_Run p l e R s m args below meth c H locs cells slots mc ms (F0 m pc ls st0) rest (va_Qd post B A1 a) (vx_X px BX AX) free) (hS : va_S A0 H0 H locs) (hA : ∀ q, q < H.size → A1 q → A0 q) (hf : ∀ q, free q → A0 q) (hAX : ∀ q, q < H.size → AX q → A0 q)
    (kx : ∀ (E : String) (ce : Cell) (q9 : Addr) (u : SX) (t : State) (H1 : Heap) (locs1 : List Loc), t.heap = H1 → s.vm.Alike t.vm → px u → BX E u t → H.size ≤ H1.size → (∀ q : Nat, q < H.size → ¬ AX q → H1[q]? = H[q]?) → va_S A0 H0 H1 locs1 → H1[q9]? = some ce → ce.vm = .none → s.vm.findClass E = some ce.cls → vx_W p l e R s m args below meth c H1 locs1 (cells + mc) (slots + ms) Q (F0 m pc ls rest) q9)
    (kk : ∀ (r : UInt64) (u : S) (t : State) (H1 : Heap) (locs1 : List Loc), t.heap = H1 → s.vm.Alike t.vm → post r u → B u t → H.size ≤ H1.size → (∀ q : Nat, q < H.size → ¬ A1 q → H1[q]? = H[q]?) → va_S A0 H0 H1 locs1 → W p l e R s m args below meth c H1 locs1 (cells + mc) (slots + ms) Q (F0 m (pc + 3) ls (.double r :: rest))) : W p l e R s m args below meth c H locs cells slots Q (F0 m pc ls st0) := by
  intro T hT X
  rcases hr T hT X with ⟨v, st₀, t, T', L, h0, X', hL, e1, e2, ⟨⟨r, u, hv, hp, hb⟩, hF⟩, st⟩ | ⟨q, st₀, t, T', L, E, ce, h0, X', hL, e1, e2, ⟨u, hp, hb, hF⟩, hce, hcv, hcl, st⟩
  · cases hv
    obtain ⟨k1, k2, k3⟩ := vx_keep h0 e1 hS hA hf hL hF
    obtain ⟨t2, a1, b1⟩ := kk r u t T'.heap (locs ++ L) e1.symm (by rw [← e2]; exact X'.warmed.alike) hp hb k1 k2 k3 T' rfl X'
    exact ⟨t2, st t2 a1, b1⟩
  · obtain ⟨k1, k2, k3⟩ := vx_keep h0 e1 hS hAX hf hL hF
    obtain ⟨t2, a1, b1⟩ := kx E ce q u t T'.heap (locs ++ L) e1.symm (by rw [← e2]; exact X'.warmed.alike) hp hb k1 k2 k3 (by rw [e1]; exact hce) hcv hcl T' rfl X'
    exact ⟨t2, st.trans a1, b1⟩
theorem vx_callv {S SX : Type} {post : S → Prop} {px : SX → Prop} {B : S → State → Prop} {BX : String → SX → State → Prop} {AX : Nat → Prop} (hr : vx_Run p l e R s m args below meth c H locs cells slots mc ms (F0 m pc ls st0) rest (va_Qv post B A1 a) (vx_X px BX AX) free) (hS : va_S A0 H0 H locs) (hA : ∀ q, q < H.size → A1 q → A0 q) (hf : ∀ q, free q → A0 q) (hAX : ∀ q, q < H.size → AX q → A0 q)
    (kx : ∀ (E : String) (ce : Cell) (q9 : Addr) (u : SX) (t : State) (H1 : Heap) (locs1 : List Loc), t.heap = H1 → s.vm.Alike t.vm → px u → BX E u t → H.size ≤ H1.size → (∀ q : Nat, q < H.size → ¬ AX q → H1[q]? = H[q]?) → va_S A0 H0 H1 locs1 → H1[q9]? = some ce → ce.vm = .none → s.vm.findClass E = some ce.cls → vx_W p l e R s m args below meth c H1 locs1 (cells + mc) (slots + ms) Q (F0 m pc ls rest) q9)
    (kk : ∀ (u : S) (t : State) (H1 : Heap) (locs1 : List Loc), t.heap = H1 → s.vm.Alike t.vm → post u → B u t → H.size ≤ H1.size → (∀ q : Nat, q < H.size → ¬ A1 q → H1[q]? = H[q]?) → va_S A0 H0 H1 locs1 → W p l e R s m args below meth c H1 locs1 (cells + mc) (slots + ms) Q (F0 m (pc + 3) ls (rest))) : W p l e R s m args below meth c H locs cells slots Q (F0 m pc ls st0) := by
  intro T hT X
  rcases hr T hT X with ⟨v, st₀, t, T', L, h0, X', hL, e1, e2, ⟨⟨u, hv, hp, hb⟩, hF⟩, st⟩ | ⟨q, st₀, t, T', L, E, ce, h0, X', hL, e1, e2, ⟨u, hp, hb, hF⟩, hce, hcv, hcl, st⟩
  · cases hv
    obtain ⟨k1, k2, k3⟩ := vx_keep h0 e1 hS hA hf hL hF
    obtain ⟨t2, a1, b1⟩ := kk u t T'.heap (locs ++ L) e1.symm (by rw [← e2]; exact X'.warmed.alike) hp hb k1 k2 k3 T' rfl X'
    exact ⟨t2, st t2 a1, b1⟩
  · obtain ⟨k1, k2, k3⟩ := vx_keep h0 e1 hS hAX hf hL hF
    obtain ⟨t2, a1, b1⟩ := kx E ce q u t T'.heap (locs ++ L) e1.symm (by rw [← e2]; exact X'.warmed.alike) hp hb k1 k2 k3 (by rw [e1]; exact hce) hcv hcl T' rfl X'
    exact ⟨t2, st.trans a1, b1⟩
/-- caught by the row x of this method's table; the rows ahead don't take it -/
theorem vx_catch {own name : String} {E : String} {ce : Cell} {q : Addr} (hown : s.vm.findClass own = some m.cls) (pre : List ExceptionTableEntry) (x : ExceptionTableEntry) (suf : List ExceptionTableEntry) (hsplit : c.exceptionTable.toList = pre ++ x :: suf)
    (hpass : ∀ z ∈ pre, covers z pc = false ∨ (z.catchType ≠ 0 ∧ ∃ nm : String, (Cond.classLink own z.catchType nm).before args s = true ∧ va_Nc E nm s)) (hx : covers x pc = true) (h0 : x.catchType ≠ 0)
    (hlink : (Cond.classLink own x.catchType name).before args s = true) (hcast : (Cond.castable E name).before args s = true) (hcell : H[q]? = some ce) (hv : ce.vm = .none) (hcl : s.vm.findClass E = some ce.cls)
    (kk : W p l e R s m args below meth c H locs cells slots Q (F0 m x.handlerPc ls [.ref q])) : vx_W p l e R s m args below meth c H locs cells slots Q (F0 m pc ls rest) q := by
  intro T hT X
  have hpl : e.platform.magicAccessors = ({} : Platform).magicAccessors := by rw [X.admits.platform]
  obtain ⟨c3, c4, hc3, hc4, hasg⟩ := Cond.castable_spec hcast
  cases Option.some.inj (hc3.symm.trans hcl)
  obtain ⟨c5, hc5, hcl5⟩ := Cond.classLink_spec hown hlink e.platform hpl
  cases Option.some.inj (hc4.symm.trans hc5)
  obtain ⟨vm', X', st⟩ := X.thenCaughtThrough q (g := F0 m pc ls rest) rfl (Steps.refl _) (by rw [hT]; exact hcell) (by rw [hv]; rfl) (by obtain ⟨k9, h9, -⟩ := Vm.findClass_spec hcl; exact ⟨k9, h9⟩) pre x suf hsplit
    (fun z hz => by
      rcases hpass z hz with h | ⟨hz0, nm, hl1, hn1⟩
      · exact Or.inl h
      · obtain ⟨c6, hc6, hcl6⟩ := Cond.classLink_spec hown hl1 e.platform hpl
        obtain ⟨a8, b8, h1, h2, h3⟩ := hn1
        cases Option.some.inj (h1.symm.trans hcl)
        cases Option.some.inj (h2.symm.trans hc6)
        exact Or.inr ⟨hz0, _, hcl6, h3⟩) hx (Or.inr ⟨h0, c4, hcl5, hasg⟩)
  obtain ⟨t, a1, b1⟩ := kk (T.setVm vm') hT X'
  exact ⟨t, st.trans a1, b1⟩
end Rows
section Ends
variable {p : Program} {l : Launch} {e : Env} {R : Room} {s : State} {m : MethodId} {args : Array Value} {below : List Frame} {meth : Method} {c : Code} {H : Heap} {locs : List Loc} {cells slots : Nat} {Q : State → Prop}
variable {mc ms : Nat} {free : Addr → Prop} {A0 A1 : Nat → Prop} {H0 : Heap} {a : Array Value} {ls : Array Slot} {st0 rest : List Value}
variable {Qc : Array Value → State → Outcome → State → Prop} {XC : String → State → State → Prop}
/-- what a body that may throw owes at its end -/
def vx_MQ (below : List Frame) (Qc : Array Value → State → Outcome → State → Prop) (XC : String → State → State → Prop) (a : Array Value) (s : State) (mc ms : Nat) (free : Addr → Prop) : State → Prop := fun t =>
  ∃ o, t.status = .running ∧ Ended t below o ∧ vx_Q Qc XC mc ms free a s o t
theorem vx_ret {g : JFrame} {mc ms : Nat} (k : W p l e R s m args below meth c H locs cells slots (MQ below Qc args s mc ms free) g) : W p l e R s m args below meth c H locs cells slots (vx_MQ below Qc XC args s mc ms free) g := by
  intro T hT X
  obtain ⟨t, a1, o, b1, b2, b3, b4⟩ := k T hT X
  exact ⟨t, a1, o, b1, b2, Or.inl ⟨b3, b4⟩⟩
/-- not caught here: it goes on to the caller -/
theorem vx_widen {g : JFrame} {q : Addr} {k n : Nat} (h1 : cells ≤ k) (h2 : slots ≤ n) (kk : vx_W p l e R s m args below meth c H locs k n Q g q) : vx_W p l e R s m args below meth c H locs cells slots Q g q := fun T hT X => kk T hT (stand_widen X h1 h2)
theorem vx_out {pc : Nat} {E : String} {ce : Cell} {q : Addr} {mc ms : Nat} (hout : ∀ x ∈ c.exceptionTable.toList, covers x pc = false) (hlocks : meth.locks = false) (hcell : H[q]? = some ce) (hv : ce.vm = .none) (hcl : s.vm.findClass E = some ce.cls)
    (hx : ∀ t : State, t.heap = H → s.vm.Alike t.vm → XC E s t) (hf : ∀ z ∈ locs, free z.base) (hc : cells ≤ mc) (hs : slots ≤ ms) :
    vx_W p l e R s m args below meth c H locs cells slots (vx_MQ below Qc XC args s mc ms free) (F0 m pc ls rest) q := by
  intro T hT X
  obtain ⟨st1, hrun, hend, hW, hsm⟩ := X.leaveThrown q (g := F0 m pc ls rest) rfl rfl rfl hout hlocks
  have hcell9 : (T.setFrames (.throwing q :: below)).heap[q]? = some ce := by
    show T.heap[q]? = some ce
    rw [hT]; exact hcell
  exact ⟨_, st1, .threw q, hrun, hend, Or.inr ⟨q, rfl, E, ce, locs, hx _ hT hW.alike, hcell9, hv, hcl, hW, hsm.mono hc hs, hf⟩⟩
theorem vx_frame {U : State} {k n : Nat} (h : s.sameButNew ({ U with vm := s.vm } : State) locs k n) : s.heap.size ≤ U.heap.size ∧ ∀ q : Nat, q < s.heap.size → (∀ z ∈ locs, z.base ≠ q) → U.heap[q]? = s.heap[q]? := by
  obtain ⟨-, h2, -, -, -, h6⟩ := h
  refine ⟨h2, fun q hq hz => ?_⟩
  obtain ⟨c9, e1, e2, e3, e4⟩ := h6 q _ (Array.getElem?_eq_getElem hq)
  have hs : c9.slots = (s.heap[q]).slots := Array.ext_getElem? fun i => e4 i fun hm => hz _ hm rfl
  have h9 : c9 = s.heap[q] := by
    rw [hs] at e2
    exact e2
  have e5 : U.heap[q]? = some c9 := e1
  rw [e5, h9, Array.getElem?_eq_getElem hq]
/-- the words of a throw but the four that speak of the heap -/
def vx_no (w : Cond) : Bool := decide (w ≠ .isRef (.static Bundle.tN "UNASSIGNED_STACK" Bundle.steD)) && decide (w ≠ .isRef (.static Bundle.tN "SUPPRESSED_SENTINEL" Bundle.listD)) && decide (w ≠ .laysStatic Bundle.tN "UNASSIGNED_STACK" Bundle.steD) && decide (w ≠ .laysStatic Bundle.tN "SUPPRESSED_SENTINEL" Bundle.listD)
def vx_at0 (own : String) (ic : Nat) (X : String) (names : List String) : List Cond := (Bundle.ownAtoms0 own ic X names).filter vx_no
def vx_atS (own : String) (ic : Nat) (X : String) (names : List String) : List Cond := (Bundle.ownAtoms own ic X names).filter vx_no
/-- a word that the tables alone decide, or a good one -/
def vx_ot (w : Cond) : Bool := w.onTables || goodWord w
theorem vx_ot_at {args a' : Array Value} {s U : State} {w : Cond} (hW : s.WarmedH U.vm) (hvm : s.vm = U.vm) (hg : vx_ot w = true) (h : w.before args s = true) : w.before a' U = true := by
  simp only [vx_ot, Bool.or_eq_true] at hg
  rcases hg with hg | hg
  · exact va_tabs hg hvm h
  · exact word_at hW (good_of_word hg) h
/-- a list's words: the good ones out of the method's own list, the others by premises of their own -/
theorem vx_hat {args : Array Value} {s : State} {L B : List Cond} (h1 : ∀ w ∈ L.filter goodWord, w.before args s = true) (h2 : ∀ w ∈ L.filter (fun w => !goodWord w), w ∈ B) (h3 : ∀ w ∈ B, w.before args s = true) : ∀ w ∈ L, w.before args s = true := by
  intro w hw
  by_cases g : goodWord w = true
  · exact h1 w (List.mem_filter.mpr ⟨hw, g⟩)
  · refine h3 w (h2 w (List.mem_filter.mpr ⟨hw, ?_⟩))
    show (!goodWord w) = true
    cases hgw : goodWord w
    · rfl
    · exact absurd hgw g
theorem vx_c {args : Array Value} {s : State} {w : Cond} {B : List Cond} (h : w.before args s = true) (t : ∀ w ∈ B, w.before args s = true) : ∀ w' ∈ w :: B, w'.before args s = true := fun w' h' => (List.mem_cons.mp h').elim (fun e => by rw [e]; exact h) (t w')
theorem vx_n {args : Array Value} {s : State} : ∀ w ∈ ([] : List Cond), w.before args s = true := fun _ h => nomatch h
theorem vx_own {args : Array Value} {s : State} {L : List Cond} (h1 : ∀ w ∈ L.filter vx_no, w.before args s = true)
    (hU : (Cond.isRef (.static Bundle.tN "UNASSIGNED_STACK" Bundle.steD)).before args s = true) (hN : (Cond.isRef (.static Bundle.tN "SUPPRESSED_SENTINEL" Bundle.listD)).before args s = true)
    (lU : (Cond.laysStatic Bundle.tN "UNASSIGNED_STACK" Bundle.steD).before args s = true) (lN : (Cond.laysStatic Bundle.tN "SUPPRESSED_SENTINEL" Bundle.listD).before args s = true) : ∀ w ∈ L, w.before args s = true := by
  intro w hw
  by_cases e1 : w = .isRef (.static Bundle.tN "UNASSIGNED_STACK" Bundle.steD)
  · rw [e1]; exact hU
  · by_cases e2 : w = .isRef (.static Bundle.tN "SUPPRESSED_SENTINEL" Bundle.listD)
    · rw [e2]; exact hN
    · by_cases e3 : w = .laysStatic Bundle.tN "UNASSIGNED_STACK" Bundle.steD
      · rw [e3]; exact lU
      · by_cases e4 : w = .laysStatic Bundle.tN "SUPPRESSED_SENTINEL" Bundle.listD
        · rw [e4]; exact lN
        · exact h1 w (List.mem_filter.mpr ⟨hw, by unfold vx_no; rw [decide_eq_true e1, decide_eq_true e2, decide_eq_true e3, decide_eq_true e4]; rfl⟩)
/-- where a static field lies, its class's statics cell in H -/
def vx_L (C n d : String) (A : Nat → Prop) (U : State) (H : Heap) : Prop := ∃ (c : ClassId) (k : Class) (i : Nat) (f : Field) (a : Nat) (cell : Cell), U.vm.findClass C = some c ∧ U.fieldFound? C n d = some (c, k, i, f) ∧ f.isStatic = true ∧ k.statics = some a ∧ H[a]? = some cell ∧ cell.vm.isStatics = true ∧ cell.cls = c ∧ f.slot < cell.slots.size ∧ k.staticTypes[f.slot]? = some f.type ∧ ¬ A a
theorem vx_L.moved {C n d : String} {A : Nat → Prop} {u U : State} {H : Heap} (hvm : u.vm.Alike U.vm) (h : vx_L C n d A u H) : vx_L C n d A U H := by
  obtain ⟨c, k, i, f, a, cell, h1, h2, h3, h4, h5, h6, h7, h8, h9, h10⟩ := h
  obtain ⟨k', hi', he⟩ := State.fieldFound?_setVm hvm h2
  exact ⟨c, k', i, f, a, cell, by rw [hvm.findClass]; exact h1, hi', h3, by rw [he]; exact h4, h5, h6, h7, h8, by rw [he]; exact h9, h10⟩
theorem vx_L.kept {C n d : String} {A : Nat → Prop} {U : State} {H H1 : Heap} (h : vx_L C n d A U H) (hq : ∀ a : Nat, a < H.size → ¬ A a → H1[a]? = H[a]?) : vx_L C n d A U H1 := by
  obtain ⟨c, k, i, f, a, cell, h1, h2, h3, h4, h5, h6, h7, h8, h9, h10⟩ := h
  exact ⟨c, k, i, f, a, cell, h1, h2, h3, h4, by rw [hq a (Array.getElem?_eq_some_iff.mp h5).1 h10]; exact h5, h6, h7, h8, h9, h10⟩
theorem vx_L.narrow {C n d : String} {A B : Nat → Prop} {U : State} {H : Heap} (h : vx_L C n d A U H) (hAB : ∀ q, B q → A q) : vx_L C n d B U H := by
  obtain ⟨c, k, i, f, a, cell, h1, h2, h3, h4, h5, h6, h7, h8, h9, h10⟩ := h
  exact ⟨c, k, i, f, a, cell, h1, h2, h3, h4, h5, h6, h7, h8, h9, fun z => h10 (hAB _ z)⟩
theorem vx_L.word {C n d : String} {A : Nat → Prop} {s : State} {args : Array Value} (h : vx_L C n d A s s.heap) : (Cond.laysStatic C n d).before args s = true := by
  obtain ⟨c, k, i, f, a, cell, h1, h2, h3, h4, h5, h6, h7, h8, h9, -⟩ := h
  show (Cond.laysStatic C n d).holds args s none s [] = true
  exact Cond.laysStatic_of h1 h2 h3 h4 h5 h6 h7 h8 h9
/-- .. and what it holds: null or some reference -/
def vx_Zq (C n d : String) (A : Nat → Prop) (U : State) (H : Heap) : Prop := va_Zq C n d A U H ∧ vx_L C n d A U H
theorem vx_Zq.moved {C n d : String} {A : Nat → Prop} {u U : State} {H : Heap} (hvm : u.vm.Alike U.vm) (h : vx_Zq C n d A u H) : vx_Zq C n d A U H := ⟨va_Zq.moved hvm h.1, vx_L.moved hvm h.2⟩
theorem vx_Zq.kept {C n d : String} {A : Nat → Prop} {U : State} {H H1 : Heap} (h : vx_Zq C n d A U H) (hq : ∀ a : Nat, a < H.size → ¬ A a → H1[a]? = H[a]?) : vx_Zq C n d A U H1 := ⟨va_Zq.kept h.1 hq, vx_L.kept h.2 hq⟩
theorem vx_Zq.narrow {C n d : String} {A B : Nat → Prop} {U : State} {H : Heap} (h : vx_Zq C n d A U H) (hAB : ∀ q, B q → A q) : vx_Zq C n d B U H := ⟨va_Zq.narrow h.1 hAB, vx_L.narrow h.2 hAB⟩
theorem vx_Zqof {args : Array Value} {s : State} {C n d : String} {A : Nat → Prop} (hl : (Cond.laysStatic C n d).before args s = true) (hini : (Cond.initialized C).before args s = true) (h : (Cond.isRef (.static C n d)).before args s = true) (hA : ∀ a : Nat, a < s.heap.size → ¬ A a) : vx_Zq C n d A s s.heap := by
  refine ⟨va_Zqof hl hini h hA, ?_⟩
  obtain ⟨c, k, i, f, a, cell, h1, h2, h3, h4, h5, h6, h7, h8, h9⟩ := Cond.laysStatic_spec hl
  exact ⟨c, k, i, f, a, cell, h1, h2, h3, h4, h5, h6, h7, h8, h9, hA a (Array.getElem?_eq_some_iff.mp h5).1⟩
theorem vx_isRef {C n d : String} {v : Value} {A : Nat → Prop} {s : State} {args : Array Value} (h : va_Z C n d v A s s.heap) (hv : v.isRef = true) : (Cond.isRef (.static C n d)).before args s = true := by
  obtain ⟨cf, kf, fi, f, a, cell, h1, h2, h3, h4, h5, h6, h7, -⟩ := h
  have he : (Term.static C n d).eval args s none [] s = some v := by
    simp [Term.eval, State.fieldNamed?, h1, h2, h4, h5, h6, h7]
  simp only [Cond.before, Cond.holds, Cond.value, he]
  cases v <;> simp_all [Value.isRef]
theorem vx_isRefq {C n d : String} {A : Nat → Prop} {s : State} {args : Array Value} (h : va_Zq C n d A s s.heap) : (Cond.isRef (.static C n d)).before args s = true := by
  rcases h with h | ⟨t, h⟩
  · exact vx_isRef h rfl
  · exact vx_isRef h rfl
/-- the same frame, seen from here: as if the method were called anew in this heap -/
theorem vx_rebase {T : State} (X : Stand p l e R s m args below meth c T locs cells slots) {R' : Room} (hf : R'.frames ≤ R.frames) (hl : R'.locals ≤ R.locals) (hc : cells + R'.cells ≤ R.cells) (hs : slots + R'.slots ≤ R.slots) :
    Stand p l e R' ((T.setVm s.vm).setFrames (.invoking m args :: below)) m args below meth c T [] 0 0 := by
  have htop : (T.setVm s.vm).topJava?.isSome := X.here.top
  have hF : ((T.setVm s.vm).setFrames (.invoking m args :: below)).frames = .invoking m args :: below := State.frames_setFrames _ (State.cur_lt_of_top htop)
  obtain ⟨g₀, hg0⟩ := Option.isSome_iff_exists.mp htop
  obtain ⟨r, hr⟩ := State.topJava?_eq_some.mp hg0
  have hl9 : e.platform.stackLimits (T.setVm s.vm).me = e.platform.stackLimits s.me := X.limits
  have hb9 : (T.setVm s.vm).me.stackBytes = s.me.stackBytes := X.bytes
  refine ⟨X.admits, X.cas, X.clock, hF, ?_, X.hears, X.method, X.code, X.here, X.tail, X.warmed, ?_, ?_, ?_⟩
  · have h := X.room
    have hU : ((T.setVm s.vm).setFrames (.invoking m args :: below)).localsInUse = s.localsInUse := by
      rw [State.localsInUse_invoking hF (meth := meth) (c := c) X.method X.code, State.localsInUse_invoking X.frames X.method X.code]
    simp only [State.hasRoom, Bool.and_eq_true, decide_eq_true_eq] at h ⊢
    obtain ⟨⟨⟨⟨h1, h2, h3, h4, h5, h6⟩, h7⟩, h8⟩, h9⟩ := h
    rw [X.frames, List.length_cons] at h2 h3
    have q1 := X.heapSize
    have q2 := X.used
    simp only [hF, hU, List.length_cons, State.stackLimits_setFrames, State.stackBytes_setFrames, hl9, hb9]
    refine ⟨⟨⟨⟨by omega, by omega, by omega, by omega, by omega, h6⟩, ?_⟩, ?_⟩, X.book⟩
    · show T.heap.size + R'.cells ≤ e.platform.maxCells
      omega
    · show T.slotsUsed + R'.slots ≤ e.platform.maxSlots
      omega
  · rw [State.stackLimits_setFrames]; rfl
  · rw [State.stackBytes_setFrames]; rfl
  · refine ⟨?_, Nat.le_refl _, Nat.le_refl _, ?_, ?_, fun a c9 h9 => ⟨c9, h9, rfl, rfl, fun _ _ => rfl⟩⟩
    · obtain ⟨t, ht, -⟩ := State.frames_cons hr
      show T.setVm s.vm = { ((T.setVm s.vm).setFrames (.invoking m args :: below)).setFrames (T.setVm s.vm).frames with heap := T.heap, slotsUsed := T.slotsUsed }
      rw [State.setFrames_setFrames, State.setFrames_self ht]
      rfl
    · show T.slotsUsed = T.slotsUsed + ((T.heap.toList.drop T.heap.size).map (·.slots.size)).sum
      rw [List.drop_eq_nil_of_le (Nat.le_of_eq Array.length_toList)]
      rfl
    · show ((T.heap.toList.drop T.heap.size).map (·.slots.size)).sum ≤ 0
      rw [List.drop_eq_nil_of_le (Nat.le_of_eq Array.length_toList)]
      exact Nat.le_refl _
/-- 'throw new E()': new; dup; invokespecial; athrow -/
theorem vx_throw0 {cc : ByteArray} {pc : Nat} (hexec : p.tables.exec = Jvm.exec) (hb : c.code = cc) (hl : l.stackTraces = false) {own cls : String} {names : List String} {ik ic mc ms : Nat} {A : Nat → Prop}
    (hown : s.vm.findClass own = some m.cls) (hcls : Bundle.fit cls = true) (hnames : ∀ n ∈ names, Bundle.fit n = true)
    (hk : (Cond.classLink own ik cls).before args s = true) (hini : (Cond.initialized cls).before args s = true) (hat : ∀ w ∈ vx_at0 own ic cls names, w.before args s = true)
    (hgood : ∀ w ∈ Cond.classLink own ik cls :: Cond.initialized cls :: vx_at0 own ic cls names, vx_ot w = true)
    (hU : vx_Zq Bundle.tN "UNASSIGNED_STACK" Bundle.steD A s s.heap) (hN : vx_Zq Bundle.tN "SUPPRESSED_SENTINEL" Bundle.listD A s s.heap) (hS : va_S A s.heap H locs) (hsize : ls.size = c.maxLocals)
    (d0 : decode cc pc = .ok (.new ik, 3)) (d3 : decode cc (pc + 3) = .ok (.dup, 1)) (d4 : decode cc (pc + 4) = .ok (.invokespecial ic, 3)) (d7 : decode cc (pc + 7) = .ok (.athrow, 1))
    (hout : ∀ x ∈ c.exceptionTable.toList, covers x (pc + 7) = false)
    (hRframes : names.length + 3 < R.frames) (hRlocals : (rest.map fun v => v.category).sum + (13 * (names.length + 1) + 42) ≤ R.locals) (hRcells : cells + 1 ≤ R.cells) (hRslots : slots + 6 ≤ R.slots) (hlocks : meth.locks = false)
    (hx : ∀ t : State, s.vm.Alike t.vm → H.size ≤ t.heap.size → (∀ q : Nat, q < H.size → t.heap[q]? = H[q]?) → XC cls s t)
    (hf : ∀ z ∈ locs, free z.base) (hc : cells + 1 ≤ mc) (hs : slots + 6 ≤ ms) :
    W p l e R s m args below meth c H locs cells slots (vx_MQ below Qc XC args s mc ms free) (F0 m pc ls rest) := by
  intro T hT X
  have htr : e.platform.stackTraces = false := (show e.platform.stackTraces = l.stackTraces by rw [X.admits.platform]).trans hl
  have Y := vx_rebase X (R' := { frames := R.frames, locals := R.locals, cells := 1, slots := 6 }) (Nat.le_refl _) (Nat.le_refl _) hRcells hRslots
  obtain ⟨s', hA⟩ : ∃ z, z = (T.setVm s.vm).setFrames (.invoking m args :: below) := ⟨_, rfl⟩
  rw [← hA] at Y
  have hvm : s'.vm = s.vm := by rw [hA]; rfl
  have hhp : s'.heap = H := by rw [hA]; exact hT
  have hW0 : s.WarmedH s'.vm := by rw [hvm]; exact State.WarmedH.refl s
  have hat' : ∀ w ∈ vx_at0 own ic cls names, w.before args s' = true := fun w hw => vx_ot_at hW0 hvm.symm (hgood w (List.mem_cons_of_mem _ (List.mem_cons_of_mem _ hw))) (hat w hw)
  have hk' : (Cond.classLink own ik cls).before args s' = true := vx_ot_at hW0 hvm.symm (hgood _ List.mem_cons_self) hk
  have hini' : (Cond.initialized cls).before args s' = true := vx_ot_at hW0 hvm.symm (hgood _ (List.mem_cons_of_mem _ List.mem_cons_self)) hini
  have hU' : vx_Zq Bundle.tN "UNASSIGNED_STACK" Bundle.steD A s' s'.heap := by rw [hhp]; exact vx_Zq.moved hW0.alike (hU.kept hS.2.1)
  have hN' : vx_Zq Bundle.tN "SUPPRESSED_SENTINEL" Bundle.listD A s' s'.heap := by rw [hhp]; exact vx_Zq.moved hW0.alike (hN.kept hS.2.1)
  have h : ∀ w ∈ Bundle.ownAtoms0 own ic cls names, w.before args s' = true := vx_own hat' (vx_isRefq hU'.1) (vx_isRefq hN'.1) hU'.2.word hN'.2.word
  have hown' : s'.vm.findClass own = some m.cls := by rw [hvm]; exact hown
  have hins : (Cond.instantiable cls 6).before args s' = true := h _ (by simp [Bundle.ownAtoms0])
  obtain ⟨vm₁, cX, kX, hfX, hkX, -, -, X₁, st1⟩ := Y.newCold hexec (own := own) (C := cls) (index := ik) (n := 6) hown' hk' hins hini'
    (g := F0 m pc ls rest) rfl (by rw [hb]; exact d0) (Nat.le_refl _) (Nat.le_refl _)
  generalize hT1 : (T.setVm vm₁).pushCell { cls := cX, slots := kX.instanceTypes.map defaultValue, vm := .none } = T1 at X₁ st1
  have hcat : (Value.ref T.heap.size).category = 1 := rfl
  have hcellA : T1.heap[T.heap.size]? = some (freshCell cX kX) := by rw [← hT1]; exact State.heap_pushCell_size _ _
  have d3' : decode c.code (pc + 3) = .ok (.dup, 1) := by rw [hb]; exact d3
  obtain ⟨U, hsteps, hrun, hend, hW, hsame, ce, hce, hO⟩ := X₁.ctorThrow0 hexec htr (own := own) (cls := cls) (names := names) (ic := ic) hown' hcls hnames h (fun x hx => nomatch hx) hfX hkX hcellA (by rw [hhp, hT]; exact Nat.le_refl _)
    (g := { method := m, pc := pc + 4, locals := ls, stack := .ref T.heap.size :: .ref T.heap.size :: rest, locked := none }) rfl hsize rfl rfl (rest := rest) rfl
    (by rw [hb]; exact d4) (by rw [hb]; exact d7) hout hRframes (by simp only [List.map_cons, List.sum_cons, hcat]; omega) hlocks
  obtain ⟨f1, f2⟩ := vx_frame hsame
  rw [hhp] at f1 f2
  have hWs : s.WarmedH U.vm := State.WarmedH.trans hW0 hW
  have hcl : s.vm.findClass cls = some ce.cls := by
    have h9 := hO.cls
    rw [hvm] at h9
    exact h9
  have hall : s.sameButNew ({ U with vm := s.vm } : State) locs mc ms := by
    subst hA
    obtain ⟨e1, e2⟩ := hsame
    rw [State.setFrames_setFrames] at e1
    have h2 : (T.setVm s.vm).sameButNew ({ U with vm := s.vm } : State) [] (0 + 1) (0 + 6) := ⟨e1, e2⟩
    have h3 := X.same.trans h2
    rw [List.append_nil] at h3
    exact h3.mono hc hs
  refine ⟨U, ?_, .threw T.heap.size, hrun, hend, Or.inr ⟨T.heap.size, rfl, cls, ce, locs, hx U hWs.alike f1 (fun q hq => f2 q hq (fun z hz => nomatch hz)), hce, hO.vm, hcl, hWs, hall, hf⟩⟩
  refine st1 _ ?_
  show Steps p.tables e below (T1.setTop { method := m, pc := pc + 3, locals := ls, stack := .ref T.heap.size :: rest, locked := none }) _
  jvm_step X₁.here [X₁.here.top, hexec, d3', Value.category]
  exact hsteps
/-- 'throw new E("text")': new; dup; ldc; invokespecial; athrow -/
theorem vx_throwS {cc : ByteArray} {pc : Nat} (hexec : p.tables.exec = Jvm.exec) (hb : c.code = cc) (hl : l.stackTraces = false) {own cls text : String} {names : List String} {ik is ic mc ms sa : Nat} {A : Nat → Prop}
    (hown : s.vm.findClass own = some m.cls) (hcls : Bundle.fit cls = true) (hnames : ∀ n ∈ names, Bundle.fit n = true)
    (hk : (Cond.classLink own ik cls).before args s = true) (hini : (Cond.initialized cls).before args s = true) (hstr : vk_R own is text sa s) (hat : ∀ w ∈ vx_atS own ic cls names, w.before args s = true)
    (hgood : ∀ w ∈ Cond.classLink own ik cls :: Cond.initialized cls :: vx_atS own ic cls names, vx_ot w = true)
    (hU : vx_Zq Bundle.tN "UNASSIGNED_STACK" Bundle.steD A s s.heap) (hN : vx_Zq Bundle.tN "SUPPRESSED_SENTINEL" Bundle.listD A s s.heap) (hS : va_S A s.heap H locs) (hsize : ls.size = c.maxLocals)
    (d0 : decode cc pc = .ok (.new ik, 3)) (d3 : decode cc (pc + 3) = .ok (.dup, 1)) (d4 : decode cc (pc + 4) = .ok (.ldc is, 2)) (d6 : decode cc (pc + 6) = .ok (.invokespecial ic, 3)) (d9 : decode cc (pc + 9) = .ok (.athrow, 1))
    (hout : ∀ x ∈ c.exceptionTable.toList, covers x (pc + 9) = false)
    (hRframes : names.length + 3 < R.frames) (hRlocals : (rest.map fun v => v.category).sum + (13 * (names.length + 1) + 43) ≤ R.locals) (hRcells : cells + 1 ≤ R.cells) (hRslots : slots + 6 ≤ R.slots) (hlocks : meth.locks = false)
    (hx : ∀ t : State, s.vm.Alike t.vm → H.size ≤ t.heap.size → (∀ q : Nat, q < H.size → t.heap[q]? = H[q]?) → XC cls s t)
    (hf : ∀ z ∈ locs, free z.base) (hc : cells + 1 ≤ mc) (hs : slots + 6 ≤ ms) :
    W p l e R s m args below meth c H locs cells slots (vx_MQ below Qc XC args s mc ms free) (F0 m pc ls rest) := by
  intro T hT X
  have htr : e.platform.stackTraces = false := (show e.platform.stackTraces = l.stackTraces by rw [X.admits.platform]).trans hl
  have Y := vx_rebase X (R' := { frames := R.frames, locals := R.locals, cells := 1, slots := 6 }) (Nat.le_refl _) (Nat.le_refl _) hRcells hRslots
  obtain ⟨s', hA⟩ : ∃ z, z = (T.setVm s.vm).setFrames (.invoking m args :: below) := ⟨_, rfl⟩
  rw [← hA] at Y
  have hvm : s'.vm = s.vm := by rw [hA]; rfl
  have hhp : s'.heap = H := by rw [hA]; exact hT
  have hW0 : s.WarmedH s'.vm := by rw [hvm]; exact State.WarmedH.refl s
  have hat' : ∀ w ∈ vx_atS own ic cls names, w.before args s' = true := fun w hw => vx_ot_at hW0 hvm.symm (hgood w (List.mem_cons_of_mem _ (List.mem_cons_of_mem _ hw))) (hat w hw)
  have hk' : (Cond.classLink own ik cls).before args s' = true := vx_ot_at hW0 hvm.symm (hgood _ List.mem_cons_self) hk
  have hini' : (Cond.initialized cls).before args s' = true := vx_ot_at hW0 hvm.symm (hgood _ (List.mem_cons_of_mem _ List.mem_cons_self)) hini
  have hU' : vx_Zq Bundle.tN "UNASSIGNED_STACK" Bundle.steD A s' s'.heap := by rw [hhp]; exact vx_Zq.moved hW0.alike (hU.kept hS.2.1)
  have hN' : vx_Zq Bundle.tN "SUPPRESSED_SENTINEL" Bundle.listD A s' s'.heap := by rw [hhp]; exact vx_Zq.moved hW0.alike (hN.kept hS.2.1)
  have h : ∀ w ∈ Bundle.ownAtoms own ic cls names, w.before args s' = true := vx_own hat' (vx_isRefq hU'.1) (vx_isRefq hN'.1) hU'.2.word hN'.2.word
  have hown' : s'.vm.findClass own = some m.cls := by rw [hvm]; exact hown
  have hins : (Cond.instantiable cls 6).before args s' = true := h _ (by simp [Bundle.ownAtoms])
  obtain ⟨vm₁, cX, kX, hfX, hkX, -, -, X₁, st1⟩ := Y.newCold hexec (own := own) (C := cls) (index := ik) (n := 6) hown' hk' hins hini'
    (g := F0 m pc ls rest) rfl (by rw [hb]; exact d0) (Nat.le_refl _) (Nat.le_refl _)
  generalize hT1 : (T.setVm vm₁).pushCell { cls := cX, slots := kX.instanceTypes.map defaultValue, vm := .none } = T1 at X₁ st1
  have hcat : (Value.ref T.heap.size).category = 1 := rfl
  have hcellA : T1.heap[T.heap.size]? = some (freshCell cX kX) := by rw [← hT1]; exact State.heap_pushCell_size _ _
  have d3' : decode c.code (pc + 3) = .ok (.dup, 1) := by rw [hb]; exact d3
  have d4' : decode c.code (pc + 4) = .ok (.ldc is, 2) := by rw [hb]; exact d4
  have hstr' : vk_R own is text sa s' := vk_R.warm hW0 hstr
  obtain ⟨U, hsteps, hrun, hend, hW, hsame, ce, hce, hO⟩ := X₁.ctorThrowS hexec htr (own := own) (cls := cls) (names := names) (ic := ic) hown' hcls hnames h (fun x hx => nomatch hx) hfX hkX hcellA (by rw [hhp, hT]; exact Nat.le_refl _) (msg := .ref sa) rfl
    (g := { method := m, pc := pc + 6, locals := ls, stack := .ref sa :: .ref T.heap.size :: .ref T.heap.size :: rest, locked := none }) rfl hsize rfl rfl (rest := rest) rfl
    (by rw [hb]; exact d6) (by rw [hb]; exact d9) hout hRframes (by simp only [List.map_cons, List.sum_cons, hcat]; omega) hlocks
  obtain ⟨f1, f2⟩ := vx_frame hsame
  rw [hhp] at f1 f2
  have hWs : s.WarmedH U.vm := State.WarmedH.trans hW0 hW
  have hcl : s.vm.findClass cls = some ce.cls := by
    have h9 := hO.cls
    rw [hvm] at h9
    exact h9
  have hall : s.sameButNew ({ U with vm := s.vm } : State) locs mc ms := by
    subst hA
    obtain ⟨e1, e2⟩ := hsame
    rw [State.setFrames_setFrames] at e1
    have h2 : (T.setVm s.vm).sameButNew ({ U with vm := s.vm } : State) [] (0 + 1) (0 + 6) := ⟨e1, e2⟩
    have h3 := X.same.trans h2
    rw [List.append_nil] at h3
    exact h3.mono hc hs
  refine ⟨U, ?_, .threw T.heap.size, hrun, hend, Or.inr ⟨T.heap.size, rfl, cls, ce, locs, hx U hWs.alike f1 (fun q hq => f2 q hq (fun z hz => nomatch hz)), hce, hO.vm, hcl, hWs, hall, hf⟩⟩
  refine st1 _ ?_
  show Steps p.tables e below (T1.setTop { method := m, pc := pc + 3, locals := ls, stack := .ref T.heap.size :: rest, locked := none }) _
  jvm_step X₁.here [X₁.here.top, hexec, d3', Value.category]
  exact X₁.ldcString hexec (own := own) (text := text) (index := is) (a := sa) hown' hstr'.1 hstr'.2
    (g := { method := m, pc := pc + 4, locals := ls, stack := .ref T.heap.size :: .ref T.heap.size :: rest, locked := none }) rfl d4' _ hsteps
/-- 'throw new E("text")', the text by a wide index -/
theorem vx_throwSW {cc : ByteArray} {pc : Nat} (hexec : p.tables.exec = Jvm.exec) (hb : c.code = cc) (hl : l.stackTraces = false) {own cls text : String} {names : List String} {ik is ic mc ms sa : Nat} {A : Nat → Prop}
    (hown : s.vm.findClass own = some m.cls) (hcls : Bundle.fit cls = true) (hnames : ∀ n ∈ names, Bundle.fit n = true)
    (hk : (Cond.classLink own ik cls).before args s = true) (hini : (Cond.initialized cls).before args s = true) (hstr : vk_R own is text sa s) (hat : ∀ w ∈ vx_atS own ic cls names, w.before args s = true)
    (hgood : ∀ w ∈ Cond.classLink own ik cls :: Cond.initialized cls :: vx_atS own ic cls names, vx_ot w = true)
    (hU : vx_Zq Bundle.tN "UNASSIGNED_STACK" Bundle.steD A s s.heap) (hN : vx_Zq Bundle.tN "SUPPRESSED_SENTINEL" Bundle.listD A s s.heap) (hS : va_S A s.heap H locs) (hsize : ls.size = c.maxLocals)
    (d0 : decode cc pc = .ok (.new ik, 3)) (d3 : decode cc (pc + 3) = .ok (.dup, 1)) (d4 : decode cc (pc + 4) = .ok (.ldc_w is, 3)) (d7 : decode cc (pc + 7) = .ok (.invokespecial ic, 3)) (d10 : decode cc (pc + 10) = .ok (.athrow, 1))
    (hout : ∀ x ∈ c.exceptionTable.toList, covers x (pc + 10) = false)
    (hRframes : names.length + 3 < R.frames) (hRlocals : (rest.map fun v => v.category).sum + (13 * (names.length + 1) + 43) ≤ R.locals) (hRcells : cells + 1 ≤ R.cells) (hRslots : slots + 6 ≤ R.slots) (hlocks : meth.locks = false)
    (hx : ∀ t : State, s.vm.Alike t.vm → H.size ≤ t.heap.size → (∀ q : Nat, q < H.size → t.heap[q]? = H[q]?) → XC cls s t)
    (hf : ∀ z ∈ locs, free z.base) (hc : cells + 1 ≤ mc) (hs : slots + 6 ≤ ms) :
    W p l e R s m args below meth c H locs cells slots (vx_MQ below Qc XC args s mc ms free) (F0 m pc ls rest) := by
  intro T hT X
  have htr : e.platform.stackTraces = false := (show e.platform.stackTraces = l.stackTraces by rw [X.admits.platform]).trans hl
  have Y := vx_rebase X (R' := { frames := R.frames, locals := R.locals, cells := 1, slots := 6 }) (Nat.le_refl _) (Nat.le_refl _) hRcells hRslots
  obtain ⟨s', hA⟩ : ∃ z, z = (T.setVm s.vm).setFrames (.invoking m args :: below) := ⟨_, rfl⟩
  rw [← hA] at Y
  have hvm : s'.vm = s.vm := by rw [hA]; rfl
  have hhp : s'.heap = H := by rw [hA]; exact hT
  have hW0 : s.WarmedH s'.vm := by rw [hvm]; exact State.WarmedH.refl s
  have hat' : ∀ w ∈ vx_atS own ic cls names, w.before args s' = true := fun w hw => vx_ot_at hW0 hvm.symm (hgood w (List.mem_cons_of_mem _ (List.mem_cons_of_mem _ hw))) (hat w hw)
  have hk' : (Cond.classLink own ik cls).before args s' = true := vx_ot_at hW0 hvm.symm (hgood _ List.mem_cons_self) hk
  have hini' : (Cond.initialized cls).before args s' = true := vx_ot_at hW0 hvm.symm (hgood _ (List.mem_cons_of_mem _ List.mem_cons_self)) hini
  have hU' : vx_Zq Bundle.tN "UNASSIGNED_STACK" Bundle.steD A s' s'.heap := by rw [hhp]; exact vx_Zq.moved hW0.alike (hU.kept hS.2.1)
  have hN' : vx_Zq Bundle.tN "SUPPRESSED_SENTINEL" Bundle.listD A s' s'.heap := by rw [hhp]; exact vx_Zq.moved hW0.alike (hN.kept hS.2.1)
  have h : ∀ w ∈ Bundle.ownAtoms own ic cls names, w.before args s' = true := vx_own hat' (vx_isRefq hU'.1) (vx_isRefq hN'.1) hU'.2.word hN'.2.word
  have hown' : s'.vm.findClass own = some m.cls := by rw [hvm]; exact hown
  have hins : (Cond.instantiable cls 6).before args s' = true := h _ (by simp [Bundle.ownAtoms])
  obtain ⟨vm₁, cX, kX, hfX, hkX, -, -, X₁, st1⟩ := Y.newCold hexec (own := own) (C := cls) (index := ik) (n := 6) hown' hk' hins hini'
    (g := F0 m pc ls rest) rfl (by rw [hb]; exact d0) (Nat.le_refl _) (Nat.le_refl _)
  generalize hT1 : (T.setVm vm₁).pushCell { cls := cX, slots := kX.instanceTypes.map defaultValue, vm := .none } = T1 at X₁ st1
  have hcat : (Value.ref T.heap.size).category = 1 := rfl
  have hcellA : T1.heap[T.heap.size]? = some (freshCell cX kX) := by rw [← hT1]; exact State.heap_pushCell_size _ _
  have d3' : decode c.code (pc + 3) = .ok (.dup, 1) := by rw [hb]; exact d3
  have d4' : decode c.code (pc + 4) = .ok (.ldc_w is, 3) := by rw [hb]; exact d4
  have hstr' : vk_R own is text sa s' := vk_R.warm hW0 hstr
  obtain ⟨U, hsteps, hrun, hend, hW, hsame, ce, hce, hO⟩ := X₁.ctorThrowS hexec htr (own := own) (cls := cls) (names := names) (ic := ic) hown' hcls hnames h (fun x hx => nomatch hx) hfX hkX hcellA (by rw [hhp, hT]; exact Nat.le_refl _) (msg := .ref sa) rfl
    (g := { method := m, pc := pc + 7, locals := ls, stack := .ref sa :: .ref T.heap.size :: .ref T.heap.size :: rest, locked := none }) rfl hsize rfl rfl (rest := rest) rfl
    (by rw [hb]; exact d7) (by rw [hb]; exact d10) hout hRframes (by simp only [List.map_cons, List.sum_cons, hcat]; omega) hlocks
  obtain ⟨f1, f2⟩ := vx_frame hsame
  rw [hhp] at f1 f2
  have hWs : s.WarmedH U.vm := State.WarmedH.trans hW0 hW
  have hcl : s.vm.findClass cls = some ce.cls := by
    have h9 := hO.cls
    rw [hvm] at h9
    exact h9
  have hall : s.sameButNew ({ U with vm := s.vm } : State) locs mc ms := by
    subst hA
    obtain ⟨e1, e2⟩ := hsame
    rw [State.setFrames_setFrames] at e1
    have h2 : (T.setVm s.vm).sameButNew ({ U with vm := s.vm } : State) [] (0 + 1) (0 + 6) := ⟨e1, e2⟩
    have h3 := X.same.trans h2
    rw [List.append_nil] at h3
    exact h3.mono hc hs
  refine ⟨U, ?_, .threw T.heap.size, hrun, hend, Or.inr ⟨T.heap.size, rfl, cls, ce, locs, hx U hWs.alike f1 (fun q hq => f2 q hq (fun z hz => nomatch hz)), hce, hO.vm, hcl, hWs, hall, hf⟩⟩
  refine st1 _ ?_
  show Steps p.tables e below (T1.setTop { method := m, pc := pc + 3, locals := ls, stack := .ref T.heap.size :: rest, locked := none }) _
  jvm_step X₁.here [X₁.here.top, hexec, d3', Value.category]
  exact X₁.ldcStringW hexec (own := own) (text := text) (index := is) (a := sa) hown' hstr'.1 hstr'.2
    (g := { method := m, pc := pc + 4, locals := ls, stack := .ref T.heap.size :: .ref T.heap.size :: rest, locked := none }) rfl d4' _ hsteps
end Ends
section Bodies
variable {l : Launch}
theorem vx_ofW {y : MethodName} {ws ws' : List Cond} {rm : Room} {Pc : Array Value → State → Prop} {Qc : Array Value → State → Outcome → State → Prop} {XC : String → State → State → Prop} {mc ms : Nat} {free : Addr → Prop} {cc : ByteArray} {maxL : Nat} {ret : Option FieldType}
    (hy : plainName y.cls = true) (hw : ws = Cond.code y cc maxL ret :: ws')
    (body : ∀ p e s m args below meth c s₁, BodyLoose p l y (headSpec ws rm) cc maxL ret e s m args below meth c s₁ → c.maxLocals = maxL → (∀ x ∈ c.exceptionTable.toList, False) → Pc args s →
      W p l e (headSpec ws rm).room s m args below meth c s.heap [] 0 0 (vx_MQ below Qc XC args s mc ms free) (entryFrame m args maxL)) : vx_Met l y ws rm Pc Qc XC mc ms free := by
  refine MetFree.of_bodyS (code := cc) (maxLocals := maxL) (ret := ret) hy ?_ ?_
  · intro args s m h hn
    obtain ⟨meth, c, h1, h2, h3, h4, h5, h6, -, -⟩ := Cond.code_spec hn (atoms_spec (ws := ws) h _ (by rw [hw]; exact List.mem_cons_self))
    exact ⟨meth, c, h1, h2, h3, h4, h5, h6⟩
  · intro p e s m args below meth c s₁ B hml hP _
    have hh0 : s₁.heap = s.heap := by rw [B.state]; rfl
    have ht : ∀ x ∈ c.exceptionTable.toList, False := by
      obtain ⟨meth9, c9, h1, h2, -, -, -, -, h7, -⟩ := Cond.code_spec B.named (atoms_spec (ws := ws) B.pre _ (by rw [hw]; exact List.mem_cons_self))
      cases Option.some.inj (h1.symm.trans B.method)
      cases Option.some.inj (h2.symm.trans (Stand.of_body B).code)
      intro x hx
      rw [Array.isEmpty_iff.mp h7] at hx
      cases hx
    obtain ⟨t, a1, o, b1, b2, b3⟩ := body p e s m args below meth c s₁ B hml ht hP s₁ hh0 (Stand.of_body B)
    exact ⟨t, o, a1, b1, b2, b3⟩
/-- the table of a body with handlers -/
theorem vx_table {p : Program} {x y : MethodName} {S : Spec} {cc bytes : ByteArray} {maxL maxL' : Nat} {ret ret' : Option FieldType} {e : Env} {s s₁ : State} {m : MethodId} {args : Array Value} {below : List Frame} {meth : Method} {c : Code} {hh : List (Nat × Nat × Nat × Nat)}
    (B : BodyLoose p l y S cc maxL ret e s m args below meth c s₁) (h : (Cond.codeWith y bytes maxL' ret' hh).before args s = true) : c.exceptionTable.toList = tableOf hh := by
  obtain ⟨m9, meth9, c9, hn9, h1, h2, -, -, h6, -⟩ := Cond.codeWith_spec h
  cases Option.some.inj (hn9.symm.trans B.named)
  cases Option.some.inj (h1.symm.trans B.method)
  cases Option.some.inj (h2.symm.trans (Stand.of_body B).code)
  rw [← h6, table_eq]
end Bodies
end VXA
/-! ===== END ===== -/
/-! ===== BEGIN a static call of a method with an exception table ===== -/
section VXS
variable {p : Program} {l : Launch} {e : Env} {R : Room} {s : State} {m : MethodId} {args : Array Value} {below : List Frame} {meth : Method} {c : Code} {T : State} {H : Heap} {locs : List Loc} {cells slots : Nat}
abbrev vx_CSW (R : Room) (s : State) (args : Array Value) (own : String) (index : Nat) (y : MethodName) (bytes : ByteArray) (maxL : Nat) (ret : Option FieldType) (hh : List (Nat × Nat × Nat × Nat)) (ws : List Cond) (rm : Room) (mc ms n : Nat) : Prop :=
  (rm.cells = mc ∧ rm.slots = ms ∧ rm.frames + 1 ≤ R.frames ∧ 8 + (maxL + 11) + rm.locals ≤ R.locals ∧ (∀ w ∈ ws, ∀ (a' : Array Value) (U : State), s.WarmedH U.vm → w.before a' U = true) ∧ Cond.codeWith y bytes maxL ret hh ∈ ws) ∧
  (Cond.codeWith y bytes maxL ret hh).before args s = true ∧ (Cond.initialized y.cls).before args s = true ∧ (y.cls ≠ "java/lang/invoke/MethodHandle" ∧ y.cls ≠ "java/lang/invoke/VarHandle") ∧
  (∀ sig, parseMethodDescriptor y.desc = some sig → n = sig.parameters.length) ∧ (Cond.methodLink own index y).before args s = true ∧ (Cond.static y).before args s = true
theorem vx_cwSW {own : String} {index maxL mc ms : Nat} {y : MethodName} {bytes : ByteArray} {ret : Option FieldType} {hh : List (Nat × Nat × Nat × Nat)} {Ts ws ws' : List Cond} {rm : Room} (n : Nat) (ht : ∀ w ∈ Ts, w.before args s = true) (hT : GoodIn Ts (va_wsS own index y ws)) (hw : ws = Cond.codeWith y bytes maxL ret hh :: ws') (hrc : rm.cells = mc) (hrs : rm.slots = ms)
    (hd : y.cls ≠ "java/lang/invoke/MethodHandle" ∧ y.cls ≠ "java/lang/invoke/VarHandle" ∧ (parseMethodDescriptor y.desc).map (fun d => d.parameters.length) = some n) (hR : rm.frames + 1 ≤ R.frames ∧ 8 + (maxL + 11) + rm.locals ≤ R.locals) :
    vx_CSW R s args own index y bytes maxL ret hh ws rm mc ms n := by
  have ok : ∀ w ∈ va_wsS own index y ws, w.before args s = true := fun w h => ht w (hT w h).1
  have hG : GoodIn Ts ws := fun w h => hT w (by unfold va_wsS; exact List.mem_append_right _ h)
  have hc : Cond.codeWith y bytes maxL ret hh ∈ ws := by rw [hw]; exact List.mem_cons_self
  refine ⟨⟨hrc, hrs, hR.1, hR.2, pay_in ht hG, hc⟩, ht _ (hG _ hc).1, ok _ (by simp [va_wsS]), ⟨hd.1, hd.2.1⟩, fun sig h => ?_, ok _ (by simp [va_wsS]), ok _ (by simp [va_wsS])⟩
  have h2 := hd.2.2
  rw [h] at h2
  exact (Option.some.inj h2).symm
theorem vx_callSW (X : Stand p l e R s m args below meth c T locs cells slots) (hexec : p.tables.exec = Jvm.exec) {own : String} {index : Nat} {y : MethodName} {bytes : ByteArray} {maxL : Nat} {ret : Option FieldType} {hh : List (Nat × Nat × Nat × Nat)}
    (hown : s.vm.findClass own = some m.cls) (hlink : (Cond.methodLink own index y).before args s = true) (hstat : (Cond.static y).before args s = true) (hinit : (Cond.initialized y.cls).before args s = true)
    (hcode : (Cond.codeWith y bytes maxL ret hh).before args s = true) (hy : y.cls ≠ "java/lang/invoke/MethodHandle" ∧ y.cls ≠ "java/lang/invoke/VarHandle")
    {W9 : Nat} {Pre : Pt → Array Value → Prop} {Post : Pt → Array Value → Option Value → Pt → Prop} (hK : Back l R p e below s args y 3 W9 Pre Post)
    {g : JFrame} (hg : g.method = m) (hsize : g.locals.size = c.maxLocals) {argsL rest : List Value} (hlen : ∀ sig, parseMethodDescriptor y.desc = some sig → argsL.length = sig.parameters.length)
    (hstack : g.stack = argsL.reverse ++ rest) (hW : 2 * g.monitorRoom + (rest.map fun v => v.category).sum ≤ W9) (hdg : decode c.code g.pc = .ok (.invokestatic index, 3))
    (hpre : ∀ vm₁, s.WarmedH vm₁ → Pre ⟨T.setVm vm₁, locs, cells, slots⟩ argsL.toArray) :
    ∃ (v : Option Value) (vm₁ : Vm) (B : Pt), s.WarmedH vm₁ ∧ Stand p l e R s m args below meth c B.U B.locs B.cells B.slots ∧ Post ⟨T.setVm vm₁, locs, cells, slots⟩ argsL.toArray v B ∧
      ∀ target, Steps p.tables e below (B.U.setTop { g with pc := g.pc + 3, stack := v.toList ++ rest }) target → Steps p.tables e below (T.setTop g) target := by
  obtain ⟨mk, methM, cM, hnamed, hmethM, -, -, -, -, -, -, hsigM⟩ := Cond.codeWith_spec hcode
  have hstatic : methM.isStatic = true := Cond.static_spec hnamed hmethM hstat
  obtain ⟨kP, hkP, -⟩ := className_of_methodNamed hnamed
  have hinitP : kP.init = .initialized := Cond.initialized_spec (findClass_of_methodNamed hnamed) hkP hinit
  obtain ⟨vm₁, X₁, hstep₁⟩ := X.invokestatic hexec hown hlink hnamed hmethM hstatic hkP hinitP hy (g := g) hg (argsL := argsL) (rest := rest) (hlen _ hsigM) hstack hdg
  obtain ⟨v, B, X', hpost, hsteps⟩ := hK m meth c ⟨T.setVm vm₁, locs, cells, slots⟩ { g with stack := rest } (.invokestatic index) mk argsL.toArray X₁ hg hsize hdg hW (X₁.named hnamed) (hpre vm₁ X₁.warmed)
  exact ⟨v, vm₁, B, X₁.warmed, X', hpost, fun target h => hstep₁ _ fun acts => by rw [doInvoke_state]; exact hsteps.trans h⟩
theorem vx_runSW {y : MethodName} {bytes cc : ByteArray} {maxL nL mc ms n index : Nat} {ret : Option FieldType} {hh : List (Nat × Nat × Nat × Nat)} {ws : List Cond} {rm : Room} {Pc : Array Value → State → Prop} {Qc : Array Value → State → Outcome → State → Prop} {free : Addr → Prop} {Ts : List Cond} {own : String} {As rest : List Value} {g : JFrame}
    (S : CallFix p m c cc nL s args Ts own) (hM : Met l y ws rm Pc Qc mc ms free) (cw : vx_CSW R s args own index y bytes maxL ret hh ws rm mc ms n) (hp : PreS s H Pc As)
    (hg : g.method = m) (hn : As.length = n) (hsize : g.locals.size = nL) (hstack : g.stack = As.reverse ++ rest) (hW : 2 * g.monitorRoom + (rest.map fun v => v.category).sum ≤ 8) (hdg : decode cc g.pc = .ok (.invokestatic index, 3)) (hf : cells + mc ≤ R.cells ∧ slots + ms ≤ R.slots) :
    va_Run p l e R s m args below meth c H locs cells slots mc ms g rest (Qc As.toArray) (free) := by
  obtain ⟨⟨hrc, hrs, hfr, hlo, hws, hcw⟩, hcode, hini, hy, hlen, hl, hstt⟩ := cw
  have hK : Back l R p e below s args y 3 8 (PreOf R mc ms Pc) (PostOf Qc mc ms free) := va_backW (hh := hh) (bytes := bytes) (maxL := maxL) (ret := ret) hM hp.1 hrc hrs hfr hlo hws hcw (fun a' U hW => word_at hW (Or.inl (by first | rfl | simp [Cond.onTables, Cond.keeps, Cond.steady])) hini)
  obtain ⟨hx, hb, hml, ho, -⟩ := S
  intro T hT X
  obtain ⟨v, vm₁, ⟨U', l2, c2, s2⟩, hW₁, X', ⟨g', mk, t, L, e1, e2, hq, h1, hL, h2, h3⟩, st⟩ := vx_callSW X hx (hh := hh) (bytes := bytes) (maxL := maxL) (ret := ret) ho hl hstt hini hcode hy hK hg (hsize.trans hml.symm) (argsL := As) (rest := rest) (fun sig h => hn.trans (hlen sig h)) hstack hW (by rw [hb]; exact hdg)
    (fun vm₁ hW₁ => ⟨hf.1, hf.2, hp.2 (T.setVm vm₁) hT hW₁⟩)
  dsimp only [Pt.U, Pt.locs, Pt.cells, Pt.slots] at X' e1 e2 h1 h2 h3 st
  subst h1; subst h2; subst h3
  exact ⟨v, (T.setVm vm₁).calling g' mk As.toArray, t, U', L, hT, X', hL, e1, e2, hq, st⟩
/-- not caught here, past rows that name other classes: it goes on to the caller -/
theorem vx_outP {p : Program} {l : Launch} {e : Env} {R : Room} {s : State} {m : MethodId} {args : Array Value} {below : List Frame} {meth : Method} {c : Code} {H : Heap} {locs : List Loc} {cells slots : Nat} {free : Addr → Prop} {ls : Array Slot} {rest : List Value} {Qc : Array Value → State → Outcome → State → Prop} {XC : String → State → State → Prop}
    {pc : Nat} {own E : String} {ce : Cell} {q : Addr} {mc ms : Nat} (hown : s.vm.findClass own = some m.cls) (hlocks : meth.locks = false)
    (hpass : ∀ z ∈ c.exceptionTable.toList, covers z pc = false ∨ (z.catchType ≠ 0 ∧ ∃ nm : String, (Cond.classLink own z.catchType nm).before args s = true ∧ va_Nc E nm s)) (hcell : H[q]? = some ce) (hv : ce.vm = .none) (hcl : s.vm.findClass E = some ce.cls)
    (hx : ∀ t : State, t.heap = H → s.vm.Alike t.vm → XC E s t) (hf : ∀ z ∈ locs, free z.base) (hc : cells ≤ mc) (hs : slots ≤ ms) :
    vx_W p l e R s m args below meth c H locs cells slots (vx_MQ below Qc XC args s mc ms free) (F0 m pc ls rest) q := by
  intro T hT X
  have hpl : e.platform.magicAccessors = ({} : Platform).magicAccessors := by rw [X.admits.platform]
  obtain ⟨vm', hW', X', st⟩ := X.outThrough hlocks q (g := F0 m pc ls rest) rfl rfl rfl (cell := ce) (by rw [hT]; exact hcell) (by rw [hv]; rfl)
    (by obtain ⟨k9, h9, -⟩ := Vm.findClass_spec hcl; exact ⟨k9, h9⟩) (fun z hz => by
      rcases hpass z hz with h | ⟨hz0, nm, hl1, hn1⟩
      · exact Or.inl h
      · obtain ⟨c6, hc6, hcl6⟩ := Cond.classLink_spec hown hl1 e.platform hpl
        obtain ⟨a8, b8, h1, h2, h3⟩ := hn1
        cases Option.some.inj (h1.symm.trans hcl)
        cases Option.some.inj (h2.symm.trans hc6)
        exact Or.inr ⟨hz0, _, hcl6, h3⟩)
  obtain ⟨g₀, hfr⟩ := X'.frames_eq
  have hcell9 : ((T.setVm vm').setFrames (.throwing q :: below)).heap[q]? = some ce := by
    show T.heap[q]? = some ce
    rw [hT]; exact hcell
  have hend : Ended ((T.setVm vm').setFrames (.throwing q :: below)) below (.threw q) := State.frames_setFrames _ (State.cur_lt_of_frames hfr)
  refine ⟨(T.setVm vm').setFrames (.throwing q :: below), ?_, .threw q, X'.here.running, hend, Or.inr ⟨q, rfl, E, ce, locs, hx _ hT (X'.ends _).1.alike, hcell9, hv, hcl, (X'.ends _).1, (X'.ends _).2.mono hc hs, hf⟩⟩
  rw [X.pushThrowing_eq]
  exact st
/-- a thing of a world lies in the heap -/
theorem vx_lt {D : va_G} {cl : List vw_C} {ws : va_W} {H1 : Heap} (h : va_P D cl ws H1) {k : Nat} {q : Nat × va_E} (hk : ws[k]? = some q) : q.1 < H1.size := (h k q hk).lt
end VXS
/-! ===== END ===== -/
/-! ===== BEGIN methods with a table of their own: called by a name, returning or throwing ===== -/
section VXH
/-! vx_backW, vx_callVX, vx_callSX, vx_callVW, vx_runVW, vx_runVX, vx_runSX, vx_ofWH follow the same proofs as their sisters above (Free/Laws.lean, Shelf42/LK1.lean); vx_outP calls Shelf42/NT130.lean (outThrough). -/
section
variable {l : Launch} {R : Room} {p : Program} {e : Env} {below : List Frame} {s : State} {sargs : Array Value} {y : MethodName} {len W9 : Nat}
theorem vx_backW {ws : List Cond} {rm : Room} {Pc : Array Value → State → Prop} {Qc : Array Value → State → Outcome → State → Prop} {XC : String → State → State → Prop} {mc ms : Nat} {free : Addr → Prop} {bytes : ByteArray} {maxL : Nat} {ret : Option FieldType} {hh : List (Nat × Nat × Nat × Nat)}
    (hM : vx_Met l y ws rm Pc Qc XC mc ms free) (hblind : FrameBlind Pc) (hrc : rm.cells = mc) (hrs : rm.slots = ms)
    (hframes : rm.frames + 1 ≤ R.frames) (hlocals : W9 + (maxL + 11) + rm.locals ≤ R.locals)
    (hws : ∀ w ∈ ws, ∀ a' U, s.WarmedH U.vm → w.before a' U = true) (hcode : Cond.codeWith y bytes maxL ret hh ∈ ws) (hinit : ∀ a' U, s.WarmedH U.vm → (Cond.initialized y.cls).before a' U = true) :
    vx_Back l R p e below s sargs y len W9 (PreOf R mc ms Pc) (PostOf Qc mc ms free) (vx_Post XC mc ms free) := by
  intro m meth c A g ig mk a X hg hsize hdg hW hn hp
  have h1 : (headSpec ws rm).pre.before a A.U = true := atoms_intro fun w hw => hws w hw _ _ X.warmed
  have h2 : (Cond.codeWith y bytes maxL ret hh).before a A.U = true := hws _ hcode _ _ X.warmed
  have h3 : (Cond.initialized y.cls).before a A.U = true := hinit _ _ X.warmed
  have h4 : A.cells + (headSpec ws rm).room.cells ≤ R.cells := by rw [show (headSpec ws rm).room.cells = mc from hrc]; exact hp.1
  have h5 : A.slots + (headSpec ws rm).room.slots ≤ R.slots := by rw [show (headSpec ws rm).room.slots = ms from hrs]; exact hp.2.1
  have hPc : Pc a (A.U.calling g mk a) := hblind _ _ _ _ hp.2.2
  obtain ⟨U, Ls, c0, s0⟩ := A
  dsimp only [Pt.U, Pt.locs, Pt.cells, Pt.slots] at h1 h2 h3 h4 h5 X hn hPc ⊢
  obtain ⟨m9, methY, cY, hn9, hmY, hcY, -, hlY, -⟩ := Cond.codeWith_spec h2
  cases Option.some.inj (hn9.symm.trans hn)
  obtain ⟨kY, hkY, -⟩ := className_of_methodNamed hn
  have hinitY : kY.init = .initialized := Cond.initialized_spec (findClass_of_methodNamed hn) hkY h3
  have h : At U g.method c below := by rw [hg]; exact X.here
  have hlocals9 : W9 + (maxL + 11) + (headSpec ws rm).room.locals ≤ R.locals := hlocals
  have happ : (headSpec ws rm).appliesLoose y e.platform (U.calling g mk a) = true :=
    Spec.appliesLoose_calling (g := g) h hdg hn hkY hinitY
      (X.room_calling (g := g) (R' := (headSpec ws rm).room) hsize hmY hcY hframes (by rw [hlY]; omega) h4 h5) h1
  obtain ⟨mid, hmid⟩ := h.above
  have hfr : (U.setTop g).frames = (.java g :: mid) ++ below := by rw [State.frames_setTop' g h.top, hmid]; rfl
  obtain ⟨o, s₂, hsteps, -, hend, hq⟩ := Steps.callFree hM p X.admits X.cas X.clock (acts := []) hfr happ hPc trivial
  have hq' : vx_Q Qc XC mc ms free a (U.calling g mk a) o s₂ := hq
  rw [State.frames_setTop' g h.top] at hend
  obtain ⟨g₀, hg0⟩ := Option.isSome_iff_exists.mp h.top
  obtain ⟨r, hr⟩ := State.topJava?_eq_some.mp hg0
  have hr' : (({ U with heap := s₂.heap, slotsUsed := s₂.slotsUsed } : State).setVm s₂.vm).frames = .java g₀ :: r := hr
  rcases hq' with ⟨hqc, L, hfe, hL⟩ | ⟨q, rfl, E, ce, L, hx, hce, hcv, hcl, hW₂, hsm, hL⟩
  · obtain ⟨⟨v, rfl⟩, hW₂, e2, q2, q3, q4, q5, q6⟩ := id hfe
    have e3 : s₂ = ({ (U.calling g mk a).setFrames s₂.frames with heap := s₂.heap, slotsUsed := s₂.slotsUsed } : State).setVm s₂.vm := by
      have : s₂ = ({ s₂ with vm := (U.calling g mk a).vm } : State).setVm s₂.vm := rfl
      rw [e2] at this
      exact this
    obtain ⟨c₂, i₂, len₂, hc₂, hd₂, hf₂⟩ := hend
    have hW' : U.WarmedH s₂.vm := hW₂
    have hcc : c₂ = c := by
      have h1 : s₂.code? g.method = U.code? g.method := by
        rw [State.code?_eq, State.code?_eq, hW'.alike.method?]
      exact Option.some.inj (hc₂.symm.trans (h1.trans h.code))
    subst hcc
    have hlen : len₂ = len := by rw [hdg] at hd₂; cases hd₂; rfl
    subst hlen
    have hs₂ : s₂ = (({ U with heap := s₂.heap, slotsUsed := s₂.slotsUsed } : State).setVm s₂.vm).setTop { g with pc := g.pc + len₂, stack := v.toList ++ g.stack } := by
      refine e3.trans ?_
      rw [hf₂, State.calling_eq h.top, State.setFrames_setFrames, State.setTop_of_frames _ hr', hr]
      rfl
    have hsame : U.sameButNew ({ U with heap := s₂.heap, slotsUsed := s₂.slotsUsed } : State) L mc ms := by
      refine ⟨?_, q2, q3, q4, q5, q6⟩
      obtain ⟨t, ht, -⟩ := State.frames_cons hr
      show ({ U with heap := s₂.heap, slotsUsed := s₂.slotsUsed } : State) = { U.setFrames U.frames with heap := s₂.heap, slotsUsed := s₂.slotsUsed }
      rw [State.setFrames_self ht]
    subst hg
    refine Or.inl ⟨v, ⟨(({ U with heap := s₂.heap, slotsUsed := s₂.slotsUsed } : State).setVm s₂.vm), Ls ++ L, c0 + mc, s0 + ms⟩,
      ⟨X.admits, X.cas, X.clock, X.frames, X.room, X.hears, X.method, X.code, (X.here.setHeapUsed s₂.heap s₂.slotsUsed).setVm hW'.alike, X.tail, State.WarmedH.trans X.warmed hW', X.limits, X.bytes, X.same.trans (hsame.setVm s.vm)⟩,
      ⟨g, mk, s₂, L, rfl, rfl, hqc, rfl, hL, rfl, rfl⟩, ?_⟩
    show Steps p.tables e below _ ((({ U with heap := s₂.heap, slotsUsed := s₂.slotsUsed } : State).setVm s₂.vm).setTop { g with pc := g.pc + len₂, stack := v.toList ++ g.stack })
    rw [← hs₂]
    exact hsteps
  · obtain ⟨e2, q2, q3, q4, q5, q6⟩ := id hsm
    have e3 : s₂ = ({ (U.calling g mk a).setFrames s₂.frames with heap := s₂.heap, slotsUsed := s₂.slotsUsed } : State).setVm s₂.vm := by
      have : s₂ = ({ s₂ with vm := (U.calling g mk a).vm } : State).setVm s₂.vm := rfl
      rw [e2] at this
      exact this
    have hf₂ : s₂.frames = .throwing q :: .java g :: U.frames.tail := hend
    have hW' : U.WarmedH s₂.vm := hW₂
    have hs₂ : s₂ = ((({ U with heap := s₂.heap, slotsUsed := s₂.slotsUsed } : State).setVm s₂.vm).setTop g).pushFrame (.throwing q) := by
      refine e3.trans ?_
      rw [hf₂, State.calling_eq h.top, State.setFrames_setFrames, State.pushFrame, State.frames_setTop _ hr', State.setTop_of_frames _ hr', State.setFrames_setFrames, hr]
      rfl
    have hsame : U.sameButNew ({ U with heap := s₂.heap, slotsUsed := s₂.slotsUsed } : State) L mc ms := by
      refine ⟨?_, q2, q3, q4, q5, q6⟩
      obtain ⟨t, ht, -⟩ := State.frames_cons hr
      show ({ U with heap := s₂.heap, slotsUsed := s₂.slotsUsed } : State) = { U.setFrames U.frames with heap := s₂.heap, slotsUsed := s₂.slotsUsed }
      rw [State.setFrames_self ht]
    subst hg
    refine Or.inr ⟨q, ⟨(({ U with heap := s₂.heap, slotsUsed := s₂.slotsUsed } : State).setVm s₂.vm), Ls ++ L, c0 + mc, s0 + ms⟩,
      ⟨X.admits, X.cas, X.clock, X.frames, X.room, X.hears, X.method, X.code, (X.here.setHeapUsed s₂.heap s₂.slotsUsed).setVm hW'.alike, X.tail, State.WarmedH.trans X.warmed hW', X.limits, X.bytes, X.same.trans (hsame.setVm s.vm)⟩,
      ⟨g, mk, s₂, L, E, ce, rfl, rfl, hx, hce, hcv, hcl, rfl, hL, rfl, rfl⟩, ?_⟩
    show Steps p.tables e below _ (((({ U with heap := s₂.heap, slotsUsed := s₂.slotsUsed } : State).setVm s₂.vm).setTop g).pushFrame (.throwing q))
    rw [← hs₂]
    exact hsteps
end
variable {p : Program} {l : Launch} {e : Env} {R : Room} {s : State} {m : MethodId} {args : Array Value} {below : List Frame} {meth : Method} {c : Code} {T : State} {H : Heap} {locs : List Loc} {cells slots : Nat}
theorem vx_callVX (X : Stand p l e R s m args below meth c T locs cells slots) (hexec : p.tables.exec = Jvm.exec) {own C : String} {index : Nat} {y : MethodName} {bytes : ByteArray} {maxL : Nat} {ret : Option FieldType} {hh : List (Nat × Nat × Nat × Nat)}
    (hown : s.vm.findClass own = some m.cls) (hlink : (Cond.methodLink own index y).before args s = true) (hinst : (Cond.instanceMethod y).before args s = true) (hsel : (Cond.selects C y y).before args s = true)
    (hcode : (Cond.codeWith y bytes maxL ret hh).before args s = true) (hy : y.cls ≠ "java/lang/invoke/MethodHandle" ∧ y.cls ≠ "java/lang/invoke/VarHandle")
    {W9 : Nat} {Pre : Pt → Array Value → Prop} {Post : Pt → Array Value → Option Value → Pt → Prop} {PostX : Pt → Array Value → Addr → Pt → Prop} (hK : vx_Back l R p e below s args y 3 W9 Pre Post PostX)
    {b : Addr} {cellB : Cell} (hcell : T.heap[b]? = some cellB) (hobj : cellB.vm.isStatics = false) (hcls : s.vm.findClass C = some cellB.cls)
    {g : JFrame} (hg : g.method = m) (hsize : g.locals.size = c.maxLocals) {argsL rest : List Value} (hlen : ∀ sig, parseMethodDescriptor y.desc = some sig → argsL.length = sig.parameters.length)
    (hstack : g.stack = argsL.reverse ++ .ref b :: rest) (hW : 2 * g.monitorRoom + (rest.map fun v => v.category).sum ≤ W9) (hdg : decode c.code g.pc = .ok (.invokevirtual index, 3))
    (hpre : ∀ vm₁, s.WarmedH vm₁ → Pre ⟨T.setVm vm₁, locs, cells, slots⟩ (Value.ref b :: argsL).toArray) :
    (∃ (v : Option Value) (vm₁ : Vm) (B : Pt), s.WarmedH vm₁ ∧ Stand p l e R s m args below meth c B.U B.locs B.cells B.slots ∧ Post ⟨T.setVm vm₁, locs, cells, slots⟩ (Value.ref b :: argsL).toArray v B ∧
      ∀ target, Steps p.tables e below (B.U.setTop { g with pc := g.pc + 3, stack := v.toList ++ rest }) target → Steps p.tables e below (T.setTop g) target) ∨
    (∃ (q : Addr) (vm₁ : Vm) (B : Pt), s.WarmedH vm₁ ∧ Stand p l e R s m args below meth c B.U B.locs B.cells B.slots ∧ PostX ⟨T.setVm vm₁, locs, cells, slots⟩ (Value.ref b :: argsL).toArray q B ∧
      Steps p.tables e below (T.setTop g) ((B.U.setTop { g with stack := rest }).pushFrame (.throwing q))) := by
  obtain ⟨mk, methM, hnamed, hmethM, hstM, habM⟩ := Cond.instanceMethod_spec hinst
  obtain ⟨m8, methM', cM, hn8, hmethM', -, -, -, -, -, -, hsigM⟩ := Cond.codeWith_spec hcode
  cases Option.some.inj (hn8.symm.trans hnamed)
  cases hmethM.symm.trans hmethM'
  obtain ⟨c2, r2, m2, q1, q2, q3, q4, kP, hkP, hkPi⟩ := Cond.selects_spec hsel
  cases hcls.symm.trans q1
  cases (State.methodFound?_of_named hnamed hy).symm.trans q2
  cases hnamed.symm.trans q3
  have hselP : selectMethod e.platform s.vm cellB.cls mk = .method mk := by rw [Launch.admits_selectMethod X.admits]; exact q4
  obtain ⟨vm₁, X₁, hstep₁⟩ := X.invokevirtual hexec hown hlink hnamed hmethM hstM hkP hkPi hy (a := b) (cell := cellB) hcell
    (fun z h => by rw [h] at hobj; cases hobj) hselP hmethM habM hkP hkPi (g := g) hg (argsL := argsL) (rest := rest) (hlen _ hsigM) hstack hdg
  rcases hK m meth c ⟨T.setVm vm₁, locs, cells, slots⟩ { g with stack := rest } (.invokevirtual index) mk (Value.ref b :: argsL).toArray X₁ hg hsize hdg hW (X₁.named hnamed) (hpre vm₁ X₁.warmed) with ⟨v, B, X', hpost, hsteps⟩ | ⟨q, B, X', hpost, hsteps⟩
  · exact Or.inl ⟨v, vm₁, B, X₁.warmed, X', hpost, fun target h => hstep₁ _ fun acts => by rw [doInvoke_state]; exact hsteps.trans h⟩
  · exact Or.inr ⟨q, vm₁, B, X₁.warmed, X', hpost, hstep₁ _ fun acts => by rw [doInvoke_state]; exact hsteps⟩
theorem vx_callSX (X : Stand p l e R s m args below meth c T locs cells slots) (hexec : p.tables.exec = Jvm.exec) {own : String} {index : Nat} {y : MethodName} {bytes : ByteArray} {maxL : Nat} {ret : Option FieldType} {hh : List (Nat × Nat × Nat × Nat)}
    (hown : s.vm.findClass own = some m.cls) (hlink : (Cond.methodLink own index y).before args s = true) (hstat : (Cond.static y).before args s = true) (hinit : (Cond.initialized y.cls).before args s = true)
    (hcode : (Cond.codeWith y bytes maxL ret hh).before args s = true) (hy : y.cls ≠ "java/lang/invoke/MethodHandle" ∧ y.cls ≠ "java/lang/invoke/VarHandle")
    {W9 : Nat} {Pre : Pt → Array Value → Prop} {Post : Pt → Array Value → Option Value → Pt → Prop} {PostX : Pt → Array Value → Addr → Pt → Prop} (hK : vx_Back l R p e below s args y 3 W9 Pre Post PostX)
    {g : JFrame} (hg : g.method = m) (hsize : g.locals.size = c.maxLocals) {argsL rest : List Value} (hlen : ∀ sig, parseMethodDescriptor y.desc = some sig → argsL.length = sig.parameters.length)
    (hstack : g.stack = argsL.reverse ++ rest) (hW : 2 * g.monitorRoom + (rest.map fun v => v.category).sum ≤ W9) (hdg : decode c.code g.pc = .ok (.invokestatic index, 3))
    (hpre : ∀ vm₁, s.WarmedH vm₁ → Pre ⟨T.setVm vm₁, locs, cells, slots⟩ argsL.toArray) :
    (∃ (v : Option Value) (vm₁ : Vm) (B : Pt), s.WarmedH vm₁ ∧ Stand p l e R s m args below meth c B.U B.locs B.cells B.slots ∧ Post ⟨T.setVm vm₁, locs, cells, slots⟩ argsL.toArray v B ∧
      ∀ target, Steps p.tables e below (B.U.setTop { g with pc := g.pc + 3, stack := v.toList ++ rest }) target → Steps p.tables e below (T.setTop g) target) ∨
    (∃ (q : Addr) (vm₁ : Vm) (B : Pt), s.WarmedH vm₁ ∧ Stand p l e R s m args below meth c B.U B.locs B.cells B.slots ∧ PostX ⟨T.setVm vm₁, locs, cells, slots⟩ argsL.toArray q B ∧
      Steps p.tables e below (T.setTop g) ((B.U.setTop { g with stack := rest }).pushFrame (.throwing q))) := by
  obtain ⟨mk, methM, cM, hnamed, hmethM, -, -, -, -, -, -, hsigM⟩ := Cond.codeWith_spec hcode
  have hstatic : methM.isStatic = true := Cond.static_spec hnamed hmethM hstat
  obtain ⟨kP, hkP, -⟩ := className_of_methodNamed hnamed
  have hinitP : kP.init = .initialized := Cond.initialized_spec (findClass_of_methodNamed hnamed) hkP hinit
  obtain ⟨vm₁, X₁, hstep₁⟩ := X.invokestatic hexec hown hlink hnamed hmethM hstatic hkP hinitP hy (g := g) hg (argsL := argsL) (rest := rest) (hlen _ hsigM) hstack hdg
  rcases hK m meth c ⟨T.setVm vm₁, locs, cells, slots⟩ { g with stack := rest } (.invokestatic index) mk argsL.toArray X₁ hg hsize hdg hW (X₁.named hnamed) (hpre vm₁ X₁.warmed) with ⟨v, B, X', hpost, hsteps⟩ | ⟨q, B, X', hpost, hsteps⟩
  · exact Or.inl ⟨v, vm₁, B, X₁.warmed, X', hpost, fun target h => hstep₁ _ fun acts => by rw [doInvoke_state]; exact hsteps.trans h⟩
  · exact Or.inr ⟨q, vm₁, B, X₁.warmed, X', hpost, hstep₁ _ fun acts => by rw [doInvoke_state]; exact hsteps⟩
theorem vx_callVW (X : Stand p l e R s m args below meth c T locs cells slots) (hexec : p.tables.exec = Jvm.exec) {own C : String} {index : Nat} {y : MethodName} {bytes : ByteArray} {maxL : Nat} {ret : Option FieldType} {hh : List (Nat × Nat × Nat × Nat)}
    (hown : s.vm.findClass own = some m.cls) (hlink : (Cond.methodLink own index y).before args s = true) (hinst : (Cond.instanceMethod y).before args s = true) (hsel : (Cond.selects C y y).before args s = true)
    (hcode : (Cond.codeWith y bytes maxL ret hh).before args s = true) (hy : y.cls ≠ "java/lang/invoke/MethodHandle" ∧ y.cls ≠ "java/lang/invoke/VarHandle")
    {W9 : Nat} {Pre : Pt → Array Value → Prop} {Post : Pt → Array Value → Option Value → Pt → Prop} (hK : Back l R p e below s args y 3 W9 Pre Post)
    {b : Addr} {cellB : Cell} (hcell : T.heap[b]? = some cellB) (hobj : cellB.vm.isStatics = false) (hcls : s.vm.findClass C = some cellB.cls)
    {g : JFrame} (hg : g.method = m) (hsize : g.locals.size = c.maxLocals) {argsL rest : List Value} (hlen : ∀ sig, parseMethodDescriptor y.desc = some sig → argsL.length = sig.parameters.length)
    (hstack : g.stack = argsL.reverse ++ .ref b :: rest) (hW : 2 * g.monitorRoom + (rest.map fun v => v.category).sum ≤ W9) (hdg : decode c.code g.pc = .ok (.invokevirtual index, 3))
    (hpre : ∀ vm₁, s.WarmedH vm₁ → Pre ⟨T.setVm vm₁, locs, cells, slots⟩ (Value.ref b :: argsL).toArray) :
    ∃ (v : Option Value) (vm₁ : Vm) (B : Pt), s.WarmedH vm₁ ∧ Stand p l e R s m args below meth c B.U B.locs B.cells B.slots ∧ Post ⟨T.setVm vm₁, locs, cells, slots⟩ (Value.ref b :: argsL).toArray v B ∧
      ∀ target, Steps p.tables e below (B.U.setTop { g with pc := g.pc + 3, stack := v.toList ++ rest }) target → Steps p.tables e below (T.setTop g) target := by
  obtain ⟨mk, methM, hnamed, hmethM, hstM, habM⟩ := Cond.instanceMethod_spec hinst
  obtain ⟨m8, methM', cM, hn8, hmethM', -, -, -, -, -, -, hsigM⟩ := Cond.codeWith_spec hcode
  cases Option.some.inj (hn8.symm.trans hnamed)
  cases hmethM.symm.trans hmethM'
  obtain ⟨c2, r2, m2, q1, q2, q3, q4, kP, hkP, hkPi⟩ := Cond.selects_spec hsel
  cases hcls.symm.trans q1
  cases (State.methodFound?_of_named hnamed hy).symm.trans q2
  cases hnamed.symm.trans q3
  have hselP : selectMethod e.platform s.vm cellB.cls mk = .method mk := by rw [Launch.admits_selectMethod X.admits]; exact q4
  obtain ⟨vm₁, X₁, hstep₁⟩ := X.invokevirtual hexec hown hlink hnamed hmethM hstM hkP hkPi hy (a := b) (cell := cellB) hcell
    (fun z h => by rw [h] at hobj; cases hobj) hselP hmethM habM hkP hkPi (g := g) hg (argsL := argsL) (rest := rest) (hlen _ hsigM) hstack hdg
  obtain ⟨v, B, X', hpost, hsteps⟩ := hK m meth c ⟨T.setVm vm₁, locs, cells, slots⟩ { g with stack := rest } (.invokevirtual index) mk (Value.ref b :: argsL).toArray X₁ hg hsize hdg hW (X₁.named hnamed) (hpre vm₁ X₁.warmed)
  exact ⟨v, vm₁, B, X₁.warmed, X', hpost, fun target h => hstep₁ _ fun acts => by rw [doInvoke_state]; exact hsteps.trans h⟩
abbrev vx_CVW (R : Room) (s : State) (args : Array Value) (own C : String) (index : Nat) (y : MethodName) (bytes : ByteArray) (maxL : Nat) (ret : Option FieldType) (hh : List (Nat × Nat × Nat × Nat)) (ws : List Cond) (rm : Room) (mc ms n : Nat) : Prop :=
  (rm.cells = mc ∧ rm.slots = ms ∧ rm.frames + 1 ≤ R.frames ∧ 8 + (maxL + 11) + rm.locals ≤ R.locals ∧ (∀ w ∈ ws, ∀ (a' : Array Value) (U : State), s.WarmedH U.vm → w.before a' U = true) ∧ Cond.codeWith y bytes maxL ret hh ∈ ws) ∧
  (Cond.codeWith y bytes maxL ret hh).before args s = true ∧ (Cond.initialized y.cls).before args s = true ∧ (y.cls ≠ "java/lang/invoke/MethodHandle" ∧ y.cls ≠ "java/lang/invoke/VarHandle") ∧
  (∀ sig, parseMethodDescriptor y.desc = some sig → n = sig.parameters.length) ∧ (Cond.methodLink own index y).before args s = true ∧ (Cond.instanceMethod y).before args s = true ∧ (Cond.selects C y y).before args s = true
theorem vx_cwVW {own C : String} {index maxL mc ms : Nat} {y : MethodName} {bytes : ByteArray} {ret : Option FieldType} {hh : List (Nat × Nat × Nat × Nat)} {Ts ws ws' : List Cond} {rm : Room} (n : Nat) (ht : ∀ w ∈ Ts, w.before args s = true) (hT : GoodIn Ts (wsV own index C y ws)) (hw : ws = Cond.codeWith y bytes maxL ret hh :: ws') (hrc : rm.cells = mc) (hrs : rm.slots = ms)
    (hd : y.cls = C ∧ y.cls ≠ "java/lang/invoke/MethodHandle" ∧ y.cls ≠ "java/lang/invoke/VarHandle" ∧ (parseMethodDescriptor y.desc).map (fun d => d.parameters.length) = some n) (hR : rm.frames + 1 ≤ R.frames ∧ 8 + (maxL + 11) + rm.locals ≤ R.locals) :
    vx_CVW R s args own C index y bytes maxL ret hh ws rm mc ms n := by
  obtain ⟨hC, hd⟩ := hd
  subst hC
  have ok : ∀ w ∈ wsV own index y.cls y ws, w.before args s = true := fun w h => ht w (hT w h).1
  have hG : GoodIn Ts ws := fun w h => hT w (by unfold wsV; exact List.mem_append_right _ h)
  have hc : Cond.codeWith y bytes maxL ret hh ∈ ws := by rw [hw]; exact List.mem_cons_self
  refine ⟨⟨hrc, hrs, hR.1, hR.2, pay_in ht hG, hc⟩, ht _ (hG _ hc).1, ok _ (by simp [wsV]), ⟨hd.1, hd.2.1⟩, fun sig h => ?_, ok _ (by simp [wsV]), ok _ (by simp [wsV]), ok _ (by simp [wsV])⟩
  have h2 := hd.2.2
  rw [h] at h2
  exact (Option.some.inj h2).symm
theorem vx_runVW {y : MethodName} {bytes cc : ByteArray} {maxL nL mc ms n index : Nat} {ret : Option FieldType} {hh : List (Nat × Nat × Nat × Nat)} {ws : List Cond} {rm : Room} {Pc : Array Value → State → Prop} {Qc : Array Value → State → Outcome → State → Prop} {free : Addr → Prop} {Ts : List Cond} {own C : String} {b : Addr} {As rest : List Value} {g : JFrame}
    (S : CallFix p m c cc nL s args Ts own) (hM : Met l y ws rm Pc Qc mc ms free) (cw : vx_CVW R s args own C index y bytes maxL ret hh ws rm mc ms n) (hp : PreV s H C b Pc As)
    (hg : g.method = m) (hn : As.length = n) (hsize : g.locals.size = nL) (hstack : g.stack = As.reverse ++ .ref b :: rest) (hW : 2 * g.monitorRoom + (rest.map fun v => v.category).sum ≤ 8) (hdg : decode cc g.pc = .ok (.invokevirtual index, 3)) (hf : cells + mc ≤ R.cells ∧ slots + ms ≤ R.slots) :
    va_Run p l e R s m args below meth c H locs cells slots mc ms g rest (Qc (Value.ref b :: As).toArray) free := by
  obtain ⟨⟨hrc, hrs, hfr, hlo, hws, hcw⟩, hcode, hini, hy, hlen, hl, hin, hse⟩ := cw
  have hK : Back l R p e below s args y 3 8 (PreOf R mc ms Pc) (PostOf Qc mc ms free) := va_backW (hh := hh) (bytes := bytes) (maxL := maxL) (ret := ret) hM hp.1 hrc hrs hfr hlo hws hcw (fun a' U hW => word_at hW (Or.inl (by first | rfl | simp [Cond.onTables, Cond.keeps, Cond.steady])) hini)
  obtain ⟨hx, hb, hml, ho, -⟩ := S
  obtain ⟨-, ⟨cellB, hcB, hoB, hclB⟩, hPc⟩ := hp
  intro T hT X
  obtain ⟨v, vm₁, ⟨U', l2, c2, s2⟩, hW₁, X', ⟨g', mk, t, L, e1, e2, hq, h1, hL, h2, h3⟩, st⟩ := vx_callVW X hx (C := C) (hh := hh) (bytes := bytes) (maxL := maxL) (ret := ret) ho hl hin hse hcode hy hK (by rw [hT]; exact hcB) hoB hclB hg (hsize.trans hml.symm) (argsL := As) (rest := rest) (fun sig h => hn.trans (hlen sig h)) hstack hW (by rw [hb]; exact hdg)
    (fun vm₁ hW₁ => ⟨hf.1, hf.2, hPc (T.setVm vm₁) hT hW₁⟩)
  dsimp only [Pt.U, Pt.locs, Pt.cells, Pt.slots] at X' e1 e2 h1 h2 h3 st
  subst h1; subst h2; subst h3
  exact ⟨v, (T.setVm vm₁).calling g' mk (Value.ref b :: As).toArray, t, U', L, hT, X', hL, e1, e2, hq, st⟩
section
variable {y : MethodName} {bytes cc : ByteArray} {maxL nL mc ms n index : Nat} {ret : Option FieldType} {ws : List Cond} {rm : Room} {Pc : Array Value → State → Prop} {Qc : Array Value → State → Outcome → State → Prop} {XC : String → State → State → Prop} {free : Addr → Prop} {Ts : List Cond} {own C : String} {b : Addr} {As rest : List Value} {g : JFrame}
theorem vx_runVX {hh : List (Nat × Nat × Nat × Nat)} (S : CallFix p m c cc nL s args Ts own) (hM : vx_Met l y ws rm Pc Qc XC mc ms free) (cw : vx_CVW R s args own C index y bytes maxL ret hh ws rm mc ms n) (hp : PreV s H C b Pc As)
    (hg : g.method = m) (hn : As.length = n) (hsize : g.locals.size = nL) (hstack : g.stack = As.reverse ++ .ref b :: rest) (hW : 2 * g.monitorRoom + (rest.map fun v => v.category).sum ≤ 8) (hdg : decode cc g.pc = .ok (.invokevirtual index, 3)) (hf : cells + mc ≤ R.cells ∧ slots + ms ≤ R.slots) :
    vx_Run p l e R s m args below meth c H locs cells slots mc ms g rest (Qc (Value.ref b :: As).toArray) XC free := by
  obtain ⟨⟨hrc, hrs, hfr, hlo, hws, hcw⟩, hcode, hini, hy, hlen, hl, hin, hse⟩ := cw
  have hK : vx_Back l R p e below s args y 3 8 (PreOf R mc ms Pc) (PostOf Qc mc ms free) (vx_Post XC mc ms free) := vx_backW (hh := hh) (bytes := bytes) (maxL := maxL) (ret := ret) hM hp.1 hrc hrs hfr hlo hws hcw (fun a' U hW => word_at hW (Or.inl (by first | rfl | simp [Cond.onTables, Cond.keeps, Cond.steady])) hini)
  obtain ⟨hx, hb, hml, ho, -⟩ := S
  obtain ⟨-, ⟨cellB, hcB, hoB, hclB⟩, hPc⟩ := hp
  intro T hT X
  rcases vx_callVX X hx (C := C) (hh := hh) (bytes := bytes) (maxL := maxL) (ret := ret) ho hl hin hse hcode hy hK (by rw [hT]; exact hcB) hoB hclB hg (hsize.trans hml.symm) (argsL := As) (rest := rest) (fun sig h => hn.trans (hlen sig h)) hstack hW (by rw [hb]; exact hdg)
    (fun vm₁ hW₁ => ⟨hf.1, hf.2, hPc (T.setVm vm₁) hT hW₁⟩) with ⟨v, vm₁, ⟨U', l2, c2, s2⟩, hW₁, X', ⟨g', mk, t, L, e1, e2, hq, h1, hL, h2, h3⟩, st⟩ | ⟨q, vm₁, ⟨U', l2, c2, s2⟩, hW₁, X', ⟨g', mk, t, L, E, ce, e1, e2, hq, hce, hcv, hcl, h1, hL, h2, h3⟩, st⟩
  · dsimp only [Pt.U, Pt.locs, Pt.cells, Pt.slots] at X' e1 e2 h1 h2 h3 st
    subst h1; subst h2; subst h3
    exact Or.inl ⟨v, (T.setVm vm₁).calling g' mk (Value.ref b :: As).toArray, t, U', L, hT, X', hL, e1, e2, hq, st⟩
  · dsimp only [Pt.U, Pt.locs, Pt.cells, Pt.slots] at X' e1 e2 h1 h2 h3 st hcl
    subst h1; subst h2; subst h3
    exact Or.inr ⟨q, (T.setVm vm₁).calling g' mk (Value.ref b :: As).toArray, t, U', L, E, ce, hT, X', hL, e1, e2, hq, hce, hcv, vx_cls hW₁ hcl, st⟩
theorem vx_runSX {hh : List (Nat × Nat × Nat × Nat)} (S : CallFix p m c cc nL s args Ts own) (hM : vx_Met l y ws rm Pc Qc XC mc ms free) (cw : vx_CSW R s args own index y bytes maxL ret hh ws rm mc ms n) (hp : PreS s H Pc As)
    (hg : g.method = m) (hn : As.length = n) (hsize : g.locals.size = nL) (hstack : g.stack = As.reverse ++ rest) (hW : 2 * g.monitorRoom + (rest.map fun v => v.category).sum ≤ 8) (hdg : decode cc g.pc = .ok (.invokestatic index, 3)) (hf : cells + mc ≤ R.cells ∧ slots + ms ≤ R.slots) :
    vx_Run p l e R s m args below meth c H locs cells slots mc ms g rest (Qc As.toArray) XC free := by
  obtain ⟨⟨hrc, hrs, hfr, hlo, hws, hcw⟩, hcode, hini, hy, hlen, hl, hstt⟩ := cw
  have hK : vx_Back l R p e below s args y 3 8 (PreOf R mc ms Pc) (PostOf Qc mc ms free) (vx_Post XC mc ms free) := vx_backW (hh := hh) (bytes := bytes) (maxL := maxL) (ret := ret) hM hp.1 hrc hrs hfr hlo hws hcw (fun a' U hW => word_at hW (Or.inl (by first | rfl | simp [Cond.onTables, Cond.keeps, Cond.steady])) hini)
  obtain ⟨hx, hb, hml, ho, -⟩ := S
  intro T hT X
  rcases vx_callSX X hx (hh := hh) (bytes := bytes) (maxL := maxL) (ret := ret) ho hl hstt hini hcode hy hK hg (hsize.trans hml.symm) (argsL := As) (rest := rest) (fun sig h => hn.trans (hlen sig h)) hstack hW (by rw [hb]; exact hdg)
    (fun vm₁ hW₁ => ⟨hf.1, hf.2, hp.2 (T.setVm vm₁) hT hW₁⟩) with ⟨v, vm₁, ⟨U', l2, c2, s2⟩, hW₁, X', ⟨g', mk, t, L, e1, e2, hq, h1, hL, h2, h3⟩, st⟩ | ⟨q, vm₁, ⟨U', l2, c2, s2⟩, hW₁, X', ⟨g', mk, t, L, E, ce, e1, e2, hq, hce, hcv, hcl, h1, hL, h2, h3⟩, st⟩
  · dsimp only [Pt.U, Pt.locs, Pt.cells, Pt.slots] at X' e1 e2 h1 h2 h3 st
    subst h1; subst h2; subst h3
    exact Or.inl ⟨v, (T.setVm vm₁).calling g' mk As.toArray, t, U', L, hT, X', hL, e1, e2, hq, st⟩
  · dsimp only [Pt.U, Pt.locs, Pt.cells, Pt.slots] at X' e1 e2 h1 h2 h3 st hcl
    subst h1; subst h2; subst h3
    exact Or.inr ⟨q, (T.setVm vm₁).calling g' mk As.toArray, t, U', L, E, ce, hT, X', hL, e1, e2, hq, hce, hcv, vx_cls hW₁ hcl, st⟩
end
end VXH
theorem vx_ofWH {l : Launch} {y : MethodName} {ws ws' : List Cond} {rm : Room} {Pc : Array Value → State → Prop} {Qc : Array Value → State → Outcome → State → Prop} {XC : String → State → State → Prop} {mc ms : Nat} {free : Addr → Prop} {cc : ByteArray} {maxL : Nat} {ret : Option FieldType} {hh : List (Nat × Nat × Nat × Nat)}
    (hy : plainName y.cls = true) (hw : ws = Cond.codeWith y cc maxL ret hh :: ws')
    (body : ∀ p e s m args below meth c s₁, BodyLoose p l y (headSpec ws rm) cc maxL ret e s m args below meth c s₁ → c.maxLocals = maxL → Pc args s →
      W p l e (headSpec ws rm).room s m args below meth c s.heap [] 0 0 (vx_MQ below Qc XC args s mc ms free) (entryFrame m args maxL)) : vx_Met l y ws rm Pc Qc XC mc ms free := by
  refine MetFree.of_bodyS (code := cc) (maxLocals := maxL) (ret := ret) hy ?_ ?_
  · intro args s m h hn
    obtain ⟨m9, meth, c, hn9, h1, h2, h3, h4, -, h5, h6, -⟩ := Cond.codeWith_spec (atoms_spec (ws := ws) h _ (by rw [hw]; exact List.mem_cons_self))
    cases hn.symm.trans hn9
    exact ⟨meth, c, h1, h2, h3, h4, h5, h6⟩
  · intro p e s m args below meth c s₁ B hml hP _
    have hh0 : s₁.heap = s.heap := by rw [B.state]; rfl
    obtain ⟨t, a1, o, b1, b2, b3⟩ := body p e s m args below meth c s₁ B hml hP s₁ hh0 (Stand.of_body B)
    exact ⟨t, o, a1, b1, b2, b3⟩
/-! ===== END ===== -/
end
section
/-! ===== BEGIN printed: names, fields, word lists, decode rows ===== -/
def RX0 : String := "SpotAccount"
def TX0 : u_T := fun k => match k with
  | 0 => ("SpotAccount", "breakCount", "I", false)
  | 1 => ("SpotAccount", "breakSeconds", "[I", true)
  | 2 => ("SpotAccount", "breakAired", "[Z", true)
  | 3 => ("SpotAccount", "ratings", "[I", true)
  | 4 => ("SpotAccount", "orderCount", "I", false)
  | 5 => ("SpotAccount", "orderAdvertiser", "[I", true)
  | 6 => ("SpotAccount", "orderCategory", "[I", true)
  | 7 => ("SpotAccount", "orderGroup", "[I", true)
  | 8 => ("SpotAccount", "orderSeconds", "[I", true)
  | 9 => ("SpotAccount", "orderPrice", "[I", true)
  | 10 => ("SpotAccount", "orderPromise", "[I", true)
  | 11 => ("SpotAccount", "orderFloor", "[I", true)
  | 12 => ("SpotAccount", "orderClosed", "[Z", true)
  | 13 => ("SpotAccount", "spotCount", "I", false)
  | 14 => ("SpotAccount", "spotOrder", "[I", true)
  | 15 => ("SpotAccount", "spotBreak", "[I", true)
  | 16 => ("SpotAccount", "spotState", "[I", true)
  | _ => ("SpotAccount", "spotFree", "[Z", true)
def tyX0 : Nat → FieldType := fun k => match k with
  | 0 => .int
  | 1 => .array .int
  | 2 => .array .boolean
  | 3 => .array .int
  | 4 => .int
  | 5 => .array .int
  | 6 => .array .int
  | 7 => .array .int
  | 8 => .array .int
  | 9 => .array .int
  | 10 => .array .int
  | 11 => .array .int
  | 12 => .array .boolean
  | 13 => .int
  | 14 => .array .int
  | 15 => .array .int
  | 16 => .array .int
  | _ => .array .boolean
abbrev wsX00 : List Cond := u_ws RX0 TX0 18
theorem nmX0 : ∀ a, a < 18 → ∀ b, b < 18 → a ≠ b → (TX0 a).2.1 ≠ (TX0 b).2.1 := by decide +kernel
theorem tyX0_ok : ∀ k, k < 18 → parseFieldDescriptor (TX0 k).2.2.1 = some (tyX0 k) := by decide +kernel
abbrev cX0_init : ByteArray := prog_1_method_1_code
def yX0_init : MethodName := ⟨RX0, "<init>", "()V"⟩
abbrev cX0_addBreak : ByteArray := prog_1_method_2_code
def yX0_addBreak : MethodName := ⟨RX0, "addBreak", "(I)I"⟩
abbrev cX0_rate : ByteArray := prog_1_method_3_code
def yX0_rate : MethodName := ⟨RX0, "rate", "(III)I"⟩
abbrev cX0_air : ByteArray := prog_1_method_4_code
def yX0_air : MethodName := ⟨RX0, "air", "(I)I"⟩
abbrev cX0_breaks : ByteArray := prog_1_method_5_code
def yX0_breaks : MethodName := ⟨RX0, "breaks", "()I"⟩
abbrev cX0_isAired : ByteArray := prog_1_method_6_code
def yX0_isAired : MethodName := ⟨RX0, "isAired", "(I)Z"⟩
abbrev cX0_room : ByteArray := prog_1_method_7_code
def yX0_room : MethodName := ⟨RX0, "room", "(I)I"⟩
abbrev cX0_rating : ByteArray := prog_1_method_8_code
def yX0_rating : MethodName := ⟨RX0, "rating", "(II)I"⟩
abbrev cX0_addOrder : ByteArray := prog_1_method_9_code
def yX0_addOrder : MethodName := ⟨RX0, "addOrder", "(IIIIIII)I"⟩
abbrev cX0_close : ByteArray := prog_1_method_10_code
def yX0_close : MethodName := ⟨RX0, "close", "(I)I"⟩
abbrev cX0_orders : ByteArray := prog_1_method_11_code
def yX0_orders : MethodName := ⟨RX0, "orders", "()I"⟩
abbrev cX0_whyNot : ByteArray := prog_1_method_12_code
def yX0_whyNot : MethodName := ⟨RX0, "whyNot", "(II)I"⟩
abbrev cX0_place : ByteArray := prog_1_method_13_code
def yX0_place : MethodName := ⟨RX0, "place", "(II)I"⟩
abbrev cX0_give : ByteArray := prog_1_method_14_code
def yX0_give : MethodName := ⟨RX0, "give", "(II)I"⟩
abbrev cX0_fill : ByteArray := prog_1_method_15_code
def yX0_fill : MethodName := ⟨RX0, "fill", "(II)I"⟩
abbrev cX0_move : ByteArray := prog_1_method_16_code
def yX0_move : MethodName := ⟨RX0, "move", "(II)I"⟩
abbrev cX0_miss : ByteArray := prog_1_method_17_code
def yX0_miss : MethodName := ⟨RX0, "miss", "(I)Z"⟩
abbrev cX0_drop : ByteArray := prog_1_method_18_code
def yX0_drop : MethodName := ⟨RX0, "drop", "(I)V"⟩
abbrev cX0_spots : ByteArray := prog_1_method_19_code
def yX0_spots : MethodName := ⟨RX0, "spots", "()I"⟩
abbrev cX0_stateOf : ByteArray := prog_1_method_20_code
def yX0_stateOf : MethodName := ⟨RX0, "stateOf", "(I)I"⟩
abbrev cX0_breakOf : ByteArray := prog_1_method_21_code
def yX0_breakOf : MethodName := ⟨RX0, "breakOf", "(I)I"⟩
abbrev cX0_delivered : ByteArray := prog_1_method_22_code
def yX0_delivered : MethodName := ⟨RX0, "delivered", "(I)I"⟩
abbrev cX0_owed : ByteArray := prog_1_method_23_code
def yX0_owed : MethodName := ⟨RX0, "owed", "(I)I"⟩
abbrev cX0_rest : ByteArray := prog_1_method_24_code
def yX0_rest : MethodName := ⟨RX0, "rest", "(I)I"⟩
abbrev cX0_bill : ByteArray := prog_1_method_25_code
def yX0_bill : MethodName := ⟨RX0, "bill", "(I)I"⟩
abbrev cX0_billTo : ByteArray := prog_1_method_26_code
def yX0_billTo : MethodName := ⟨RX0, "billTo", "(I)I"⟩
abbrev cX0_mostOwed : ByteArray := prog_1_method_27_code
def yX0_mostOwed : MethodName := ⟨RX0, "mostOwed", "()I"⟩
abbrev cX0_checkBreak : ByteArray := prog_1_method_28_code
def yX0_checkBreak : MethodName := ⟨RX0, "checkBreak", "(I)V"⟩
abbrev cX0_checkOrder : ByteArray := prog_1_method_29_code
def yX0_checkOrder : MethodName := ⟨RX0, "checkOrder", "(I)V"⟩
abbrev cX0_checkSpot : ByteArray := prog_1_method_30_code
def yX0_checkSpot : MethodName := ⟨RX0, "checkSpot", "(I)V"⟩
abbrev cX0_checkIndex : ByteArray := prog_1_method_31_code
def yX0_checkIndex : MethodName := ⟨RX0, "checkIndex", "(II)V"⟩
abbrev cX0_checkArgument : ByteArray := prog_1_method_32_code
def yX0_checkArgument : MethodName := ⟨RX0, "checkArgument", "(Z)V"⟩
abbrev cX0_checkState : ByteArray := prog_1_method_33_code
def yX0_checkState : MethodName := ⟨RX0, "checkState", "(Z)V"⟩
abbrev cX0_isWithin : ByteArray := prog_1_method_34_code
def yX0_isWithin : MethodName := ⟨RX0, "isWithin", "(III)Z"⟩
abbrev cX0_isGroup : ByteArray := prog_1_method_35_code
def yX0_isGroup : MethodName := ⟨RX0, "isGroup", "(I)Z"⟩
abbrev cX0_isAdvertiser : ByteArray := prog_1_method_36_code
def yX0_isAdvertiser : MethodName := ⟨RX0, "isAdvertiser", "(I)Z"⟩
abbrev cX0_isSpotLength : ByteArray := prog_1_method_37_code
def yX0_isSpotLength : MethodName := ⟨RX0, "isSpotLength", "(I)Z"⟩
abbrev cX0_obstacle : ByteArray := prog_1_method_38_code
def yX0_obstacle : MethodName := ⟨RX0, "obstacle", "(II)I"⟩
abbrev cX0_bestBreak : ByteArray := prog_1_method_39_code
def yX0_bestBreak : MethodName := ⟨RX0, "bestBreak", "(I)I"⟩
abbrev cX0_addSpot : ByteArray := prog_1_method_40_code
def yX0_addSpot : MethodName := ⟨RX0, "addSpot", "(IIZ)I"⟩
abbrev cX0_isInBreak : ByteArray := prog_1_method_41_code
def yX0_isInBreak : MethodName := ⟨RX0, "isInBreak", "(I)Z"⟩
abbrev cX0_secondsLeft : ByteArray := prog_1_method_42_code
def yX0_secondsLeft : MethodName := ⟨RX0, "secondsLeft", "(I)I"⟩
abbrev cX0_holdsAdvertiser : ByteArray := prog_1_method_43_code
def yX0_holdsAdvertiser : MethodName := ⟨RX0, "holdsAdvertiser", "(II)Z"⟩
abbrev cX0_holdsRival : ByteArray := prog_1_method_44_code
def yX0_holdsRival : MethodName := ⟨RX0, "holdsRival", "(II)Z"⟩
abbrev cX0_areRivals : ByteArray := prog_1_method_45_code
def yX0_areRivals : MethodName := ⟨RX0, "areRivals", "(II)Z"⟩
abbrev cX0_ratingCell : ByteArray := prog_1_method_46_code
def yX0_ratingCell : MethodName := ⟨RX0, "ratingCell", "(II)I"⟩
abbrev cX0_ratingFor : ByteArray := prog_1_method_47_code
def yX0_ratingFor : MethodName := ⟨RX0, "ratingFor", "(II)I"⟩
abbrev cX0_audience : ByteArray := prog_1_method_48_code
def yX0_audience : MethodName := ⟨RX0, "audience", "(II)I"⟩
abbrev cX0_isShortOfPromise : ByteArray := prog_1_method_49_code
def yX0_isShortOfPromise : MethodName := ⟨RX0, "isShortOfPromise", "(I)Z"⟩
abbrev cX0_owedTo : ByteArray := prog_1_method_50_code
def yX0_owedTo : MethodName := ⟨RX0, "owedTo", "(I)I"⟩
abbrev cX0_restOf : ByteArray := prog_1_method_51_code
def yX0_restOf : MethodName := ⟨RX0, "restOf", "(I)I"⟩
abbrev cX0_billOf : ByteArray := prog_1_method_52_code
def yX0_billOf : MethodName := ⟨RX0, "billOf", "(I)I"⟩
def RX1 : String := "SpotAccountModel"
def TX1 : u_T := fun k => match k with
  | _ => ("", "", "", false)
def tyX1 : Nat → FieldType := fun k => match k with
  | _ => .int
abbrev wsX10 : List Cond := u_ws RX1 TX1 0
theorem nmX1 : ∀ a, a < 0 → ∀ b, b < 0 → a ≠ b → (TX1 a).2.1 ≠ (TX1 b).2.1 := by decide +kernel
theorem tyX1_ok : ∀ k, k < 0 → parseFieldDescriptor (TX1 k).2.2.1 = some (tyX1 k) := by decide +kernel
def RJ9 : String := "java/lang/Math"
def TJ9 : u_T := fun k => match k with
  | _ => ("", "", "", false)
def tyJ9 : Nat → FieldType := fun k => match k with
  | _ => .int
abbrev wsJ90 : List Cond := u_ws RJ9 TJ9 0
theorem nmJ9 : ∀ a, a < 0 → ∀ b, b < 0 → a ≠ b → (TJ9 a).2.1 ≠ (TJ9 b).2.1 := by decide +kernel
theorem tyJ9_ok : ∀ k, k < 0 → parseFieldDescriptor (TJ9 k).2.2.1 = some (tyJ9 k) := by decide +kernel
abbrev cJ9_max_7cf53 : ByteArray := prog_8_method_65_code
def yJ9_max_7cf53 : MethodName := ⟨RJ9, "max", "(II)I"⟩
def RJ0 : String := "java/lang/String"
def TJ0 : u_T := fun k => match k with
  | _ => ("", "", "", false)
def tyJ0 : Nat → FieldType := fun k => match k with
  | _ => .int
abbrev wsJ00 : List Cond := u_ws RJ0 TJ0 0
theorem nmJ0 : ∀ a, a < 0 → ∀ b, b < 0 → a ≠ b → (TJ0 a).2.1 ≠ (TJ0 b).2.1 := by decide +kernel
theorem tyJ0_ok : ∀ k, k < 0 → parseFieldDescriptor (TJ0 k).2.2.1 = some (tyJ0 k) := by decide +kernel
def RL : String := "SpotAccountLaw"
abbrev cL_at : ByteArray := method_2_code
def yL_at : MethodName := ⟨RL, "at", "([II)I"⟩
abbrev cL_low : ByteArray := method_3_code
def yL_low : MethodName := ⟨RL, "low", "(II)I"⟩
abbrev cL_addBreak : ByteArray := method_4_code
def yL_addBreak : MethodName := ⟨RL, "addBreak", "(LSpotAccount;I)I"⟩
abbrev cL_rate : ByteArray := method_5_code
def yL_rate : MethodName := ⟨RL, "rate", "(LSpotAccount;III)I"⟩
abbrev cL_air : ByteArray := method_6_code
def yL_air : MethodName := ⟨RL, "air", "(LSpotAccount;I)I"⟩
abbrev cL_isAired : ByteArray := method_7_code
def yL_isAired : MethodName := ⟨RL, "isAired", "(LSpotAccount;I)I"⟩
abbrev cL_room : ByteArray := method_8_code
def yL_room : MethodName := ⟨RL, "room", "(LSpotAccount;I)I"⟩
abbrev cL_rating : ByteArray := method_9_code
def yL_rating : MethodName := ⟨RL, "rating", "(LSpotAccount;II)I"⟩
abbrev cL_addOrder : ByteArray := method_10_code
def yL_addOrder : MethodName := ⟨RL, "addOrder", "(LSpotAccount;IIIIIII)I"⟩
abbrev cL_close : ByteArray := method_11_code
def yL_close : MethodName := ⟨RL, "close", "(LSpotAccount;I)I"⟩
abbrev cL_whyNot : ByteArray := method_12_code
def yL_whyNot : MethodName := ⟨RL, "whyNot", "(LSpotAccount;II)I"⟩
abbrev cL_place : ByteArray := method_13_code
def yL_place : MethodName := ⟨RL, "place", "(LSpotAccount;II)I"⟩
abbrev cL_give : ByteArray := method_14_code
def yL_give : MethodName := ⟨RL, "give", "(LSpotAccount;II)I"⟩
abbrev cL_fill : ByteArray := method_15_code
def yL_fill : MethodName := ⟨RL, "fill", "(LSpotAccount;II)I"⟩
abbrev cL_move : ByteArray := method_16_code
def yL_move : MethodName := ⟨RL, "move", "(LSpotAccount;II)I"⟩
abbrev cL_miss : ByteArray := method_17_code
def yL_miss : MethodName := ⟨RL, "miss", "(LSpotAccount;I)I"⟩
abbrev cL_drop : ByteArray := method_18_code
def yL_drop : MethodName := ⟨RL, "drop", "(LSpotAccount;I)I"⟩
abbrev cL_stateOf : ByteArray := method_19_code
def yL_stateOf : MethodName := ⟨RL, "stateOf", "(LSpotAccount;I)I"⟩
abbrev cL_breakOf : ByteArray := method_20_code
def yL_breakOf : MethodName := ⟨RL, "breakOf", "(LSpotAccount;I)I"⟩
abbrev cL_delivered : ByteArray := method_21_code
def yL_delivered : MethodName := ⟨RL, "delivered", "(LSpotAccount;I)I"⟩
abbrev cL_owed : ByteArray := method_22_code
def yL_owed : MethodName := ⟨RL, "owed", "(LSpotAccount;I)I"⟩
abbrev cL_rest : ByteArray := method_23_code
def yL_rest : MethodName := ⟨RL, "rest", "(LSpotAccount;I)I"⟩
abbrev cL_bill : ByteArray := method_24_code
def yL_bill : MethodName := ⟨RL, "bill", "(LSpotAccount;I)I"⟩
abbrev cL_billTo : ByteArray := method_25_code
def yL_billTo : MethodName := ⟨RL, "billTo", "(LSpotAccount;I)I"⟩
abbrev cL_stands : ByteArray := method_26_code
def yL_stands : MethodName := ⟨RL, "stands", "(LSpotAccount;I)Z"⟩
abbrev cL_breaks : ByteArray := method_27_code
def yL_breaks : MethodName := ⟨RL, "breaks", "(LSpotAccount;[I[I[I[I)Z"⟩
abbrev cL_orders : ByteArray := method_28_code
def yL_orders : MethodName := ⟨RL, "orders", "(LSpotAccount;[I[I[I)Z"⟩
abbrev cL_fills : ByteArray := method_29_code
def yL_fills : MethodName := ⟨RL, "fills", "(LSpotAccount;LSpotAccount;[I[I[III)Z"⟩
abbrev cL_acts : ByteArray := method_30_code
def yL_acts : MethodName := ⟨RL, "acts", "(LSpotAccount;LSpotAccount;[I[I[I[III)Z"⟩
abbrev cL_law : ByteArray := code
def yL_law : MethodName := ⟨RL, "law", "([I)Z"⟩
def wsX0_init : List Cond := .code yX0_init cX0_init 1 none :: ([.methodLink RX0 1 objectInit, .instanceMethod objectInit, .code objectInit ⟨#[0xb1]⟩ 1 none, .arrayClass .int, .fieldLink RX0 9 "SpotAccount" "breakSeconds" "[I", .arrayClass .boolean, .fieldLink RX0 13 "SpotAccount" "breakAired" "[Z", .fieldLink RX0 17 "SpotAccount" "ratings" "[I", .fieldLink RX0 20 "SpotAccount" "orderAdvertiser" "[I", .fieldLink RX0 23 "SpotAccount" "orderCategory" "[I", .fieldLink RX0 26 "SpotAccount" "orderGroup" "[I", .fieldLink RX0 29 "SpotAccount" "orderSeconds" "[I", .fieldLink RX0 32 "SpotAccount" "orderPrice" "[I", .fieldLink RX0 35 "SpotAccount" "orderPromise" "[I", .fieldLink RX0 38 "SpotAccount" "orderFloor" "[I", .fieldLink RX0 41 "SpotAccount" "orderClosed" "[Z", .fieldLink RX0 44 "SpotAccount" "spotOrder" "[I", .fieldLink RX0 47 "SpotAccount" "spotBreak" "[I", .fieldLink RX0 50 "SpotAccount" "spotState" "[I", .fieldLink RX0 53 "SpotAccount" "spotFree" "[Z"] ++ wsX00)
def wsX0_isWithin : List Cond := .code yX0_isWithin cX0_isWithin 3 (some .boolean) :: ([])
def wsX0_checkArgument : List Cond := .code yX0_checkArgument cX0_checkArgument 1 none :: ([.classLink RX0 146 "java/lang/IllegalArgumentException", .initialized "java/lang/IllegalArgumentException"] ++ (vx_atS RX0 150 "java/lang/IllegalArgumentException" ["java/lang/RuntimeException", "java/lang/Exception"]).filter goodWord)
def wsX0_checkState : List Cond := .code yX0_checkState cX0_checkState 1 none :: ([.classLink RX0 151 "java/lang/IllegalStateException", .initialized "java/lang/IllegalStateException"] ++ (vx_atS RX0 155 "java/lang/IllegalStateException" ["java/lang/RuntimeException", "java/lang/Exception"]).filter goodWord)
def wsX0_addBreak : List Cond := .code yX0_addBreak cX0_addBreak 3 (some .int) :: ([.fieldLink RX0 64 "SpotAccount" "breakCount" "I", .fieldLink RX0 9 "SpotAccount" "breakSeconds" "[I", .methodLink RX0 56 yX0_isWithin, .static yX0_isWithin, .initialized RX0, .code yX0_isWithin cX0_isWithin 3 (some .boolean), .methodLink RX0 60 yX0_checkArgument, .static yX0_checkArgument, .code yX0_checkArgument cX0_checkArgument 1 none, .classLink RX0 146 "java/lang/IllegalArgumentException", .initialized "java/lang/IllegalArgumentException", .methodLink RX0 68 yX0_checkState, .static yX0_checkState, .code yX0_checkState cX0_checkState 1 none, .classLink RX0 151 "java/lang/IllegalStateException", .initialized "java/lang/IllegalStateException"] ++ wsX00 ++ (vx_atS RX0 150 "java/lang/IllegalArgumentException" ["java/lang/RuntimeException", "java/lang/Exception"]).filter goodWord ++ (vx_atS RX0 155 "java/lang/IllegalStateException" ["java/lang/RuntimeException", "java/lang/Exception"]).filter goodWord)
def wsX0_checkIndex : List Cond := .code yX0_checkIndex cX0_checkIndex 2 none :: ([.classLink RX0 139 "java/lang/IndexOutOfBoundsException", .initialized "java/lang/IndexOutOfBoundsException"] ++ (vx_atS RX0 143 "java/lang/IndexOutOfBoundsException" ["java/lang/RuntimeException", "java/lang/Exception"]).filter goodWord)
def wsX0_checkBreak : List Cond := .code yX0_checkBreak cX0_checkBreak 2 none :: ([.fieldLink RX0 64 "SpotAccount" "breakCount" "I", .methodLink RX0 135 yX0_checkIndex, .static yX0_checkIndex, .initialized RX0, .code yX0_checkIndex cX0_checkIndex 2 none, .classLink RX0 139 "java/lang/IndexOutOfBoundsException", .initialized "java/lang/IndexOutOfBoundsException"] ++ wsX00 ++ (vx_atS RX0 143 "java/lang/IndexOutOfBoundsException" ["java/lang/RuntimeException", "java/lang/Exception"]).filter goodWord)
def wsX0_isGroup : List Cond := .code yX0_isGroup cX0_isGroup 1 (some .boolean) :: ([.methodLink RX0 56 yX0_isWithin, .static yX0_isWithin, .initialized RX0, .code yX0_isWithin cX0_isWithin 3 (some .boolean)])
def wsX0_ratingCell : List Cond := .code yX0_ratingCell cX0_ratingCell 2 (some .int) :: ([])
def wsX0_rate_r1 : List Cond := [Cond.constant RX0 79 (100000), Cond.fieldLink RX0 17 "SpotAccount" "ratings" "[I", Cond.methodLink RX0 71 yX0_checkBreak, Cond.instanceMethod yX0_checkBreak, Cond.selects RX0 yX0_checkBreak yX0_checkBreak, Cond.initialized RX0, Cond.code yX0_checkBreak cX0_checkBreak 2 none, Cond.fieldLink RX0 64 "SpotAccount" "breakCount" "I", Cond.methodLink RX0 135 yX0_checkIndex, Cond.static yX0_checkIndex, Cond.code yX0_checkIndex cX0_checkIndex 2 none, Cond.classLink RX0 139 "java/lang/IndexOutOfBoundsException", Cond.initialized "java/lang/IndexOutOfBoundsException", Cond.methodLink RX0 75 yX0_isGroup, Cond.static yX0_isGroup, Cond.code yX0_isGroup cX0_isGroup 1 (some .boolean), Cond.methodLink RX0 56 yX0_isWithin, Cond.static yX0_isWithin, Cond.code yX0_isWithin cX0_isWithin 3 (some .boolean), Cond.methodLink RX0 60 yX0_checkArgument, Cond.static yX0_checkArgument, Cond.code yX0_checkArgument cX0_checkArgument 1 none, Cond.classLink RX0 146 "java/lang/IllegalArgumentException", Cond.initialized "java/lang/IllegalArgumentException"]
def wsX0_rate_r2 : List Cond := [Cond.methodLink RX0 80 yX0_ratingCell, Cond.static yX0_ratingCell, Cond.code yX0_ratingCell cX0_ratingCell 2 (some .int)]
def wsX0_rate : List Cond := .code yX0_rate cX0_rate 6 (some .int) :: ((wsX0_rate_r1 ++ wsX0_rate_r2) ++ wsX00 ++ (vx_atS RX0 143 "java/lang/IndexOutOfBoundsException" ["java/lang/RuntimeException", "java/lang/Exception"]).filter goodWord ++ (vx_atS RX0 150 "java/lang/IllegalArgumentException" ["java/lang/RuntimeException", "java/lang/Exception"]).filter goodWord)
def wsX0_air : List Cond := .code yX0_air cX0_air 4 (some .int) :: ([.fieldLink RX0 13 "SpotAccount" "breakAired" "[Z", .fieldLink RX0 84 "SpotAccount" "spotCount" "I", .fieldLink RX0 47 "SpotAccount" "spotBreak" "[I", .fieldLink RX0 50 "SpotAccount" "spotState" "[I", .methodLink RX0 71 yX0_checkBreak, .instanceMethod yX0_checkBreak, .selects RX0 yX0_checkBreak yX0_checkBreak, .initialized RX0, .code yX0_checkBreak cX0_checkBreak 2 none, .fieldLink RX0 64 "SpotAccount" "breakCount" "I", .methodLink RX0 135 yX0_checkIndex, .static yX0_checkIndex, .code yX0_checkIndex cX0_checkIndex 2 none, .classLink RX0 139 "java/lang/IndexOutOfBoundsException", .initialized "java/lang/IndexOutOfBoundsException", .methodLink RX0 68 yX0_checkState, .static yX0_checkState, .code yX0_checkState cX0_checkState 1 none, .classLink RX0 151 "java/lang/IllegalStateException", .initialized "java/lang/IllegalStateException"] ++ wsX00 ++ (vx_atS RX0 143 "java/lang/IndexOutOfBoundsException" ["java/lang/RuntimeException", "java/lang/Exception"]).filter goodWord ++ (vx_atS RX0 155 "java/lang/IllegalStateException" ["java/lang/RuntimeException", "java/lang/Exception"]).filter goodWord)
def wsX0_breaks : List Cond := .code yX0_breaks cX0_breaks 1 (some .int) :: ([.fieldLink RX0 64 "SpotAccount" "breakCount" "I"] ++ wsX00)
def wsX0_isAired : List Cond := .code yX0_isAired cX0_isAired 2 (some .boolean) :: ([.fieldLink RX0 13 "SpotAccount" "breakAired" "[Z", .methodLink RX0 71 yX0_checkBreak, .instanceMethod yX0_checkBreak, .selects RX0 yX0_checkBreak yX0_checkBreak, .initialized RX0, .code yX0_checkBreak cX0_checkBreak 2 none, .fieldLink RX0 64 "SpotAccount" "breakCount" "I", .methodLink RX0 135 yX0_checkIndex, .static yX0_checkIndex, .code yX0_checkIndex cX0_checkIndex 2 none, .classLink RX0 139 "java/lang/IndexOutOfBoundsException", .initialized "java/lang/IndexOutOfBoundsException"] ++ wsX00 ++ (vx_atS RX0 143 "java/lang/IndexOutOfBoundsException" ["java/lang/RuntimeException", "java/lang/Exception"]).filter goodWord)
def wsX0_isInBreak : List Cond := .code yX0_isInBreak cX0_isInBreak 2 (some .boolean) :: ([.fieldLink RX0 50 "SpotAccount" "spotState" "[I"] ++ wsX00)
def wsX0_secondsLeft : List Cond := .code yX0_secondsLeft cX0_secondsLeft 4 (some .int) :: ([.fieldLink RX0 9 "SpotAccount" "breakSeconds" "[I", .fieldLink RX0 84 "SpotAccount" "spotCount" "I", .fieldLink RX0 47 "SpotAccount" "spotBreak" "[I", .fieldLink RX0 29 "SpotAccount" "orderSeconds" "[I", .fieldLink RX0 44 "SpotAccount" "spotOrder" "[I", .methodLink RX0 126 yX0_isInBreak, .instanceMethod yX0_isInBreak, .selects RX0 yX0_isInBreak yX0_isInBreak, .initialized RX0, .code yX0_isInBreak cX0_isInBreak 2 (some .boolean), .fieldLink RX0 50 "SpotAccount" "spotState" "[I"] ++ wsX00)
def wsX0_room_r1 : List Cond := [Cond.methodLink RX0 71 yX0_checkBreak, Cond.instanceMethod yX0_checkBreak, Cond.selects RX0 yX0_checkBreak yX0_checkBreak, Cond.initialized RX0, Cond.code yX0_checkBreak cX0_checkBreak 2 none, Cond.fieldLink RX0 64 "SpotAccount" "breakCount" "I", Cond.methodLink RX0 135 yX0_checkIndex, Cond.static yX0_checkIndex, Cond.code yX0_checkIndex cX0_checkIndex 2 none, Cond.classLink RX0 139 "java/lang/IndexOutOfBoundsException", Cond.initialized "java/lang/IndexOutOfBoundsException", Cond.methodLink RX0 87 yX0_secondsLeft, Cond.instanceMethod yX0_secondsLeft, Cond.selects RX0 yX0_secondsLeft yX0_secondsLeft, Cond.code yX0_secondsLeft cX0_secondsLeft 4 (some .int), Cond.fieldLink RX0 9 "SpotAccount" "breakSeconds" "[I", Cond.fieldLink RX0 84 "SpotAccount" "spotCount" "I", Cond.fieldLink RX0 47 "SpotAccount" "spotBreak" "[I", Cond.fieldLink RX0 29 "SpotAccount" "orderSeconds" "[I", Cond.fieldLink RX0 44 "SpotAccount" "spotOrder" "[I", Cond.methodLink RX0 126 yX0_isInBreak, Cond.instanceMethod yX0_isInBreak, Cond.selects RX0 yX0_isInBreak yX0_isInBreak, Cond.code yX0_isInBreak cX0_isInBreak 2 (some .boolean)]
def wsX0_room_r2 : List Cond := [Cond.fieldLink RX0 50 "SpotAccount" "spotState" "[I"]
def wsX0_room : List Cond := .code yX0_room cX0_room 2 (some .int) :: ((wsX0_room_r1 ++ wsX0_room_r2) ++ wsX00 ++ (vx_atS RX0 143 "java/lang/IndexOutOfBoundsException" ["java/lang/RuntimeException", "java/lang/Exception"]).filter goodWord)
def wsX0_rating_r1 : List Cond := [Cond.fieldLink RX0 17 "SpotAccount" "ratings" "[I", Cond.methodLink RX0 71 yX0_checkBreak, Cond.instanceMethod yX0_checkBreak, Cond.selects RX0 yX0_checkBreak yX0_checkBreak, Cond.initialized RX0, Cond.code yX0_checkBreak cX0_checkBreak 2 none, Cond.fieldLink RX0 64 "SpotAccount" "breakCount" "I", Cond.methodLink RX0 135 yX0_checkIndex, Cond.static yX0_checkIndex, Cond.code yX0_checkIndex cX0_checkIndex 2 none, Cond.classLink RX0 139 "java/lang/IndexOutOfBoundsException", Cond.initialized "java/lang/IndexOutOfBoundsException", Cond.methodLink RX0 75 yX0_isGroup, Cond.static yX0_isGroup, Cond.code yX0_isGroup cX0_isGroup 1 (some .boolean), Cond.methodLink RX0 56 yX0_isWithin, Cond.static yX0_isWithin, Cond.code yX0_isWithin cX0_isWithin 3 (some .boolean), Cond.methodLink RX0 60 yX0_checkArgument, Cond.static yX0_checkArgument, Cond.code yX0_checkArgument cX0_checkArgument 1 none, Cond.classLink RX0 146 "java/lang/IllegalArgumentException", Cond.initialized "java/lang/IllegalArgumentException", Cond.methodLink RX0 80 yX0_ratingCell]
def wsX0_rating_r2 : List Cond := [Cond.static yX0_ratingCell, Cond.code yX0_ratingCell cX0_ratingCell 2 (some .int)]
def wsX0_rating : List Cond := .code yX0_rating cX0_rating 3 (some .int) :: ((wsX0_rating_r1 ++ wsX0_rating_r2) ++ wsX00 ++ (vx_atS RX0 143 "java/lang/IndexOutOfBoundsException" ["java/lang/RuntimeException", "java/lang/Exception"]).filter goodWord ++ (vx_atS RX0 150 "java/lang/IllegalArgumentException" ["java/lang/RuntimeException", "java/lang/Exception"]).filter goodWord)
def wsX0_isAdvertiser : List Cond := .code yX0_isAdvertiser cX0_isAdvertiser 1 (some .boolean) :: ([.methodLink RX0 56 yX0_isWithin, .static yX0_isWithin, .initialized RX0, .code yX0_isWithin cX0_isWithin 3 (some .boolean)])
def wsX0_isSpotLength : List Cond := .code yX0_isSpotLength cX0_isSpotLength 1 (some .boolean) :: ([])
def wsX0_addOrder_r1 : List Cond := [Cond.constant RX0 97 (1000000), Cond.constant RX0 79 (100000), Cond.fieldLink RX0 98 "SpotAccount" "orderCount" "I", Cond.fieldLink RX0 20 "SpotAccount" "orderAdvertiser" "[I", Cond.fieldLink RX0 23 "SpotAccount" "orderCategory" "[I", Cond.fieldLink RX0 26 "SpotAccount" "orderGroup" "[I", Cond.fieldLink RX0 29 "SpotAccount" "orderSeconds" "[I", Cond.fieldLink RX0 32 "SpotAccount" "orderPrice" "[I", Cond.fieldLink RX0 35 "SpotAccount" "orderPromise" "[I", Cond.fieldLink RX0 38 "SpotAccount" "orderFloor" "[I", Cond.methodLink RX0 91 yX0_isAdvertiser, Cond.static yX0_isAdvertiser, Cond.initialized RX0, Cond.code yX0_isAdvertiser cX0_isAdvertiser 1 (some .boolean), Cond.methodLink RX0 56 yX0_isWithin, Cond.static yX0_isWithin, Cond.code yX0_isWithin cX0_isWithin 3 (some .boolean), Cond.methodLink RX0 60 yX0_checkArgument, Cond.static yX0_checkArgument, Cond.code yX0_checkArgument cX0_checkArgument 1 none, Cond.classLink RX0 146 "java/lang/IllegalArgumentException", Cond.initialized "java/lang/IllegalArgumentException", Cond.methodLink RX0 75 yX0_isGroup, Cond.static yX0_isGroup]
def wsX0_addOrder_r2 : List Cond := [Cond.code yX0_isGroup cX0_isGroup 1 (some .boolean), Cond.methodLink RX0 94 yX0_isSpotLength, Cond.static yX0_isSpotLength, Cond.code yX0_isSpotLength cX0_isSpotLength 1 (some .boolean), Cond.methodLink RX0 68 yX0_checkState, Cond.static yX0_checkState, Cond.code yX0_checkState cX0_checkState 1 none, Cond.classLink RX0 151 "java/lang/IllegalStateException", Cond.initialized "java/lang/IllegalStateException"]
def wsX0_addOrder : List Cond := .code yX0_addOrder cX0_addOrder 9 (some .int) :: ((wsX0_addOrder_r1 ++ wsX0_addOrder_r2) ++ wsX00 ++ (vx_atS RX0 150 "java/lang/IllegalArgumentException" ["java/lang/RuntimeException", "java/lang/Exception"]).filter goodWord ++ (vx_atS RX0 155 "java/lang/IllegalStateException" ["java/lang/RuntimeException", "java/lang/Exception"]).filter goodWord)
def wsX0_checkOrder : List Cond := .code yX0_checkOrder cX0_checkOrder 2 none :: ([.fieldLink RX0 98 "SpotAccount" "orderCount" "I", .methodLink RX0 135 yX0_checkIndex, .static yX0_checkIndex, .initialized RX0, .code yX0_checkIndex cX0_checkIndex 2 none, .classLink RX0 139 "java/lang/IndexOutOfBoundsException", .initialized "java/lang/IndexOutOfBoundsException"] ++ wsX00 ++ (vx_atS RX0 143 "java/lang/IndexOutOfBoundsException" ["java/lang/RuntimeException", "java/lang/Exception"]).filter goodWord)
def wsX0_ratingFor : List Cond := .code yX0_ratingFor cX0_ratingFor 3 (some .int) :: ([.fieldLink RX0 17 "SpotAccount" "ratings" "[I", .fieldLink RX0 26 "SpotAccount" "orderGroup" "[I", .methodLink RX0 80 yX0_ratingCell, .static yX0_ratingCell, .initialized RX0, .code yX0_ratingCell cX0_ratingCell 2 (some .int)] ++ wsX00)
def wsX0_audience : List Cond := .code yX0_audience cX0_audience 5 (some .int) :: ([.fieldLink RX0 84 "SpotAccount" "spotCount" "I", .fieldLink RX0 44 "SpotAccount" "spotOrder" "[I", .fieldLink RX0 50 "SpotAccount" "spotState" "[I", .fieldLink RX0 47 "SpotAccount" "spotBreak" "[I", .methodLink RX0 156 yX0_ratingFor, .instanceMethod yX0_ratingFor, .selects RX0 yX0_ratingFor yX0_ratingFor, .initialized RX0, .code yX0_ratingFor cX0_ratingFor 3 (some .int), .fieldLink RX0 17 "SpotAccount" "ratings" "[I", .fieldLink RX0 26 "SpotAccount" "orderGroup" "[I", .methodLink RX0 80 yX0_ratingCell, .static yX0_ratingCell, .code yX0_ratingCell cX0_ratingCell 2 (some .int)] ++ wsX00)
def wsX0_owedTo : List Cond := .code yX0_owedTo cX0_owedTo 2 (some .int) :: ([.fieldLink RX0 41 "SpotAccount" "orderClosed" "[Z", .fieldLink RX0 35 "SpotAccount" "orderPromise" "[I", .methodLink RX0 169 Lib.Math.max.name, .static Lib.Math.max.name, .initialized "java/lang/Math", .code Lib.Math.max.name Lib.Math.max.code 2 (some .int), .methodLink RX0 129 yX0_audience, .instanceMethod yX0_audience, .selects RX0 yX0_audience yX0_audience, .initialized RX0, .code yX0_audience cX0_audience 5 (some .int), .fieldLink RX0 84 "SpotAccount" "spotCount" "I", .fieldLink RX0 44 "SpotAccount" "spotOrder" "[I", .fieldLink RX0 50 "SpotAccount" "spotState" "[I", .fieldLink RX0 47 "SpotAccount" "spotBreak" "[I", .methodLink RX0 156 yX0_ratingFor, .instanceMethod yX0_ratingFor, .selects RX0 yX0_ratingFor yX0_ratingFor, .code yX0_ratingFor cX0_ratingFor 3 (some .int), .fieldLink RX0 17 "SpotAccount" "ratings" "[I", .fieldLink RX0 26 "SpotAccount" "orderGroup" "[I", .methodLink RX0 80 yX0_ratingCell, .static yX0_ratingCell, .code yX0_ratingCell cX0_ratingCell 2 (some .int)] ++ wsX00)
def wsX0_close_r1 : List Cond := [Cond.fieldLink RX0 41 "SpotAccount" "orderClosed" "[Z", Cond.fieldLink RX0 84 "SpotAccount" "spotCount" "I", Cond.fieldLink RX0 44 "SpotAccount" "spotOrder" "[I", Cond.fieldLink RX0 50 "SpotAccount" "spotState" "[I", Cond.methodLink RX0 101 yX0_checkOrder, Cond.instanceMethod yX0_checkOrder, Cond.selects RX0 yX0_checkOrder yX0_checkOrder, Cond.initialized RX0, Cond.code yX0_checkOrder cX0_checkOrder 2 none, Cond.fieldLink RX0 98 "SpotAccount" "orderCount" "I", Cond.methodLink RX0 135 yX0_checkIndex, Cond.static yX0_checkIndex, Cond.code yX0_checkIndex cX0_checkIndex 2 none, Cond.classLink RX0 139 "java/lang/IndexOutOfBoundsException", Cond.initialized "java/lang/IndexOutOfBoundsException", Cond.methodLink RX0 68 yX0_checkState, Cond.static yX0_checkState, Cond.code yX0_checkState cX0_checkState 1 none, Cond.classLink RX0 151 "java/lang/IllegalStateException", Cond.initialized "java/lang/IllegalStateException", Cond.methodLink RX0 104 yX0_owedTo, Cond.instanceMethod yX0_owedTo, Cond.selects RX0 yX0_owedTo yX0_owedTo, Cond.code yX0_owedTo cX0_owedTo 2 (some .int)]
def wsX0_close_r2 : List Cond := [Cond.fieldLink RX0 35 "SpotAccount" "orderPromise" "[I", Cond.methodLink RX0 169 Lib.Math.max.name, Cond.static Lib.Math.max.name, Cond.initialized "java/lang/Math", Cond.code Lib.Math.max.name Lib.Math.max.code 2 (some .int), Cond.methodLink RX0 129 yX0_audience, Cond.instanceMethod yX0_audience, Cond.selects RX0 yX0_audience yX0_audience, Cond.code yX0_audience cX0_audience 5 (some .int), Cond.fieldLink RX0 47 "SpotAccount" "spotBreak" "[I", Cond.methodLink RX0 156 yX0_ratingFor, Cond.instanceMethod yX0_ratingFor, Cond.selects RX0 yX0_ratingFor yX0_ratingFor, Cond.code yX0_ratingFor cX0_ratingFor 3 (some .int), Cond.fieldLink RX0 17 "SpotAccount" "ratings" "[I", Cond.fieldLink RX0 26 "SpotAccount" "orderGroup" "[I", Cond.methodLink RX0 80 yX0_ratingCell, Cond.static yX0_ratingCell, Cond.code yX0_ratingCell cX0_ratingCell 2 (some .int)]
def wsX0_close : List Cond := .code yX0_close cX0_close 3 (some .int) :: ((wsX0_close_r1 ++ wsX0_close_r2) ++ wsX00 ++ (vx_atS RX0 143 "java/lang/IndexOutOfBoundsException" ["java/lang/RuntimeException", "java/lang/Exception"]).filter goodWord ++ (vx_atS RX0 155 "java/lang/IllegalStateException" ["java/lang/RuntimeException", "java/lang/Exception"]).filter goodWord)
def wsX0_orders : List Cond := .code yX0_orders cX0_orders 1 (some .int) :: ([.fieldLink RX0 98 "SpotAccount" "orderCount" "I"] ++ wsX00)
def wsX0_holdsAdvertiser : List Cond := .code yX0_holdsAdvertiser cX0_holdsAdvertiser 4 (some .boolean) :: ([.fieldLink RX0 84 "SpotAccount" "spotCount" "I", .fieldLink RX0 47 "SpotAccount" "spotBreak" "[I", .fieldLink RX0 20 "SpotAccount" "orderAdvertiser" "[I", .fieldLink RX0 44 "SpotAccount" "spotOrder" "[I", .methodLink RX0 126 yX0_isInBreak, .instanceMethod yX0_isInBreak, .selects RX0 yX0_isInBreak yX0_isInBreak, .initialized RX0, .code yX0_isInBreak cX0_isInBreak 2 (some .boolean), .fieldLink RX0 50 "SpotAccount" "spotState" "[I"] ++ wsX00)
def wsX0_areRivals : List Cond := .code yX0_areRivals cX0_areRivals 3 (some .boolean) :: ([.fieldLink RX0 23 "SpotAccount" "orderCategory" "[I", .fieldLink RX0 20 "SpotAccount" "orderAdvertiser" "[I"] ++ wsX00)
def wsX0_holdsRival : List Cond := .code yX0_holdsRival cX0_holdsRival 4 (some .boolean) :: ([.fieldLink RX0 84 "SpotAccount" "spotCount" "I", .fieldLink RX0 47 "SpotAccount" "spotBreak" "[I", .fieldLink RX0 44 "SpotAccount" "spotOrder" "[I", .methodLink RX0 126 yX0_isInBreak, .instanceMethod yX0_isInBreak, .selects RX0 yX0_isInBreak yX0_isInBreak, .initialized RX0, .code yX0_isInBreak cX0_isInBreak 2 (some .boolean), .fieldLink RX0 50 "SpotAccount" "spotState" "[I", .methodLink RX0 166 yX0_areRivals, .instanceMethod yX0_areRivals, .selects RX0 yX0_areRivals yX0_areRivals, .code yX0_areRivals cX0_areRivals 3 (some .boolean), .fieldLink RX0 23 "SpotAccount" "orderCategory" "[I", .fieldLink RX0 20 "SpotAccount" "orderAdvertiser" "[I"] ++ wsX00)
def wsX0_obstacle_r1 : List Cond := [Cond.fieldLink RX0 13 "SpotAccount" "breakAired" "[Z", Cond.fieldLink RX0 29 "SpotAccount" "orderSeconds" "[I", Cond.fieldLink RX0 38 "SpotAccount" "orderFloor" "[I", Cond.fieldLink RX0 20 "SpotAccount" "orderAdvertiser" "[I", Cond.methodLink RX0 87 yX0_secondsLeft, Cond.instanceMethod yX0_secondsLeft, Cond.selects RX0 yX0_secondsLeft yX0_secondsLeft, Cond.initialized RX0, Cond.code yX0_secondsLeft cX0_secondsLeft 4 (some .int), Cond.fieldLink RX0 9 "SpotAccount" "breakSeconds" "[I", Cond.fieldLink RX0 84 "SpotAccount" "spotCount" "I", Cond.fieldLink RX0 47 "SpotAccount" "spotBreak" "[I", Cond.fieldLink RX0 44 "SpotAccount" "spotOrder" "[I", Cond.methodLink RX0 126 yX0_isInBreak, Cond.instanceMethod yX0_isInBreak, Cond.selects RX0 yX0_isInBreak yX0_isInBreak, Cond.code yX0_isInBreak cX0_isInBreak 2 (some .boolean), Cond.fieldLink RX0 50 "SpotAccount" "spotState" "[I", Cond.methodLink RX0 156 yX0_ratingFor, Cond.instanceMethod yX0_ratingFor, Cond.selects RX0 yX0_ratingFor yX0_ratingFor, Cond.code yX0_ratingFor cX0_ratingFor 3 (some .int), Cond.fieldLink RX0 17 "SpotAccount" "ratings" "[I", Cond.fieldLink RX0 26 "SpotAccount" "orderGroup" "[I"]
def wsX0_obstacle_r2 : List Cond := [Cond.methodLink RX0 80 yX0_ratingCell, Cond.static yX0_ratingCell, Cond.code yX0_ratingCell cX0_ratingCell 2 (some .int), Cond.methodLink RX0 159 yX0_holdsAdvertiser, Cond.instanceMethod yX0_holdsAdvertiser, Cond.selects RX0 yX0_holdsAdvertiser yX0_holdsAdvertiser, Cond.code yX0_holdsAdvertiser cX0_holdsAdvertiser 4 (some .boolean), Cond.methodLink RX0 163 yX0_holdsRival, Cond.instanceMethod yX0_holdsRival, Cond.selects RX0 yX0_holdsRival yX0_holdsRival, Cond.code yX0_holdsRival cX0_holdsRival 4 (some .boolean), Cond.methodLink RX0 166 yX0_areRivals, Cond.instanceMethod yX0_areRivals, Cond.selects RX0 yX0_areRivals yX0_areRivals, Cond.code yX0_areRivals cX0_areRivals 3 (some .boolean), Cond.fieldLink RX0 23 "SpotAccount" "orderCategory" "[I"]
def wsX0_obstacle : List Cond := .code yX0_obstacle cX0_obstacle 3 (some .int) :: ((wsX0_obstacle_r1 ++ wsX0_obstacle_r2) ++ wsX00)
def wsX0_whyNot_r1 : List Cond := [Cond.methodLink RX0 101 yX0_checkOrder, Cond.instanceMethod yX0_checkOrder, Cond.selects RX0 yX0_checkOrder yX0_checkOrder, Cond.initialized RX0, Cond.code yX0_checkOrder cX0_checkOrder 2 none, Cond.fieldLink RX0 98 "SpotAccount" "orderCount" "I", Cond.methodLink RX0 135 yX0_checkIndex, Cond.static yX0_checkIndex, Cond.code yX0_checkIndex cX0_checkIndex 2 none, Cond.classLink RX0 139 "java/lang/IndexOutOfBoundsException", Cond.initialized "java/lang/IndexOutOfBoundsException", Cond.methodLink RX0 71 yX0_checkBreak, Cond.instanceMethod yX0_checkBreak, Cond.selects RX0 yX0_checkBreak yX0_checkBreak, Cond.code yX0_checkBreak cX0_checkBreak 2 none, Cond.fieldLink RX0 64 "SpotAccount" "breakCount" "I", Cond.methodLink RX0 107 yX0_obstacle, Cond.instanceMethod yX0_obstacle, Cond.selects RX0 yX0_obstacle yX0_obstacle, Cond.code yX0_obstacle cX0_obstacle 3 (some .int), Cond.fieldLink RX0 13 "SpotAccount" "breakAired" "[Z", Cond.fieldLink RX0 29 "SpotAccount" "orderSeconds" "[I", Cond.fieldLink RX0 38 "SpotAccount" "orderFloor" "[I", Cond.fieldLink RX0 20 "SpotAccount" "orderAdvertiser" "[I"]
def wsX0_whyNot_r2 : List Cond := [Cond.methodLink RX0 87 yX0_secondsLeft, Cond.instanceMethod yX0_secondsLeft, Cond.selects RX0 yX0_secondsLeft yX0_secondsLeft, Cond.code yX0_secondsLeft cX0_secondsLeft 4 (some .int), Cond.fieldLink RX0 9 "SpotAccount" "breakSeconds" "[I", Cond.fieldLink RX0 84 "SpotAccount" "spotCount" "I", Cond.fieldLink RX0 47 "SpotAccount" "spotBreak" "[I", Cond.fieldLink RX0 44 "SpotAccount" "spotOrder" "[I", Cond.methodLink RX0 126 yX0_isInBreak, Cond.instanceMethod yX0_isInBreak, Cond.selects RX0 yX0_isInBreak yX0_isInBreak, Cond.code yX0_isInBreak cX0_isInBreak 2 (some .boolean), Cond.fieldLink RX0 50 "SpotAccount" "spotState" "[I", Cond.methodLink RX0 156 yX0_ratingFor, Cond.instanceMethod yX0_ratingFor, Cond.selects RX0 yX0_ratingFor yX0_ratingFor, Cond.code yX0_ratingFor cX0_ratingFor 3 (some .int), Cond.fieldLink RX0 17 "SpotAccount" "ratings" "[I", Cond.fieldLink RX0 26 "SpotAccount" "orderGroup" "[I", Cond.methodLink RX0 80 yX0_ratingCell, Cond.static yX0_ratingCell, Cond.code yX0_ratingCell cX0_ratingCell 2 (some .int), Cond.methodLink RX0 159 yX0_holdsAdvertiser, Cond.instanceMethod yX0_holdsAdvertiser]
def wsX0_whyNot_r3 : List Cond := [Cond.selects RX0 yX0_holdsAdvertiser yX0_holdsAdvertiser, Cond.code yX0_holdsAdvertiser cX0_holdsAdvertiser 4 (some .boolean), Cond.methodLink RX0 163 yX0_holdsRival, Cond.instanceMethod yX0_holdsRival, Cond.selects RX0 yX0_holdsRival yX0_holdsRival, Cond.code yX0_holdsRival cX0_holdsRival 4 (some .boolean), Cond.methodLink RX0 166 yX0_areRivals, Cond.instanceMethod yX0_areRivals, Cond.selects RX0 yX0_areRivals yX0_areRivals, Cond.code yX0_areRivals cX0_areRivals 3 (some .boolean), Cond.fieldLink RX0 23 "SpotAccount" "orderCategory" "[I"]
def wsX0_whyNot : List Cond := .code yX0_whyNot cX0_whyNot 3 (some .int) :: ((wsX0_whyNot_r1 ++ (wsX0_whyNot_r2 ++ wsX0_whyNot_r3)) ++ wsX00 ++ (vx_atS RX0 143 "java/lang/IndexOutOfBoundsException" ["java/lang/RuntimeException", "java/lang/Exception"]).filter goodWord)
def wsX0_addSpot : List Cond := .code yX0_addSpot cX0_addSpot 5 (some .int) :: ([.fieldLink RX0 84 "SpotAccount" "spotCount" "I", .fieldLink RX0 44 "SpotAccount" "spotOrder" "[I", .fieldLink RX0 47 "SpotAccount" "spotBreak" "[I", .fieldLink RX0 50 "SpotAccount" "spotState" "[I", .fieldLink RX0 53 "SpotAccount" "spotFree" "[Z"] ++ wsX00)
def wsX0_place_r1 : List Cond := [Cond.fieldLink RX0 41 "SpotAccount" "orderClosed" "[Z", Cond.fieldLink RX0 84 "SpotAccount" "spotCount" "I", Cond.methodLink RX0 101 yX0_checkOrder, Cond.instanceMethod yX0_checkOrder, Cond.selects RX0 yX0_checkOrder yX0_checkOrder, Cond.initialized RX0, Cond.code yX0_checkOrder cX0_checkOrder 2 none, Cond.fieldLink RX0 98 "SpotAccount" "orderCount" "I", Cond.methodLink RX0 135 yX0_checkIndex, Cond.static yX0_checkIndex, Cond.code yX0_checkIndex cX0_checkIndex 2 none, Cond.classLink RX0 139 "java/lang/IndexOutOfBoundsException", Cond.initialized "java/lang/IndexOutOfBoundsException", Cond.methodLink RX0 71 yX0_checkBreak, Cond.instanceMethod yX0_checkBreak, Cond.selects RX0 yX0_checkBreak yX0_checkBreak, Cond.code yX0_checkBreak cX0_checkBreak 2 none, Cond.fieldLink RX0 64 "SpotAccount" "breakCount" "I", Cond.methodLink RX0 68 yX0_checkState, Cond.static yX0_checkState, Cond.code yX0_checkState cX0_checkState 1 none, Cond.classLink RX0 151 "java/lang/IllegalStateException", Cond.initialized "java/lang/IllegalStateException", Cond.methodLink RX0 107 yX0_obstacle]
def wsX0_place_r2 : List Cond := [Cond.instanceMethod yX0_obstacle, Cond.selects RX0 yX0_obstacle yX0_obstacle, Cond.code yX0_obstacle cX0_obstacle 3 (some .int), Cond.fieldLink RX0 13 "SpotAccount" "breakAired" "[Z", Cond.fieldLink RX0 29 "SpotAccount" "orderSeconds" "[I", Cond.fieldLink RX0 38 "SpotAccount" "orderFloor" "[I", Cond.fieldLink RX0 20 "SpotAccount" "orderAdvertiser" "[I", Cond.methodLink RX0 87 yX0_secondsLeft, Cond.instanceMethod yX0_secondsLeft, Cond.selects RX0 yX0_secondsLeft yX0_secondsLeft, Cond.code yX0_secondsLeft cX0_secondsLeft 4 (some .int), Cond.fieldLink RX0 9 "SpotAccount" "breakSeconds" "[I", Cond.fieldLink RX0 47 "SpotAccount" "spotBreak" "[I", Cond.fieldLink RX0 44 "SpotAccount" "spotOrder" "[I", Cond.methodLink RX0 126 yX0_isInBreak, Cond.instanceMethod yX0_isInBreak, Cond.selects RX0 yX0_isInBreak yX0_isInBreak, Cond.code yX0_isInBreak cX0_isInBreak 2 (some .boolean), Cond.fieldLink RX0 50 "SpotAccount" "spotState" "[I", Cond.methodLink RX0 156 yX0_ratingFor, Cond.instanceMethod yX0_ratingFor, Cond.selects RX0 yX0_ratingFor yX0_ratingFor, Cond.code yX0_ratingFor cX0_ratingFor 3 (some .int), Cond.fieldLink RX0 17 "SpotAccount" "ratings" "[I"]
def wsX0_place_r3 : List Cond := [Cond.fieldLink RX0 26 "SpotAccount" "orderGroup" "[I", Cond.methodLink RX0 80 yX0_ratingCell, Cond.static yX0_ratingCell, Cond.code yX0_ratingCell cX0_ratingCell 2 (some .int), Cond.methodLink RX0 159 yX0_holdsAdvertiser, Cond.instanceMethod yX0_holdsAdvertiser, Cond.selects RX0 yX0_holdsAdvertiser yX0_holdsAdvertiser, Cond.code yX0_holdsAdvertiser cX0_holdsAdvertiser 4 (some .boolean), Cond.methodLink RX0 163 yX0_holdsRival, Cond.instanceMethod yX0_holdsRival, Cond.selects RX0 yX0_holdsRival yX0_holdsRival, Cond.code yX0_holdsRival cX0_holdsRival 4 (some .boolean), Cond.methodLink RX0 166 yX0_areRivals, Cond.instanceMethod yX0_areRivals, Cond.selects RX0 yX0_areRivals yX0_areRivals, Cond.code yX0_areRivals cX0_areRivals 3 (some .boolean), Cond.fieldLink RX0 23 "SpotAccount" "orderCategory" "[I", Cond.methodLink RX0 110 yX0_addSpot, Cond.instanceMethod yX0_addSpot, Cond.selects RX0 yX0_addSpot yX0_addSpot, Cond.code yX0_addSpot cX0_addSpot 5 (some .int), Cond.fieldLink RX0 53 "SpotAccount" "spotFree" "[Z"]
def wsX0_place : List Cond := .code yX0_place cX0_place 3 (some .int) :: ((wsX0_place_r1 ++ (wsX0_place_r2 ++ wsX0_place_r3)) ++ wsX00 ++ (vx_atS RX0 143 "java/lang/IndexOutOfBoundsException" ["java/lang/RuntimeException", "java/lang/Exception"]).filter goodWord ++ (vx_atS RX0 155 "java/lang/IllegalStateException" ["java/lang/RuntimeException", "java/lang/Exception"]).filter goodWord)
def wsX0_restOf_r1 : List Cond := [Cond.fieldLink RX0 84 "SpotAccount" "spotCount" "I", Cond.fieldLink RX0 44 "SpotAccount" "spotOrder" "[I", Cond.fieldLink RX0 53 "SpotAccount" "spotFree" "[Z", Cond.fieldLink RX0 50 "SpotAccount" "spotState" "[I", Cond.fieldLink RX0 47 "SpotAccount" "spotBreak" "[I", Cond.methodLink RX0 169 Lib.Math.max.name, Cond.static Lib.Math.max.name, Cond.initialized "java/lang/Math", Cond.code Lib.Math.max.name Lib.Math.max.code 2 (some .int), Cond.methodLink RX0 104 yX0_owedTo, Cond.instanceMethod yX0_owedTo, Cond.selects RX0 yX0_owedTo yX0_owedTo, Cond.initialized RX0, Cond.code yX0_owedTo cX0_owedTo 2 (some .int), Cond.fieldLink RX0 41 "SpotAccount" "orderClosed" "[Z", Cond.fieldLink RX0 35 "SpotAccount" "orderPromise" "[I", Cond.methodLink RX0 129 yX0_audience, Cond.instanceMethod yX0_audience, Cond.selects RX0 yX0_audience yX0_audience, Cond.code yX0_audience cX0_audience 5 (some .int), Cond.methodLink RX0 156 yX0_ratingFor, Cond.instanceMethod yX0_ratingFor, Cond.selects RX0 yX0_ratingFor yX0_ratingFor, Cond.code yX0_ratingFor cX0_ratingFor 3 (some .int)]
def wsX0_restOf_r2 : List Cond := [Cond.fieldLink RX0 17 "SpotAccount" "ratings" "[I", Cond.fieldLink RX0 26 "SpotAccount" "orderGroup" "[I", Cond.methodLink RX0 80 yX0_ratingCell, Cond.static yX0_ratingCell, Cond.code yX0_ratingCell cX0_ratingCell 2 (some .int)]
def wsX0_restOf : List Cond := .code yX0_restOf cX0_restOf 4 (some .int) :: ((wsX0_restOf_r1 ++ wsX0_restOf_r2) ++ wsX00)
def wsX0_give_r1 : List Cond := [Cond.fieldLink RX0 84 "SpotAccount" "spotCount" "I", Cond.methodLink RX0 101 yX0_checkOrder, Cond.instanceMethod yX0_checkOrder, Cond.selects RX0 yX0_checkOrder yX0_checkOrder, Cond.initialized RX0, Cond.code yX0_checkOrder cX0_checkOrder 2 none, Cond.fieldLink RX0 98 "SpotAccount" "orderCount" "I", Cond.methodLink RX0 135 yX0_checkIndex, Cond.static yX0_checkIndex, Cond.code yX0_checkIndex cX0_checkIndex 2 none, Cond.classLink RX0 139 "java/lang/IndexOutOfBoundsException", Cond.initialized "java/lang/IndexOutOfBoundsException", Cond.methodLink RX0 71 yX0_checkBreak, Cond.instanceMethod yX0_checkBreak, Cond.selects RX0 yX0_checkBreak yX0_checkBreak, Cond.code yX0_checkBreak cX0_checkBreak 2 none, Cond.fieldLink RX0 64 "SpotAccount" "breakCount" "I", Cond.methodLink RX0 114 yX0_restOf, Cond.instanceMethod yX0_restOf, Cond.selects RX0 yX0_restOf yX0_restOf, Cond.code yX0_restOf cX0_restOf 4 (some .int), Cond.fieldLink RX0 44 "SpotAccount" "spotOrder" "[I", Cond.fieldLink RX0 53 "SpotAccount" "spotFree" "[Z", Cond.fieldLink RX0 50 "SpotAccount" "spotState" "[I"]
def wsX0_give_r2 : List Cond := [Cond.fieldLink RX0 47 "SpotAccount" "spotBreak" "[I", Cond.methodLink RX0 169 Lib.Math.max.name, Cond.static Lib.Math.max.name, Cond.initialized "java/lang/Math", Cond.code Lib.Math.max.name Lib.Math.max.code 2 (some .int), Cond.methodLink RX0 104 yX0_owedTo, Cond.instanceMethod yX0_owedTo, Cond.selects RX0 yX0_owedTo yX0_owedTo, Cond.code yX0_owedTo cX0_owedTo 2 (some .int), Cond.fieldLink RX0 41 "SpotAccount" "orderClosed" "[Z", Cond.fieldLink RX0 35 "SpotAccount" "orderPromise" "[I", Cond.methodLink RX0 129 yX0_audience, Cond.instanceMethod yX0_audience, Cond.selects RX0 yX0_audience yX0_audience, Cond.code yX0_audience cX0_audience 5 (some .int), Cond.methodLink RX0 156 yX0_ratingFor, Cond.instanceMethod yX0_ratingFor, Cond.selects RX0 yX0_ratingFor yX0_ratingFor, Cond.code yX0_ratingFor cX0_ratingFor 3 (some .int), Cond.fieldLink RX0 17 "SpotAccount" "ratings" "[I", Cond.fieldLink RX0 26 "SpotAccount" "orderGroup" "[I", Cond.methodLink RX0 80 yX0_ratingCell, Cond.static yX0_ratingCell, Cond.code yX0_ratingCell cX0_ratingCell 2 (some .int)]
def wsX0_give_r3 : List Cond := [Cond.methodLink RX0 68 yX0_checkState, Cond.static yX0_checkState, Cond.code yX0_checkState cX0_checkState 1 none, Cond.classLink RX0 151 "java/lang/IllegalStateException", Cond.initialized "java/lang/IllegalStateException", Cond.methodLink RX0 107 yX0_obstacle, Cond.instanceMethod yX0_obstacle, Cond.selects RX0 yX0_obstacle yX0_obstacle, Cond.code yX0_obstacle cX0_obstacle 3 (some .int), Cond.fieldLink RX0 13 "SpotAccount" "breakAired" "[Z", Cond.fieldLink RX0 29 "SpotAccount" "orderSeconds" "[I", Cond.fieldLink RX0 38 "SpotAccount" "orderFloor" "[I", Cond.fieldLink RX0 20 "SpotAccount" "orderAdvertiser" "[I", Cond.methodLink RX0 87 yX0_secondsLeft, Cond.instanceMethod yX0_secondsLeft, Cond.selects RX0 yX0_secondsLeft yX0_secondsLeft, Cond.code yX0_secondsLeft cX0_secondsLeft 4 (some .int), Cond.fieldLink RX0 9 "SpotAccount" "breakSeconds" "[I", Cond.methodLink RX0 126 yX0_isInBreak, Cond.instanceMethod yX0_isInBreak, Cond.selects RX0 yX0_isInBreak yX0_isInBreak, Cond.code yX0_isInBreak cX0_isInBreak 2 (some .boolean), Cond.methodLink RX0 159 yX0_holdsAdvertiser, Cond.instanceMethod yX0_holdsAdvertiser]
def wsX0_give_r4 : List Cond := [Cond.selects RX0 yX0_holdsAdvertiser yX0_holdsAdvertiser, Cond.code yX0_holdsAdvertiser cX0_holdsAdvertiser 4 (some .boolean), Cond.methodLink RX0 163 yX0_holdsRival, Cond.instanceMethod yX0_holdsRival, Cond.selects RX0 yX0_holdsRival yX0_holdsRival, Cond.code yX0_holdsRival cX0_holdsRival 4 (some .boolean), Cond.methodLink RX0 166 yX0_areRivals, Cond.instanceMethod yX0_areRivals, Cond.selects RX0 yX0_areRivals yX0_areRivals, Cond.code yX0_areRivals cX0_areRivals 3 (some .boolean), Cond.fieldLink RX0 23 "SpotAccount" "orderCategory" "[I", Cond.methodLink RX0 110 yX0_addSpot, Cond.instanceMethod yX0_addSpot, Cond.selects RX0 yX0_addSpot yX0_addSpot, Cond.code yX0_addSpot cX0_addSpot 5 (some .int)]
def wsX0_give : List Cond := .code yX0_give cX0_give 3 (some .int) :: ((wsX0_give_r1 ++ (wsX0_give_r2 ++ (wsX0_give_r3 ++ wsX0_give_r4))) ++ wsX00 ++ (vx_atS RX0 143 "java/lang/IndexOutOfBoundsException" ["java/lang/RuntimeException", "java/lang/Exception"]).filter goodWord ++ (vx_atS RX0 155 "java/lang/IllegalStateException" ["java/lang/RuntimeException", "java/lang/Exception"]).filter goodWord)
def wsX0_isShortOfPromise : List Cond := .code yX0_isShortOfPromise cX0_isShortOfPromise 2 (some .boolean) :: ([.fieldLink RX0 35 "SpotAccount" "orderPromise" "[I", .methodLink RX0 129 yX0_audience, .instanceMethod yX0_audience, .selects RX0 yX0_audience yX0_audience, .initialized RX0, .code yX0_audience cX0_audience 5 (some .int), .fieldLink RX0 84 "SpotAccount" "spotCount" "I", .fieldLink RX0 44 "SpotAccount" "spotOrder" "[I", .fieldLink RX0 50 "SpotAccount" "spotState" "[I", .fieldLink RX0 47 "SpotAccount" "spotBreak" "[I", .methodLink RX0 156 yX0_ratingFor, .instanceMethod yX0_ratingFor, .selects RX0 yX0_ratingFor yX0_ratingFor, .code yX0_ratingFor cX0_ratingFor 3 (some .int), .fieldLink RX0 17 "SpotAccount" "ratings" "[I", .fieldLink RX0 26 "SpotAccount" "orderGroup" "[I", .methodLink RX0 80 yX0_ratingCell, .static yX0_ratingCell, .code yX0_ratingCell cX0_ratingCell 2 (some .int)] ++ wsX00)
def wsX0_bestBreak_r1 : List Cond := [Cond.fieldLink RX0 64 "SpotAccount" "breakCount" "I", Cond.methodLink RX0 156 yX0_ratingFor, Cond.instanceMethod yX0_ratingFor, Cond.selects RX0 yX0_ratingFor yX0_ratingFor, Cond.initialized RX0, Cond.code yX0_ratingFor cX0_ratingFor 3 (some .int), Cond.fieldLink RX0 17 "SpotAccount" "ratings" "[I", Cond.fieldLink RX0 26 "SpotAccount" "orderGroup" "[I", Cond.methodLink RX0 80 yX0_ratingCell, Cond.static yX0_ratingCell, Cond.code yX0_ratingCell cX0_ratingCell 2 (some .int), Cond.methodLink RX0 107 yX0_obstacle, Cond.instanceMethod yX0_obstacle, Cond.selects RX0 yX0_obstacle yX0_obstacle, Cond.code yX0_obstacle cX0_obstacle 3 (some .int), Cond.fieldLink RX0 13 "SpotAccount" "breakAired" "[Z", Cond.fieldLink RX0 29 "SpotAccount" "orderSeconds" "[I", Cond.fieldLink RX0 38 "SpotAccount" "orderFloor" "[I", Cond.fieldLink RX0 20 "SpotAccount" "orderAdvertiser" "[I", Cond.methodLink RX0 87 yX0_secondsLeft, Cond.instanceMethod yX0_secondsLeft, Cond.selects RX0 yX0_secondsLeft yX0_secondsLeft, Cond.code yX0_secondsLeft cX0_secondsLeft 4 (some .int), Cond.fieldLink RX0 9 "SpotAccount" "breakSeconds" "[I"]
def wsX0_bestBreak_r2 : List Cond := [Cond.fieldLink RX0 84 "SpotAccount" "spotCount" "I", Cond.fieldLink RX0 47 "SpotAccount" "spotBreak" "[I", Cond.fieldLink RX0 44 "SpotAccount" "spotOrder" "[I", Cond.methodLink RX0 126 yX0_isInBreak, Cond.instanceMethod yX0_isInBreak, Cond.selects RX0 yX0_isInBreak yX0_isInBreak, Cond.code yX0_isInBreak cX0_isInBreak 2 (some .boolean), Cond.fieldLink RX0 50 "SpotAccount" "spotState" "[I", Cond.methodLink RX0 159 yX0_holdsAdvertiser, Cond.instanceMethod yX0_holdsAdvertiser, Cond.selects RX0 yX0_holdsAdvertiser yX0_holdsAdvertiser, Cond.code yX0_holdsAdvertiser cX0_holdsAdvertiser 4 (some .boolean), Cond.methodLink RX0 163 yX0_holdsRival, Cond.instanceMethod yX0_holdsRival, Cond.selects RX0 yX0_holdsRival yX0_holdsRival, Cond.code yX0_holdsRival cX0_holdsRival 4 (some .boolean), Cond.methodLink RX0 166 yX0_areRivals, Cond.instanceMethod yX0_areRivals, Cond.selects RX0 yX0_areRivals yX0_areRivals, Cond.code yX0_areRivals cX0_areRivals 3 (some .boolean), Cond.fieldLink RX0 23 "SpotAccount" "orderCategory" "[I"]
def wsX0_bestBreak : List Cond := .code yX0_bestBreak cX0_bestBreak 6 (some .int) :: ((wsX0_bestBreak_r1 ++ wsX0_bestBreak_r2) ++ wsX00)
def wsX0_fill_r1 : List Cond := [Cond.fieldLink RX0 41 "SpotAccount" "orderClosed" "[Z", Cond.fieldLink RX0 84 "SpotAccount" "spotCount" "I", Cond.methodLink RX0 101 yX0_checkOrder, Cond.instanceMethod yX0_checkOrder, Cond.selects RX0 yX0_checkOrder yX0_checkOrder, Cond.initialized RX0, Cond.code yX0_checkOrder cX0_checkOrder 2 none, Cond.fieldLink RX0 98 "SpotAccount" "orderCount" "I", Cond.methodLink RX0 135 yX0_checkIndex, Cond.static yX0_checkIndex, Cond.code yX0_checkIndex cX0_checkIndex 2 none, Cond.classLink RX0 139 "java/lang/IndexOutOfBoundsException", Cond.initialized "java/lang/IndexOutOfBoundsException", Cond.methodLink RX0 56 yX0_isWithin, Cond.static yX0_isWithin, Cond.code yX0_isWithin cX0_isWithin 3 (some .boolean), Cond.methodLink RX0 60 yX0_checkArgument, Cond.static yX0_checkArgument, Cond.code yX0_checkArgument cX0_checkArgument 1 none, Cond.classLink RX0 146 "java/lang/IllegalArgumentException", Cond.initialized "java/lang/IllegalArgumentException", Cond.methodLink RX0 68 yX0_checkState, Cond.static yX0_checkState, Cond.code yX0_checkState cX0_checkState 1 none]
def wsX0_fill_r2 : List Cond := [Cond.classLink RX0 151 "java/lang/IllegalStateException", Cond.initialized "java/lang/IllegalStateException", Cond.methodLink RX0 117 yX0_isShortOfPromise, Cond.instanceMethod yX0_isShortOfPromise, Cond.selects RX0 yX0_isShortOfPromise yX0_isShortOfPromise, Cond.code yX0_isShortOfPromise cX0_isShortOfPromise 2 (some .boolean), Cond.fieldLink RX0 35 "SpotAccount" "orderPromise" "[I", Cond.methodLink RX0 129 yX0_audience, Cond.instanceMethod yX0_audience, Cond.selects RX0 yX0_audience yX0_audience, Cond.code yX0_audience cX0_audience 5 (some .int), Cond.fieldLink RX0 44 "SpotAccount" "spotOrder" "[I", Cond.fieldLink RX0 50 "SpotAccount" "spotState" "[I", Cond.fieldLink RX0 47 "SpotAccount" "spotBreak" "[I", Cond.methodLink RX0 156 yX0_ratingFor, Cond.instanceMethod yX0_ratingFor, Cond.selects RX0 yX0_ratingFor yX0_ratingFor, Cond.code yX0_ratingFor cX0_ratingFor 3 (some .int), Cond.fieldLink RX0 17 "SpotAccount" "ratings" "[I", Cond.fieldLink RX0 26 "SpotAccount" "orderGroup" "[I", Cond.methodLink RX0 80 yX0_ratingCell, Cond.static yX0_ratingCell, Cond.code yX0_ratingCell cX0_ratingCell 2 (some .int), Cond.methodLink RX0 120 yX0_bestBreak]
def wsX0_fill_r3 : List Cond := [Cond.instanceMethod yX0_bestBreak, Cond.selects RX0 yX0_bestBreak yX0_bestBreak, Cond.code yX0_bestBreak cX0_bestBreak 6 (some .int), Cond.fieldLink RX0 64 "SpotAccount" "breakCount" "I", Cond.methodLink RX0 107 yX0_obstacle, Cond.instanceMethod yX0_obstacle, Cond.selects RX0 yX0_obstacle yX0_obstacle, Cond.code yX0_obstacle cX0_obstacle 3 (some .int), Cond.fieldLink RX0 13 "SpotAccount" "breakAired" "[Z", Cond.fieldLink RX0 29 "SpotAccount" "orderSeconds" "[I", Cond.fieldLink RX0 38 "SpotAccount" "orderFloor" "[I", Cond.fieldLink RX0 20 "SpotAccount" "orderAdvertiser" "[I", Cond.methodLink RX0 87 yX0_secondsLeft, Cond.instanceMethod yX0_secondsLeft, Cond.selects RX0 yX0_secondsLeft yX0_secondsLeft, Cond.code yX0_secondsLeft cX0_secondsLeft 4 (some .int), Cond.fieldLink RX0 9 "SpotAccount" "breakSeconds" "[I", Cond.methodLink RX0 126 yX0_isInBreak, Cond.instanceMethod yX0_isInBreak, Cond.selects RX0 yX0_isInBreak yX0_isInBreak, Cond.code yX0_isInBreak cX0_isInBreak 2 (some .boolean), Cond.methodLink RX0 159 yX0_holdsAdvertiser, Cond.instanceMethod yX0_holdsAdvertiser, Cond.selects RX0 yX0_holdsAdvertiser yX0_holdsAdvertiser]
def wsX0_fill_r4 : List Cond := [Cond.code yX0_holdsAdvertiser cX0_holdsAdvertiser 4 (some .boolean), Cond.methodLink RX0 163 yX0_holdsRival, Cond.instanceMethod yX0_holdsRival, Cond.selects RX0 yX0_holdsRival yX0_holdsRival, Cond.code yX0_holdsRival cX0_holdsRival 4 (some .boolean), Cond.methodLink RX0 166 yX0_areRivals, Cond.instanceMethod yX0_areRivals, Cond.selects RX0 yX0_areRivals yX0_areRivals, Cond.code yX0_areRivals cX0_areRivals 3 (some .boolean), Cond.fieldLink RX0 23 "SpotAccount" "orderCategory" "[I", Cond.methodLink RX0 110 yX0_addSpot, Cond.instanceMethod yX0_addSpot, Cond.selects RX0 yX0_addSpot yX0_addSpot, Cond.code yX0_addSpot cX0_addSpot 5 (some .int), Cond.fieldLink RX0 53 "SpotAccount" "spotFree" "[Z"]
def wsX0_fill : List Cond := .code yX0_fill cX0_fill 5 (some .int) :: ((wsX0_fill_r1 ++ (wsX0_fill_r2 ++ (wsX0_fill_r3 ++ wsX0_fill_r4))) ++ wsX00 ++ (vx_atS RX0 143 "java/lang/IndexOutOfBoundsException" ["java/lang/RuntimeException", "java/lang/Exception"]).filter goodWord ++ (vx_atS RX0 150 "java/lang/IllegalArgumentException" ["java/lang/RuntimeException", "java/lang/Exception"]).filter goodWord ++ (vx_atS RX0 155 "java/lang/IllegalStateException" ["java/lang/RuntimeException", "java/lang/Exception"]).filter goodWord)
def wsX0_checkSpot : List Cond := .code yX0_checkSpot cX0_checkSpot 2 none :: ([.fieldLink RX0 84 "SpotAccount" "spotCount" "I", .methodLink RX0 135 yX0_checkIndex, .static yX0_checkIndex, .initialized RX0, .code yX0_checkIndex cX0_checkIndex 2 none, .classLink RX0 139 "java/lang/IndexOutOfBoundsException", .initialized "java/lang/IndexOutOfBoundsException"] ++ wsX00 ++ (vx_atS RX0 143 "java/lang/IndexOutOfBoundsException" ["java/lang/RuntimeException", "java/lang/Exception"]).filter goodWord)
def wsX0_move_r1 : List Cond := [Cond.fieldLink RX0 50 "SpotAccount" "spotState" "[I", Cond.fieldLink RX0 47 "SpotAccount" "spotBreak" "[I", Cond.fieldLink RX0 44 "SpotAccount" "spotOrder" "[I", Cond.methodLink RX0 123 yX0_checkSpot, Cond.instanceMethod yX0_checkSpot, Cond.selects RX0 yX0_checkSpot yX0_checkSpot, Cond.initialized RX0, Cond.code yX0_checkSpot cX0_checkSpot 2 none, Cond.fieldLink RX0 84 "SpotAccount" "spotCount" "I", Cond.methodLink RX0 135 yX0_checkIndex, Cond.static yX0_checkIndex, Cond.code yX0_checkIndex cX0_checkIndex 2 none, Cond.classLink RX0 139 "java/lang/IndexOutOfBoundsException", Cond.initialized "java/lang/IndexOutOfBoundsException", Cond.methodLink RX0 71 yX0_checkBreak, Cond.instanceMethod yX0_checkBreak, Cond.selects RX0 yX0_checkBreak yX0_checkBreak, Cond.code yX0_checkBreak cX0_checkBreak 2 none, Cond.fieldLink RX0 64 "SpotAccount" "breakCount" "I", Cond.methodLink RX0 68 yX0_checkState, Cond.static yX0_checkState, Cond.code yX0_checkState cX0_checkState 1 none, Cond.classLink RX0 151 "java/lang/IllegalStateException", Cond.initialized "java/lang/IllegalStateException"]
def wsX0_move_r2 : List Cond := [Cond.methodLink RX0 107 yX0_obstacle, Cond.instanceMethod yX0_obstacle, Cond.selects RX0 yX0_obstacle yX0_obstacle, Cond.code yX0_obstacle cX0_obstacle 3 (some .int), Cond.fieldLink RX0 13 "SpotAccount" "breakAired" "[Z", Cond.fieldLink RX0 29 "SpotAccount" "orderSeconds" "[I", Cond.fieldLink RX0 38 "SpotAccount" "orderFloor" "[I", Cond.fieldLink RX0 20 "SpotAccount" "orderAdvertiser" "[I", Cond.methodLink RX0 87 yX0_secondsLeft, Cond.instanceMethod yX0_secondsLeft, Cond.selects RX0 yX0_secondsLeft yX0_secondsLeft, Cond.code yX0_secondsLeft cX0_secondsLeft 4 (some .int), Cond.fieldLink RX0 9 "SpotAccount" "breakSeconds" "[I", Cond.methodLink RX0 126 yX0_isInBreak, Cond.instanceMethod yX0_isInBreak, Cond.selects RX0 yX0_isInBreak yX0_isInBreak, Cond.code yX0_isInBreak cX0_isInBreak 2 (some .boolean), Cond.methodLink RX0 156 yX0_ratingFor, Cond.instanceMethod yX0_ratingFor, Cond.selects RX0 yX0_ratingFor yX0_ratingFor, Cond.code yX0_ratingFor cX0_ratingFor 3 (some .int), Cond.fieldLink RX0 17 "SpotAccount" "ratings" "[I", Cond.fieldLink RX0 26 "SpotAccount" "orderGroup" "[I", Cond.methodLink RX0 80 yX0_ratingCell]
def wsX0_move_r3 : List Cond := [Cond.static yX0_ratingCell, Cond.code yX0_ratingCell cX0_ratingCell 2 (some .int), Cond.methodLink RX0 159 yX0_holdsAdvertiser, Cond.instanceMethod yX0_holdsAdvertiser, Cond.selects RX0 yX0_holdsAdvertiser yX0_holdsAdvertiser, Cond.code yX0_holdsAdvertiser cX0_holdsAdvertiser 4 (some .boolean), Cond.methodLink RX0 163 yX0_holdsRival, Cond.instanceMethod yX0_holdsRival, Cond.selects RX0 yX0_holdsRival yX0_holdsRival, Cond.code yX0_holdsRival cX0_holdsRival 4 (some .boolean), Cond.methodLink RX0 166 yX0_areRivals, Cond.instanceMethod yX0_areRivals, Cond.selects RX0 yX0_areRivals yX0_areRivals, Cond.code yX0_areRivals cX0_areRivals 3 (some .boolean), Cond.fieldLink RX0 23 "SpotAccount" "orderCategory" "[I"]
def wsX0_move : List Cond := .code yX0_move cX0_move 4 (some .int) :: ((wsX0_move_r1 ++ (wsX0_move_r2 ++ wsX0_move_r3)) ++ wsX00 ++ (vx_atS RX0 143 "java/lang/IndexOutOfBoundsException" ["java/lang/RuntimeException", "java/lang/Exception"]).filter goodWord ++ (vx_atS RX0 155 "java/lang/IllegalStateException" ["java/lang/RuntimeException", "java/lang/Exception"]).filter goodWord)
def wsX0_miss : List Cond := .code yX0_miss cX0_miss 3 (some .boolean) :: ([.fieldLink RX0 50 "SpotAccount" "spotState" "[I", .methodLink RX0 123 yX0_checkSpot, .instanceMethod yX0_checkSpot, .selects RX0 yX0_checkSpot yX0_checkSpot, .initialized RX0, .code yX0_checkSpot cX0_checkSpot 2 none, .fieldLink RX0 84 "SpotAccount" "spotCount" "I", .methodLink RX0 135 yX0_checkIndex, .static yX0_checkIndex, .code yX0_checkIndex cX0_checkIndex 2 none, .classLink RX0 139 "java/lang/IndexOutOfBoundsException", .initialized "java/lang/IndexOutOfBoundsException", .methodLink RX0 126 yX0_isInBreak, .instanceMethod yX0_isInBreak, .selects RX0 yX0_isInBreak yX0_isInBreak, .code yX0_isInBreak cX0_isInBreak 2 (some .boolean), .methodLink RX0 68 yX0_checkState, .static yX0_checkState, .code yX0_checkState cX0_checkState 1 none, .classLink RX0 151 "java/lang/IllegalStateException", .initialized "java/lang/IllegalStateException"] ++ wsX00 ++ (vx_atS RX0 143 "java/lang/IndexOutOfBoundsException" ["java/lang/RuntimeException", "java/lang/Exception"]).filter goodWord ++ (vx_atS RX0 155 "java/lang/IllegalStateException" ["java/lang/RuntimeException", "java/lang/Exception"]).filter goodWord)
def wsX0_drop : List Cond := .code yX0_drop cX0_drop 2 none :: ([.fieldLink RX0 50 "SpotAccount" "spotState" "[I", .methodLink RX0 123 yX0_checkSpot, .instanceMethod yX0_checkSpot, .selects RX0 yX0_checkSpot yX0_checkSpot, .initialized RX0, .code yX0_checkSpot cX0_checkSpot 2 none, .fieldLink RX0 84 "SpotAccount" "spotCount" "I", .methodLink RX0 135 yX0_checkIndex, .static yX0_checkIndex, .code yX0_checkIndex cX0_checkIndex 2 none, .classLink RX0 139 "java/lang/IndexOutOfBoundsException", .initialized "java/lang/IndexOutOfBoundsException", .methodLink RX0 68 yX0_checkState, .static yX0_checkState, .code yX0_checkState cX0_checkState 1 none, .classLink RX0 151 "java/lang/IllegalStateException", .initialized "java/lang/IllegalStateException"] ++ wsX00 ++ (vx_atS RX0 143 "java/lang/IndexOutOfBoundsException" ["java/lang/RuntimeException", "java/lang/Exception"]).filter goodWord ++ (vx_atS RX0 155 "java/lang/IllegalStateException" ["java/lang/RuntimeException", "java/lang/Exception"]).filter goodWord)
def wsX0_spots : List Cond := .code yX0_spots cX0_spots 1 (some .int) :: ([.fieldLink RX0 84 "SpotAccount" "spotCount" "I"] ++ wsX00)
def wsX0_stateOf : List Cond := .code yX0_stateOf cX0_stateOf 2 (some .int) :: ([.fieldLink RX0 50 "SpotAccount" "spotState" "[I", .methodLink RX0 123 yX0_checkSpot, .instanceMethod yX0_checkSpot, .selects RX0 yX0_checkSpot yX0_checkSpot, .initialized RX0, .code yX0_checkSpot cX0_checkSpot 2 none, .fieldLink RX0 84 "SpotAccount" "spotCount" "I", .methodLink RX0 135 yX0_checkIndex, .static yX0_checkIndex, .code yX0_checkIndex cX0_checkIndex 2 none, .classLink RX0 139 "java/lang/IndexOutOfBoundsException", .initialized "java/lang/IndexOutOfBoundsException"] ++ wsX00 ++ (vx_atS RX0 143 "java/lang/IndexOutOfBoundsException" ["java/lang/RuntimeException", "java/lang/Exception"]).filter goodWord)
def wsX0_breakOf : List Cond := .code yX0_breakOf cX0_breakOf 2 (some .int) :: ([.fieldLink RX0 47 "SpotAccount" "spotBreak" "[I", .methodLink RX0 123 yX0_checkSpot, .instanceMethod yX0_checkSpot, .selects RX0 yX0_checkSpot yX0_checkSpot, .initialized RX0, .code yX0_checkSpot cX0_checkSpot 2 none, .fieldLink RX0 84 "SpotAccount" "spotCount" "I", .methodLink RX0 135 yX0_checkIndex, .static yX0_checkIndex, .code yX0_checkIndex cX0_checkIndex 2 none, .classLink RX0 139 "java/lang/IndexOutOfBoundsException", .initialized "java/lang/IndexOutOfBoundsException"] ++ wsX00 ++ (vx_atS RX0 143 "java/lang/IndexOutOfBoundsException" ["java/lang/RuntimeException", "java/lang/Exception"]).filter goodWord)
def wsX0_delivered_r1 : List Cond := [Cond.methodLink RX0 101 yX0_checkOrder, Cond.instanceMethod yX0_checkOrder, Cond.selects RX0 yX0_checkOrder yX0_checkOrder, Cond.initialized RX0, Cond.code yX0_checkOrder cX0_checkOrder 2 none, Cond.fieldLink RX0 98 "SpotAccount" "orderCount" "I", Cond.methodLink RX0 135 yX0_checkIndex, Cond.static yX0_checkIndex, Cond.code yX0_checkIndex cX0_checkIndex 2 none, Cond.classLink RX0 139 "java/lang/IndexOutOfBoundsException", Cond.initialized "java/lang/IndexOutOfBoundsException", Cond.methodLink RX0 129 yX0_audience, Cond.instanceMethod yX0_audience, Cond.selects RX0 yX0_audience yX0_audience, Cond.code yX0_audience cX0_audience 5 (some .int), Cond.fieldLink RX0 84 "SpotAccount" "spotCount" "I", Cond.fieldLink RX0 44 "SpotAccount" "spotOrder" "[I", Cond.fieldLink RX0 50 "SpotAccount" "spotState" "[I", Cond.fieldLink RX0 47 "SpotAccount" "spotBreak" "[I", Cond.methodLink RX0 156 yX0_ratingFor, Cond.instanceMethod yX0_ratingFor, Cond.selects RX0 yX0_ratingFor yX0_ratingFor, Cond.code yX0_ratingFor cX0_ratingFor 3 (some .int), Cond.fieldLink RX0 17 "SpotAccount" "ratings" "[I"]
def wsX0_delivered_r2 : List Cond := [Cond.fieldLink RX0 26 "SpotAccount" "orderGroup" "[I", Cond.methodLink RX0 80 yX0_ratingCell, Cond.static yX0_ratingCell, Cond.code yX0_ratingCell cX0_ratingCell 2 (some .int)]
def wsX0_delivered : List Cond := .code yX0_delivered cX0_delivered 2 (some .int) :: ((wsX0_delivered_r1 ++ wsX0_delivered_r2) ++ wsX00 ++ (vx_atS RX0 143 "java/lang/IndexOutOfBoundsException" ["java/lang/RuntimeException", "java/lang/Exception"]).filter goodWord)
def wsX0_owed_r1 : List Cond := [Cond.methodLink RX0 101 yX0_checkOrder, Cond.instanceMethod yX0_checkOrder, Cond.selects RX0 yX0_checkOrder yX0_checkOrder, Cond.initialized RX0, Cond.code yX0_checkOrder cX0_checkOrder 2 none, Cond.fieldLink RX0 98 "SpotAccount" "orderCount" "I", Cond.methodLink RX0 135 yX0_checkIndex, Cond.static yX0_checkIndex, Cond.code yX0_checkIndex cX0_checkIndex 2 none, Cond.classLink RX0 139 "java/lang/IndexOutOfBoundsException", Cond.initialized "java/lang/IndexOutOfBoundsException", Cond.methodLink RX0 104 yX0_owedTo, Cond.instanceMethod yX0_owedTo, Cond.selects RX0 yX0_owedTo yX0_owedTo, Cond.code yX0_owedTo cX0_owedTo 2 (some .int), Cond.fieldLink RX0 41 "SpotAccount" "orderClosed" "[Z", Cond.fieldLink RX0 35 "SpotAccount" "orderPromise" "[I", Cond.methodLink RX0 169 Lib.Math.max.name, Cond.static Lib.Math.max.name, Cond.initialized "java/lang/Math", Cond.code Lib.Math.max.name Lib.Math.max.code 2 (some .int), Cond.methodLink RX0 129 yX0_audience, Cond.instanceMethod yX0_audience, Cond.selects RX0 yX0_audience yX0_audience]
def wsX0_owed_r2 : List Cond := [Cond.code yX0_audience cX0_audience 5 (some .int), Cond.fieldLink RX0 84 "SpotAccount" "spotCount" "I", Cond.fieldLink RX0 44 "SpotAccount" "spotOrder" "[I", Cond.fieldLink RX0 50 "SpotAccount" "spotState" "[I", Cond.fieldLink RX0 47 "SpotAccount" "spotBreak" "[I", Cond.methodLink RX0 156 yX0_ratingFor, Cond.instanceMethod yX0_ratingFor, Cond.selects RX0 yX0_ratingFor yX0_ratingFor, Cond.code yX0_ratingFor cX0_ratingFor 3 (some .int), Cond.fieldLink RX0 17 "SpotAccount" "ratings" "[I", Cond.fieldLink RX0 26 "SpotAccount" "orderGroup" "[I", Cond.methodLink RX0 80 yX0_ratingCell, Cond.static yX0_ratingCell, Cond.code yX0_ratingCell cX0_ratingCell 2 (some .int)]
def wsX0_owed : List Cond := .code yX0_owed cX0_owed 2 (some .int) :: ((wsX0_owed_r1 ++ wsX0_owed_r2) ++ wsX00 ++ (vx_atS RX0 143 "java/lang/IndexOutOfBoundsException" ["java/lang/RuntimeException", "java/lang/Exception"]).filter goodWord)
def wsX0_rest_r1 : List Cond := [Cond.methodLink RX0 101 yX0_checkOrder, Cond.instanceMethod yX0_checkOrder, Cond.selects RX0 yX0_checkOrder yX0_checkOrder, Cond.initialized RX0, Cond.code yX0_checkOrder cX0_checkOrder 2 none, Cond.fieldLink RX0 98 "SpotAccount" "orderCount" "I", Cond.methodLink RX0 135 yX0_checkIndex, Cond.static yX0_checkIndex, Cond.code yX0_checkIndex cX0_checkIndex 2 none, Cond.classLink RX0 139 "java/lang/IndexOutOfBoundsException", Cond.initialized "java/lang/IndexOutOfBoundsException", Cond.methodLink RX0 114 yX0_restOf, Cond.instanceMethod yX0_restOf, Cond.selects RX0 yX0_restOf yX0_restOf, Cond.code yX0_restOf cX0_restOf 4 (some .int), Cond.fieldLink RX0 84 "SpotAccount" "spotCount" "I", Cond.fieldLink RX0 44 "SpotAccount" "spotOrder" "[I", Cond.fieldLink RX0 53 "SpotAccount" "spotFree" "[Z", Cond.fieldLink RX0 50 "SpotAccount" "spotState" "[I", Cond.fieldLink RX0 47 "SpotAccount" "spotBreak" "[I", Cond.methodLink RX0 169 Lib.Math.max.name, Cond.static Lib.Math.max.name, Cond.initialized "java/lang/Math", Cond.code Lib.Math.max.name Lib.Math.max.code 2 (some .int)]
def wsX0_rest_r2 : List Cond := [Cond.methodLink RX0 104 yX0_owedTo, Cond.instanceMethod yX0_owedTo, Cond.selects RX0 yX0_owedTo yX0_owedTo, Cond.code yX0_owedTo cX0_owedTo 2 (some .int), Cond.fieldLink RX0 41 "SpotAccount" "orderClosed" "[Z", Cond.fieldLink RX0 35 "SpotAccount" "orderPromise" "[I", Cond.methodLink RX0 129 yX0_audience, Cond.instanceMethod yX0_audience, Cond.selects RX0 yX0_audience yX0_audience, Cond.code yX0_audience cX0_audience 5 (some .int), Cond.methodLink RX0 156 yX0_ratingFor, Cond.instanceMethod yX0_ratingFor, Cond.selects RX0 yX0_ratingFor yX0_ratingFor, Cond.code yX0_ratingFor cX0_ratingFor 3 (some .int), Cond.fieldLink RX0 17 "SpotAccount" "ratings" "[I", Cond.fieldLink RX0 26 "SpotAccount" "orderGroup" "[I", Cond.methodLink RX0 80 yX0_ratingCell, Cond.static yX0_ratingCell, Cond.code yX0_ratingCell cX0_ratingCell 2 (some .int)]
def wsX0_rest : List Cond := .code yX0_rest cX0_rest 2 (some .int) :: ((wsX0_rest_r1 ++ wsX0_rest_r2) ++ wsX00 ++ (vx_atS RX0 143 "java/lang/IndexOutOfBoundsException" ["java/lang/RuntimeException", "java/lang/Exception"]).filter goodWord)
def wsX0_billOf : List Cond := .code yX0_billOf cX0_billOf 4 (some .int) :: ([.fieldLink RX0 84 "SpotAccount" "spotCount" "I", .fieldLink RX0 44 "SpotAccount" "spotOrder" "[I", .fieldLink RX0 53 "SpotAccount" "spotFree" "[Z", .fieldLink RX0 50 "SpotAccount" "spotState" "[I", .fieldLink RX0 32 "SpotAccount" "orderPrice" "[I"] ++ wsX00)
def wsX0_bill : List Cond := .code yX0_bill cX0_bill 2 (some .int) :: ([.methodLink RX0 101 yX0_checkOrder, .instanceMethod yX0_checkOrder, .selects RX0 yX0_checkOrder yX0_checkOrder, .initialized RX0, .code yX0_checkOrder cX0_checkOrder 2 none, .fieldLink RX0 98 "SpotAccount" "orderCount" "I", .methodLink RX0 135 yX0_checkIndex, .static yX0_checkIndex, .code yX0_checkIndex cX0_checkIndex 2 none, .classLink RX0 139 "java/lang/IndexOutOfBoundsException", .initialized "java/lang/IndexOutOfBoundsException", .methodLink RX0 132 yX0_billOf, .instanceMethod yX0_billOf, .selects RX0 yX0_billOf yX0_billOf, .code yX0_billOf cX0_billOf 4 (some .int), .fieldLink RX0 84 "SpotAccount" "spotCount" "I", .fieldLink RX0 44 "SpotAccount" "spotOrder" "[I", .fieldLink RX0 53 "SpotAccount" "spotFree" "[Z", .fieldLink RX0 50 "SpotAccount" "spotState" "[I", .fieldLink RX0 32 "SpotAccount" "orderPrice" "[I"] ++ wsX00 ++ (vx_atS RX0 143 "java/lang/IndexOutOfBoundsException" ["java/lang/RuntimeException", "java/lang/Exception"]).filter goodWord)
def wsX0_billTo : List Cond := .code yX0_billTo cX0_billTo 4 (some .int) :: ([.fieldLink RX0 98 "SpotAccount" "orderCount" "I", .fieldLink RX0 20 "SpotAccount" "orderAdvertiser" "[I", .methodLink RX0 91 yX0_isAdvertiser, .static yX0_isAdvertiser, .initialized RX0, .code yX0_isAdvertiser cX0_isAdvertiser 1 (some .boolean), .methodLink RX0 56 yX0_isWithin, .static yX0_isWithin, .code yX0_isWithin cX0_isWithin 3 (some .boolean), .methodLink RX0 60 yX0_checkArgument, .static yX0_checkArgument, .code yX0_checkArgument cX0_checkArgument 1 none, .classLink RX0 146 "java/lang/IllegalArgumentException", .initialized "java/lang/IllegalArgumentException", .methodLink RX0 132 yX0_billOf, .instanceMethod yX0_billOf, .selects RX0 yX0_billOf yX0_billOf, .code yX0_billOf cX0_billOf 4 (some .int), .fieldLink RX0 84 "SpotAccount" "spotCount" "I", .fieldLink RX0 44 "SpotAccount" "spotOrder" "[I", .fieldLink RX0 53 "SpotAccount" "spotFree" "[Z", .fieldLink RX0 50 "SpotAccount" "spotState" "[I", .fieldLink RX0 32 "SpotAccount" "orderPrice" "[I"] ++ wsX00 ++ (vx_atS RX0 150 "java/lang/IllegalArgumentException" ["java/lang/RuntimeException", "java/lang/Exception"]).filter goodWord)
def wsX0_mostOwed_r1 : List Cond := [Cond.fieldLink RX0 98 "SpotAccount" "orderCount" "I", Cond.methodLink RX0 114 yX0_restOf, Cond.instanceMethod yX0_restOf, Cond.selects RX0 yX0_restOf yX0_restOf, Cond.initialized RX0, Cond.code yX0_restOf cX0_restOf 4 (some .int), Cond.fieldLink RX0 84 "SpotAccount" "spotCount" "I", Cond.fieldLink RX0 44 "SpotAccount" "spotOrder" "[I", Cond.fieldLink RX0 53 "SpotAccount" "spotFree" "[Z", Cond.fieldLink RX0 50 "SpotAccount" "spotState" "[I", Cond.fieldLink RX0 47 "SpotAccount" "spotBreak" "[I", Cond.methodLink RX0 169 Lib.Math.max.name, Cond.static Lib.Math.max.name, Cond.initialized "java/lang/Math", Cond.code Lib.Math.max.name Lib.Math.max.code 2 (some .int), Cond.methodLink RX0 104 yX0_owedTo, Cond.instanceMethod yX0_owedTo, Cond.selects RX0 yX0_owedTo yX0_owedTo, Cond.code yX0_owedTo cX0_owedTo 2 (some .int), Cond.fieldLink RX0 41 "SpotAccount" "orderClosed" "[Z", Cond.fieldLink RX0 35 "SpotAccount" "orderPromise" "[I", Cond.methodLink RX0 129 yX0_audience, Cond.instanceMethod yX0_audience, Cond.selects RX0 yX0_audience yX0_audience]
def wsX0_mostOwed_r2 : List Cond := [Cond.code yX0_audience cX0_audience 5 (some .int), Cond.methodLink RX0 156 yX0_ratingFor, Cond.instanceMethod yX0_ratingFor, Cond.selects RX0 yX0_ratingFor yX0_ratingFor, Cond.code yX0_ratingFor cX0_ratingFor 3 (some .int), Cond.fieldLink RX0 17 "SpotAccount" "ratings" "[I", Cond.fieldLink RX0 26 "SpotAccount" "orderGroup" "[I", Cond.methodLink RX0 80 yX0_ratingCell, Cond.static yX0_ratingCell, Cond.code yX0_ratingCell cX0_ratingCell 2 (some .int)]
def wsX0_mostOwed : List Cond := .code yX0_mostOwed cX0_mostOwed 5 (some .int) :: ((wsX0_mostOwed_r1 ++ wsX0_mostOwed_r2) ++ wsX00)
def wsJ9_max_7cf53 : List Cond := .code yJ9_max_7cf53 cJ9_max_7cf53 2 (some .int) :: ([])
def wsL_at : List Cond := .code yL_at cL_at 2 (some .int) :: ([.constant RL 7 (1328400305), .constant RL 8 (513189251)])
def wsL_low : List Cond := .code yL_low cL_low 2 (some .int) :: ([.constant RL 9 (2147483647)])
def wsL_addBreak : List Cond := .codeWith yL_addBreak cL_addBreak 3 (some .int) [(0, 5, 6, 16), (0, 5, 10, 19)] :: ([.classLink RL 16 "java/lang/IllegalArgumentException", .classLink RL 19 "java/lang/IllegalStateException", .constant RL 18 (-1000002), .constant RL 21 (-1000003), .methodLink RL 10 yX0_addBreak, .instanceMethod yX0_addBreak, .selects RX0 yX0_addBreak yX0_addBreak, .initialized RX0, .code yX0_addBreak cX0_addBreak 3 (some .int), .fieldLink RX0 64 "SpotAccount" "breakCount" "I", .fieldLink RX0 9 "SpotAccount" "breakSeconds" "[I", .methodLink RX0 56 yX0_isWithin, .static yX0_isWithin, .code yX0_isWithin cX0_isWithin 3 (some .boolean), .methodLink RX0 60 yX0_checkArgument, .static yX0_checkArgument, .code yX0_checkArgument cX0_checkArgument 1 none, .classLink RX0 146 "java/lang/IllegalArgumentException", .initialized "java/lang/IllegalArgumentException", .methodLink RX0 68 yX0_checkState, .static yX0_checkState, .code yX0_checkState cX0_checkState 1 none, .classLink RX0 151 "java/lang/IllegalStateException", .initialized "java/lang/IllegalStateException"] ++ wsX00 ++ (vx_atS RX0 150 "java/lang/IllegalArgumentException" ["java/lang/RuntimeException", "java/lang/Exception"]).filter goodWord ++ (vx_atS RX0 155 "java/lang/IllegalStateException" ["java/lang/RuntimeException", "java/lang/Exception"]).filter goodWord)
def wsL_rate_r1 : List Cond := [Cond.classLink RL 26 "java/lang/IndexOutOfBoundsException", Cond.classLink RL 16 "java/lang/IllegalArgumentException", Cond.constant RL 28 (-1000001), Cond.constant RL 18 (-1000002), Cond.methodLink RL 22 yX0_rate, Cond.instanceMethod yX0_rate, Cond.selects RX0 yX0_rate yX0_rate, Cond.initialized RX0, Cond.code yX0_rate cX0_rate 6 (some .int), Cond.constant RX0 79 (100000), Cond.fieldLink RX0 17 "SpotAccount" "ratings" "[I", Cond.methodLink RX0 71 yX0_checkBreak, Cond.instanceMethod yX0_checkBreak, Cond.selects RX0 yX0_checkBreak yX0_checkBreak, Cond.code yX0_checkBreak cX0_checkBreak 2 none, Cond.fieldLink RX0 64 "SpotAccount" "breakCount" "I", Cond.methodLink RX0 135 yX0_checkIndex, Cond.static yX0_checkIndex, Cond.code yX0_checkIndex cX0_checkIndex 2 none, Cond.classLink RX0 139 "java/lang/IndexOutOfBoundsException", Cond.initialized "java/lang/IndexOutOfBoundsException", Cond.methodLink RX0 75 yX0_isGroup, Cond.static yX0_isGroup, Cond.code yX0_isGroup cX0_isGroup 1 (some .boolean)]
def wsL_rate_r2 : List Cond := [Cond.methodLink RX0 56 yX0_isWithin, Cond.static yX0_isWithin, Cond.code yX0_isWithin cX0_isWithin 3 (some .boolean), Cond.methodLink RX0 60 yX0_checkArgument, Cond.static yX0_checkArgument, Cond.code yX0_checkArgument cX0_checkArgument 1 none, Cond.classLink RX0 146 "java/lang/IllegalArgumentException", Cond.initialized "java/lang/IllegalArgumentException", Cond.methodLink RX0 80 yX0_ratingCell, Cond.static yX0_ratingCell, Cond.code yX0_ratingCell cX0_ratingCell 2 (some .int)]
def wsL_rate : List Cond := .codeWith yL_rate cL_rate 5 (some .int) [(0, 7, 8, 26), (0, 7, 13, 16)] :: ((wsL_rate_r1 ++ wsL_rate_r2) ++ wsX00 ++ (vx_atS RX0 143 "java/lang/IndexOutOfBoundsException" ["java/lang/RuntimeException", "java/lang/Exception"]).filter goodWord ++ (vx_atS RX0 150 "java/lang/IllegalArgumentException" ["java/lang/RuntimeException", "java/lang/Exception"]).filter goodWord)
def wsL_air_r1 : List Cond := [Cond.classLink RL 26 "java/lang/IndexOutOfBoundsException", Cond.classLink RL 19 "java/lang/IllegalStateException", Cond.constant RL 28 (-1000001), Cond.constant RL 21 (-1000003), Cond.methodLink RL 29 yX0_air, Cond.instanceMethod yX0_air, Cond.selects RX0 yX0_air yX0_air, Cond.initialized RX0, Cond.code yX0_air cX0_air 4 (some .int), Cond.fieldLink RX0 13 "SpotAccount" "breakAired" "[Z", Cond.fieldLink RX0 84 "SpotAccount" "spotCount" "I", Cond.fieldLink RX0 47 "SpotAccount" "spotBreak" "[I", Cond.fieldLink RX0 50 "SpotAccount" "spotState" "[I", Cond.methodLink RX0 71 yX0_checkBreak, Cond.instanceMethod yX0_checkBreak, Cond.selects RX0 yX0_checkBreak yX0_checkBreak, Cond.code yX0_checkBreak cX0_checkBreak 2 none, Cond.fieldLink RX0 64 "SpotAccount" "breakCount" "I", Cond.methodLink RX0 135 yX0_checkIndex, Cond.static yX0_checkIndex, Cond.code yX0_checkIndex cX0_checkIndex 2 none, Cond.classLink RX0 139 "java/lang/IndexOutOfBoundsException", Cond.initialized "java/lang/IndexOutOfBoundsException", Cond.methodLink RX0 68 yX0_checkState]
def wsL_air_r2 : List Cond := [Cond.static yX0_checkState, Cond.code yX0_checkState cX0_checkState 1 none, Cond.classLink RX0 151 "java/lang/IllegalStateException", Cond.initialized "java/lang/IllegalStateException"]
def wsL_air : List Cond := .codeWith yL_air cL_air 3 (some .int) [(0, 5, 6, 26), (0, 5, 10, 19)] :: ((wsL_air_r1 ++ wsL_air_r2) ++ wsX00 ++ (vx_atS RX0 143 "java/lang/IndexOutOfBoundsException" ["java/lang/RuntimeException", "java/lang/Exception"]).filter goodWord ++ (vx_atS RX0 155 "java/lang/IllegalStateException" ["java/lang/RuntimeException", "java/lang/Exception"]).filter goodWord)
def wsL_isAired : List Cond := .codeWith yL_isAired cL_isAired 3 (some .int) [(0, 13, 14, 26)] :: ([.classLink RL 26 "java/lang/IndexOutOfBoundsException", .constant RL 28 (-1000001), .methodLink RL 32 yX0_isAired, .instanceMethod yX0_isAired, .selects RX0 yX0_isAired yX0_isAired, .initialized RX0, .code yX0_isAired cX0_isAired 2 (some .boolean), .fieldLink RX0 13 "SpotAccount" "breakAired" "[Z", .methodLink RX0 71 yX0_checkBreak, .instanceMethod yX0_checkBreak, .selects RX0 yX0_checkBreak yX0_checkBreak, .code yX0_checkBreak cX0_checkBreak 2 none, .fieldLink RX0 64 "SpotAccount" "breakCount" "I", .methodLink RX0 135 yX0_checkIndex, .static yX0_checkIndex, .code yX0_checkIndex cX0_checkIndex 2 none, .classLink RX0 139 "java/lang/IndexOutOfBoundsException", .initialized "java/lang/IndexOutOfBoundsException"] ++ wsX00 ++ (vx_atS RX0 143 "java/lang/IndexOutOfBoundsException" ["java/lang/RuntimeException", "java/lang/Exception"]).filter goodWord)
def wsL_room_r1 : List Cond := [Cond.classLink RL 26 "java/lang/IndexOutOfBoundsException", Cond.constant RL 28 (-1000001), Cond.methodLink RL 36 yX0_room, Cond.instanceMethod yX0_room, Cond.selects RX0 yX0_room yX0_room, Cond.initialized RX0, Cond.code yX0_room cX0_room 2 (some .int), Cond.methodLink RX0 71 yX0_checkBreak, Cond.instanceMethod yX0_checkBreak, Cond.selects RX0 yX0_checkBreak yX0_checkBreak, Cond.code yX0_checkBreak cX0_checkBreak 2 none, Cond.fieldLink RX0 64 "SpotAccount" "breakCount" "I", Cond.methodLink RX0 135 yX0_checkIndex, Cond.static yX0_checkIndex, Cond.code yX0_checkIndex cX0_checkIndex 2 none, Cond.classLink RX0 139 "java/lang/IndexOutOfBoundsException", Cond.initialized "java/lang/IndexOutOfBoundsException", Cond.methodLink RX0 87 yX0_secondsLeft, Cond.instanceMethod yX0_secondsLeft, Cond.selects RX0 yX0_secondsLeft yX0_secondsLeft, Cond.code yX0_secondsLeft cX0_secondsLeft 4 (some .int), Cond.fieldLink RX0 9 "SpotAccount" "breakSeconds" "[I", Cond.fieldLink RX0 84 "SpotAccount" "spotCount" "I", Cond.fieldLink RX0 47 "SpotAccount" "spotBreak" "[I"]
def wsL_room_r2 : List Cond := [Cond.fieldLink RX0 29 "SpotAccount" "orderSeconds" "[I", Cond.fieldLink RX0 44 "SpotAccount" "spotOrder" "[I", Cond.methodLink RX0 126 yX0_isInBreak, Cond.instanceMethod yX0_isInBreak, Cond.selects RX0 yX0_isInBreak yX0_isInBreak, Cond.code yX0_isInBreak cX0_isInBreak 2 (some .boolean), Cond.fieldLink RX0 50 "SpotAccount" "spotState" "[I"]
def wsL_room : List Cond := .codeWith yL_room cL_room 3 (some .int) [(0, 5, 6, 26)] :: ((wsL_room_r1 ++ wsL_room_r2) ++ wsX00 ++ (vx_atS RX0 143 "java/lang/IndexOutOfBoundsException" ["java/lang/RuntimeException", "java/lang/Exception"]).filter goodWord)
def wsL_rating_r1 : List Cond := [Cond.classLink RL 26 "java/lang/IndexOutOfBoundsException", Cond.classLink RL 16 "java/lang/IllegalArgumentException", Cond.constant RL 28 (-1000001), Cond.constant RL 18 (-1000002), Cond.methodLink RL 39 yX0_rating, Cond.instanceMethod yX0_rating, Cond.selects RX0 yX0_rating yX0_rating, Cond.initialized RX0, Cond.code yX0_rating cX0_rating 3 (some .int), Cond.fieldLink RX0 17 "SpotAccount" "ratings" "[I", Cond.methodLink RX0 71 yX0_checkBreak, Cond.instanceMethod yX0_checkBreak, Cond.selects RX0 yX0_checkBreak yX0_checkBreak, Cond.code yX0_checkBreak cX0_checkBreak 2 none, Cond.fieldLink RX0 64 "SpotAccount" "breakCount" "I", Cond.methodLink RX0 135 yX0_checkIndex, Cond.static yX0_checkIndex, Cond.code yX0_checkIndex cX0_checkIndex 2 none, Cond.classLink RX0 139 "java/lang/IndexOutOfBoundsException", Cond.initialized "java/lang/IndexOutOfBoundsException", Cond.methodLink RX0 75 yX0_isGroup, Cond.static yX0_isGroup, Cond.code yX0_isGroup cX0_isGroup 1 (some .boolean), Cond.methodLink RX0 56 yX0_isWithin]
def wsL_rating_r2 : List Cond := [Cond.static yX0_isWithin, Cond.code yX0_isWithin cX0_isWithin 3 (some .boolean), Cond.methodLink RX0 60 yX0_checkArgument, Cond.static yX0_checkArgument, Cond.code yX0_checkArgument cX0_checkArgument 1 none, Cond.classLink RX0 146 "java/lang/IllegalArgumentException", Cond.initialized "java/lang/IllegalArgumentException", Cond.methodLink RX0 80 yX0_ratingCell, Cond.static yX0_ratingCell, Cond.code yX0_ratingCell cX0_ratingCell 2 (some .int)]
def wsL_rating : List Cond := .codeWith yL_rating cL_rating 4 (some .int) [(0, 6, 7, 26), (0, 6, 11, 16)] :: ((wsL_rating_r1 ++ wsL_rating_r2) ++ wsX00 ++ (vx_atS RX0 143 "java/lang/IndexOutOfBoundsException" ["java/lang/RuntimeException", "java/lang/Exception"]).filter goodWord ++ (vx_atS RX0 150 "java/lang/IllegalArgumentException" ["java/lang/RuntimeException", "java/lang/Exception"]).filter goodWord)
def wsL_addOrder_r1 : List Cond := [Cond.classLink RL 16 "java/lang/IllegalArgumentException", Cond.classLink RL 19 "java/lang/IllegalStateException", Cond.constant RL 18 (-1000002), Cond.constant RL 21 (-1000003), Cond.methodLink RL 43 yX0_addOrder, Cond.instanceMethod yX0_addOrder, Cond.selects RX0 yX0_addOrder yX0_addOrder, Cond.initialized RX0, Cond.code yX0_addOrder cX0_addOrder 9 (some .int), Cond.constant RX0 97 (1000000), Cond.constant RX0 79 (100000), Cond.fieldLink RX0 98 "SpotAccount" "orderCount" "I", Cond.fieldLink RX0 20 "SpotAccount" "orderAdvertiser" "[I", Cond.fieldLink RX0 23 "SpotAccount" "orderCategory" "[I", Cond.fieldLink RX0 26 "SpotAccount" "orderGroup" "[I", Cond.fieldLink RX0 29 "SpotAccount" "orderSeconds" "[I", Cond.fieldLink RX0 32 "SpotAccount" "orderPrice" "[I", Cond.fieldLink RX0 35 "SpotAccount" "orderPromise" "[I", Cond.fieldLink RX0 38 "SpotAccount" "orderFloor" "[I", Cond.methodLink RX0 91 yX0_isAdvertiser, Cond.static yX0_isAdvertiser, Cond.code yX0_isAdvertiser cX0_isAdvertiser 1 (some .boolean), Cond.methodLink RX0 56 yX0_isWithin, Cond.static yX0_isWithin]
def wsL_addOrder_r2 : List Cond := [Cond.code yX0_isWithin cX0_isWithin 3 (some .boolean), Cond.methodLink RX0 60 yX0_checkArgument, Cond.static yX0_checkArgument, Cond.code yX0_checkArgument cX0_checkArgument 1 none, Cond.classLink RX0 146 "java/lang/IllegalArgumentException", Cond.initialized "java/lang/IllegalArgumentException", Cond.methodLink RX0 75 yX0_isGroup, Cond.static yX0_isGroup, Cond.code yX0_isGroup cX0_isGroup 1 (some .boolean), Cond.methodLink RX0 94 yX0_isSpotLength, Cond.static yX0_isSpotLength, Cond.code yX0_isSpotLength cX0_isSpotLength 1 (some .boolean), Cond.methodLink RX0 68 yX0_checkState, Cond.static yX0_checkState, Cond.code yX0_checkState cX0_checkState 1 none, Cond.classLink RX0 151 "java/lang/IllegalStateException", Cond.initialized "java/lang/IllegalStateException"]
def wsL_addOrder : List Cond := .codeWith yL_addOrder cL_addOrder 9 (some .int) [(0, 15, 16, 16), (0, 15, 21, 19)] :: ((wsL_addOrder_r1 ++ wsL_addOrder_r2) ++ wsX00 ++ (vx_atS RX0 150 "java/lang/IllegalArgumentException" ["java/lang/RuntimeException", "java/lang/Exception"]).filter goodWord ++ (vx_atS RX0 155 "java/lang/IllegalStateException" ["java/lang/RuntimeException", "java/lang/Exception"]).filter goodWord)
def wsL_close_r1 : List Cond := [Cond.classLink RL 26 "java/lang/IndexOutOfBoundsException", Cond.classLink RL 19 "java/lang/IllegalStateException", Cond.constant RL 28 (-1000001), Cond.constant RL 21 (-1000003), Cond.methodLink RL 47 yX0_close, Cond.instanceMethod yX0_close, Cond.selects RX0 yX0_close yX0_close, Cond.initialized RX0, Cond.code yX0_close cX0_close 3 (some .int), Cond.fieldLink RX0 41 "SpotAccount" "orderClosed" "[Z", Cond.fieldLink RX0 84 "SpotAccount" "spotCount" "I", Cond.fieldLink RX0 44 "SpotAccount" "spotOrder" "[I", Cond.fieldLink RX0 50 "SpotAccount" "spotState" "[I", Cond.methodLink RX0 101 yX0_checkOrder, Cond.instanceMethod yX0_checkOrder, Cond.selects RX0 yX0_checkOrder yX0_checkOrder, Cond.code yX0_checkOrder cX0_checkOrder 2 none, Cond.fieldLink RX0 98 "SpotAccount" "orderCount" "I", Cond.methodLink RX0 135 yX0_checkIndex, Cond.static yX0_checkIndex, Cond.code yX0_checkIndex cX0_checkIndex 2 none, Cond.classLink RX0 139 "java/lang/IndexOutOfBoundsException", Cond.initialized "java/lang/IndexOutOfBoundsException", Cond.methodLink RX0 68 yX0_checkState]
def wsL_close_r2 : List Cond := [Cond.static yX0_checkState, Cond.code yX0_checkState cX0_checkState 1 none, Cond.classLink RX0 151 "java/lang/IllegalStateException", Cond.initialized "java/lang/IllegalStateException", Cond.methodLink RX0 104 yX0_owedTo, Cond.instanceMethod yX0_owedTo, Cond.selects RX0 yX0_owedTo yX0_owedTo, Cond.code yX0_owedTo cX0_owedTo 2 (some .int), Cond.fieldLink RX0 35 "SpotAccount" "orderPromise" "[I", Cond.methodLink RX0 169 Lib.Math.max.name, Cond.static Lib.Math.max.name, Cond.initialized "java/lang/Math", Cond.code Lib.Math.max.name Lib.Math.max.code 2 (some .int), Cond.methodLink RX0 129 yX0_audience, Cond.instanceMethod yX0_audience, Cond.selects RX0 yX0_audience yX0_audience, Cond.code yX0_audience cX0_audience 5 (some .int), Cond.fieldLink RX0 47 "SpotAccount" "spotBreak" "[I", Cond.methodLink RX0 156 yX0_ratingFor, Cond.instanceMethod yX0_ratingFor, Cond.selects RX0 yX0_ratingFor yX0_ratingFor, Cond.code yX0_ratingFor cX0_ratingFor 3 (some .int), Cond.fieldLink RX0 17 "SpotAccount" "ratings" "[I", Cond.fieldLink RX0 26 "SpotAccount" "orderGroup" "[I"]
def wsL_close_r3 : List Cond := [Cond.methodLink RX0 80 yX0_ratingCell, Cond.static yX0_ratingCell, Cond.code yX0_ratingCell cX0_ratingCell 2 (some .int)]
def wsL_close : List Cond := .codeWith yL_close cL_close 3 (some .int) [(0, 5, 6, 26), (0, 5, 10, 19)] :: ((wsL_close_r1 ++ (wsL_close_r2 ++ wsL_close_r3)) ++ wsX00 ++ (vx_atS RX0 143 "java/lang/IndexOutOfBoundsException" ["java/lang/RuntimeException", "java/lang/Exception"]).filter goodWord ++ (vx_atS RX0 155 "java/lang/IllegalStateException" ["java/lang/RuntimeException", "java/lang/Exception"]).filter goodWord)
def wsL_whyNot_r1 : List Cond := [Cond.classLink RL 26 "java/lang/IndexOutOfBoundsException", Cond.constant RL 28 (-1000001), Cond.methodLink RL 50 yX0_whyNot, Cond.instanceMethod yX0_whyNot, Cond.selects RX0 yX0_whyNot yX0_whyNot, Cond.initialized RX0, Cond.code yX0_whyNot cX0_whyNot 3 (some .int), Cond.methodLink RX0 101 yX0_checkOrder, Cond.instanceMethod yX0_checkOrder, Cond.selects RX0 yX0_checkOrder yX0_checkOrder, Cond.code yX0_checkOrder cX0_checkOrder 2 none, Cond.fieldLink RX0 98 "SpotAccount" "orderCount" "I", Cond.methodLink RX0 135 yX0_checkIndex, Cond.static yX0_checkIndex, Cond.code yX0_checkIndex cX0_checkIndex 2 none, Cond.classLink RX0 139 "java/lang/IndexOutOfBoundsException", Cond.initialized "java/lang/IndexOutOfBoundsException", Cond.methodLink RX0 71 yX0_checkBreak, Cond.instanceMethod yX0_checkBreak, Cond.selects RX0 yX0_checkBreak yX0_checkBreak, Cond.code yX0_checkBreak cX0_checkBreak 2 none, Cond.fieldLink RX0 64 "SpotAccount" "breakCount" "I", Cond.methodLink RX0 107 yX0_obstacle, Cond.instanceMethod yX0_obstacle]
def wsL_whyNot_r2 : List Cond := [Cond.selects RX0 yX0_obstacle yX0_obstacle, Cond.code yX0_obstacle cX0_obstacle 3 (some .int), Cond.fieldLink RX0 13 "SpotAccount" "breakAired" "[Z", Cond.fieldLink RX0 29 "SpotAccount" "orderSeconds" "[I", Cond.fieldLink RX0 38 "SpotAccount" "orderFloor" "[I", Cond.fieldLink RX0 20 "SpotAccount" "orderAdvertiser" "[I", Cond.methodLink RX0 87 yX0_secondsLeft, Cond.instanceMethod yX0_secondsLeft, Cond.selects RX0 yX0_secondsLeft yX0_secondsLeft, Cond.code yX0_secondsLeft cX0_secondsLeft 4 (some .int), Cond.fieldLink RX0 9 "SpotAccount" "breakSeconds" "[I", Cond.fieldLink RX0 84 "SpotAccount" "spotCount" "I", Cond.fieldLink RX0 47 "SpotAccount" "spotBreak" "[I", Cond.fieldLink RX0 44 "SpotAccount" "spotOrder" "[I", Cond.methodLink RX0 126 yX0_isInBreak, Cond.instanceMethod yX0_isInBreak, Cond.selects RX0 yX0_isInBreak yX0_isInBreak, Cond.code yX0_isInBreak cX0_isInBreak 2 (some .boolean), Cond.fieldLink RX0 50 "SpotAccount" "spotState" "[I", Cond.methodLink RX0 156 yX0_ratingFor, Cond.instanceMethod yX0_ratingFor, Cond.selects RX0 yX0_ratingFor yX0_ratingFor, Cond.code yX0_ratingFor cX0_ratingFor 3 (some .int), Cond.fieldLink RX0 17 "SpotAccount" "ratings" "[I"]
def wsL_whyNot_r3 : List Cond := [Cond.fieldLink RX0 26 "SpotAccount" "orderGroup" "[I", Cond.methodLink RX0 80 yX0_ratingCell, Cond.static yX0_ratingCell, Cond.code yX0_ratingCell cX0_ratingCell 2 (some .int), Cond.methodLink RX0 159 yX0_holdsAdvertiser, Cond.instanceMethod yX0_holdsAdvertiser, Cond.selects RX0 yX0_holdsAdvertiser yX0_holdsAdvertiser, Cond.code yX0_holdsAdvertiser cX0_holdsAdvertiser 4 (some .boolean), Cond.methodLink RX0 163 yX0_holdsRival, Cond.instanceMethod yX0_holdsRival, Cond.selects RX0 yX0_holdsRival yX0_holdsRival, Cond.code yX0_holdsRival cX0_holdsRival 4 (some .boolean), Cond.methodLink RX0 166 yX0_areRivals, Cond.instanceMethod yX0_areRivals, Cond.selects RX0 yX0_areRivals yX0_areRivals, Cond.code yX0_areRivals cX0_areRivals 3 (some .boolean), Cond.fieldLink RX0 23 "SpotAccount" "orderCategory" "[I"]
def wsL_whyNot : List Cond := .codeWith yL_whyNot cL_whyNot 4 (some .int) [(0, 6, 7, 26)] :: ((wsL_whyNot_r1 ++ (wsL_whyNot_r2 ++ wsL_whyNot_r3)) ++ wsX00 ++ (vx_atS RX0 143 "java/lang/IndexOutOfBoundsException" ["java/lang/RuntimeException", "java/lang/Exception"]).filter goodWord)
def wsL_place_r1 : List Cond := [Cond.classLink RL 26 "java/lang/IndexOutOfBoundsException", Cond.classLink RL 19 "java/lang/IllegalStateException", Cond.constant RL 28 (-1000001), Cond.constant RL 21 (-1000003), Cond.methodLink RL 53 yX0_place, Cond.instanceMethod yX0_place, Cond.selects RX0 yX0_place yX0_place, Cond.initialized RX0, Cond.code yX0_place cX0_place 3 (some .int), Cond.fieldLink RX0 41 "SpotAccount" "orderClosed" "[Z", Cond.fieldLink RX0 84 "SpotAccount" "spotCount" "I", Cond.methodLink RX0 101 yX0_checkOrder, Cond.instanceMethod yX0_checkOrder, Cond.selects RX0 yX0_checkOrder yX0_checkOrder, Cond.code yX0_checkOrder cX0_checkOrder 2 none, Cond.fieldLink RX0 98 "SpotAccount" "orderCount" "I", Cond.methodLink RX0 135 yX0_checkIndex, Cond.static yX0_checkIndex, Cond.code yX0_checkIndex cX0_checkIndex 2 none, Cond.classLink RX0 139 "java/lang/IndexOutOfBoundsException", Cond.initialized "java/lang/IndexOutOfBoundsException", Cond.methodLink RX0 71 yX0_checkBreak, Cond.instanceMethod yX0_checkBreak, Cond.selects RX0 yX0_checkBreak yX0_checkBreak]
def wsL_place_r2 : List Cond := [Cond.code yX0_checkBreak cX0_checkBreak 2 none, Cond.fieldLink RX0 64 "SpotAccount" "breakCount" "I", Cond.methodLink RX0 68 yX0_checkState, Cond.static yX0_checkState, Cond.code yX0_checkState cX0_checkState 1 none, Cond.classLink RX0 151 "java/lang/IllegalStateException", Cond.initialized "java/lang/IllegalStateException", Cond.methodLink RX0 107 yX0_obstacle, Cond.instanceMethod yX0_obstacle, Cond.selects RX0 yX0_obstacle yX0_obstacle, Cond.code yX0_obstacle cX0_obstacle 3 (some .int), Cond.fieldLink RX0 13 "SpotAccount" "breakAired" "[Z", Cond.fieldLink RX0 29 "SpotAccount" "orderSeconds" "[I", Cond.fieldLink RX0 38 "SpotAccount" "orderFloor" "[I", Cond.fieldLink RX0 20 "SpotAccount" "orderAdvertiser" "[I", Cond.methodLink RX0 87 yX0_secondsLeft, Cond.instanceMethod yX0_secondsLeft, Cond.selects RX0 yX0_secondsLeft yX0_secondsLeft, Cond.code yX0_secondsLeft cX0_secondsLeft 4 (some .int), Cond.fieldLink RX0 9 "SpotAccount" "breakSeconds" "[I", Cond.fieldLink RX0 47 "SpotAccount" "spotBreak" "[I", Cond.fieldLink RX0 44 "SpotAccount" "spotOrder" "[I", Cond.methodLink RX0 126 yX0_isInBreak, Cond.instanceMethod yX0_isInBreak]
def wsL_place_r3 : List Cond := [Cond.selects RX0 yX0_isInBreak yX0_isInBreak, Cond.code yX0_isInBreak cX0_isInBreak 2 (some .boolean), Cond.fieldLink RX0 50 "SpotAccount" "spotState" "[I", Cond.methodLink RX0 156 yX0_ratingFor, Cond.instanceMethod yX0_ratingFor, Cond.selects RX0 yX0_ratingFor yX0_ratingFor, Cond.code yX0_ratingFor cX0_ratingFor 3 (some .int), Cond.fieldLink RX0 17 "SpotAccount" "ratings" "[I", Cond.fieldLink RX0 26 "SpotAccount" "orderGroup" "[I", Cond.methodLink RX0 80 yX0_ratingCell, Cond.static yX0_ratingCell, Cond.code yX0_ratingCell cX0_ratingCell 2 (some .int), Cond.methodLink RX0 159 yX0_holdsAdvertiser, Cond.instanceMethod yX0_holdsAdvertiser, Cond.selects RX0 yX0_holdsAdvertiser yX0_holdsAdvertiser, Cond.code yX0_holdsAdvertiser cX0_holdsAdvertiser 4 (some .boolean), Cond.methodLink RX0 163 yX0_holdsRival, Cond.instanceMethod yX0_holdsRival, Cond.selects RX0 yX0_holdsRival yX0_holdsRival, Cond.code yX0_holdsRival cX0_holdsRival 4 (some .boolean), Cond.methodLink RX0 166 yX0_areRivals, Cond.instanceMethod yX0_areRivals, Cond.selects RX0 yX0_areRivals yX0_areRivals, Cond.code yX0_areRivals cX0_areRivals 3 (some .boolean)]
def wsL_place_r4 : List Cond := [Cond.fieldLink RX0 23 "SpotAccount" "orderCategory" "[I", Cond.methodLink RX0 110 yX0_addSpot, Cond.instanceMethod yX0_addSpot, Cond.selects RX0 yX0_addSpot yX0_addSpot, Cond.code yX0_addSpot cX0_addSpot 5 (some .int), Cond.fieldLink RX0 53 "SpotAccount" "spotFree" "[Z"]
def wsL_place : List Cond := .codeWith yL_place cL_place 4 (some .int) [(0, 6, 7, 26), (0, 6, 11, 19)] :: ((wsL_place_r1 ++ (wsL_place_r2 ++ (wsL_place_r3 ++ wsL_place_r4))) ++ wsX00 ++ (vx_atS RX0 143 "java/lang/IndexOutOfBoundsException" ["java/lang/RuntimeException", "java/lang/Exception"]).filter goodWord ++ (vx_atS RX0 155 "java/lang/IllegalStateException" ["java/lang/RuntimeException", "java/lang/Exception"]).filter goodWord)
def wsL_give_r1 : List Cond := [Cond.classLink RL 26 "java/lang/IndexOutOfBoundsException", Cond.classLink RL 19 "java/lang/IllegalStateException", Cond.constant RL 28 (-1000001), Cond.constant RL 21 (-1000003), Cond.methodLink RL 56 yX0_give, Cond.instanceMethod yX0_give, Cond.selects RX0 yX0_give yX0_give, Cond.initialized RX0, Cond.code yX0_give cX0_give 3 (some .int), Cond.fieldLink RX0 84 "SpotAccount" "spotCount" "I", Cond.methodLink RX0 101 yX0_checkOrder, Cond.instanceMethod yX0_checkOrder, Cond.selects RX0 yX0_checkOrder yX0_checkOrder, Cond.code yX0_checkOrder cX0_checkOrder 2 none, Cond.fieldLink RX0 98 "SpotAccount" "orderCount" "I", Cond.methodLink RX0 135 yX0_checkIndex, Cond.static yX0_checkIndex, Cond.code yX0_checkIndex cX0_checkIndex 2 none, Cond.classLink RX0 139 "java/lang/IndexOutOfBoundsException", Cond.initialized "java/lang/IndexOutOfBoundsException", Cond.methodLink RX0 71 yX0_checkBreak, Cond.instanceMethod yX0_checkBreak, Cond.selects RX0 yX0_checkBreak yX0_checkBreak, Cond.code yX0_checkBreak cX0_checkBreak 2 none]
def wsL_give_r2 : List Cond := [Cond.fieldLink RX0 64 "SpotAccount" "breakCount" "I", Cond.methodLink RX0 114 yX0_restOf, Cond.instanceMethod yX0_restOf, Cond.selects RX0 yX0_restOf yX0_restOf, Cond.code yX0_restOf cX0_restOf 4 (some .int), Cond.fieldLink RX0 44 "SpotAccount" "spotOrder" "[I", Cond.fieldLink RX0 53 "SpotAccount" "spotFree" "[Z", Cond.fieldLink RX0 50 "SpotAccount" "spotState" "[I", Cond.fieldLink RX0 47 "SpotAccount" "spotBreak" "[I", Cond.methodLink RX0 169 Lib.Math.max.name, Cond.static Lib.Math.max.name, Cond.initialized "java/lang/Math", Cond.code Lib.Math.max.name Lib.Math.max.code 2 (some .int), Cond.methodLink RX0 104 yX0_owedTo, Cond.instanceMethod yX0_owedTo, Cond.selects RX0 yX0_owedTo yX0_owedTo, Cond.code yX0_owedTo cX0_owedTo 2 (some .int), Cond.fieldLink RX0 41 "SpotAccount" "orderClosed" "[Z", Cond.fieldLink RX0 35 "SpotAccount" "orderPromise" "[I", Cond.methodLink RX0 129 yX0_audience, Cond.instanceMethod yX0_audience, Cond.selects RX0 yX0_audience yX0_audience, Cond.code yX0_audience cX0_audience 5 (some .int), Cond.methodLink RX0 156 yX0_ratingFor]
def wsL_give_r3 : List Cond := [Cond.instanceMethod yX0_ratingFor, Cond.selects RX0 yX0_ratingFor yX0_ratingFor, Cond.code yX0_ratingFor cX0_ratingFor 3 (some .int), Cond.fieldLink RX0 17 "SpotAccount" "ratings" "[I", Cond.fieldLink RX0 26 "SpotAccount" "orderGroup" "[I", Cond.methodLink RX0 80 yX0_ratingCell, Cond.static yX0_ratingCell, Cond.code yX0_ratingCell cX0_ratingCell 2 (some .int), Cond.methodLink RX0 68 yX0_checkState, Cond.static yX0_checkState, Cond.code yX0_checkState cX0_checkState 1 none, Cond.classLink RX0 151 "java/lang/IllegalStateException", Cond.initialized "java/lang/IllegalStateException", Cond.methodLink RX0 107 yX0_obstacle, Cond.instanceMethod yX0_obstacle, Cond.selects RX0 yX0_obstacle yX0_obstacle, Cond.code yX0_obstacle cX0_obstacle 3 (some .int), Cond.fieldLink RX0 13 "SpotAccount" "breakAired" "[Z", Cond.fieldLink RX0 29 "SpotAccount" "orderSeconds" "[I", Cond.fieldLink RX0 38 "SpotAccount" "orderFloor" "[I", Cond.fieldLink RX0 20 "SpotAccount" "orderAdvertiser" "[I", Cond.methodLink RX0 87 yX0_secondsLeft, Cond.instanceMethod yX0_secondsLeft, Cond.selects RX0 yX0_secondsLeft yX0_secondsLeft]
def wsL_give_r4 : List Cond := [Cond.code yX0_secondsLeft cX0_secondsLeft 4 (some .int), Cond.fieldLink RX0 9 "SpotAccount" "breakSeconds" "[I", Cond.methodLink RX0 126 yX0_isInBreak, Cond.instanceMethod yX0_isInBreak, Cond.selects RX0 yX0_isInBreak yX0_isInBreak, Cond.code yX0_isInBreak cX0_isInBreak 2 (some .boolean), Cond.methodLink RX0 159 yX0_holdsAdvertiser, Cond.instanceMethod yX0_holdsAdvertiser, Cond.selects RX0 yX0_holdsAdvertiser yX0_holdsAdvertiser, Cond.code yX0_holdsAdvertiser cX0_holdsAdvertiser 4 (some .boolean), Cond.methodLink RX0 163 yX0_holdsRival, Cond.instanceMethod yX0_holdsRival, Cond.selects RX0 yX0_holdsRival yX0_holdsRival, Cond.code yX0_holdsRival cX0_holdsRival 4 (some .boolean), Cond.methodLink RX0 166 yX0_areRivals, Cond.instanceMethod yX0_areRivals, Cond.selects RX0 yX0_areRivals yX0_areRivals, Cond.code yX0_areRivals cX0_areRivals 3 (some .boolean), Cond.fieldLink RX0 23 "SpotAccount" "orderCategory" "[I", Cond.methodLink RX0 110 yX0_addSpot, Cond.instanceMethod yX0_addSpot, Cond.selects RX0 yX0_addSpot yX0_addSpot, Cond.code yX0_addSpot cX0_addSpot 5 (some .int)]
def wsL_give : List Cond := .codeWith yL_give cL_give 4 (some .int) [(0, 6, 7, 26), (0, 6, 11, 19)] :: ((wsL_give_r1 ++ (wsL_give_r2 ++ (wsL_give_r3 ++ wsL_give_r4))) ++ wsX00 ++ (vx_atS RX0 143 "java/lang/IndexOutOfBoundsException" ["java/lang/RuntimeException", "java/lang/Exception"]).filter goodWord ++ (vx_atS RX0 155 "java/lang/IllegalStateException" ["java/lang/RuntimeException", "java/lang/Exception"]).filter goodWord)
def wsL_fill_r1 : List Cond := [Cond.classLink RL 26 "java/lang/IndexOutOfBoundsException", Cond.classLink RL 16 "java/lang/IllegalArgumentException", Cond.classLink RL 19 "java/lang/IllegalStateException", Cond.constant RL 28 (-1000001), Cond.constant RL 18 (-1000002), Cond.constant RL 21 (-1000003), Cond.methodLink RL 59 yX0_fill, Cond.instanceMethod yX0_fill, Cond.selects RX0 yX0_fill yX0_fill, Cond.initialized RX0, Cond.code yX0_fill cX0_fill 5 (some .int), Cond.fieldLink RX0 41 "SpotAccount" "orderClosed" "[Z", Cond.fieldLink RX0 84 "SpotAccount" "spotCount" "I", Cond.methodLink RX0 101 yX0_checkOrder, Cond.instanceMethod yX0_checkOrder, Cond.selects RX0 yX0_checkOrder yX0_checkOrder, Cond.code yX0_checkOrder cX0_checkOrder 2 none, Cond.fieldLink RX0 98 "SpotAccount" "orderCount" "I", Cond.methodLink RX0 135 yX0_checkIndex, Cond.static yX0_checkIndex, Cond.code yX0_checkIndex cX0_checkIndex 2 none, Cond.classLink RX0 139 "java/lang/IndexOutOfBoundsException", Cond.initialized "java/lang/IndexOutOfBoundsException", Cond.methodLink RX0 56 yX0_isWithin]
def wsL_fill_r2 : List Cond := [Cond.static yX0_isWithin, Cond.code yX0_isWithin cX0_isWithin 3 (some .boolean), Cond.methodLink RX0 60 yX0_checkArgument, Cond.static yX0_checkArgument, Cond.code yX0_checkArgument cX0_checkArgument 1 none, Cond.classLink RX0 146 "java/lang/IllegalArgumentException", Cond.initialized "java/lang/IllegalArgumentException", Cond.methodLink RX0 68 yX0_checkState, Cond.static yX0_checkState, Cond.code yX0_checkState cX0_checkState 1 none, Cond.classLink RX0 151 "java/lang/IllegalStateException", Cond.initialized "java/lang/IllegalStateException", Cond.methodLink RX0 117 yX0_isShortOfPromise, Cond.instanceMethod yX0_isShortOfPromise, Cond.selects RX0 yX0_isShortOfPromise yX0_isShortOfPromise, Cond.code yX0_isShortOfPromise cX0_isShortOfPromise 2 (some .boolean), Cond.fieldLink RX0 35 "SpotAccount" "orderPromise" "[I", Cond.methodLink RX0 129 yX0_audience, Cond.instanceMethod yX0_audience, Cond.selects RX0 yX0_audience yX0_audience, Cond.code yX0_audience cX0_audience 5 (some .int), Cond.fieldLink RX0 44 "SpotAccount" "spotOrder" "[I", Cond.fieldLink RX0 50 "SpotAccount" "spotState" "[I", Cond.fieldLink RX0 47 "SpotAccount" "spotBreak" "[I"]
def wsL_fill_r3 : List Cond := [Cond.methodLink RX0 156 yX0_ratingFor, Cond.instanceMethod yX0_ratingFor, Cond.selects RX0 yX0_ratingFor yX0_ratingFor, Cond.code yX0_ratingFor cX0_ratingFor 3 (some .int), Cond.fieldLink RX0 17 "SpotAccount" "ratings" "[I", Cond.fieldLink RX0 26 "SpotAccount" "orderGroup" "[I", Cond.methodLink RX0 80 yX0_ratingCell, Cond.static yX0_ratingCell, Cond.code yX0_ratingCell cX0_ratingCell 2 (some .int), Cond.methodLink RX0 120 yX0_bestBreak, Cond.instanceMethod yX0_bestBreak, Cond.selects RX0 yX0_bestBreak yX0_bestBreak, Cond.code yX0_bestBreak cX0_bestBreak 6 (some .int), Cond.fieldLink RX0 64 "SpotAccount" "breakCount" "I", Cond.methodLink RX0 107 yX0_obstacle, Cond.instanceMethod yX0_obstacle, Cond.selects RX0 yX0_obstacle yX0_obstacle, Cond.code yX0_obstacle cX0_obstacle 3 (some .int), Cond.fieldLink RX0 13 "SpotAccount" "breakAired" "[Z", Cond.fieldLink RX0 29 "SpotAccount" "orderSeconds" "[I", Cond.fieldLink RX0 38 "SpotAccount" "orderFloor" "[I", Cond.fieldLink RX0 20 "SpotAccount" "orderAdvertiser" "[I", Cond.methodLink RX0 87 yX0_secondsLeft, Cond.instanceMethod yX0_secondsLeft]
def wsL_fill_r4 : List Cond := [Cond.selects RX0 yX0_secondsLeft yX0_secondsLeft, Cond.code yX0_secondsLeft cX0_secondsLeft 4 (some .int), Cond.fieldLink RX0 9 "SpotAccount" "breakSeconds" "[I", Cond.methodLink RX0 126 yX0_isInBreak, Cond.instanceMethod yX0_isInBreak, Cond.selects RX0 yX0_isInBreak yX0_isInBreak, Cond.code yX0_isInBreak cX0_isInBreak 2 (some .boolean), Cond.methodLink RX0 159 yX0_holdsAdvertiser, Cond.instanceMethod yX0_holdsAdvertiser, Cond.selects RX0 yX0_holdsAdvertiser yX0_holdsAdvertiser, Cond.code yX0_holdsAdvertiser cX0_holdsAdvertiser 4 (some .boolean), Cond.methodLink RX0 163 yX0_holdsRival, Cond.instanceMethod yX0_holdsRival, Cond.selects RX0 yX0_holdsRival yX0_holdsRival, Cond.code yX0_holdsRival cX0_holdsRival 4 (some .boolean), Cond.methodLink RX0 166 yX0_areRivals, Cond.instanceMethod yX0_areRivals, Cond.selects RX0 yX0_areRivals yX0_areRivals, Cond.code yX0_areRivals cX0_areRivals 3 (some .boolean), Cond.fieldLink RX0 23 "SpotAccount" "orderCategory" "[I", Cond.methodLink RX0 110 yX0_addSpot, Cond.instanceMethod yX0_addSpot, Cond.selects RX0 yX0_addSpot yX0_addSpot, Cond.code yX0_addSpot cX0_addSpot 5 (some .int)]
def wsL_fill_r5 : List Cond := [Cond.fieldLink RX0 53 "SpotAccount" "spotFree" "[Z"]
def wsL_fill : List Cond := .codeWith yL_fill cL_fill 4 (some .int) [(0, 6, 7, 26), (0, 6, 11, 16), (0, 6, 15, 19)] :: ((wsL_fill_r1 ++ (wsL_fill_r2 ++ (wsL_fill_r3 ++ (wsL_fill_r4 ++ wsL_fill_r5)))) ++ wsX00 ++ (vx_atS RX0 143 "java/lang/IndexOutOfBoundsException" ["java/lang/RuntimeException", "java/lang/Exception"]).filter goodWord ++ (vx_atS RX0 150 "java/lang/IllegalArgumentException" ["java/lang/RuntimeException", "java/lang/Exception"]).filter goodWord ++ (vx_atS RX0 155 "java/lang/IllegalStateException" ["java/lang/RuntimeException", "java/lang/Exception"]).filter goodWord)
def wsL_move_r1 : List Cond := [Cond.classLink RL 26 "java/lang/IndexOutOfBoundsException", Cond.classLink RL 19 "java/lang/IllegalStateException", Cond.constant RL 28 (-1000001), Cond.constant RL 21 (-1000003), Cond.methodLink RL 62 yX0_move, Cond.instanceMethod yX0_move, Cond.selects RX0 yX0_move yX0_move, Cond.initialized RX0, Cond.code yX0_move cX0_move 4 (some .int), Cond.fieldLink RX0 50 "SpotAccount" "spotState" "[I", Cond.fieldLink RX0 47 "SpotAccount" "spotBreak" "[I", Cond.fieldLink RX0 44 "SpotAccount" "spotOrder" "[I", Cond.methodLink RX0 123 yX0_checkSpot, Cond.instanceMethod yX0_checkSpot, Cond.selects RX0 yX0_checkSpot yX0_checkSpot, Cond.code yX0_checkSpot cX0_checkSpot 2 none, Cond.fieldLink RX0 84 "SpotAccount" "spotCount" "I", Cond.methodLink RX0 135 yX0_checkIndex, Cond.static yX0_checkIndex, Cond.code yX0_checkIndex cX0_checkIndex 2 none, Cond.classLink RX0 139 "java/lang/IndexOutOfBoundsException", Cond.initialized "java/lang/IndexOutOfBoundsException", Cond.methodLink RX0 71 yX0_checkBreak, Cond.instanceMethod yX0_checkBreak]
def wsL_move_r2 : List Cond := [Cond.selects RX0 yX0_checkBreak yX0_checkBreak, Cond.code yX0_checkBreak cX0_checkBreak 2 none, Cond.fieldLink RX0 64 "SpotAccount" "breakCount" "I", Cond.methodLink RX0 68 yX0_checkState, Cond.static yX0_checkState, Cond.code yX0_checkState cX0_checkState 1 none, Cond.classLink RX0 151 "java/lang/IllegalStateException", Cond.initialized "java/lang/IllegalStateException", Cond.methodLink RX0 107 yX0_obstacle, Cond.instanceMethod yX0_obstacle, Cond.selects RX0 yX0_obstacle yX0_obstacle, Cond.code yX0_obstacle cX0_obstacle 3 (some .int), Cond.fieldLink RX0 13 "SpotAccount" "breakAired" "[Z", Cond.fieldLink RX0 29 "SpotAccount" "orderSeconds" "[I", Cond.fieldLink RX0 38 "SpotAccount" "orderFloor" "[I", Cond.fieldLink RX0 20 "SpotAccount" "orderAdvertiser" "[I", Cond.methodLink RX0 87 yX0_secondsLeft, Cond.instanceMethod yX0_secondsLeft, Cond.selects RX0 yX0_secondsLeft yX0_secondsLeft, Cond.code yX0_secondsLeft cX0_secondsLeft 4 (some .int), Cond.fieldLink RX0 9 "SpotAccount" "breakSeconds" "[I", Cond.methodLink RX0 126 yX0_isInBreak, Cond.instanceMethod yX0_isInBreak, Cond.selects RX0 yX0_isInBreak yX0_isInBreak]
def wsL_move_r3 : List Cond := [Cond.code yX0_isInBreak cX0_isInBreak 2 (some .boolean), Cond.methodLink RX0 156 yX0_ratingFor, Cond.instanceMethod yX0_ratingFor, Cond.selects RX0 yX0_ratingFor yX0_ratingFor, Cond.code yX0_ratingFor cX0_ratingFor 3 (some .int), Cond.fieldLink RX0 17 "SpotAccount" "ratings" "[I", Cond.fieldLink RX0 26 "SpotAccount" "orderGroup" "[I", Cond.methodLink RX0 80 yX0_ratingCell, Cond.static yX0_ratingCell, Cond.code yX0_ratingCell cX0_ratingCell 2 (some .int), Cond.methodLink RX0 159 yX0_holdsAdvertiser, Cond.instanceMethod yX0_holdsAdvertiser, Cond.selects RX0 yX0_holdsAdvertiser yX0_holdsAdvertiser, Cond.code yX0_holdsAdvertiser cX0_holdsAdvertiser 4 (some .boolean), Cond.methodLink RX0 163 yX0_holdsRival, Cond.instanceMethod yX0_holdsRival, Cond.selects RX0 yX0_holdsRival yX0_holdsRival, Cond.code yX0_holdsRival cX0_holdsRival 4 (some .boolean), Cond.methodLink RX0 166 yX0_areRivals, Cond.instanceMethod yX0_areRivals, Cond.selects RX0 yX0_areRivals yX0_areRivals, Cond.code yX0_areRivals cX0_areRivals 3 (some .boolean), Cond.fieldLink RX0 23 "SpotAccount" "orderCategory" "[I"]
def wsL_move : List Cond := .codeWith yL_move cL_move 4 (some .int) [(0, 6, 7, 26), (0, 6, 11, 19)] :: ((wsL_move_r1 ++ (wsL_move_r2 ++ wsL_move_r3)) ++ wsX00 ++ (vx_atS RX0 143 "java/lang/IndexOutOfBoundsException" ["java/lang/RuntimeException", "java/lang/Exception"]).filter goodWord ++ (vx_atS RX0 155 "java/lang/IllegalStateException" ["java/lang/RuntimeException", "java/lang/Exception"]).filter goodWord)
def wsL_miss_r1 : List Cond := [Cond.classLink RL 26 "java/lang/IndexOutOfBoundsException", Cond.classLink RL 19 "java/lang/IllegalStateException", Cond.constant RL 28 (-1000001), Cond.constant RL 21 (-1000003), Cond.methodLink RL 65 yX0_miss, Cond.instanceMethod yX0_miss, Cond.selects RX0 yX0_miss yX0_miss, Cond.initialized RX0, Cond.code yX0_miss cX0_miss 3 (some .boolean), Cond.fieldLink RX0 50 "SpotAccount" "spotState" "[I", Cond.methodLink RX0 123 yX0_checkSpot, Cond.instanceMethod yX0_checkSpot, Cond.selects RX0 yX0_checkSpot yX0_checkSpot, Cond.code yX0_checkSpot cX0_checkSpot 2 none, Cond.fieldLink RX0 84 "SpotAccount" "spotCount" "I", Cond.methodLink RX0 135 yX0_checkIndex, Cond.static yX0_checkIndex, Cond.code yX0_checkIndex cX0_checkIndex 2 none, Cond.classLink RX0 139 "java/lang/IndexOutOfBoundsException", Cond.initialized "java/lang/IndexOutOfBoundsException", Cond.methodLink RX0 126 yX0_isInBreak, Cond.instanceMethod yX0_isInBreak, Cond.selects RX0 yX0_isInBreak yX0_isInBreak, Cond.code yX0_isInBreak cX0_isInBreak 2 (some .boolean)]
def wsL_miss_r2 : List Cond := [Cond.methodLink RX0 68 yX0_checkState, Cond.static yX0_checkState, Cond.code yX0_checkState cX0_checkState 1 none, Cond.classLink RX0 151 "java/lang/IllegalStateException", Cond.initialized "java/lang/IllegalStateException"]
def wsL_miss : List Cond := .codeWith yL_miss cL_miss 3 (some .int) [(0, 13, 14, 26), (0, 13, 18, 19)] :: ((wsL_miss_r1 ++ wsL_miss_r2) ++ wsX00 ++ (vx_atS RX0 143 "java/lang/IndexOutOfBoundsException" ["java/lang/RuntimeException", "java/lang/Exception"]).filter goodWord ++ (vx_atS RX0 155 "java/lang/IllegalStateException" ["java/lang/RuntimeException", "java/lang/Exception"]).filter goodWord)
def wsL_drop_r1 : List Cond := [Cond.classLink RL 26 "java/lang/IndexOutOfBoundsException", Cond.classLink RL 19 "java/lang/IllegalStateException", Cond.constant RL 28 (-1000001), Cond.constant RL 21 (-1000003), Cond.methodLink RL 68 yX0_drop, Cond.instanceMethod yX0_drop, Cond.selects RX0 yX0_drop yX0_drop, Cond.initialized RX0, Cond.code yX0_drop cX0_drop 2 none, Cond.fieldLink RX0 50 "SpotAccount" "spotState" "[I", Cond.methodLink RX0 123 yX0_checkSpot, Cond.instanceMethod yX0_checkSpot, Cond.selects RX0 yX0_checkSpot yX0_checkSpot, Cond.code yX0_checkSpot cX0_checkSpot 2 none, Cond.fieldLink RX0 84 "SpotAccount" "spotCount" "I", Cond.methodLink RX0 135 yX0_checkIndex, Cond.static yX0_checkIndex, Cond.code yX0_checkIndex cX0_checkIndex 2 none, Cond.classLink RX0 139 "java/lang/IndexOutOfBoundsException", Cond.initialized "java/lang/IndexOutOfBoundsException", Cond.methodLink RX0 68 yX0_checkState, Cond.static yX0_checkState, Cond.code yX0_checkState cX0_checkState 1 none, Cond.classLink RX0 151 "java/lang/IllegalStateException"]
def wsL_drop_r2 : List Cond := [Cond.initialized "java/lang/IllegalStateException"]
def wsL_drop : List Cond := .codeWith yL_drop cL_drop 3 (some .int) [(0, 6, 7, 26), (0, 6, 11, 19)] :: ((wsL_drop_r1 ++ wsL_drop_r2) ++ wsX00 ++ (vx_atS RX0 143 "java/lang/IndexOutOfBoundsException" ["java/lang/RuntimeException", "java/lang/Exception"]).filter goodWord ++ (vx_atS RX0 155 "java/lang/IllegalStateException" ["java/lang/RuntimeException", "java/lang/Exception"]).filter goodWord)
def wsL_stateOf : List Cond := .codeWith yL_stateOf cL_stateOf 3 (some .int) [(0, 5, 6, 26)] :: ([.classLink RL 26 "java/lang/IndexOutOfBoundsException", .constant RL 28 (-1000001), .methodLink RL 72 yX0_stateOf, .instanceMethod yX0_stateOf, .selects RX0 yX0_stateOf yX0_stateOf, .initialized RX0, .code yX0_stateOf cX0_stateOf 2 (some .int), .fieldLink RX0 50 "SpotAccount" "spotState" "[I", .methodLink RX0 123 yX0_checkSpot, .instanceMethod yX0_checkSpot, .selects RX0 yX0_checkSpot yX0_checkSpot, .code yX0_checkSpot cX0_checkSpot 2 none, .fieldLink RX0 84 "SpotAccount" "spotCount" "I", .methodLink RX0 135 yX0_checkIndex, .static yX0_checkIndex, .code yX0_checkIndex cX0_checkIndex 2 none, .classLink RX0 139 "java/lang/IndexOutOfBoundsException", .initialized "java/lang/IndexOutOfBoundsException"] ++ wsX00 ++ (vx_atS RX0 143 "java/lang/IndexOutOfBoundsException" ["java/lang/RuntimeException", "java/lang/Exception"]).filter goodWord)
def wsL_breakOf : List Cond := .codeWith yL_breakOf cL_breakOf 3 (some .int) [(0, 5, 6, 26)] :: ([.classLink RL 26 "java/lang/IndexOutOfBoundsException", .constant RL 28 (-1000001), .methodLink RL 75 yX0_breakOf, .instanceMethod yX0_breakOf, .selects RX0 yX0_breakOf yX0_breakOf, .initialized RX0, .code yX0_breakOf cX0_breakOf 2 (some .int), .fieldLink RX0 47 "SpotAccount" "spotBreak" "[I", .methodLink RX0 123 yX0_checkSpot, .instanceMethod yX0_checkSpot, .selects RX0 yX0_checkSpot yX0_checkSpot, .code yX0_checkSpot cX0_checkSpot 2 none, .fieldLink RX0 84 "SpotAccount" "spotCount" "I", .methodLink RX0 135 yX0_checkIndex, .static yX0_checkIndex, .code yX0_checkIndex cX0_checkIndex 2 none, .classLink RX0 139 "java/lang/IndexOutOfBoundsException", .initialized "java/lang/IndexOutOfBoundsException"] ++ wsX00 ++ (vx_atS RX0 143 "java/lang/IndexOutOfBoundsException" ["java/lang/RuntimeException", "java/lang/Exception"]).filter goodWord)
def wsL_delivered_r1 : List Cond := [Cond.classLink RL 26 "java/lang/IndexOutOfBoundsException", Cond.constant RL 28 (-1000001), Cond.methodLink RL 78 yX0_delivered, Cond.instanceMethod yX0_delivered, Cond.selects RX0 yX0_delivered yX0_delivered, Cond.initialized RX0, Cond.code yX0_delivered cX0_delivered 2 (some .int), Cond.methodLink RX0 101 yX0_checkOrder, Cond.instanceMethod yX0_checkOrder, Cond.selects RX0 yX0_checkOrder yX0_checkOrder, Cond.code yX0_checkOrder cX0_checkOrder 2 none, Cond.fieldLink RX0 98 "SpotAccount" "orderCount" "I", Cond.methodLink RX0 135 yX0_checkIndex, Cond.static yX0_checkIndex, Cond.code yX0_checkIndex cX0_checkIndex 2 none, Cond.classLink RX0 139 "java/lang/IndexOutOfBoundsException", Cond.initialized "java/lang/IndexOutOfBoundsException", Cond.methodLink RX0 129 yX0_audience, Cond.instanceMethod yX0_audience, Cond.selects RX0 yX0_audience yX0_audience, Cond.code yX0_audience cX0_audience 5 (some .int), Cond.fieldLink RX0 84 "SpotAccount" "spotCount" "I", Cond.fieldLink RX0 44 "SpotAccount" "spotOrder" "[I", Cond.fieldLink RX0 50 "SpotAccount" "spotState" "[I"]
def wsL_delivered_r2 : List Cond := [Cond.fieldLink RX0 47 "SpotAccount" "spotBreak" "[I", Cond.methodLink RX0 156 yX0_ratingFor, Cond.instanceMethod yX0_ratingFor, Cond.selects RX0 yX0_ratingFor yX0_ratingFor, Cond.code yX0_ratingFor cX0_ratingFor 3 (some .int), Cond.fieldLink RX0 17 "SpotAccount" "ratings" "[I", Cond.fieldLink RX0 26 "SpotAccount" "orderGroup" "[I", Cond.methodLink RX0 80 yX0_ratingCell, Cond.static yX0_ratingCell, Cond.code yX0_ratingCell cX0_ratingCell 2 (some .int)]
def wsL_delivered : List Cond := .codeWith yL_delivered cL_delivered 3 (some .int) [(0, 5, 6, 26)] :: ((wsL_delivered_r1 ++ wsL_delivered_r2) ++ wsX00 ++ (vx_atS RX0 143 "java/lang/IndexOutOfBoundsException" ["java/lang/RuntimeException", "java/lang/Exception"]).filter goodWord)
def wsL_owed_r1 : List Cond := [Cond.classLink RL 26 "java/lang/IndexOutOfBoundsException", Cond.constant RL 28 (-1000001), Cond.methodLink RL 81 yX0_owed, Cond.instanceMethod yX0_owed, Cond.selects RX0 yX0_owed yX0_owed, Cond.initialized RX0, Cond.code yX0_owed cX0_owed 2 (some .int), Cond.methodLink RX0 101 yX0_checkOrder, Cond.instanceMethod yX0_checkOrder, Cond.selects RX0 yX0_checkOrder yX0_checkOrder, Cond.code yX0_checkOrder cX0_checkOrder 2 none, Cond.fieldLink RX0 98 "SpotAccount" "orderCount" "I", Cond.methodLink RX0 135 yX0_checkIndex, Cond.static yX0_checkIndex, Cond.code yX0_checkIndex cX0_checkIndex 2 none, Cond.classLink RX0 139 "java/lang/IndexOutOfBoundsException", Cond.initialized "java/lang/IndexOutOfBoundsException", Cond.methodLink RX0 104 yX0_owedTo, Cond.instanceMethod yX0_owedTo, Cond.selects RX0 yX0_owedTo yX0_owedTo, Cond.code yX0_owedTo cX0_owedTo 2 (some .int), Cond.fieldLink RX0 41 "SpotAccount" "orderClosed" "[Z", Cond.fieldLink RX0 35 "SpotAccount" "orderPromise" "[I", Cond.methodLink RX0 169 Lib.Math.max.name]
def wsL_owed_r2 : List Cond := [Cond.static Lib.Math.max.name, Cond.initialized "java/lang/Math", Cond.code Lib.Math.max.name Lib.Math.max.code 2 (some .int), Cond.methodLink RX0 129 yX0_audience, Cond.instanceMethod yX0_audience, Cond.selects RX0 yX0_audience yX0_audience, Cond.code yX0_audience cX0_audience 5 (some .int), Cond.fieldLink RX0 84 "SpotAccount" "spotCount" "I", Cond.fieldLink RX0 44 "SpotAccount" "spotOrder" "[I", Cond.fieldLink RX0 50 "SpotAccount" "spotState" "[I", Cond.fieldLink RX0 47 "SpotAccount" "spotBreak" "[I", Cond.methodLink RX0 156 yX0_ratingFor, Cond.instanceMethod yX0_ratingFor, Cond.selects RX0 yX0_ratingFor yX0_ratingFor, Cond.code yX0_ratingFor cX0_ratingFor 3 (some .int), Cond.fieldLink RX0 17 "SpotAccount" "ratings" "[I", Cond.fieldLink RX0 26 "SpotAccount" "orderGroup" "[I", Cond.methodLink RX0 80 yX0_ratingCell, Cond.static yX0_ratingCell, Cond.code yX0_ratingCell cX0_ratingCell 2 (some .int)]
def wsL_owed : List Cond := .codeWith yL_owed cL_owed 3 (some .int) [(0, 5, 6, 26)] :: ((wsL_owed_r1 ++ wsL_owed_r2) ++ wsX00 ++ (vx_atS RX0 143 "java/lang/IndexOutOfBoundsException" ["java/lang/RuntimeException", "java/lang/Exception"]).filter goodWord)
def wsL_rest_r1 : List Cond := [Cond.classLink RL 26 "java/lang/IndexOutOfBoundsException", Cond.constant RL 28 (-1000001), Cond.methodLink RL 84 yX0_rest, Cond.instanceMethod yX0_rest, Cond.selects RX0 yX0_rest yX0_rest, Cond.initialized RX0, Cond.code yX0_rest cX0_rest 2 (some .int), Cond.methodLink RX0 101 yX0_checkOrder, Cond.instanceMethod yX0_checkOrder, Cond.selects RX0 yX0_checkOrder yX0_checkOrder, Cond.code yX0_checkOrder cX0_checkOrder 2 none, Cond.fieldLink RX0 98 "SpotAccount" "orderCount" "I", Cond.methodLink RX0 135 yX0_checkIndex, Cond.static yX0_checkIndex, Cond.code yX0_checkIndex cX0_checkIndex 2 none, Cond.classLink RX0 139 "java/lang/IndexOutOfBoundsException", Cond.initialized "java/lang/IndexOutOfBoundsException", Cond.methodLink RX0 114 yX0_restOf, Cond.instanceMethod yX0_restOf, Cond.selects RX0 yX0_restOf yX0_restOf, Cond.code yX0_restOf cX0_restOf 4 (some .int), Cond.fieldLink RX0 84 "SpotAccount" "spotCount" "I", Cond.fieldLink RX0 44 "SpotAccount" "spotOrder" "[I", Cond.fieldLink RX0 53 "SpotAccount" "spotFree" "[Z"]
def wsL_rest_r2 : List Cond := [Cond.fieldLink RX0 50 "SpotAccount" "spotState" "[I", Cond.fieldLink RX0 47 "SpotAccount" "spotBreak" "[I", Cond.methodLink RX0 169 Lib.Math.max.name, Cond.static Lib.Math.max.name, Cond.initialized "java/lang/Math", Cond.code Lib.Math.max.name Lib.Math.max.code 2 (some .int), Cond.methodLink RX0 104 yX0_owedTo, Cond.instanceMethod yX0_owedTo, Cond.selects RX0 yX0_owedTo yX0_owedTo, Cond.code yX0_owedTo cX0_owedTo 2 (some .int), Cond.fieldLink RX0 41 "SpotAccount" "orderClosed" "[Z", Cond.fieldLink RX0 35 "SpotAccount" "orderPromise" "[I", Cond.methodLink RX0 129 yX0_audience, Cond.instanceMethod yX0_audience, Cond.selects RX0 yX0_audience yX0_audience, Cond.code yX0_audience cX0_audience 5 (some .int), Cond.methodLink RX0 156 yX0_ratingFor, Cond.instanceMethod yX0_ratingFor, Cond.selects RX0 yX0_ratingFor yX0_ratingFor, Cond.code yX0_ratingFor cX0_ratingFor 3 (some .int), Cond.fieldLink RX0 17 "SpotAccount" "ratings" "[I", Cond.fieldLink RX0 26 "SpotAccount" "orderGroup" "[I", Cond.methodLink RX0 80 yX0_ratingCell, Cond.static yX0_ratingCell]
def wsL_rest_r3 : List Cond := [Cond.code yX0_ratingCell cX0_ratingCell 2 (some .int)]
def wsL_rest : List Cond := .codeWith yL_rest cL_rest 3 (some .int) [(0, 5, 6, 26)] :: ((wsL_rest_r1 ++ (wsL_rest_r2 ++ wsL_rest_r3)) ++ wsX00 ++ (vx_atS RX0 143 "java/lang/IndexOutOfBoundsException" ["java/lang/RuntimeException", "java/lang/Exception"]).filter goodWord)
def wsL_bill_r1 : List Cond := [Cond.classLink RL 26 "java/lang/IndexOutOfBoundsException", Cond.constant RL 28 (-1000001), Cond.methodLink RL 87 yX0_bill, Cond.instanceMethod yX0_bill, Cond.selects RX0 yX0_bill yX0_bill, Cond.initialized RX0, Cond.code yX0_bill cX0_bill 2 (some .int), Cond.methodLink RX0 101 yX0_checkOrder, Cond.instanceMethod yX0_checkOrder, Cond.selects RX0 yX0_checkOrder yX0_checkOrder, Cond.code yX0_checkOrder cX0_checkOrder 2 none, Cond.fieldLink RX0 98 "SpotAccount" "orderCount" "I", Cond.methodLink RX0 135 yX0_checkIndex, Cond.static yX0_checkIndex, Cond.code yX0_checkIndex cX0_checkIndex 2 none, Cond.classLink RX0 139 "java/lang/IndexOutOfBoundsException", Cond.initialized "java/lang/IndexOutOfBoundsException", Cond.methodLink RX0 132 yX0_billOf, Cond.instanceMethod yX0_billOf, Cond.selects RX0 yX0_billOf yX0_billOf, Cond.code yX0_billOf cX0_billOf 4 (some .int), Cond.fieldLink RX0 84 "SpotAccount" "spotCount" "I", Cond.fieldLink RX0 44 "SpotAccount" "spotOrder" "[I", Cond.fieldLink RX0 53 "SpotAccount" "spotFree" "[Z"]
def wsL_bill_r2 : List Cond := [Cond.fieldLink RX0 50 "SpotAccount" "spotState" "[I", Cond.fieldLink RX0 32 "SpotAccount" "orderPrice" "[I"]
def wsL_bill : List Cond := .codeWith yL_bill cL_bill 3 (some .int) [(0, 5, 6, 26)] :: ((wsL_bill_r1 ++ wsL_bill_r2) ++ wsX00 ++ (vx_atS RX0 143 "java/lang/IndexOutOfBoundsException" ["java/lang/RuntimeException", "java/lang/Exception"]).filter goodWord)
def wsL_billTo_r1 : List Cond := [Cond.classLink RL 16 "java/lang/IllegalArgumentException", Cond.constant RL 18 (-1000002), Cond.methodLink RL 90 yX0_billTo, Cond.instanceMethod yX0_billTo, Cond.selects RX0 yX0_billTo yX0_billTo, Cond.initialized RX0, Cond.code yX0_billTo cX0_billTo 4 (some .int), Cond.fieldLink RX0 98 "SpotAccount" "orderCount" "I", Cond.fieldLink RX0 20 "SpotAccount" "orderAdvertiser" "[I", Cond.methodLink RX0 91 yX0_isAdvertiser, Cond.static yX0_isAdvertiser, Cond.code yX0_isAdvertiser cX0_isAdvertiser 1 (some .boolean), Cond.methodLink RX0 56 yX0_isWithin, Cond.static yX0_isWithin, Cond.code yX0_isWithin cX0_isWithin 3 (some .boolean), Cond.methodLink RX0 60 yX0_checkArgument, Cond.static yX0_checkArgument, Cond.code yX0_checkArgument cX0_checkArgument 1 none, Cond.classLink RX0 146 "java/lang/IllegalArgumentException", Cond.initialized "java/lang/IllegalArgumentException", Cond.methodLink RX0 132 yX0_billOf, Cond.instanceMethod yX0_billOf, Cond.selects RX0 yX0_billOf yX0_billOf, Cond.code yX0_billOf cX0_billOf 4 (some .int)]
def wsL_billTo_r2 : List Cond := [Cond.fieldLink RX0 84 "SpotAccount" "spotCount" "I", Cond.fieldLink RX0 44 "SpotAccount" "spotOrder" "[I", Cond.fieldLink RX0 53 "SpotAccount" "spotFree" "[Z", Cond.fieldLink RX0 50 "SpotAccount" "spotState" "[I", Cond.fieldLink RX0 32 "SpotAccount" "orderPrice" "[I"]
def wsL_billTo : List Cond := .codeWith yL_billTo cL_billTo 3 (some .int) [(0, 5, 6, 16)] :: ((wsL_billTo_r1 ++ wsL_billTo_r2) ++ wsX00 ++ (vx_atS RX0 150 "java/lang/IllegalArgumentException" ["java/lang/RuntimeException", "java/lang/Exception"]).filter goodWord)
def wsL_stands : List Cond := .code yL_stands cL_stands 2 (some .boolean) :: ([.methodLink RL 93 yL_stateOf, .static yL_stateOf, .initialized RL, .codeWith yL_stateOf cL_stateOf 3 (some .int) [(0, 5, 6, 26)], .classLink RL 26 "java/lang/IndexOutOfBoundsException", .constant RL 28 (-1000001), .methodLink RL 72 yX0_stateOf, .instanceMethod yX0_stateOf, .selects RX0 yX0_stateOf yX0_stateOf, .initialized RX0, .code yX0_stateOf cX0_stateOf 2 (some .int), .fieldLink RX0 50 "SpotAccount" "spotState" "[I", .methodLink RX0 123 yX0_checkSpot, .instanceMethod yX0_checkSpot, .selects RX0 yX0_checkSpot yX0_checkSpot, .code yX0_checkSpot cX0_checkSpot 2 none, .fieldLink RX0 84 "SpotAccount" "spotCount" "I", .methodLink RX0 135 yX0_checkIndex, .static yX0_checkIndex, .code yX0_checkIndex cX0_checkIndex 2 none, .classLink RX0 139 "java/lang/IndexOutOfBoundsException", .initialized "java/lang/IndexOutOfBoundsException"] ++ wsX00 ++ (vx_atS RX0 143 "java/lang/IndexOutOfBoundsException" ["java/lang/RuntimeException", "java/lang/Exception"]).filter goodWord)
def wsL_breaks_r1 : List Cond := [Cond.constant RL 28 (-1000001), Cond.methodLink RL 98 yL_stands, Cond.static yL_stands, Cond.initialized RL, Cond.code yL_stands cL_stands 2 (some .boolean), Cond.methodLink RL 93 yL_stateOf, Cond.static yL_stateOf, Cond.codeWith yL_stateOf cL_stateOf 3 (some .int) [(0, 5, 6, 26)], Cond.classLink RL 26 "java/lang/IndexOutOfBoundsException", Cond.methodLink RL 72 yX0_stateOf, Cond.instanceMethod yX0_stateOf, Cond.selects RX0 yX0_stateOf yX0_stateOf, Cond.initialized RX0, Cond.code yX0_stateOf cX0_stateOf 2 (some .int), Cond.fieldLink RX0 50 "SpotAccount" "spotState" "[I", Cond.methodLink RX0 123 yX0_checkSpot, Cond.instanceMethod yX0_checkSpot, Cond.selects RX0 yX0_checkSpot yX0_checkSpot, Cond.code yX0_checkSpot cX0_checkSpot 2 none, Cond.fieldLink RX0 84 "SpotAccount" "spotCount" "I", Cond.methodLink RX0 135 yX0_checkIndex, Cond.static yX0_checkIndex, Cond.code yX0_checkIndex cX0_checkIndex 2 none, Cond.classLink RX0 139 "java/lang/IndexOutOfBoundsException"]
def wsL_breaks_r2 : List Cond := [Cond.initialized "java/lang/IndexOutOfBoundsException", Cond.methodLink RL 102 yL_breakOf, Cond.static yL_breakOf, Cond.codeWith yL_breakOf cL_breakOf 3 (some .int) [(0, 5, 6, 26)], Cond.methodLink RL 75 yX0_breakOf, Cond.instanceMethod yX0_breakOf, Cond.selects RX0 yX0_breakOf yX0_breakOf, Cond.code yX0_breakOf cX0_breakOf 2 (some .int), Cond.fieldLink RX0 47 "SpotAccount" "spotBreak" "[I", Cond.methodLink RL 104 yL_room, Cond.static yL_room, Cond.codeWith yL_room cL_room 3 (some .int) [(0, 5, 6, 26)], Cond.methodLink RL 36 yX0_room, Cond.instanceMethod yX0_room, Cond.selects RX0 yX0_room yX0_room, Cond.code yX0_room cX0_room 2 (some .int), Cond.methodLink RX0 71 yX0_checkBreak, Cond.instanceMethod yX0_checkBreak, Cond.selects RX0 yX0_checkBreak yX0_checkBreak, Cond.code yX0_checkBreak cX0_checkBreak 2 none, Cond.fieldLink RX0 64 "SpotAccount" "breakCount" "I", Cond.methodLink RX0 87 yX0_secondsLeft, Cond.instanceMethod yX0_secondsLeft, Cond.selects RX0 yX0_secondsLeft yX0_secondsLeft]
def wsL_breaks_r3 : List Cond := [Cond.code yX0_secondsLeft cX0_secondsLeft 4 (some .int), Cond.fieldLink RX0 9 "SpotAccount" "breakSeconds" "[I", Cond.fieldLink RX0 29 "SpotAccount" "orderSeconds" "[I", Cond.fieldLink RX0 44 "SpotAccount" "spotOrder" "[I", Cond.methodLink RX0 126 yX0_isInBreak, Cond.instanceMethod yX0_isInBreak, Cond.selects RX0 yX0_isInBreak yX0_isInBreak, Cond.code yX0_isInBreak cX0_isInBreak 2 (some .boolean), Cond.methodLink RL 106 yL_isAired, Cond.static yL_isAired, Cond.codeWith yL_isAired cL_isAired 3 (some .int) [(0, 13, 14, 26)], Cond.methodLink RL 32 yX0_isAired, Cond.instanceMethod yX0_isAired, Cond.selects RX0 yX0_isAired yX0_isAired, Cond.code yX0_isAired cX0_isAired 2 (some .boolean), Cond.fieldLink RX0 13 "SpotAccount" "breakAired" "[Z", Cond.methodLink RL 108 yX0_breaks, Cond.instanceMethod yX0_breaks, Cond.selects RX0 yX0_breaks yX0_breaks, Cond.code yX0_breaks cX0_breaks 1 (some .int), Cond.methodLink RL 112 yX0_orders, Cond.instanceMethod yX0_orders, Cond.selects RX0 yX0_orders yX0_orders, Cond.code yX0_orders cX0_orders 1 (some .int)]
def wsL_breaks_r4 : List Cond := [Cond.fieldLink RX0 98 "SpotAccount" "orderCount" "I", Cond.methodLink RL 115 yX0_spots, Cond.instanceMethod yX0_spots, Cond.selects RX0 yX0_spots yX0_spots, Cond.code yX0_spots cX0_spots 1 (some .int)]
def wsL_breaks : List Cond := .code yL_breaks cL_breaks 12 (some .boolean) :: ((wsL_breaks_r1 ++ (wsL_breaks_r2 ++ (wsL_breaks_r3 ++ wsL_breaks_r4))) ++ wsX00 ++ (vx_atS RX0 143 "java/lang/IndexOutOfBoundsException" ["java/lang/RuntimeException", "java/lang/Exception"]).filter goodWord)
def wsL_orders_r1 : List Cond := [Cond.constant RL 18 (-1000002), Cond.constant RL 28 (-1000001), Cond.methodLink RL 102 yL_breakOf, Cond.static yL_breakOf, Cond.initialized RL, Cond.codeWith yL_breakOf cL_breakOf 3 (some .int) [(0, 5, 6, 26)], Cond.classLink RL 26 "java/lang/IndexOutOfBoundsException", Cond.methodLink RL 75 yX0_breakOf, Cond.instanceMethod yX0_breakOf, Cond.selects RX0 yX0_breakOf yX0_breakOf, Cond.initialized RX0, Cond.code yX0_breakOf cX0_breakOf 2 (some .int), Cond.fieldLink RX0 47 "SpotAccount" "spotBreak" "[I", Cond.methodLink RX0 123 yX0_checkSpot, Cond.instanceMethod yX0_checkSpot, Cond.selects RX0 yX0_checkSpot yX0_checkSpot, Cond.code yX0_checkSpot cX0_checkSpot 2 none, Cond.fieldLink RX0 84 "SpotAccount" "spotCount" "I", Cond.methodLink RX0 135 yX0_checkIndex, Cond.static yX0_checkIndex, Cond.code yX0_checkIndex cX0_checkIndex 2 none, Cond.classLink RX0 139 "java/lang/IndexOutOfBoundsException", Cond.initialized "java/lang/IndexOutOfBoundsException", Cond.methodLink RL 118 yL_rating]
def wsL_orders_r2 : List Cond := [Cond.static yL_rating, Cond.codeWith yL_rating cL_rating 4 (some .int) [(0, 6, 7, 26), (0, 6, 11, 16)], Cond.classLink RL 16 "java/lang/IllegalArgumentException", Cond.methodLink RL 39 yX0_rating, Cond.instanceMethod yX0_rating, Cond.selects RX0 yX0_rating yX0_rating, Cond.code yX0_rating cX0_rating 3 (some .int), Cond.fieldLink RX0 17 "SpotAccount" "ratings" "[I", Cond.methodLink RX0 71 yX0_checkBreak, Cond.instanceMethod yX0_checkBreak, Cond.selects RX0 yX0_checkBreak yX0_checkBreak, Cond.code yX0_checkBreak cX0_checkBreak 2 none, Cond.fieldLink RX0 64 "SpotAccount" "breakCount" "I", Cond.methodLink RX0 75 yX0_isGroup, Cond.static yX0_isGroup, Cond.code yX0_isGroup cX0_isGroup 1 (some .boolean), Cond.methodLink RX0 56 yX0_isWithin, Cond.static yX0_isWithin, Cond.code yX0_isWithin cX0_isWithin 3 (some .boolean), Cond.methodLink RX0 60 yX0_checkArgument, Cond.static yX0_checkArgument, Cond.code yX0_checkArgument cX0_checkArgument 1 none, Cond.classLink RX0 146 "java/lang/IllegalArgumentException", Cond.initialized "java/lang/IllegalArgumentException"]
def wsL_orders_r3 : List Cond := [Cond.methodLink RX0 80 yX0_ratingCell, Cond.static yX0_ratingCell, Cond.code yX0_ratingCell cX0_ratingCell 2 (some .int), Cond.methodLink RL 93 yL_stateOf, Cond.static yL_stateOf, Cond.codeWith yL_stateOf cL_stateOf 3 (some .int) [(0, 5, 6, 26)], Cond.methodLink RL 72 yX0_stateOf, Cond.instanceMethod yX0_stateOf, Cond.selects RX0 yX0_stateOf yX0_stateOf, Cond.code yX0_stateOf cX0_stateOf 2 (some .int), Cond.fieldLink RX0 50 "SpotAccount" "spotState" "[I", Cond.methodLink RL 121 yL_delivered, Cond.static yL_delivered, Cond.codeWith yL_delivered cL_delivered 3 (some .int) [(0, 5, 6, 26)], Cond.methodLink RL 78 yX0_delivered, Cond.instanceMethod yX0_delivered, Cond.selects RX0 yX0_delivered yX0_delivered, Cond.code yX0_delivered cX0_delivered 2 (some .int), Cond.methodLink RX0 101 yX0_checkOrder, Cond.instanceMethod yX0_checkOrder, Cond.selects RX0 yX0_checkOrder yX0_checkOrder, Cond.code yX0_checkOrder cX0_checkOrder 2 none, Cond.fieldLink RX0 98 "SpotAccount" "orderCount" "I", Cond.methodLink RX0 129 yX0_audience]
def wsL_orders_r4 : List Cond := [Cond.instanceMethod yX0_audience, Cond.selects RX0 yX0_audience yX0_audience, Cond.code yX0_audience cX0_audience 5 (some .int), Cond.fieldLink RX0 44 "SpotAccount" "spotOrder" "[I", Cond.methodLink RX0 156 yX0_ratingFor, Cond.instanceMethod yX0_ratingFor, Cond.selects RX0 yX0_ratingFor yX0_ratingFor, Cond.code yX0_ratingFor cX0_ratingFor 3 (some .int), Cond.fieldLink RX0 26 "SpotAccount" "orderGroup" "[I", Cond.methodLink RL 123 yL_owed, Cond.static yL_owed, Cond.codeWith yL_owed cL_owed 3 (some .int) [(0, 5, 6, 26)], Cond.methodLink RL 81 yX0_owed, Cond.instanceMethod yX0_owed, Cond.selects RX0 yX0_owed yX0_owed, Cond.code yX0_owed cX0_owed 2 (some .int), Cond.methodLink RX0 104 yX0_owedTo, Cond.instanceMethod yX0_owedTo, Cond.selects RX0 yX0_owedTo yX0_owedTo, Cond.code yX0_owedTo cX0_owedTo 2 (some .int), Cond.fieldLink RX0 41 "SpotAccount" "orderClosed" "[Z", Cond.fieldLink RX0 35 "SpotAccount" "orderPromise" "[I", Cond.methodLink RX0 169 Lib.Math.max.name, Cond.static Lib.Math.max.name]
def wsL_orders_r5 : List Cond := [Cond.initialized "java/lang/Math", Cond.code Lib.Math.max.name Lib.Math.max.code 2 (some .int), Cond.methodLink RL 125 yL_rest, Cond.static yL_rest, Cond.codeWith yL_rest cL_rest 3 (some .int) [(0, 5, 6, 26)], Cond.methodLink RL 84 yX0_rest, Cond.instanceMethod yX0_rest, Cond.selects RX0 yX0_rest yX0_rest, Cond.code yX0_rest cX0_rest 2 (some .int), Cond.methodLink RX0 114 yX0_restOf, Cond.instanceMethod yX0_restOf, Cond.selects RX0 yX0_restOf yX0_restOf, Cond.code yX0_restOf cX0_restOf 4 (some .int), Cond.fieldLink RX0 53 "SpotAccount" "spotFree" "[Z", Cond.methodLink RL 127 yL_bill, Cond.static yL_bill, Cond.codeWith yL_bill cL_bill 3 (some .int) [(0, 5, 6, 26)], Cond.methodLink RL 87 yX0_bill, Cond.instanceMethod yX0_bill, Cond.selects RX0 yX0_bill yX0_bill, Cond.code yX0_bill cX0_bill 2 (some .int), Cond.methodLink RX0 132 yX0_billOf, Cond.instanceMethod yX0_billOf, Cond.selects RX0 yX0_billOf yX0_billOf]
def wsL_orders_r6 : List Cond := [Cond.code yX0_billOf cX0_billOf 4 (some .int), Cond.fieldLink RX0 32 "SpotAccount" "orderPrice" "[I", Cond.methodLink RL 129 yL_billTo, Cond.static yL_billTo, Cond.codeWith yL_billTo cL_billTo 3 (some .int) [(0, 5, 6, 16)], Cond.methodLink RL 90 yX0_billTo, Cond.instanceMethod yX0_billTo, Cond.selects RX0 yX0_billTo yX0_billTo, Cond.code yX0_billTo cX0_billTo 4 (some .int), Cond.fieldLink RX0 20 "SpotAccount" "orderAdvertiser" "[I", Cond.methodLink RX0 91 yX0_isAdvertiser, Cond.static yX0_isAdvertiser, Cond.code yX0_isAdvertiser cX0_isAdvertiser 1 (some .boolean), Cond.methodLink RL 131 yX0_mostOwed, Cond.instanceMethod yX0_mostOwed, Cond.selects RX0 yX0_mostOwed yX0_mostOwed, Cond.code yX0_mostOwed cX0_mostOwed 5 (some .int)]
def wsL_orders : List Cond := .code yL_orders cL_orders 11 (some .boolean) :: ((wsL_orders_r1 ++ (wsL_orders_r2 ++ (wsL_orders_r3 ++ (wsL_orders_r4 ++ (wsL_orders_r5 ++ wsL_orders_r6))))) ++ wsX00 ++ (vx_atS RX0 143 "java/lang/IndexOutOfBoundsException" ["java/lang/RuntimeException", "java/lang/Exception"]).filter goodWord ++ (vx_atS RX0 150 "java/lang/IllegalArgumentException" ["java/lang/RuntimeException", "java/lang/Exception"]).filter goodWord)
def wsL_fills_r1 : List Cond := [Cond.constant RL 21 (-1000003), Cond.constant RL 18 (-1000002), Cond.constant RL 28 (-1000001), Cond.methodLink RL 134 yL_fill, Cond.static yL_fill, Cond.initialized RL, Cond.codeWith yL_fill cL_fill 4 (some .int) [(0, 6, 7, 26), (0, 6, 11, 16), (0, 6, 15, 19)], Cond.classLink RL 26 "java/lang/IndexOutOfBoundsException", Cond.classLink RL 16 "java/lang/IllegalArgumentException", Cond.classLink RL 19 "java/lang/IllegalStateException", Cond.methodLink RL 59 yX0_fill, Cond.instanceMethod yX0_fill, Cond.selects RX0 yX0_fill yX0_fill, Cond.initialized RX0, Cond.code yX0_fill cX0_fill 5 (some .int), Cond.fieldLink RX0 41 "SpotAccount" "orderClosed" "[Z", Cond.fieldLink RX0 84 "SpotAccount" "spotCount" "I", Cond.methodLink RX0 101 yX0_checkOrder, Cond.instanceMethod yX0_checkOrder, Cond.selects RX0 yX0_checkOrder yX0_checkOrder, Cond.code yX0_checkOrder cX0_checkOrder 2 none, Cond.fieldLink RX0 98 "SpotAccount" "orderCount" "I", Cond.methodLink RX0 135 yX0_checkIndex, Cond.static yX0_checkIndex]
def wsL_fills_r2 : List Cond := [Cond.code yX0_checkIndex cX0_checkIndex 2 none, Cond.classLink RX0 139 "java/lang/IndexOutOfBoundsException", Cond.initialized "java/lang/IndexOutOfBoundsException", Cond.methodLink RX0 56 yX0_isWithin, Cond.static yX0_isWithin, Cond.code yX0_isWithin cX0_isWithin 3 (some .boolean), Cond.methodLink RX0 60 yX0_checkArgument, Cond.static yX0_checkArgument, Cond.code yX0_checkArgument cX0_checkArgument 1 none, Cond.classLink RX0 146 "java/lang/IllegalArgumentException", Cond.initialized "java/lang/IllegalArgumentException", Cond.methodLink RX0 68 yX0_checkState, Cond.static yX0_checkState, Cond.code yX0_checkState cX0_checkState 1 none, Cond.classLink RX0 151 "java/lang/IllegalStateException", Cond.initialized "java/lang/IllegalStateException", Cond.methodLink RX0 117 yX0_isShortOfPromise, Cond.instanceMethod yX0_isShortOfPromise, Cond.selects RX0 yX0_isShortOfPromise yX0_isShortOfPromise, Cond.code yX0_isShortOfPromise cX0_isShortOfPromise 2 (some .boolean), Cond.fieldLink RX0 35 "SpotAccount" "orderPromise" "[I", Cond.methodLink RX0 129 yX0_audience, Cond.instanceMethod yX0_audience, Cond.selects RX0 yX0_audience yX0_audience]
def wsL_fills_r3 : List Cond := [Cond.code yX0_audience cX0_audience 5 (some .int), Cond.fieldLink RX0 44 "SpotAccount" "spotOrder" "[I", Cond.fieldLink RX0 50 "SpotAccount" "spotState" "[I", Cond.fieldLink RX0 47 "SpotAccount" "spotBreak" "[I", Cond.methodLink RX0 156 yX0_ratingFor, Cond.instanceMethod yX0_ratingFor, Cond.selects RX0 yX0_ratingFor yX0_ratingFor, Cond.code yX0_ratingFor cX0_ratingFor 3 (some .int), Cond.fieldLink RX0 17 "SpotAccount" "ratings" "[I", Cond.fieldLink RX0 26 "SpotAccount" "orderGroup" "[I", Cond.methodLink RX0 80 yX0_ratingCell, Cond.static yX0_ratingCell, Cond.code yX0_ratingCell cX0_ratingCell 2 (some .int), Cond.methodLink RX0 120 yX0_bestBreak, Cond.instanceMethod yX0_bestBreak, Cond.selects RX0 yX0_bestBreak yX0_bestBreak, Cond.code yX0_bestBreak cX0_bestBreak 6 (some .int), Cond.fieldLink RX0 64 "SpotAccount" "breakCount" "I", Cond.methodLink RX0 107 yX0_obstacle, Cond.instanceMethod yX0_obstacle, Cond.selects RX0 yX0_obstacle yX0_obstacle, Cond.code yX0_obstacle cX0_obstacle 3 (some .int), Cond.fieldLink RX0 13 "SpotAccount" "breakAired" "[Z", Cond.fieldLink RX0 29 "SpotAccount" "orderSeconds" "[I"]
def wsL_fills_r4 : List Cond := [Cond.fieldLink RX0 38 "SpotAccount" "orderFloor" "[I", Cond.fieldLink RX0 20 "SpotAccount" "orderAdvertiser" "[I", Cond.methodLink RX0 87 yX0_secondsLeft, Cond.instanceMethod yX0_secondsLeft, Cond.selects RX0 yX0_secondsLeft yX0_secondsLeft, Cond.code yX0_secondsLeft cX0_secondsLeft 4 (some .int), Cond.fieldLink RX0 9 "SpotAccount" "breakSeconds" "[I", Cond.methodLink RX0 126 yX0_isInBreak, Cond.instanceMethod yX0_isInBreak, Cond.selects RX0 yX0_isInBreak yX0_isInBreak, Cond.code yX0_isInBreak cX0_isInBreak 2 (some .boolean), Cond.methodLink RX0 159 yX0_holdsAdvertiser, Cond.instanceMethod yX0_holdsAdvertiser, Cond.selects RX0 yX0_holdsAdvertiser yX0_holdsAdvertiser, Cond.code yX0_holdsAdvertiser cX0_holdsAdvertiser 4 (some .boolean), Cond.methodLink RX0 163 yX0_holdsRival, Cond.instanceMethod yX0_holdsRival, Cond.selects RX0 yX0_holdsRival yX0_holdsRival, Cond.code yX0_holdsRival cX0_holdsRival 4 (some .boolean), Cond.methodLink RX0 166 yX0_areRivals, Cond.instanceMethod yX0_areRivals, Cond.selects RX0 yX0_areRivals yX0_areRivals, Cond.code yX0_areRivals cX0_areRivals 3 (some .boolean), Cond.fieldLink RX0 23 "SpotAccount" "orderCategory" "[I"]
def wsL_fills_r5 : List Cond := [Cond.methodLink RX0 110 yX0_addSpot, Cond.instanceMethod yX0_addSpot, Cond.selects RX0 yX0_addSpot yX0_addSpot, Cond.code yX0_addSpot cX0_addSpot 5 (some .int), Cond.fieldLink RX0 53 "SpotAccount" "spotFree" "[Z", Cond.methodLink RL 98 yL_stands, Cond.static yL_stands, Cond.code yL_stands cL_stands 2 (some .boolean), Cond.methodLink RL 93 yL_stateOf, Cond.static yL_stateOf, Cond.codeWith yL_stateOf cL_stateOf 3 (some .int) [(0, 5, 6, 26)], Cond.methodLink RL 72 yX0_stateOf, Cond.instanceMethod yX0_stateOf, Cond.selects RX0 yX0_stateOf yX0_stateOf, Cond.code yX0_stateOf cX0_stateOf 2 (some .int), Cond.methodLink RX0 123 yX0_checkSpot, Cond.instanceMethod yX0_checkSpot, Cond.selects RX0 yX0_checkSpot yX0_checkSpot, Cond.code yX0_checkSpot cX0_checkSpot 2 none, Cond.methodLink RL 102 yL_breakOf, Cond.static yL_breakOf, Cond.codeWith yL_breakOf cL_breakOf 3 (some .int) [(0, 5, 6, 26)], Cond.methodLink RL 75 yX0_breakOf, Cond.instanceMethod yX0_breakOf]
def wsL_fills_r6 : List Cond := [Cond.selects RX0 yX0_breakOf yX0_breakOf, Cond.code yX0_breakOf cX0_breakOf 2 (some .int), Cond.methodLink RL 118 yL_rating, Cond.static yL_rating, Cond.codeWith yL_rating cL_rating 4 (some .int) [(0, 6, 7, 26), (0, 6, 11, 16)], Cond.methodLink RL 39 yX0_rating, Cond.instanceMethod yX0_rating, Cond.selects RX0 yX0_rating yX0_rating, Cond.code yX0_rating cX0_rating 3 (some .int), Cond.methodLink RX0 71 yX0_checkBreak, Cond.instanceMethod yX0_checkBreak, Cond.selects RX0 yX0_checkBreak yX0_checkBreak, Cond.code yX0_checkBreak cX0_checkBreak 2 none, Cond.methodLink RX0 75 yX0_isGroup, Cond.static yX0_isGroup, Cond.code yX0_isGroup cX0_isGroup 1 (some .boolean), Cond.methodLink RL 136 yL_whyNot, Cond.static yL_whyNot, Cond.codeWith yL_whyNot cL_whyNot 4 (some .int) [(0, 6, 7, 26)], Cond.methodLink RL 50 yX0_whyNot, Cond.instanceMethod yX0_whyNot, Cond.selects RX0 yX0_whyNot yX0_whyNot, Cond.code yX0_whyNot cX0_whyNot 3 (some .int), Cond.methodLink RL 138 yL_place]
def wsL_fills_r7 : List Cond := [Cond.static yL_place, Cond.codeWith yL_place cL_place 4 (some .int) [(0, 6, 7, 26), (0, 6, 11, 19)], Cond.methodLink RL 53 yX0_place, Cond.instanceMethod yX0_place, Cond.selects RX0 yX0_place yX0_place, Cond.code yX0_place cX0_place 3 (some .int)]
def wsL_fills : List Cond := .code yL_fills cL_fills 12 (some .boolean) :: ((wsL_fills_r1 ++ (wsL_fills_r2 ++ (wsL_fills_r3 ++ (wsL_fills_r4 ++ (wsL_fills_r5 ++ (wsL_fills_r6 ++ wsL_fills_r7)))))) ++ wsX00 ++ (vx_atS RX0 143 "java/lang/IndexOutOfBoundsException" ["java/lang/RuntimeException", "java/lang/Exception"]).filter goodWord ++ (vx_atS RX0 150 "java/lang/IllegalArgumentException" ["java/lang/RuntimeException", "java/lang/Exception"]).filter goodWord ++ (vx_atS RX0 155 "java/lang/IllegalStateException" ["java/lang/RuntimeException", "java/lang/Exception"]).filter goodWord)
def wsL_acts_r1 : List Cond := [Cond.constant RL 21 (-1000003), Cond.constant RL 18 (-1000002), Cond.constant RL 145 (1000001), Cond.constant RL 149 (100001), Cond.constant RL 28 (-1000001), Cond.methodLink RL 140 yL_low, Cond.static yL_low, Cond.initialized RL, Cond.code yL_low cL_low 2 (some .int), Cond.constant RL 9 (2147483647), Cond.methodLink RL 143 yL_addBreak, Cond.static yL_addBreak, Cond.codeWith yL_addBreak cL_addBreak 3 (some .int) [(0, 5, 6, 16), (0, 5, 10, 19)], Cond.classLink RL 16 "java/lang/IllegalArgumentException", Cond.classLink RL 19 "java/lang/IllegalStateException", Cond.methodLink RL 10 yX0_addBreak, Cond.instanceMethod yX0_addBreak, Cond.selects RX0 yX0_addBreak yX0_addBreak, Cond.initialized RX0, Cond.code yX0_addBreak cX0_addBreak 3 (some .int), Cond.fieldLink RX0 64 "SpotAccount" "breakCount" "I", Cond.fieldLink RX0 9 "SpotAccount" "breakSeconds" "[I", Cond.methodLink RX0 56 yX0_isWithin, Cond.static yX0_isWithin]
def wsL_acts_r2 : List Cond := [Cond.code yX0_isWithin cX0_isWithin 3 (some .boolean), Cond.methodLink RX0 60 yX0_checkArgument, Cond.static yX0_checkArgument, Cond.code yX0_checkArgument cX0_checkArgument 1 none, Cond.classLink RX0 146 "java/lang/IllegalArgumentException", Cond.initialized "java/lang/IllegalArgumentException", Cond.methodLink RX0 68 yX0_checkState, Cond.static yX0_checkState, Cond.code yX0_checkState cX0_checkState 1 none, Cond.classLink RX0 151 "java/lang/IllegalStateException", Cond.initialized "java/lang/IllegalStateException", Cond.methodLink RL 146 yL_addOrder, Cond.static yL_addOrder, Cond.codeWith yL_addOrder cL_addOrder 9 (some .int) [(0, 15, 16, 16), (0, 15, 21, 19)], Cond.methodLink RL 43 yX0_addOrder, Cond.instanceMethod yX0_addOrder, Cond.selects RX0 yX0_addOrder yX0_addOrder, Cond.code yX0_addOrder cX0_addOrder 9 (some .int), Cond.constant RX0 97 (1000000), Cond.constant RX0 79 (100000), Cond.fieldLink RX0 98 "SpotAccount" "orderCount" "I", Cond.fieldLink RX0 20 "SpotAccount" "orderAdvertiser" "[I", Cond.fieldLink RX0 23 "SpotAccount" "orderCategory" "[I", Cond.fieldLink RX0 26 "SpotAccount" "orderGroup" "[I"]
def wsL_acts_r3 : List Cond := [Cond.fieldLink RX0 29 "SpotAccount" "orderSeconds" "[I", Cond.fieldLink RX0 32 "SpotAccount" "orderPrice" "[I", Cond.fieldLink RX0 35 "SpotAccount" "orderPromise" "[I", Cond.fieldLink RX0 38 "SpotAccount" "orderFloor" "[I", Cond.methodLink RX0 91 yX0_isAdvertiser, Cond.static yX0_isAdvertiser, Cond.code yX0_isAdvertiser cX0_isAdvertiser 1 (some .boolean), Cond.methodLink RX0 75 yX0_isGroup, Cond.static yX0_isGroup, Cond.code yX0_isGroup cX0_isGroup 1 (some .boolean), Cond.methodLink RX0 94 yX0_isSpotLength, Cond.static yX0_isSpotLength, Cond.code yX0_isSpotLength cX0_isSpotLength 1 (some .boolean), Cond.methodLink RL 118 yL_rating, Cond.static yL_rating, Cond.codeWith yL_rating cL_rating 4 (some .int) [(0, 6, 7, 26), (0, 6, 11, 16)], Cond.classLink RL 26 "java/lang/IndexOutOfBoundsException", Cond.methodLink RL 39 yX0_rating, Cond.instanceMethod yX0_rating, Cond.selects RX0 yX0_rating yX0_rating, Cond.code yX0_rating cX0_rating 3 (some .int), Cond.fieldLink RX0 17 "SpotAccount" "ratings" "[I", Cond.methodLink RX0 71 yX0_checkBreak, Cond.instanceMethod yX0_checkBreak]
def wsL_acts_r4 : List Cond := [Cond.selects RX0 yX0_checkBreak yX0_checkBreak, Cond.code yX0_checkBreak cX0_checkBreak 2 none, Cond.methodLink RX0 135 yX0_checkIndex, Cond.static yX0_checkIndex, Cond.code yX0_checkIndex cX0_checkIndex 2 none, Cond.classLink RX0 139 "java/lang/IndexOutOfBoundsException", Cond.initialized "java/lang/IndexOutOfBoundsException", Cond.methodLink RX0 80 yX0_ratingCell, Cond.static yX0_ratingCell, Cond.code yX0_ratingCell cX0_ratingCell 2 (some .int), Cond.methodLink RL 150 yL_rate, Cond.static yL_rate, Cond.codeWith yL_rate cL_rate 5 (some .int) [(0, 7, 8, 26), (0, 7, 13, 16)], Cond.methodLink RL 22 yX0_rate, Cond.instanceMethod yX0_rate, Cond.selects RX0 yX0_rate yX0_rate, Cond.code yX0_rate cX0_rate 6 (some .int), Cond.methodLink RL 136 yL_whyNot, Cond.static yL_whyNot, Cond.codeWith yL_whyNot cL_whyNot 4 (some .int) [(0, 6, 7, 26)], Cond.methodLink RL 50 yX0_whyNot, Cond.instanceMethod yX0_whyNot, Cond.selects RX0 yX0_whyNot yX0_whyNot, Cond.code yX0_whyNot cX0_whyNot 3 (some .int)]
def wsL_acts_r5 : List Cond := [Cond.methodLink RX0 101 yX0_checkOrder, Cond.instanceMethod yX0_checkOrder, Cond.selects RX0 yX0_checkOrder yX0_checkOrder, Cond.code yX0_checkOrder cX0_checkOrder 2 none, Cond.methodLink RX0 107 yX0_obstacle, Cond.instanceMethod yX0_obstacle, Cond.selects RX0 yX0_obstacle yX0_obstacle, Cond.code yX0_obstacle cX0_obstacle 3 (some .int), Cond.fieldLink RX0 13 "SpotAccount" "breakAired" "[Z", Cond.methodLink RX0 87 yX0_secondsLeft, Cond.instanceMethod yX0_secondsLeft, Cond.selects RX0 yX0_secondsLeft yX0_secondsLeft, Cond.code yX0_secondsLeft cX0_secondsLeft 4 (some .int), Cond.fieldLink RX0 84 "SpotAccount" "spotCount" "I", Cond.fieldLink RX0 47 "SpotAccount" "spotBreak" "[I", Cond.fieldLink RX0 44 "SpotAccount" "spotOrder" "[I", Cond.methodLink RX0 126 yX0_isInBreak, Cond.instanceMethod yX0_isInBreak, Cond.selects RX0 yX0_isInBreak yX0_isInBreak, Cond.code yX0_isInBreak cX0_isInBreak 2 (some .boolean), Cond.fieldLink RX0 50 "SpotAccount" "spotState" "[I", Cond.methodLink RX0 156 yX0_ratingFor, Cond.instanceMethod yX0_ratingFor, Cond.selects RX0 yX0_ratingFor yX0_ratingFor]
def wsL_acts_r6 : List Cond := [Cond.code yX0_ratingFor cX0_ratingFor 3 (some .int), Cond.methodLink RX0 159 yX0_holdsAdvertiser, Cond.instanceMethod yX0_holdsAdvertiser, Cond.selects RX0 yX0_holdsAdvertiser yX0_holdsAdvertiser, Cond.code yX0_holdsAdvertiser cX0_holdsAdvertiser 4 (some .boolean), Cond.methodLink RX0 163 yX0_holdsRival, Cond.instanceMethod yX0_holdsRival, Cond.selects RX0 yX0_holdsRival yX0_holdsRival, Cond.code yX0_holdsRival cX0_holdsRival 4 (some .boolean), Cond.methodLink RX0 166 yX0_areRivals, Cond.instanceMethod yX0_areRivals, Cond.selects RX0 yX0_areRivals yX0_areRivals, Cond.code yX0_areRivals cX0_areRivals 3 (some .boolean), Cond.methodLink RL 125 yL_rest, Cond.static yL_rest, Cond.codeWith yL_rest cL_rest 3 (some .int) [(0, 5, 6, 26)], Cond.methodLink RL 84 yX0_rest, Cond.instanceMethod yX0_rest, Cond.selects RX0 yX0_rest yX0_rest, Cond.code yX0_rest cX0_rest 2 (some .int), Cond.methodLink RX0 114 yX0_restOf, Cond.instanceMethod yX0_restOf, Cond.selects RX0 yX0_restOf yX0_restOf, Cond.code yX0_restOf cX0_restOf 4 (some .int)]
def wsL_acts_r7 : List Cond := [Cond.fieldLink RX0 53 "SpotAccount" "spotFree" "[Z", Cond.methodLink RX0 169 Lib.Math.max.name, Cond.static Lib.Math.max.name, Cond.initialized "java/lang/Math", Cond.code Lib.Math.max.name Lib.Math.max.code 2 (some .int), Cond.methodLink RX0 104 yX0_owedTo, Cond.instanceMethod yX0_owedTo, Cond.selects RX0 yX0_owedTo yX0_owedTo, Cond.code yX0_owedTo cX0_owedTo 2 (some .int), Cond.fieldLink RX0 41 "SpotAccount" "orderClosed" "[Z", Cond.methodLink RX0 129 yX0_audience, Cond.instanceMethod yX0_audience, Cond.selects RX0 yX0_audience yX0_audience, Cond.code yX0_audience cX0_audience 5 (some .int), Cond.methodLink RL 153 yL_give, Cond.static yL_give, Cond.codeWith yL_give cL_give 4 (some .int) [(0, 6, 7, 26), (0, 6, 11, 19)], Cond.methodLink RL 56 yX0_give, Cond.instanceMethod yX0_give, Cond.selects RX0 yX0_give yX0_give, Cond.code yX0_give cX0_give 3 (some .int), Cond.methodLink RX0 110 yX0_addSpot, Cond.instanceMethod yX0_addSpot, Cond.selects RX0 yX0_addSpot yX0_addSpot]
def wsL_acts_r8 : List Cond := [Cond.code yX0_addSpot cX0_addSpot 5 (some .int), Cond.methodLink RL 138 yL_place, Cond.static yL_place, Cond.codeWith yL_place cL_place 4 (some .int) [(0, 6, 7, 26), (0, 6, 11, 19)], Cond.methodLink RL 53 yX0_place, Cond.instanceMethod yX0_place, Cond.selects RX0 yX0_place yX0_place, Cond.code yX0_place cX0_place 3 (some .int), Cond.methodLink RL 93 yL_stateOf, Cond.static yL_stateOf, Cond.codeWith yL_stateOf cL_stateOf 3 (some .int) [(0, 5, 6, 26)], Cond.methodLink RL 72 yX0_stateOf, Cond.instanceMethod yX0_stateOf, Cond.selects RX0 yX0_stateOf yX0_stateOf, Cond.code yX0_stateOf cX0_stateOf 2 (some .int), Cond.methodLink RX0 123 yX0_checkSpot, Cond.instanceMethod yX0_checkSpot, Cond.selects RX0 yX0_checkSpot yX0_checkSpot, Cond.code yX0_checkSpot cX0_checkSpot 2 none, Cond.methodLink RL 102 yL_breakOf, Cond.static yL_breakOf, Cond.codeWith yL_breakOf cL_breakOf 3 (some .int) [(0, 5, 6, 26)], Cond.methodLink RL 75 yX0_breakOf, Cond.instanceMethod yX0_breakOf]
def wsL_acts_r9 : List Cond := [Cond.selects RX0 yX0_breakOf yX0_breakOf, Cond.code yX0_breakOf cX0_breakOf 2 (some .int), Cond.methodLink RL 155 yL_fills, Cond.static yL_fills, Cond.code yL_fills cL_fills 12 (some .boolean), Cond.methodLink RL 134 yL_fill, Cond.static yL_fill, Cond.codeWith yL_fill cL_fill 4 (some .int) [(0, 6, 7, 26), (0, 6, 11, 16), (0, 6, 15, 19)], Cond.methodLink RL 59 yX0_fill, Cond.instanceMethod yX0_fill, Cond.selects RX0 yX0_fill yX0_fill, Cond.code yX0_fill cX0_fill 5 (some .int), Cond.methodLink RX0 117 yX0_isShortOfPromise, Cond.instanceMethod yX0_isShortOfPromise, Cond.selects RX0 yX0_isShortOfPromise yX0_isShortOfPromise, Cond.code yX0_isShortOfPromise cX0_isShortOfPromise 2 (some .boolean), Cond.methodLink RX0 120 yX0_bestBreak, Cond.instanceMethod yX0_bestBreak, Cond.selects RX0 yX0_bestBreak yX0_bestBreak, Cond.code yX0_bestBreak cX0_bestBreak 6 (some .int), Cond.methodLink RL 98 yL_stands, Cond.static yL_stands, Cond.code yL_stands cL_stands 2 (some .boolean), Cond.methodLink RL 159 yL_move]
def wsL_acts_r10 : List Cond := [Cond.static yL_move, Cond.codeWith yL_move cL_move 4 (some .int) [(0, 6, 7, 26), (0, 6, 11, 19)], Cond.methodLink RL 62 yX0_move, Cond.instanceMethod yX0_move, Cond.selects RX0 yX0_move yX0_move, Cond.code yX0_move cX0_move 4 (some .int), Cond.methodLink RL 161 yL_miss, Cond.static yL_miss, Cond.codeWith yL_miss cL_miss 3 (some .int) [(0, 13, 14, 26), (0, 13, 18, 19)], Cond.methodLink RL 65 yX0_miss, Cond.instanceMethod yX0_miss, Cond.selects RX0 yX0_miss yX0_miss, Cond.code yX0_miss cX0_miss 3 (some .boolean), Cond.methodLink RL 163 yL_drop, Cond.static yL_drop, Cond.codeWith yL_drop cL_drop 3 (some .int) [(0, 6, 7, 26), (0, 6, 11, 19)], Cond.methodLink RL 68 yX0_drop, Cond.instanceMethod yX0_drop, Cond.selects RX0 yX0_drop yX0_drop, Cond.code yX0_drop cX0_drop 2 none, Cond.methodLink RL 106 yL_isAired, Cond.static yL_isAired, Cond.codeWith yL_isAired cL_isAired 3 (some .int) [(0, 13, 14, 26)], Cond.methodLink RL 32 yX0_isAired]
def wsL_acts_r11 : List Cond := [Cond.instanceMethod yX0_isAired, Cond.selects RX0 yX0_isAired yX0_isAired, Cond.code yX0_isAired cX0_isAired 2 (some .boolean), Cond.methodLink RL 165 yL_air, Cond.static yL_air, Cond.codeWith yL_air cL_air 3 (some .int) [(0, 5, 6, 26), (0, 5, 10, 19)], Cond.methodLink RL 29 yX0_air, Cond.instanceMethod yX0_air, Cond.selects RX0 yX0_air yX0_air, Cond.code yX0_air cX0_air 4 (some .int), Cond.methodLink RL 167 yL_close, Cond.static yL_close, Cond.codeWith yL_close cL_close 3 (some .int) [(0, 5, 6, 26), (0, 5, 10, 19)], Cond.methodLink RL 47 yX0_close, Cond.instanceMethod yX0_close, Cond.selects RX0 yX0_close yX0_close, Cond.code yX0_close cX0_close 3 (some .int), Cond.methodLink RL 123 yL_owed, Cond.static yL_owed, Cond.codeWith yL_owed cL_owed 3 (some .int) [(0, 5, 6, 26)], Cond.methodLink RL 81 yX0_owed, Cond.instanceMethod yX0_owed, Cond.selects RX0 yX0_owed yX0_owed, Cond.code yX0_owed cX0_owed 2 (some .int)]
def wsL_acts : List Cond := .code yL_acts cL_acts 17 (some .boolean) :: ((wsL_acts_r1 ++ (wsL_acts_r2 ++ (wsL_acts_r3 ++ (wsL_acts_r4 ++ (wsL_acts_r5 ++ (wsL_acts_r6 ++ (wsL_acts_r7 ++ (wsL_acts_r8 ++ (wsL_acts_r9 ++ (wsL_acts_r10 ++ wsL_acts_r11)))))))))) ++ wsX00 ++ (vx_atS RX0 150 "java/lang/IllegalArgumentException" ["java/lang/RuntimeException", "java/lang/Exception"]).filter goodWord ++ (vx_atS RX0 155 "java/lang/IllegalStateException" ["java/lang/RuntimeException", "java/lang/Exception"]).filter goodWord ++ (vx_atS RX0 143 "java/lang/IndexOutOfBoundsException" ["java/lang/RuntimeException", "java/lang/Exception"]).filter goodWord)
def wsL_law0_r1 : List Cond := [Cond.classLink RL 11 RX0, Cond.instantiable RX0 18, Cond.initialized RX0, Cond.arrayClass .int, Cond.methodLink RL 169 yX0_init, Cond.instanceMethod yX0_init, Cond.code yX0_init cX0_init 1 none, Cond.methodLink RX0 1 objectInit, Cond.instanceMethod objectInit, Cond.code objectInit ⟨#[0xb1]⟩ 1 none, Cond.fieldLink RX0 9 "SpotAccount" "breakSeconds" "[I", Cond.arrayClass .boolean, Cond.fieldLink RX0 13 "SpotAccount" "breakAired" "[Z", Cond.fieldLink RX0 17 "SpotAccount" "ratings" "[I", Cond.fieldLink RX0 20 "SpotAccount" "orderAdvertiser" "[I", Cond.fieldLink RX0 23 "SpotAccount" "orderCategory" "[I", Cond.fieldLink RX0 26 "SpotAccount" "orderGroup" "[I", Cond.fieldLink RX0 29 "SpotAccount" "orderSeconds" "[I", Cond.fieldLink RX0 32 "SpotAccount" "orderPrice" "[I", Cond.fieldLink RX0 35 "SpotAccount" "orderPromise" "[I", Cond.fieldLink RX0 38 "SpotAccount" "orderFloor" "[I", Cond.fieldLink RX0 41 "SpotAccount" "orderClosed" "[Z", Cond.fieldLink RX0 44 "SpotAccount" "spotOrder" "[I", Cond.fieldLink RX0 47 "SpotAccount" "spotBreak" "[I"]
def wsL_law0_r2 : List Cond := [Cond.fieldLink RX0 50 "SpotAccount" "spotState" "[I", Cond.fieldLink RX0 53 "SpotAccount" "spotFree" "[Z", Cond.methodLink RL 108 yX0_breaks, Cond.instanceMethod yX0_breaks, Cond.selects RX0 yX0_breaks yX0_breaks, Cond.code yX0_breaks cX0_breaks 1 (some .int), Cond.fieldLink RX0 64 "SpotAccount" "breakCount" "I", Cond.methodLink RL 112 yX0_orders, Cond.instanceMethod yX0_orders, Cond.selects RX0 yX0_orders yX0_orders, Cond.code yX0_orders cX0_orders 1 (some .int), Cond.fieldLink RX0 98 "SpotAccount" "orderCount" "I", Cond.methodLink RL 115 yX0_spots, Cond.instanceMethod yX0_spots, Cond.selects RX0 yX0_spots yX0_spots, Cond.code yX0_spots cX0_spots 1 (some .int), Cond.fieldLink RX0 84 "SpotAccount" "spotCount" "I", Cond.methodLink RL 131 yX0_mostOwed, Cond.instanceMethod yX0_mostOwed, Cond.selects RX0 yX0_mostOwed yX0_mostOwed, Cond.code yX0_mostOwed cX0_mostOwed 5 (some .int), Cond.methodLink RX0 114 yX0_restOf, Cond.instanceMethod yX0_restOf, Cond.selects RX0 yX0_restOf yX0_restOf]
def wsL_law0_r3 : List Cond := [Cond.code yX0_restOf cX0_restOf 4 (some .int), Cond.methodLink RX0 169 Lib.Math.max.name, Cond.static Lib.Math.max.name, Cond.initialized "java/lang/Math", Cond.code Lib.Math.max.name Lib.Math.max.code 2 (some .int), Cond.methodLink RX0 104 yX0_owedTo, Cond.instanceMethod yX0_owedTo, Cond.selects RX0 yX0_owedTo yX0_owedTo, Cond.code yX0_owedTo cX0_owedTo 2 (some .int), Cond.methodLink RX0 129 yX0_audience, Cond.instanceMethod yX0_audience, Cond.selects RX0 yX0_audience yX0_audience, Cond.code yX0_audience cX0_audience 5 (some .int), Cond.methodLink RX0 156 yX0_ratingFor, Cond.instanceMethod yX0_ratingFor, Cond.selects RX0 yX0_ratingFor yX0_ratingFor, Cond.code yX0_ratingFor cX0_ratingFor 3 (some .int), Cond.methodLink RX0 80 yX0_ratingCell, Cond.static yX0_ratingCell, Cond.code yX0_ratingCell cX0_ratingCell 2 (some .int), Cond.methodLink RL 129 yL_billTo, Cond.static yL_billTo, Cond.initialized RL, Cond.codeWith yL_billTo cL_billTo 3 (some .int) [(0, 5, 6, 16)]]
def wsL_law0_r4 : List Cond := [Cond.classLink RL 16 "java/lang/IllegalArgumentException", Cond.constant RL 18 (-1000002), Cond.methodLink RL 90 yX0_billTo, Cond.instanceMethod yX0_billTo, Cond.selects RX0 yX0_billTo yX0_billTo, Cond.code yX0_billTo cX0_billTo 4 (some .int), Cond.methodLink RX0 91 yX0_isAdvertiser, Cond.static yX0_isAdvertiser, Cond.code yX0_isAdvertiser cX0_isAdvertiser 1 (some .boolean), Cond.methodLink RX0 56 yX0_isWithin, Cond.static yX0_isWithin, Cond.code yX0_isWithin cX0_isWithin 3 (some .boolean), Cond.methodLink RX0 60 yX0_checkArgument, Cond.static yX0_checkArgument, Cond.code yX0_checkArgument cX0_checkArgument 1 none, Cond.classLink RX0 146 "java/lang/IllegalArgumentException", Cond.initialized "java/lang/IllegalArgumentException", Cond.methodLink RX0 132 yX0_billOf, Cond.instanceMethod yX0_billOf, Cond.selects RX0 yX0_billOf yX0_billOf, Cond.code yX0_billOf cX0_billOf 4 (some .int), Cond.methodLink RL 170 yL_at, Cond.static yL_at, Cond.code yL_at cL_at 2 (some .int)]
def wsL_law0_r5 : List Cond := [Cond.constant RL 7 (1328400305), Cond.constant RL 8 (513189251), Cond.methodLink RL 174 yL_acts, Cond.static yL_acts, Cond.code yL_acts cL_acts 17 (some .boolean), Cond.constant RL 21 (-1000003), Cond.constant RL 145 (1000001), Cond.constant RL 149 (100001), Cond.constant RL 28 (-1000001), Cond.methodLink RL 140 yL_low, Cond.static yL_low, Cond.code yL_low cL_low 2 (some .int), Cond.constant RL 9 (2147483647), Cond.methodLink RL 143 yL_addBreak, Cond.static yL_addBreak, Cond.codeWith yL_addBreak cL_addBreak 3 (some .int) [(0, 5, 6, 16), (0, 5, 10, 19)], Cond.classLink RL 19 "java/lang/IllegalStateException", Cond.methodLink RL 10 yX0_addBreak, Cond.instanceMethod yX0_addBreak, Cond.selects RX0 yX0_addBreak yX0_addBreak, Cond.code yX0_addBreak cX0_addBreak 3 (some .int), Cond.methodLink RX0 68 yX0_checkState, Cond.static yX0_checkState, Cond.code yX0_checkState cX0_checkState 1 none]
def wsL_law0_r6 : List Cond := [Cond.classLink RX0 151 "java/lang/IllegalStateException", Cond.initialized "java/lang/IllegalStateException", Cond.methodLink RL 146 yL_addOrder, Cond.static yL_addOrder, Cond.codeWith yL_addOrder cL_addOrder 9 (some .int) [(0, 15, 16, 16), (0, 15, 21, 19)], Cond.methodLink RL 43 yX0_addOrder, Cond.instanceMethod yX0_addOrder, Cond.selects RX0 yX0_addOrder yX0_addOrder, Cond.code yX0_addOrder cX0_addOrder 9 (some .int), Cond.constant RX0 97 (1000000), Cond.constant RX0 79 (100000), Cond.methodLink RX0 75 yX0_isGroup, Cond.static yX0_isGroup, Cond.code yX0_isGroup cX0_isGroup 1 (some .boolean), Cond.methodLink RX0 94 yX0_isSpotLength, Cond.static yX0_isSpotLength, Cond.code yX0_isSpotLength cX0_isSpotLength 1 (some .boolean), Cond.methodLink RL 118 yL_rating, Cond.static yL_rating, Cond.codeWith yL_rating cL_rating 4 (some .int) [(0, 6, 7, 26), (0, 6, 11, 16)], Cond.classLink RL 26 "java/lang/IndexOutOfBoundsException", Cond.methodLink RL 39 yX0_rating, Cond.instanceMethod yX0_rating, Cond.selects RX0 yX0_rating yX0_rating]
def wsL_law0_r7 : List Cond := [Cond.code yX0_rating cX0_rating 3 (some .int), Cond.methodLink RX0 71 yX0_checkBreak, Cond.instanceMethod yX0_checkBreak, Cond.selects RX0 yX0_checkBreak yX0_checkBreak, Cond.code yX0_checkBreak cX0_checkBreak 2 none, Cond.methodLink RX0 135 yX0_checkIndex, Cond.static yX0_checkIndex, Cond.code yX0_checkIndex cX0_checkIndex 2 none, Cond.classLink RX0 139 "java/lang/IndexOutOfBoundsException", Cond.initialized "java/lang/IndexOutOfBoundsException", Cond.methodLink RL 150 yL_rate, Cond.static yL_rate, Cond.codeWith yL_rate cL_rate 5 (some .int) [(0, 7, 8, 26), (0, 7, 13, 16)], Cond.methodLink RL 22 yX0_rate, Cond.instanceMethod yX0_rate, Cond.selects RX0 yX0_rate yX0_rate, Cond.code yX0_rate cX0_rate 6 (some .int), Cond.methodLink RL 136 yL_whyNot, Cond.static yL_whyNot, Cond.codeWith yL_whyNot cL_whyNot 4 (some .int) [(0, 6, 7, 26)], Cond.methodLink RL 50 yX0_whyNot, Cond.instanceMethod yX0_whyNot, Cond.selects RX0 yX0_whyNot yX0_whyNot, Cond.code yX0_whyNot cX0_whyNot 3 (some .int)]
def wsL_law0_r8 : List Cond := [Cond.methodLink RX0 101 yX0_checkOrder, Cond.instanceMethod yX0_checkOrder, Cond.selects RX0 yX0_checkOrder yX0_checkOrder, Cond.code yX0_checkOrder cX0_checkOrder 2 none, Cond.methodLink RX0 107 yX0_obstacle, Cond.instanceMethod yX0_obstacle, Cond.selects RX0 yX0_obstacle yX0_obstacle, Cond.code yX0_obstacle cX0_obstacle 3 (some .int), Cond.methodLink RX0 87 yX0_secondsLeft, Cond.instanceMethod yX0_secondsLeft, Cond.selects RX0 yX0_secondsLeft yX0_secondsLeft, Cond.code yX0_secondsLeft cX0_secondsLeft 4 (some .int), Cond.methodLink RX0 126 yX0_isInBreak, Cond.instanceMethod yX0_isInBreak, Cond.selects RX0 yX0_isInBreak yX0_isInBreak, Cond.code yX0_isInBreak cX0_isInBreak 2 (some .boolean), Cond.methodLink RX0 159 yX0_holdsAdvertiser, Cond.instanceMethod yX0_holdsAdvertiser, Cond.selects RX0 yX0_holdsAdvertiser yX0_holdsAdvertiser, Cond.code yX0_holdsAdvertiser cX0_holdsAdvertiser 4 (some .boolean), Cond.methodLink RX0 163 yX0_holdsRival, Cond.instanceMethod yX0_holdsRival, Cond.selects RX0 yX0_holdsRival yX0_holdsRival, Cond.code yX0_holdsRival cX0_holdsRival 4 (some .boolean)]
def wsL_law0_r9 : List Cond := [Cond.methodLink RX0 166 yX0_areRivals, Cond.instanceMethod yX0_areRivals, Cond.selects RX0 yX0_areRivals yX0_areRivals, Cond.code yX0_areRivals cX0_areRivals 3 (some .boolean), Cond.methodLink RL 125 yL_rest, Cond.static yL_rest, Cond.codeWith yL_rest cL_rest 3 (some .int) [(0, 5, 6, 26)], Cond.methodLink RL 84 yX0_rest, Cond.instanceMethod yX0_rest, Cond.selects RX0 yX0_rest yX0_rest, Cond.code yX0_rest cX0_rest 2 (some .int), Cond.methodLink RL 153 yL_give, Cond.static yL_give, Cond.codeWith yL_give cL_give 4 (some .int) [(0, 6, 7, 26), (0, 6, 11, 19)], Cond.methodLink RL 56 yX0_give, Cond.instanceMethod yX0_give, Cond.selects RX0 yX0_give yX0_give, Cond.code yX0_give cX0_give 3 (some .int), Cond.methodLink RX0 110 yX0_addSpot, Cond.instanceMethod yX0_addSpot, Cond.selects RX0 yX0_addSpot yX0_addSpot, Cond.code yX0_addSpot cX0_addSpot 5 (some .int), Cond.methodLink RL 138 yL_place, Cond.static yL_place]
def wsL_law0_r10 : List Cond := [Cond.codeWith yL_place cL_place 4 (some .int) [(0, 6, 7, 26), (0, 6, 11, 19)], Cond.methodLink RL 53 yX0_place, Cond.instanceMethod yX0_place, Cond.selects RX0 yX0_place yX0_place, Cond.code yX0_place cX0_place 3 (some .int), Cond.methodLink RL 93 yL_stateOf, Cond.static yL_stateOf, Cond.codeWith yL_stateOf cL_stateOf 3 (some .int) [(0, 5, 6, 26)], Cond.methodLink RL 72 yX0_stateOf, Cond.instanceMethod yX0_stateOf, Cond.selects RX0 yX0_stateOf yX0_stateOf, Cond.code yX0_stateOf cX0_stateOf 2 (some .int), Cond.methodLink RX0 123 yX0_checkSpot, Cond.instanceMethod yX0_checkSpot, Cond.selects RX0 yX0_checkSpot yX0_checkSpot, Cond.code yX0_checkSpot cX0_checkSpot 2 none, Cond.methodLink RL 102 yL_breakOf, Cond.static yL_breakOf, Cond.codeWith yL_breakOf cL_breakOf 3 (some .int) [(0, 5, 6, 26)], Cond.methodLink RL 75 yX0_breakOf, Cond.instanceMethod yX0_breakOf, Cond.selects RX0 yX0_breakOf yX0_breakOf, Cond.code yX0_breakOf cX0_breakOf 2 (some .int), Cond.methodLink RL 155 yL_fills]
def wsL_law0_r11 : List Cond := [Cond.static yL_fills, Cond.code yL_fills cL_fills 12 (some .boolean), Cond.methodLink RL 134 yL_fill, Cond.static yL_fill, Cond.codeWith yL_fill cL_fill 4 (some .int) [(0, 6, 7, 26), (0, 6, 11, 16), (0, 6, 15, 19)], Cond.methodLink RL 59 yX0_fill, Cond.instanceMethod yX0_fill, Cond.selects RX0 yX0_fill yX0_fill, Cond.code yX0_fill cX0_fill 5 (some .int), Cond.methodLink RX0 117 yX0_isShortOfPromise, Cond.instanceMethod yX0_isShortOfPromise, Cond.selects RX0 yX0_isShortOfPromise yX0_isShortOfPromise, Cond.code yX0_isShortOfPromise cX0_isShortOfPromise 2 (some .boolean), Cond.methodLink RX0 120 yX0_bestBreak, Cond.instanceMethod yX0_bestBreak, Cond.selects RX0 yX0_bestBreak yX0_bestBreak, Cond.code yX0_bestBreak cX0_bestBreak 6 (some .int), Cond.methodLink RL 98 yL_stands, Cond.static yL_stands, Cond.code yL_stands cL_stands 2 (some .boolean), Cond.methodLink RL 159 yL_move, Cond.static yL_move, Cond.codeWith yL_move cL_move 4 (some .int) [(0, 6, 7, 26), (0, 6, 11, 19)], Cond.methodLink RL 62 yX0_move]
def wsL_law0_r12 : List Cond := [Cond.instanceMethod yX0_move, Cond.selects RX0 yX0_move yX0_move, Cond.code yX0_move cX0_move 4 (some .int), Cond.methodLink RL 161 yL_miss, Cond.static yL_miss, Cond.codeWith yL_miss cL_miss 3 (some .int) [(0, 13, 14, 26), (0, 13, 18, 19)], Cond.methodLink RL 65 yX0_miss, Cond.instanceMethod yX0_miss, Cond.selects RX0 yX0_miss yX0_miss, Cond.code yX0_miss cX0_miss 3 (some .boolean), Cond.methodLink RL 163 yL_drop, Cond.static yL_drop, Cond.codeWith yL_drop cL_drop 3 (some .int) [(0, 6, 7, 26), (0, 6, 11, 19)], Cond.methodLink RL 68 yX0_drop, Cond.instanceMethod yX0_drop, Cond.selects RX0 yX0_drop yX0_drop, Cond.code yX0_drop cX0_drop 2 none, Cond.methodLink RL 106 yL_isAired, Cond.static yL_isAired, Cond.codeWith yL_isAired cL_isAired 3 (some .int) [(0, 13, 14, 26)], Cond.methodLink RL 32 yX0_isAired, Cond.instanceMethod yX0_isAired, Cond.selects RX0 yX0_isAired yX0_isAired, Cond.code yX0_isAired cX0_isAired 2 (some .boolean)]
def wsL_law0_r13 : List Cond := [Cond.methodLink RL 165 yL_air, Cond.static yL_air, Cond.codeWith yL_air cL_air 3 (some .int) [(0, 5, 6, 26), (0, 5, 10, 19)], Cond.methodLink RL 29 yX0_air, Cond.instanceMethod yX0_air, Cond.selects RX0 yX0_air yX0_air, Cond.code yX0_air cX0_air 4 (some .int), Cond.methodLink RL 167 yL_close, Cond.static yL_close, Cond.codeWith yL_close cL_close 3 (some .int) [(0, 5, 6, 26), (0, 5, 10, 19)], Cond.methodLink RL 47 yX0_close, Cond.instanceMethod yX0_close, Cond.selects RX0 yX0_close yX0_close, Cond.code yX0_close cX0_close 3 (some .int), Cond.methodLink RL 123 yL_owed, Cond.static yL_owed, Cond.codeWith yL_owed cL_owed 3 (some .int) [(0, 5, 6, 26)], Cond.methodLink RL 81 yX0_owed, Cond.instanceMethod yX0_owed, Cond.selects RX0 yX0_owed yX0_owed, Cond.code yX0_owed cX0_owed 2 (some .int), Cond.methodLink RL 178 yL_breaks, Cond.static yL_breaks, Cond.code yL_breaks cL_breaks 12 (some .boolean)]
def wsL_law0_r14 : List Cond := [Cond.methodLink RL 104 yL_room, Cond.static yL_room, Cond.codeWith yL_room cL_room 3 (some .int) [(0, 5, 6, 26)], Cond.methodLink RL 36 yX0_room, Cond.instanceMethod yX0_room, Cond.selects RX0 yX0_room yX0_room, Cond.code yX0_room cX0_room 2 (some .int), Cond.methodLink RL 181 yL_orders, Cond.static yL_orders, Cond.code yL_orders cL_orders 11 (some .boolean), Cond.methodLink RL 121 yL_delivered, Cond.static yL_delivered, Cond.codeWith yL_delivered cL_delivered 3 (some .int) [(0, 5, 6, 26)], Cond.methodLink RL 78 yX0_delivered, Cond.instanceMethod yX0_delivered, Cond.selects RX0 yX0_delivered yX0_delivered, Cond.code yX0_delivered cX0_delivered 2 (some .int), Cond.methodLink RL 127 yL_bill, Cond.static yL_bill, Cond.codeWith yL_bill cL_bill 3 (some .int) [(0, 5, 6, 26)], Cond.methodLink RL 87 yX0_bill, Cond.instanceMethod yX0_bill, Cond.selects RX0 yX0_bill yX0_bill, Cond.code yX0_bill cX0_bill 2 (some .int)]
def wsL_law0 : List Cond := (wsL_law0_r1 ++ (wsL_law0_r2 ++ (wsL_law0_r3 ++ (wsL_law0_r4 ++ (wsL_law0_r5 ++ (wsL_law0_r6 ++ (wsL_law0_r7 ++ (wsL_law0_r8 ++ (wsL_law0_r9 ++ (wsL_law0_r10 ++ (wsL_law0_r11 ++ (wsL_law0_r12 ++ (wsL_law0_r13 ++ wsL_law0_r14))))))))))))) ++ wsX00 ++ ([] : List Cond)
def wsL_law : List Cond := wsL_law0 ++ (vx_atS RX0 150 "java/lang/IllegalArgumentException" ["java/lang/RuntimeException", "java/lang/Exception"]).filter goodWord ++ (vx_atS RX0 155 "java/lang/IllegalStateException" ["java/lang/RuntimeException", "java/lang/Exception"]).filter goodWord ++ (vx_atS RX0 143 "java/lang/IndexOutOfBoundsException" ["java/lang/RuntimeException", "java/lang/Exception"]).filter goodWord
set_option maxRecDepth 20000 in
theorem wsL_law_in0_1 : ∀ w ∈ wsL_law0_r1, w ∈ lw_tbl := fun w h => (goodIn_p wsL_law0_r1 [31, 34] (by decide +kernel) (by decide +kernel) w h).1
set_option maxRecDepth 20000 in
theorem wsL_law_in0_2 : ∀ w ∈ wsL_law0_r2, w ∈ lw_tbl := fun w h => (goodIn_p wsL_law0_r2 [95, 99, 103, 107] (by decide +kernel) (by decide +kernel) w h).1
set_option maxRecDepth 20000 in
theorem wsL_law_in0_3 : ∀ w ∈ wsL_law0_r3, w ∈ lw_tbl := fun w h => (goodIn_p wsL_law0_r3 [111, 129, 115, 119, 123, 126] (by decide +kernel) (by decide +kernel) w h).1
set_option maxRecDepth 20000 in
theorem wsL_law_in0_4 : ∀ w ∈ wsL_law0_r4, w ∈ lw_tbl := fun w h => (goodIn_p wsL_law0_r4 [142, 145, 148, 151, 223, 132] (by decide +kernel) (by decide +kernel) w h).1
set_option maxRecDepth 20000 in
theorem wsL_law_in0_5 : ∀ w ∈ wsL_law0_r5, w ∈ lw_tbl := fun w h => (goodIn_p wsL_law0_r5 [343, 346, 356, 359] rfl (by decide +kernel) w h).1
set_option maxRecDepth 20000 in
theorem wsL_law_in0_6 : ∀ w ∈ wsL_law0_r6, w ∈ lw_tbl := fun w h => (goodIn_p wsL_law0_r6 [383, 308, 386] (by decide +kernel) (by decide +kernel) w h).1
set_option maxRecDepth 20000 in
theorem wsL_law_in0_7 : ∀ w ∈ wsL_law0_r7, w ∈ lw_tbl := fun w h => (goodIn_p wsL_law0_r7 [305, 280, 245, 396, 403] (by decide +kernel) (by decide +kernel) w h).1
set_option maxRecDepth 20000 in
theorem wsL_law_in0_8 : ∀ w ∈ wsL_law0_r8, w ∈ lw_tbl := fun w h => (goodIn_p wsL_law0_r8 [319, 407, 284, 288, 411, 415] (by decide +kernel) (by decide +kernel) w h).1
set_option maxRecDepth 20000 in
theorem wsL_law_in0_9 : ∀ w ∈ wsL_law0_r9, w ∈ lw_tbl := fun w h => (goodIn_p wsL_law0_r9 [419, 333, 426, 430] (by decide +kernel) (by decide +kernel) w h).1
set_option maxRecDepth 20000 in
theorem wsL_law_in0_10 : ∀ w ∈ wsL_law0_r10, w ∈ lw_tbl := fun w h => (goodIn_p wsL_law0_r10 [437, 238, 242, 269] (by decide +kernel) (by decide +kernel) w h).1
set_option maxRecDepth 20000 in
theorem wsL_law_in0_11 : ∀ w ∈ wsL_law0_r11, w ∈ lw_tbl := fun w h => (goodIn_p wsL_law0_r11 [440, 447, 451, 455, 230] rfl (by decide +kernel) w h).1
set_option maxRecDepth 20000 in
theorem wsL_law_in0_12 : ∀ w ∈ wsL_law0_r12, w ∈ lw_tbl := fun w h => (goodIn_p wsL_law0_r12 [462, 469, 476, 295] (by decide +kernel) (by decide +kernel) w h).1
set_option maxRecDepth 20000 in
theorem wsL_law_in0_13 : ∀ w ∈ wsL_law0_r13, w ∈ lw_tbl := fun w h => (goodIn_p wsL_law0_r13 [483, 490, 326, 227] rfl (by decide +kernel) w h).1
set_option maxRecDepth 20000 in
theorem wsL_law_in0_14 : ∀ w ∈ wsL_law0_r14, w ∈ lw_tbl := fun w h => (goodIn_p wsL_law0_r14 [276, 298, 315, 340] rfl (by decide +kernel) w h).1
set_option maxRecDepth 20000 in
theorem wsL_law_in0_X0 : ∀ w ∈ wsX00, w ∈ lw_tbl := fun w h => (goodIn_p wsX00 [] (by decide +kernel) (by decide +kernel) w h).1
theorem wsL_law_in0 : ∀ w ∈ wsL_law0, w ∈ lw_tbl := fun w h => (List.mem_append.mp h).elim (fun h => (List.mem_append.mp h).elim (fun h => (List.mem_append.mp h).elim (fun h => wsL_law_in0_1 w h) (fun h => (List.mem_append.mp h).elim (fun h => wsL_law_in0_2 w h) (fun h => (List.mem_append.mp h).elim (fun h => wsL_law_in0_3 w h) (fun h => (List.mem_append.mp h).elim (fun h => wsL_law_in0_4 w h) (fun h => (List.mem_append.mp h).elim (fun h => wsL_law_in0_5 w h) (fun h => (List.mem_append.mp h).elim (fun h => wsL_law_in0_6 w h) (fun h => (List.mem_append.mp h).elim (fun h => wsL_law_in0_7 w h) (fun h => (List.mem_append.mp h).elim (fun h => wsL_law_in0_8 w h) (fun h => (List.mem_append.mp h).elim (fun h => wsL_law_in0_9 w h) (fun h => (List.mem_append.mp h).elim (fun h => wsL_law_in0_10 w h) (fun h => (List.mem_append.mp h).elim (fun h => wsL_law_in0_11 w h) (fun h => (List.mem_append.mp h).elim (fun h => wsL_law_in0_12 w h) (fun h => (List.mem_append.mp h).elim (fun h => wsL_law_in0_13 w h) (fun h => wsL_law_in0_14 w h)))))))))))))) (fun h => wsL_law_in0_X0 w h)) (fun h => absurd h List.not_mem_nil)
theorem wsL_law_x0 : ∀ w ∈ (vx_atS RX0 150 "java/lang/IllegalArgumentException" ["java/lang/RuntimeException", "java/lang/Exception"]).filter goodWord, w ∈ lw_tbl := by decide +kernel
theorem wsL_law_x1 : ∀ w ∈ (vx_atS RX0 155 "java/lang/IllegalStateException" ["java/lang/RuntimeException", "java/lang/Exception"]).filter goodWord, w ∈ lw_tbl := by decide +kernel
theorem wsL_law_x2 : ∀ w ∈ (vx_atS RX0 143 "java/lang/IndexOutOfBoundsException" ["java/lang/RuntimeException", "java/lang/Exception"]).filter goodWord, w ∈ lw_tbl := by decide +kernel
theorem wsL_law_in : ∀ w ∈ wsL_law, w ∈ lw_tbl := fun w h => (List.mem_append.mp h).elim (fun h => (List.mem_append.mp h).elim (fun h => (List.mem_append.mp h).elim (fun h => wsL_law_in0 w h) (fun h => wsL_law_x0 w h)) (fun h => wsL_law_x1 w h)) (fun h => wsL_law_x2 w h)
theorem inlX0 : ∀ w ∈ wsX00, w ∈ wsL_law := fun _ h => List.mem_append_left _ (List.mem_append_left _ (List.mem_append_left _ (List.mem_append_left _ (List.mem_append_right _ h))))
theorem inX0 : ∀ w ∈ wsX00, w ∈ lw_tbl := fun w h => wsL_law_in w (inlX0 w h)
theorem inX1 : ∀ w ∈ wsX10, w ∈ lw_tbl := by decide +kernel
theorem inJ9 : ∀ w ∈ wsJ90, w ∈ lw_tbl := by decide +kernel
theorem inJ0 : ∀ w ∈ wsJ00, w ∈ lw_tbl := by decide +kernel
end
section
theorem dX0_init_0 : decode cX0_init 0 = .ok (.aload_n 0, 1) := by decide +kernel
theorem dX0_init_1 : decode cX0_init 1 = .ok (.invokespecial 1, 3) := by decide +kernel
theorem dX0_init_4 : decode cX0_init 4 = .ok (.aload_n 0, 1) := by decide +kernel
theorem dX0_init_5 : decode cX0_init 5 = .ok (.bipush 24, 2) := by decide +kernel
theorem dX0_init_7 : decode cX0_init 7 = .ok (.newarray .int, 2) := by decide +kernel
theorem dX0_init_9 : decode cX0_init 9 = .ok (.putfield 9, 3) := by decide +kernel
theorem dX0_init_12 : decode cX0_init 12 = .ok (.aload_n 0, 1) := by decide +kernel
theorem dX0_init_13 : decode cX0_init 13 = .ok (.bipush 24, 2) := by decide +kernel
theorem dX0_init_15 : decode cX0_init 15 = .ok (.newarray .boolean, 2) := by decide +kernel
theorem dX0_init_17 : decode cX0_init 17 = .ok (.putfield 13, 3) := by decide +kernel
theorem dX0_init_20 : decode cX0_init 20 = .ok (.aload_n 0, 1) := by decide +kernel
theorem dX0_init_21 : decode cX0_init 21 = .ok (.bipush 72, 2) := by decide +kernel
theorem dX0_init_23 : decode cX0_init 23 = .ok (.newarray .int, 2) := by decide +kernel
theorem dX0_init_25 : decode cX0_init 25 = .ok (.putfield 17, 3) := by decide +kernel
theorem dX0_init_28 : decode cX0_init 28 = .ok (.aload_n 0, 1) := by decide +kernel
theorem dX0_init_29 : decode cX0_init 29 = .ok (.bipush 20, 2) := by decide +kernel
theorem dX0_init_31 : decode cX0_init 31 = .ok (.newarray .int, 2) := by decide +kernel
theorem dX0_init_33 : decode cX0_init 33 = .ok (.putfield 20, 3) := by decide +kernel
theorem dX0_init_36 : decode cX0_init 36 = .ok (.aload_n 0, 1) := by decide +kernel
theorem dX0_init_37 : decode cX0_init 37 = .ok (.bipush 20, 2) := by decide +kernel
theorem dX0_init_39 : decode cX0_init 39 = .ok (.newarray .int, 2) := by decide +kernel
theorem dX0_init_41 : decode cX0_init 41 = .ok (.putfield 23, 3) := by decide +kernel
theorem dX0_init_44 : decode cX0_init 44 = .ok (.aload_n 0, 1) := by decide +kernel
theorem dX0_init_45 : decode cX0_init 45 = .ok (.bipush 20, 2) := by decide +kernel
theorem dX0_init_47 : decode cX0_init 47 = .ok (.newarray .int, 2) := by decide +kernel
theorem dX0_init_49 : decode cX0_init 49 = .ok (.putfield 26, 3) := by decide +kernel
theorem dX0_init_52 : decode cX0_init 52 = .ok (.aload_n 0, 1) := by decide +kernel
theorem dX0_init_53 : decode cX0_init 53 = .ok (.bipush 20, 2) := by decide +kernel
theorem dX0_init_55 : decode cX0_init 55 = .ok (.newarray .int, 2) := by decide +kernel
theorem dX0_init_57 : decode cX0_init 57 = .ok (.putfield 29, 3) := by decide +kernel
theorem dX0_init_60 : decode cX0_init 60 = .ok (.aload_n 0, 1) := by decide +kernel
theorem dX0_init_61 : decode cX0_init 61 = .ok (.bipush 20, 2) := by decide +kernel
theorem dX0_init_63 : decode cX0_init 63 = .ok (.newarray .int, 2) := by decide +kernel
theorem dX0_init_65 : decode cX0_init 65 = .ok (.putfield 32, 3) := by decide +kernel
theorem dX0_init_68 : decode cX0_init 68 = .ok (.aload_n 0, 1) := by decide +kernel
theorem dX0_init_69 : decode cX0_init 69 = .ok (.bipush 20, 2) := by decide +kernel
theorem dX0_init_71 : decode cX0_init 71 = .ok (.newarray .int, 2) := by decide +kernel
theorem dX0_init_73 : decode cX0_init 73 = .ok (.putfield 35, 3) := by decide +kernel
theorem dX0_init_76 : decode cX0_init 76 = .ok (.aload_n 0, 1) := by decide +kernel
theorem dX0_init_77 : decode cX0_init 77 = .ok (.bipush 20, 2) := by decide +kernel
theorem dX0_init_79 : decode cX0_init 79 = .ok (.newarray .int, 2) := by decide +kernel
theorem dX0_init_81 : decode cX0_init 81 = .ok (.putfield 38, 3) := by decide +kernel
theorem dX0_init_84 : decode cX0_init 84 = .ok (.aload_n 0, 1) := by decide +kernel
theorem dX0_init_85 : decode cX0_init 85 = .ok (.bipush 20, 2) := by decide +kernel
theorem dX0_init_87 : decode cX0_init 87 = .ok (.newarray .boolean, 2) := by decide +kernel
theorem dX0_init_89 : decode cX0_init 89 = .ok (.putfield 41, 3) := by decide +kernel
theorem dX0_init_92 : decode cX0_init 92 = .ok (.aload_n 0, 1) := by decide +kernel
theorem dX0_init_93 : decode cX0_init 93 = .ok (.sipush 150, 3) := by decide +kernel
theorem dX0_init_96 : decode cX0_init 96 = .ok (.newarray .int, 2) := by decide +kernel
theorem dX0_init_98 : decode cX0_init 98 = .ok (.putfield 44, 3) := by decide +kernel
theorem dX0_init_101 : decode cX0_init 101 = .ok (.aload_n 0, 1) := by decide +kernel
theorem dX0_init_102 : decode cX0_init 102 = .ok (.sipush 150, 3) := by decide +kernel
theorem dX0_init_105 : decode cX0_init 105 = .ok (.newarray .int, 2) := by decide +kernel
theorem dX0_init_107 : decode cX0_init 107 = .ok (.putfield 47, 3) := by decide +kernel
theorem dX0_init_110 : decode cX0_init 110 = .ok (.aload_n 0, 1) := by decide +kernel
theorem dX0_init_111 : decode cX0_init 111 = .ok (.sipush 150, 3) := by decide +kernel
theorem dX0_init_114 : decode cX0_init 114 = .ok (.newarray .int, 2) := by decide +kernel
theorem dX0_init_116 : decode cX0_init 116 = .ok (.putfield 50, 3) := by decide +kernel
theorem dX0_init_119 : decode cX0_init 119 = .ok (.aload_n 0, 1) := by decide +kernel
theorem dX0_init_120 : decode cX0_init 120 = .ok (.sipush 150, 3) := by decide +kernel
theorem dX0_init_123 : decode cX0_init 123 = .ok (.newarray .boolean, 2) := by decide +kernel
theorem dX0_init_125 : decode cX0_init 125 = .ok (.putfield 53, 3) := by decide +kernel
theorem dX0_init_128 : decode cX0_init 128 = .ok (.return_, 1) := by decide +kernel
set_option maxRecDepth 20000 in
theorem ggX0_addBreak_X0_isWithin : GoodIn wsX0_addBreak wsX0_isWithin := goodIn_r _ [6] (by decide +kernel) (by decide +kernel)
set_option maxRecDepth 20000 in
theorem gX0_addBreak_X0_isWithin : GoodIn wsX0_addBreak (va_wsS RX0 56 yX0_isWithin wsX0_isWithin) := goodIn_app (goodIn_of _ (by decide +kernel)) ggX0_addBreak_X0_isWithin
set_option maxRecDepth 20000 in
theorem ggX0_addBreak_X0_checkArgument : GoodIn wsX0_addBreak wsX0_checkArgument := goodIn_ca (goodIn_r _ [9, 10, 11] (by decide +kernel) (by decide +kernel)) (goodIn_sub (fun _ h => List.mem_cons_of_mem _ (List.mem_append_left _ (List.mem_append_right _ h))) (by decide +kernel))
set_option maxRecDepth 20000 in
theorem gX0_addBreak_X0_checkArgument : GoodIn wsX0_addBreak (va_wsS RX0 60 yX0_checkArgument wsX0_checkArgument) := goodIn_app (goodIn_of _ (by decide +kernel)) ggX0_addBreak_X0_checkArgument
set_option maxRecDepth 20000 in
theorem ggX0_addBreak_X0_checkState : GoodIn wsX0_addBreak wsX0_checkState := goodIn_ca (goodIn_r _ [14, 15, 16] (by decide +kernel) (by decide +kernel)) (goodIn_sub (fun _ h => List.mem_cons_of_mem _ (List.mem_append_right _ h)) (by decide +kernel))
set_option maxRecDepth 20000 in
theorem gX0_addBreak_X0_checkState : GoodIn wsX0_addBreak (va_wsS RX0 68 yX0_checkState wsX0_checkState) := goodIn_app (goodIn_of _ (by decide +kernel)) ggX0_addBreak_X0_checkState
theorem dX0_addBreak_0 : decode cX0_addBreak 0 = .ok (.iload_n 1, 1) := by decide +kernel
theorem dX0_addBreak_1 : decode cX0_addBreak 1 = .ok (.bipush 15, 2) := by decide +kernel
theorem dX0_addBreak_3 : decode cX0_addBreak 3 = .ok (.sipush 600, 3) := by decide +kernel
theorem dX0_addBreak_6 : decode cX0_addBreak 6 = .ok (.invokestatic 56, 3) := by decide +kernel
theorem dX0_addBreak_9 : decode cX0_addBreak 9 = .ok (.invokestatic 60, 3) := by decide +kernel
theorem dX0_addBreak_12 : decode cX0_addBreak 12 = .ok (.aload_n 0, 1) := by decide +kernel
theorem dX0_addBreak_13 : decode cX0_addBreak 13 = .ok (.getfield 64, 3) := by decide +kernel
theorem dX0_addBreak_16 : decode cX0_addBreak 16 = .ok (.bipush 24, 2) := by decide +kernel
theorem dX0_addBreak_18 : decode cX0_addBreak 18 = .ok (.if_icmp .ge 7, 3) := by decide +kernel
theorem dX0_addBreak_21 : decode cX0_addBreak 21 = .ok (.iconst 1, 1) := by decide +kernel
theorem dX0_addBreak_22 : decode cX0_addBreak 22 = .ok (.goto 4, 3) := by decide +kernel
theorem dX0_addBreak_25 : decode cX0_addBreak 25 = .ok (.iconst 0, 1) := by decide +kernel
theorem dX0_addBreak_26 : decode cX0_addBreak 26 = .ok (.invokestatic 68, 3) := by decide +kernel
theorem dX0_addBreak_29 : decode cX0_addBreak 29 = .ok (.aload_n 0, 1) := by decide +kernel
theorem dX0_addBreak_30 : decode cX0_addBreak 30 = .ok (.getfield 64, 3) := by decide +kernel
theorem dX0_addBreak_33 : decode cX0_addBreak 33 = .ok (.istore_n 2, 1) := by decide +kernel
theorem dX0_addBreak_34 : decode cX0_addBreak 34 = .ok (.aload_n 0, 1) := by decide +kernel
theorem dX0_addBreak_35 : decode cX0_addBreak 35 = .ok (.getfield 9, 3) := by decide +kernel
theorem dX0_addBreak_38 : decode cX0_addBreak 38 = .ok (.iload_n 2, 1) := by decide +kernel
theorem dX0_addBreak_39 : decode cX0_addBreak 39 = .ok (.iload_n 1, 1) := by decide +kernel
theorem dX0_addBreak_40 : decode cX0_addBreak 40 = .ok (.iastore, 1) := by decide +kernel
theorem dX0_addBreak_41 : decode cX0_addBreak 41 = .ok (.aload_n 0, 1) := by decide +kernel
theorem dX0_addBreak_42 : decode cX0_addBreak 42 = .ok (.dup, 1) := by decide +kernel
theorem dX0_addBreak_43 : decode cX0_addBreak 43 = .ok (.getfield 64, 3) := by decide +kernel
theorem dX0_addBreak_46 : decode cX0_addBreak 46 = .ok (.iconst 1, 1) := by decide +kernel
theorem dX0_addBreak_47 : decode cX0_addBreak 47 = .ok (.iadd, 1) := by decide +kernel
theorem dX0_addBreak_48 : decode cX0_addBreak 48 = .ok (.putfield 64, 3) := by decide +kernel
theorem dX0_addBreak_51 : decode cX0_addBreak 51 = .ok (.iload_n 2, 1) := by decide +kernel
theorem dX0_addBreak_52 : decode cX0_addBreak 52 = .ok (.ireturn, 1) := by decide +kernel
set_option maxRecDepth 20000 in
theorem ggX0_rate_X0_checkBreak : GoodIn wsX0_rate wsX0_checkBreak := goodIn_ca (goodIn_r _ [7, 8, 9, 10, 6, 11, 12, 13, 28, 29, 30, 31, 32, 33, 34, 35, 36, 37, 38, 39, 40, 41, 42, 43, 44, 45] (by decide +kernel) (by decide +kernel)) (goodIn_sub (fun _ h => List.mem_cons_of_mem _ (List.mem_append_left _ (List.mem_append_right _ h))) (by decide +kernel))
set_option maxRecDepth 20000 in
theorem gX0_rate_X0_checkBreak : GoodIn wsX0_rate (wsV RX0 71 RX0 yX0_checkBreak wsX0_checkBreak) := goodIn_app (goodIn_of _ (by decide +kernel)) ggX0_rate_X0_checkBreak
set_option maxRecDepth 20000 in
theorem ggX0_rate_X0_isGroup : GoodIn wsX0_rate wsX0_isGroup := goodIn_r _ [16, 17, 18, 6, 19] (by decide +kernel) (by decide +kernel)
set_option maxRecDepth 20000 in
theorem gX0_rate_X0_isGroup : GoodIn wsX0_rate (va_wsS RX0 75 yX0_isGroup wsX0_isGroup) := goodIn_app (goodIn_of _ (by decide +kernel)) ggX0_rate_X0_isGroup
set_option maxRecDepth 20000 in
theorem ggX0_rate_X0_isWithin : GoodIn wsX0_rate wsX0_isWithin := goodIn_r _ [19] (by decide +kernel) (by decide +kernel)
set_option maxRecDepth 20000 in
theorem gX0_rate_X0_isWithin : GoodIn wsX0_rate (va_wsS RX0 56 yX0_isWithin wsX0_isWithin) := goodIn_app (goodIn_of _ (by decide +kernel)) ggX0_rate_X0_isWithin
set_option maxRecDepth 20000 in
theorem ggX0_rate_X0_checkArgument : GoodIn wsX0_rate wsX0_checkArgument := goodIn_ca (goodIn_r _ [22, 23, 24] (by decide +kernel) (by decide +kernel)) (goodIn_sub (fun _ h => List.mem_cons_of_mem _ (List.mem_append_right _ h)) (by decide +kernel))
set_option maxRecDepth 20000 in
theorem gX0_rate_X0_checkArgument : GoodIn wsX0_rate (va_wsS RX0 60 yX0_checkArgument wsX0_checkArgument) := goodIn_app (goodIn_of _ (by decide +kernel)) ggX0_rate_X0_checkArgument
set_option maxRecDepth 20000 in
theorem ggX0_rate_X0_ratingCell : GoodIn wsX0_rate wsX0_ratingCell := goodIn_r _ [27] (by decide +kernel) (by decide +kernel)
set_option maxRecDepth 20000 in
theorem gX0_rate_X0_ratingCell : GoodIn wsX0_rate (va_wsS RX0 80 yX0_ratingCell wsX0_ratingCell) := goodIn_app (goodIn_of _ (by decide +kernel)) ggX0_rate_X0_ratingCell
theorem dX0_rate_0 : decode cX0_rate 0 = .ok (.aload_n 0, 1) := by decide +kernel
theorem dX0_rate_1 : decode cX0_rate 1 = .ok (.iload_n 1, 1) := by decide +kernel
theorem dX0_rate_2 : decode cX0_rate 2 = .ok (.invokevirtual 71, 3) := by decide +kernel
theorem dX0_rate_5 : decode cX0_rate 5 = .ok (.iload_n 2, 1) := by decide +kernel
theorem dX0_rate_6 : decode cX0_rate 6 = .ok (.invokestatic 75, 3) := by decide +kernel
theorem dX0_rate_9 : decode cX0_rate 9 = .ok (.ifCond .eq 17, 3) := by decide +kernel
theorem dX0_rate_12 : decode cX0_rate 12 = .ok (.iload_n 3, 1) := by decide +kernel
theorem dX0_rate_13 : decode cX0_rate 13 = .ok (.iconst 0, 1) := by decide +kernel
theorem dX0_rate_14 : decode cX0_rate 14 = .ok (.ldc 79, 2) := by decide +kernel
theorem dX0_rate_16 : decode cX0_rate 16 = .ok (.invokestatic 56, 3) := by decide +kernel
theorem dX0_rate_19 : decode cX0_rate 19 = .ok (.ifCond .eq 7, 3) := by decide +kernel
theorem dX0_rate_22 : decode cX0_rate 22 = .ok (.iconst 1, 1) := by decide +kernel
theorem dX0_rate_23 : decode cX0_rate 23 = .ok (.goto 4, 3) := by decide +kernel
theorem dX0_rate_26 : decode cX0_rate 26 = .ok (.iconst 0, 1) := by decide +kernel
theorem dX0_rate_27 : decode cX0_rate 27 = .ok (.invokestatic 60, 3) := by decide +kernel
theorem dX0_rate_30 : decode cX0_rate 30 = .ok (.iload_n 1, 1) := by decide +kernel
theorem dX0_rate_31 : decode cX0_rate 31 = .ok (.iload_n 2, 1) := by decide +kernel
theorem dX0_rate_32 : decode cX0_rate 32 = .ok (.invokestatic 80, 3) := by decide +kernel
theorem dX0_rate_35 : decode cX0_rate 35 = .ok (.istore 4, 2) := by decide +kernel
theorem dX0_rate_37 : decode cX0_rate 37 = .ok (.aload_n 0, 1) := by decide +kernel
theorem dX0_rate_38 : decode cX0_rate 38 = .ok (.getfield 17, 3) := by decide +kernel
theorem dX0_rate_41 : decode cX0_rate 41 = .ok (.iload 4, 2) := by decide +kernel
theorem dX0_rate_43 : decode cX0_rate 43 = .ok (.iaload, 1) := by decide +kernel
theorem dX0_rate_44 : decode cX0_rate 44 = .ok (.istore 5, 2) := by decide +kernel
theorem dX0_rate_46 : decode cX0_rate 46 = .ok (.aload_n 0, 1) := by decide +kernel
theorem dX0_rate_47 : decode cX0_rate 47 = .ok (.getfield 17, 3) := by decide +kernel
theorem dX0_rate_50 : decode cX0_rate 50 = .ok (.iload 4, 2) := by decide +kernel
theorem dX0_rate_52 : decode cX0_rate 52 = .ok (.iload_n 3, 1) := by decide +kernel
theorem dX0_rate_53 : decode cX0_rate 53 = .ok (.iastore, 1) := by decide +kernel
theorem dX0_rate_54 : decode cX0_rate 54 = .ok (.iload 5, 2) := by decide +kernel
theorem dX0_rate_56 : decode cX0_rate 56 = .ok (.ireturn, 1) := by decide +kernel
set_option maxRecDepth 20000 in
theorem ggX0_air_X0_checkBreak : GoodIn wsX0_air wsX0_checkBreak := goodIn_ca (goodIn_r _ [9, 10, 11, 12, 8, 13, 14, 15, 21, 22, 23, 24, 25, 26, 27, 28, 29, 30, 31, 32, 33, 34, 35, 36, 37, 38] (by decide +kernel) (by decide +kernel)) (goodIn_sub (fun _ h => List.mem_cons_of_mem _ (List.mem_append_left _ (List.mem_append_right _ h))) (by decide +kernel))
set_option maxRecDepth 20000 in
theorem gX0_air_X0_checkBreak : GoodIn wsX0_air (wsV RX0 71 RX0 yX0_checkBreak wsX0_checkBreak) := goodIn_app (goodIn_of _ (by decide +kernel)) ggX0_air_X0_checkBreak
set_option maxRecDepth 20000 in
theorem ggX0_air_X0_checkState : GoodIn wsX0_air wsX0_checkState := goodIn_ca (goodIn_r _ [18, 19, 20] (by decide +kernel) (by decide +kernel)) (goodIn_sub (fun _ h => List.mem_cons_of_mem _ (List.mem_append_right _ h)) (by decide +kernel))
set_option maxRecDepth 20000 in
theorem gX0_air_X0_checkState : GoodIn wsX0_air (va_wsS RX0 68 yX0_checkState wsX0_checkState) := goodIn_app (goodIn_of _ (by decide +kernel)) ggX0_air_X0_checkState
theorem dX0_air_0 : decode cX0_air 0 = .ok (.aload_n 0, 1) := by decide +kernel
theorem dX0_air_1 : decode cX0_air 1 = .ok (.iload_n 1, 1) := by decide +kernel
theorem dX0_air_2 : decode cX0_air 2 = .ok (.invokevirtual 71, 3) := by decide +kernel
theorem dX0_air_5 : decode cX0_air 5 = .ok (.aload_n 0, 1) := by decide +kernel
theorem dX0_air_6 : decode cX0_air 6 = .ok (.getfield 13, 3) := by decide +kernel
theorem dX0_air_9 : decode cX0_air 9 = .ok (.iload_n 1, 1) := by decide +kernel
theorem dX0_air_10 : decode cX0_air 10 = .ok (.baload, 1) := by decide +kernel
theorem dX0_air_11 : decode cX0_air 11 = .ok (.ifCond .ne 7, 3) := by decide +kernel
theorem dX0_air_14 : decode cX0_air 14 = .ok (.iconst 1, 1) := by decide +kernel
theorem dX0_air_15 : decode cX0_air 15 = .ok (.goto 4, 3) := by decide +kernel
theorem dX0_air_18 : decode cX0_air 18 = .ok (.iconst 0, 1) := by decide +kernel
theorem dX0_air_19 : decode cX0_air 19 = .ok (.invokestatic 68, 3) := by decide +kernel
theorem dX0_air_22 : decode cX0_air 22 = .ok (.aload_n 0, 1) := by decide +kernel
theorem dX0_air_23 : decode cX0_air 23 = .ok (.getfield 13, 3) := by decide +kernel
theorem dX0_air_26 : decode cX0_air 26 = .ok (.iload_n 1, 1) := by decide +kernel
theorem dX0_air_27 : decode cX0_air 27 = .ok (.iconst 1, 1) := by decide +kernel
theorem dX0_air_28 : decode cX0_air 28 = .ok (.bastore, 1) := by decide +kernel
theorem dX0_air_29 : decode cX0_air 29 = .ok (.iconst 0, 1) := by decide +kernel
theorem dX0_air_30 : decode cX0_air 30 = .ok (.istore_n 2, 1) := by decide +kernel
theorem dX0_air_31 : decode cX0_air 31 = .ok (.iconst 0, 1) := by decide +kernel
theorem dX0_air_32 : decode cX0_air 32 = .ok (.istore_n 3, 1) := by decide +kernel
theorem dX0_air_33 : decode cX0_air 33 = .ok (.iload_n 3, 1) := by decide +kernel
theorem dX0_air_34 : decode cX0_air 34 = .ok (.aload_n 0, 1) := by decide +kernel
theorem dX0_air_35 : decode cX0_air 35 = .ok (.getfield 84, 3) := by decide +kernel
theorem dX0_air_38 : decode cX0_air 38 = .ok (.if_icmp .ge 38, 3) := by decide +kernel
theorem dX0_air_41 : decode cX0_air 41 = .ok (.aload_n 0, 1) := by decide +kernel
theorem dX0_air_42 : decode cX0_air 42 = .ok (.getfield 47, 3) := by decide +kernel
theorem dX0_air_45 : decode cX0_air 45 = .ok (.iload_n 3, 1) := by decide +kernel
theorem dX0_air_46 : decode cX0_air 46 = .ok (.iaload, 1) := by decide +kernel
theorem dX0_air_47 : decode cX0_air 47 = .ok (.iload_n 1, 1) := by decide +kernel
theorem dX0_air_48 : decode cX0_air 48 = .ok (.if_icmp .ne 22, 3) := by decide +kernel
theorem dX0_air_51 : decode cX0_air 51 = .ok (.aload_n 0, 1) := by decide +kernel
theorem dX0_air_52 : decode cX0_air 52 = .ok (.getfield 50, 3) := by decide +kernel
theorem dX0_air_55 : decode cX0_air 55 = .ok (.iload_n 3, 1) := by decide +kernel
theorem dX0_air_56 : decode cX0_air 56 = .ok (.iaload, 1) := by decide +kernel
theorem dX0_air_57 : decode cX0_air 57 = .ok (.ifCond .ne 13, 3) := by decide +kernel
theorem dX0_air_60 : decode cX0_air 60 = .ok (.aload_n 0, 1) := by decide +kernel
theorem dX0_air_61 : decode cX0_air 61 = .ok (.getfield 50, 3) := by decide +kernel
theorem dX0_air_64 : decode cX0_air 64 = .ok (.iload_n 3, 1) := by decide +kernel
theorem dX0_air_65 : decode cX0_air 65 = .ok (.iconst 1, 1) := by decide +kernel
theorem dX0_air_66 : decode cX0_air 66 = .ok (.iastore, 1) := by decide +kernel
theorem dX0_air_67 : decode cX0_air 67 = .ok (.iinc 2 1, 3) := by decide +kernel
theorem dX0_air_70 : decode cX0_air 70 = .ok (.iinc 3 1, 3) := by decide +kernel
theorem dX0_air_73 : decode cX0_air 73 = .ok (.goto (-40), 3) := by decide +kernel
theorem dX0_air_76 : decode cX0_air 76 = .ok (.iload_n 2, 1) := by decide +kernel
theorem dX0_air_77 : decode cX0_air 77 = .ok (.ireturn, 1) := by decide +kernel
theorem dX0_breaks_0 : decode cX0_breaks 0 = .ok (.aload_n 0, 1) := by decide +kernel
theorem dX0_breaks_1 : decode cX0_breaks 1 = .ok (.getfield 64, 3) := by decide +kernel
theorem dX0_breaks_4 : decode cX0_breaks 4 = .ok (.ireturn, 1) := by decide +kernel
set_option maxRecDepth 20000 in
theorem ggX0_isAired_X0_checkBreak : GoodIn wsX0_isAired wsX0_checkBreak := goodIn_ca (goodIn_r _ [6, 7, 8, 9, 5, 10, 11, 12, 13, 14, 15, 16, 17, 18, 19, 20, 21, 22, 23, 24, 25, 26, 27, 28, 29, 30] (by decide +kernel) (by decide +kernel)) (goodIn_sub (fun _ h => List.mem_cons_of_mem _ (List.mem_append_right _ h)) (by decide +kernel))
set_option maxRecDepth 20000 in
theorem gX0_isAired_X0_checkBreak : GoodIn wsX0_isAired (wsV RX0 71 RX0 yX0_checkBreak wsX0_checkBreak) := goodIn_app (goodIn_of _ (by decide +kernel)) ggX0_isAired_X0_checkBreak
theorem dX0_isAired_0 : decode cX0_isAired 0 = .ok (.aload_n 0, 1) := by decide +kernel
theorem dX0_isAired_1 : decode cX0_isAired 1 = .ok (.iload_n 1, 1) := by decide +kernel
theorem dX0_isAired_2 : decode cX0_isAired 2 = .ok (.invokevirtual 71, 3) := by decide +kernel
theorem dX0_isAired_5 : decode cX0_isAired 5 = .ok (.aload_n 0, 1) := by decide +kernel
theorem dX0_isAired_6 : decode cX0_isAired 6 = .ok (.getfield 13, 3) := by decide +kernel
theorem dX0_isAired_9 : decode cX0_isAired 9 = .ok (.iload_n 1, 1) := by decide +kernel
theorem dX0_isAired_10 : decode cX0_isAired 10 = .ok (.baload, 1) := by decide +kernel
theorem dX0_isAired_11 : decode cX0_isAired 11 = .ok (.ireturn, 1) := by decide +kernel
set_option maxRecDepth 20000 in
theorem ggX0_room_X0_checkBreak : GoodIn wsX0_room wsX0_checkBreak := goodIn_ca (goodIn_r _ [5, 6, 7, 8, 4, 9, 10, 11, 26, 27, 28, 29, 30, 31, 32, 33, 34, 35, 36, 37, 38, 39, 40, 41, 42, 43] (by decide +kernel) (by decide +kernel)) (goodIn_sub (fun _ h => List.mem_cons_of_mem _ (List.mem_append_right _ h)) (by decide +kernel))
set_option maxRecDepth 20000 in
theorem gX0_room_X0_checkBreak : GoodIn wsX0_room (wsV RX0 71 RX0 yX0_checkBreak wsX0_checkBreak) := goodIn_app (goodIn_of _ (by decide +kernel)) ggX0_room_X0_checkBreak
set_option maxRecDepth 20000 in
theorem ggX0_room_X0_secondsLeft : GoodIn wsX0_room wsX0_secondsLeft := goodIn_r _ [15, 16, 17, 18, 19, 20, 21, 22, 23, 4, 24, 25, 26, 27, 28, 29, 30, 31, 32, 33, 34, 35, 36, 37, 38, 39, 40, 41, 42, 43] (by decide +kernel) (by decide +kernel)
set_option maxRecDepth 20000 in
theorem gX0_room_X0_secondsLeft : GoodIn wsX0_room (wsV RX0 87 RX0 yX0_secondsLeft wsX0_secondsLeft) := goodIn_app (goodIn_of _ (by decide +kernel)) ggX0_room_X0_secondsLeft
theorem dX0_room_0 : decode cX0_room 0 = .ok (.aload_n 0, 1) := by decide +kernel
theorem dX0_room_1 : decode cX0_room 1 = .ok (.iload_n 1, 1) := by decide +kernel
theorem dX0_room_2 : decode cX0_room 2 = .ok (.invokevirtual 71, 3) := by decide +kernel
theorem dX0_room_5 : decode cX0_room 5 = .ok (.aload_n 0, 1) := by decide +kernel
theorem dX0_room_6 : decode cX0_room 6 = .ok (.iload_n 1, 1) := by decide +kernel
theorem dX0_room_7 : decode cX0_room 7 = .ok (.invokevirtual 87, 3) := by decide +kernel
theorem dX0_room_10 : decode cX0_room 10 = .ok (.ireturn, 1) := by decide +kernel
set_option maxRecDepth 20000 in
theorem ggX0_rating_X0_checkBreak : GoodIn wsX0_rating wsX0_checkBreak := goodIn_ca (goodIn_r _ [6, 7, 8, 9, 5, 10, 11, 12, 27, 28, 29, 30, 31, 32, 33, 34, 35, 36, 37, 38, 39, 40, 41, 42, 43, 44] (by decide +kernel) (by decide +kernel)) (goodIn_sub (fun _ h => List.mem_cons_of_mem _ (List.mem_append_left _ (List.mem_append_right _ h))) (by decide +kernel))
set_option maxRecDepth 20000 in
theorem gX0_rating_X0_checkBreak : GoodIn wsX0_rating (wsV RX0 71 RX0 yX0_checkBreak wsX0_checkBreak) := goodIn_app (goodIn_of _ (by decide +kernel)) ggX0_rating_X0_checkBreak
set_option maxRecDepth 20000 in
theorem ggX0_rating_X0_isGroup : GoodIn wsX0_rating wsX0_isGroup := goodIn_r _ [15, 16, 17, 5, 18] (by decide +kernel) (by decide +kernel)
set_option maxRecDepth 20000 in
theorem gX0_rating_X0_isGroup : GoodIn wsX0_rating (va_wsS RX0 75 yX0_isGroup wsX0_isGroup) := goodIn_app (goodIn_of _ (by decide +kernel)) ggX0_rating_X0_isGroup
set_option maxRecDepth 20000 in
theorem ggX0_rating_X0_checkArgument : GoodIn wsX0_rating wsX0_checkArgument := goodIn_ca (goodIn_r _ [21, 22, 23] (by decide +kernel) (by decide +kernel)) (goodIn_sub (fun _ h => List.mem_cons_of_mem _ (List.mem_append_right _ h)) (by decide +kernel))
set_option maxRecDepth 20000 in
theorem gX0_rating_X0_checkArgument : GoodIn wsX0_rating (va_wsS RX0 60 yX0_checkArgument wsX0_checkArgument) := goodIn_app (goodIn_of _ (by decide +kernel)) ggX0_rating_X0_checkArgument
set_option maxRecDepth 20000 in
theorem ggX0_rating_X0_ratingCell : GoodIn wsX0_rating wsX0_ratingCell := goodIn_r _ [26] (by decide +kernel) (by decide +kernel)
set_option maxRecDepth 20000 in
theorem gX0_rating_X0_ratingCell : GoodIn wsX0_rating (va_wsS RX0 80 yX0_ratingCell wsX0_ratingCell) := goodIn_app (goodIn_of _ (by decide +kernel)) ggX0_rating_X0_ratingCell
theorem dX0_rating_0 : decode cX0_rating 0 = .ok (.aload_n 0, 1) := by decide +kernel
theorem dX0_rating_1 : decode cX0_rating 1 = .ok (.iload_n 1, 1) := by decide +kernel
theorem dX0_rating_2 : decode cX0_rating 2 = .ok (.invokevirtual 71, 3) := by decide +kernel
theorem dX0_rating_5 : decode cX0_rating 5 = .ok (.iload_n 2, 1) := by decide +kernel
theorem dX0_rating_6 : decode cX0_rating 6 = .ok (.invokestatic 75, 3) := by decide +kernel
theorem dX0_rating_9 : decode cX0_rating 9 = .ok (.invokestatic 60, 3) := by decide +kernel
theorem dX0_rating_12 : decode cX0_rating 12 = .ok (.aload_n 0, 1) := by decide +kernel
theorem dX0_rating_13 : decode cX0_rating 13 = .ok (.getfield 17, 3) := by decide +kernel
theorem dX0_rating_16 : decode cX0_rating 16 = .ok (.iload_n 1, 1) := by decide +kernel
theorem dX0_rating_17 : decode cX0_rating 17 = .ok (.iload_n 2, 1) := by decide +kernel
theorem dX0_rating_18 : decode cX0_rating 18 = .ok (.invokestatic 80, 3) := by decide +kernel
theorem dX0_rating_21 : decode cX0_rating 21 = .ok (.iaload, 1) := by decide +kernel
theorem dX0_rating_22 : decode cX0_rating 22 = .ok (.ireturn, 1) := by decide +kernel
set_option maxRecDepth 20000 in
theorem ggX0_addOrder_X0_isAdvertiser : GoodIn wsX0_addOrder wsX0_isAdvertiser := goodIn_r _ [14, 15, 16, 13, 17] (by decide +kernel) (by decide +kernel)
set_option maxRecDepth 20000 in
theorem gX0_addOrder_X0_isAdvertiser : GoodIn wsX0_addOrder (va_wsS RX0 91 yX0_isAdvertiser wsX0_isAdvertiser) := goodIn_app (goodIn_of _ (by decide +kernel)) ggX0_addOrder_X0_isAdvertiser
set_option maxRecDepth 20000 in
theorem ggX0_addOrder_X0_checkArgument : GoodIn wsX0_addOrder wsX0_checkArgument := goodIn_ca (goodIn_r _ [20, 21, 22] (by decide +kernel) (by decide +kernel)) (goodIn_sub (fun _ h => List.mem_cons_of_mem _ (List.mem_append_left _ (List.mem_append_right _ h))) (by decide +kernel))
set_option maxRecDepth 20000 in
theorem gX0_addOrder_X0_checkArgument : GoodIn wsX0_addOrder (va_wsS RX0 60 yX0_checkArgument wsX0_checkArgument) := goodIn_app (goodIn_of _ (by decide +kernel)) ggX0_addOrder_X0_checkArgument
set_option maxRecDepth 20000 in
theorem ggX0_addOrder_X0_isWithin : GoodIn wsX0_addOrder wsX0_isWithin := goodIn_r _ [17] (by decide +kernel) (by decide +kernel)
set_option maxRecDepth 20000 in
theorem gX0_addOrder_X0_isWithin : GoodIn wsX0_addOrder (va_wsS RX0 56 yX0_isWithin wsX0_isWithin) := goodIn_app (goodIn_of _ (by decide +kernel)) ggX0_addOrder_X0_isWithin
set_option maxRecDepth 20000 in
theorem ggX0_addOrder_X0_isGroup : GoodIn wsX0_addOrder wsX0_isGroup := goodIn_r _ [25, 15, 16, 13, 17] (by decide +kernel) (by decide +kernel)
set_option maxRecDepth 20000 in
theorem gX0_addOrder_X0_isGroup : GoodIn wsX0_addOrder (va_wsS RX0 75 yX0_isGroup wsX0_isGroup) := goodIn_app (goodIn_of _ (by decide +kernel)) ggX0_addOrder_X0_isGroup
set_option maxRecDepth 20000 in
theorem ggX0_addOrder_X0_isSpotLength : GoodIn wsX0_addOrder wsX0_isSpotLength := goodIn_r _ [28] (by decide +kernel) (by decide +kernel)
set_option maxRecDepth 20000 in
theorem gX0_addOrder_X0_isSpotLength : GoodIn wsX0_addOrder (va_wsS RX0 94 yX0_isSpotLength wsX0_isSpotLength) := goodIn_app (goodIn_of _ (by decide +kernel)) ggX0_addOrder_X0_isSpotLength
set_option maxRecDepth 20000 in
theorem ggX0_addOrder_X0_checkState : GoodIn wsX0_addOrder wsX0_checkState := goodIn_ca (goodIn_r _ [31, 32, 33] (by decide +kernel) (by decide +kernel)) (goodIn_sub (fun _ h => List.mem_cons_of_mem _ (List.mem_append_right _ h)) (by decide +kernel))
set_option maxRecDepth 20000 in
theorem gX0_addOrder_X0_checkState : GoodIn wsX0_addOrder (va_wsS RX0 68 yX0_checkState wsX0_checkState) := goodIn_app (goodIn_of _ (by decide +kernel)) ggX0_addOrder_X0_checkState
theorem dX0_addOrder_0 : decode cX0_addOrder 0 = .ok (.iload_n 1, 1) := by decide +kernel
theorem dX0_addOrder_1 : decode cX0_addOrder 1 = .ok (.invokestatic 91, 3) := by decide +kernel
theorem dX0_addOrder_4 : decode cX0_addOrder 4 = .ok (.invokestatic 60, 3) := by decide +kernel
theorem dX0_addOrder_7 : decode cX0_addOrder 7 = .ok (.iload_n 2, 1) := by decide +kernel
theorem dX0_addOrder_8 : decode cX0_addOrder 8 = .ok (.iconst 0, 1) := by decide +kernel
theorem dX0_addOrder_9 : decode cX0_addOrder 9 = .ok (.bipush 7, 2) := by decide +kernel
theorem dX0_addOrder_11 : decode cX0_addOrder 11 = .ok (.invokestatic 56, 3) := by decide +kernel
theorem dX0_addOrder_14 : decode cX0_addOrder 14 = .ok (.invokestatic 60, 3) := by decide +kernel
theorem dX0_addOrder_17 : decode cX0_addOrder 17 = .ok (.iload_n 3, 1) := by decide +kernel
theorem dX0_addOrder_18 : decode cX0_addOrder 18 = .ok (.invokestatic 75, 3) := by decide +kernel
theorem dX0_addOrder_21 : decode cX0_addOrder 21 = .ok (.invokestatic 60, 3) := by decide +kernel
theorem dX0_addOrder_24 : decode cX0_addOrder 24 = .ok (.iload 4, 2) := by decide +kernel
theorem dX0_addOrder_26 : decode cX0_addOrder 26 = .ok (.invokestatic 94, 3) := by decide +kernel
theorem dX0_addOrder_29 : decode cX0_addOrder 29 = .ok (.invokestatic 60, 3) := by decide +kernel
theorem dX0_addOrder_32 : decode cX0_addOrder 32 = .ok (.iload 5, 2) := by decide +kernel
theorem dX0_addOrder_34 : decode cX0_addOrder 34 = .ok (.iconst 0, 1) := by decide +kernel
theorem dX0_addOrder_35 : decode cX0_addOrder 35 = .ok (.ldc 97, 2) := by decide +kernel
theorem dX0_addOrder_37 : decode cX0_addOrder 37 = .ok (.invokestatic 56, 3) := by decide +kernel
theorem dX0_addOrder_40 : decode cX0_addOrder 40 = .ok (.invokestatic 60, 3) := by decide +kernel
theorem dX0_addOrder_43 : decode cX0_addOrder 43 = .ok (.iload 6, 2) := by decide +kernel
theorem dX0_addOrder_45 : decode cX0_addOrder 45 = .ok (.iconst 0, 1) := by decide +kernel
theorem dX0_addOrder_46 : decode cX0_addOrder 46 = .ok (.ldc 97, 2) := by decide +kernel
theorem dX0_addOrder_48 : decode cX0_addOrder 48 = .ok (.invokestatic 56, 3) := by decide +kernel
theorem dX0_addOrder_51 : decode cX0_addOrder 51 = .ok (.invokestatic 60, 3) := by decide +kernel
theorem dX0_addOrder_54 : decode cX0_addOrder 54 = .ok (.iload 7, 2) := by decide +kernel
theorem dX0_addOrder_56 : decode cX0_addOrder 56 = .ok (.iconst 0, 1) := by decide +kernel
theorem dX0_addOrder_57 : decode cX0_addOrder 57 = .ok (.ldc 79, 2) := by decide +kernel
theorem dX0_addOrder_59 : decode cX0_addOrder 59 = .ok (.invokestatic 56, 3) := by decide +kernel
theorem dX0_addOrder_62 : decode cX0_addOrder 62 = .ok (.invokestatic 60, 3) := by decide +kernel
theorem dX0_addOrder_65 : decode cX0_addOrder 65 = .ok (.aload_n 0, 1) := by decide +kernel
theorem dX0_addOrder_66 : decode cX0_addOrder 66 = .ok (.getfield 98, 3) := by decide +kernel
theorem dX0_addOrder_69 : decode cX0_addOrder 69 = .ok (.bipush 20, 2) := by decide +kernel
theorem dX0_addOrder_71 : decode cX0_addOrder 71 = .ok (.if_icmp .ge 7, 3) := by decide +kernel
theorem dX0_addOrder_74 : decode cX0_addOrder 74 = .ok (.iconst 1, 1) := by decide +kernel
theorem dX0_addOrder_75 : decode cX0_addOrder 75 = .ok (.goto 4, 3) := by decide +kernel
theorem dX0_addOrder_78 : decode cX0_addOrder 78 = .ok (.iconst 0, 1) := by decide +kernel
theorem dX0_addOrder_79 : decode cX0_addOrder 79 = .ok (.invokestatic 68, 3) := by decide +kernel
theorem dX0_addOrder_82 : decode cX0_addOrder 82 = .ok (.aload_n 0, 1) := by decide +kernel
theorem dX0_addOrder_83 : decode cX0_addOrder 83 = .ok (.getfield 98, 3) := by decide +kernel
theorem dX0_addOrder_86 : decode cX0_addOrder 86 = .ok (.istore 8, 2) := by decide +kernel
theorem dX0_addOrder_88 : decode cX0_addOrder 88 = .ok (.aload_n 0, 1) := by decide +kernel
theorem dX0_addOrder_89 : decode cX0_addOrder 89 = .ok (.getfield 20, 3) := by decide +kernel
theorem dX0_addOrder_92 : decode cX0_addOrder 92 = .ok (.iload 8, 2) := by decide +kernel
theorem dX0_addOrder_94 : decode cX0_addOrder 94 = .ok (.iload_n 1, 1) := by decide +kernel
theorem dX0_addOrder_95 : decode cX0_addOrder 95 = .ok (.iastore, 1) := by decide +kernel
theorem dX0_addOrder_96 : decode cX0_addOrder 96 = .ok (.aload_n 0, 1) := by decide +kernel
theorem dX0_addOrder_97 : decode cX0_addOrder 97 = .ok (.getfield 23, 3) := by decide +kernel
theorem dX0_addOrder_100 : decode cX0_addOrder 100 = .ok (.iload 8, 2) := by decide +kernel
theorem dX0_addOrder_102 : decode cX0_addOrder 102 = .ok (.iload_n 2, 1) := by decide +kernel
theorem dX0_addOrder_103 : decode cX0_addOrder 103 = .ok (.iastore, 1) := by decide +kernel
theorem dX0_addOrder_104 : decode cX0_addOrder 104 = .ok (.aload_n 0, 1) := by decide +kernel
theorem dX0_addOrder_105 : decode cX0_addOrder 105 = .ok (.getfield 26, 3) := by decide +kernel
theorem dX0_addOrder_108 : decode cX0_addOrder 108 = .ok (.iload 8, 2) := by decide +kernel
theorem dX0_addOrder_110 : decode cX0_addOrder 110 = .ok (.iload_n 3, 1) := by decide +kernel
theorem dX0_addOrder_111 : decode cX0_addOrder 111 = .ok (.iastore, 1) := by decide +kernel
theorem dX0_addOrder_112 : decode cX0_addOrder 112 = .ok (.aload_n 0, 1) := by decide +kernel
theorem dX0_addOrder_113 : decode cX0_addOrder 113 = .ok (.getfield 29, 3) := by decide +kernel
theorem dX0_addOrder_116 : decode cX0_addOrder 116 = .ok (.iload 8, 2) := by decide +kernel
theorem dX0_addOrder_118 : decode cX0_addOrder 118 = .ok (.iload 4, 2) := by decide +kernel
theorem dX0_addOrder_120 : decode cX0_addOrder 120 = .ok (.iastore, 1) := by decide +kernel
theorem dX0_addOrder_121 : decode cX0_addOrder 121 = .ok (.aload_n 0, 1) := by decide +kernel
theorem dX0_addOrder_122 : decode cX0_addOrder 122 = .ok (.getfield 32, 3) := by decide +kernel
theorem dX0_addOrder_125 : decode cX0_addOrder 125 = .ok (.iload 8, 2) := by decide +kernel
theorem dX0_addOrder_127 : decode cX0_addOrder 127 = .ok (.iload 5, 2) := by decide +kernel
theorem dX0_addOrder_129 : decode cX0_addOrder 129 = .ok (.iastore, 1) := by decide +kernel
theorem dX0_addOrder_130 : decode cX0_addOrder 130 = .ok (.aload_n 0, 1) := by decide +kernel
theorem dX0_addOrder_131 : decode cX0_addOrder 131 = .ok (.getfield 35, 3) := by decide +kernel
theorem dX0_addOrder_134 : decode cX0_addOrder 134 = .ok (.iload 8, 2) := by decide +kernel
theorem dX0_addOrder_136 : decode cX0_addOrder 136 = .ok (.iload 6, 2) := by decide +kernel
theorem dX0_addOrder_138 : decode cX0_addOrder 138 = .ok (.iastore, 1) := by decide +kernel
theorem dX0_addOrder_139 : decode cX0_addOrder 139 = .ok (.aload_n 0, 1) := by decide +kernel
theorem dX0_addOrder_140 : decode cX0_addOrder 140 = .ok (.getfield 38, 3) := by decide +kernel
theorem dX0_addOrder_143 : decode cX0_addOrder 143 = .ok (.iload 8, 2) := by decide +kernel
theorem dX0_addOrder_145 : decode cX0_addOrder 145 = .ok (.iload 7, 2) := by decide +kernel
theorem dX0_addOrder_147 : decode cX0_addOrder 147 = .ok (.iastore, 1) := by decide +kernel
theorem dX0_addOrder_148 : decode cX0_addOrder 148 = .ok (.aload_n 0, 1) := by decide +kernel
theorem dX0_addOrder_149 : decode cX0_addOrder 149 = .ok (.dup, 1) := by decide +kernel
theorem dX0_addOrder_150 : decode cX0_addOrder 150 = .ok (.getfield 98, 3) := by decide +kernel
theorem dX0_addOrder_153 : decode cX0_addOrder 153 = .ok (.iconst 1, 1) := by decide +kernel
theorem dX0_addOrder_154 : decode cX0_addOrder 154 = .ok (.iadd, 1) := by decide +kernel
theorem dX0_addOrder_155 : decode cX0_addOrder 155 = .ok (.putfield 98, 3) := by decide +kernel
theorem dX0_addOrder_158 : decode cX0_addOrder 158 = .ok (.iload 8, 2) := by decide +kernel
theorem dX0_addOrder_160 : decode cX0_addOrder 160 = .ok (.ireturn, 1) := by decide +kernel
set_option maxRecDepth 20000 in
theorem ggX0_close_X0_checkOrder : GoodIn wsX0_close wsX0_checkOrder := goodIn_ca (goodIn_r _ [9, 10, 11, 12, 8, 13, 14, 15, 44, 45, 46, 47, 48, 49, 50, 51, 52, 53, 54, 55, 56, 57, 58, 59, 60, 61] (by decide +kernel) (by decide +kernel)) (goodIn_sub (fun _ h => List.mem_cons_of_mem _ (List.mem_append_left _ (List.mem_append_right _ h))) (by decide +kernel))
set_option maxRecDepth 20000 in
theorem gX0_close_X0_checkOrder : GoodIn wsX0_close (wsV RX0 101 RX0 yX0_checkOrder wsX0_checkOrder) := goodIn_app (goodIn_of _ (by decide +kernel)) ggX0_close_X0_checkOrder
set_option maxRecDepth 20000 in
theorem ggX0_close_X0_checkState : GoodIn wsX0_close wsX0_checkState := goodIn_ca (goodIn_r _ [18, 19, 20] (by decide +kernel) (by decide +kernel)) (goodIn_sub (fun _ h => List.mem_cons_of_mem _ (List.mem_append_right _ h)) (by decide +kernel))
set_option maxRecDepth 20000 in
theorem gX0_close_X0_checkState : GoodIn wsX0_close (va_wsS RX0 68 yX0_checkState wsX0_checkState) := goodIn_app (goodIn_of _ (by decide +kernel)) ggX0_close_X0_checkState
set_option maxRecDepth 20000 in
theorem ggX0_close_X0_owedTo : GoodIn wsX0_close wsX0_owedTo := goodIn_r _ [24, 1, 25, 26, 27, 28, 29, 30, 31, 32, 8, 33, 2, 3, 4, 34, 35, 36, 37, 38, 39, 40, 41, 42, 43, 44, 45, 46, 47, 48, 49, 50, 51, 52, 53, 54, 55, 56, 57, 58, 59, 60, 61] (by decide +kernel) (by decide +kernel)
set_option maxRecDepth 20000 in
theorem gX0_close_X0_owedTo : GoodIn wsX0_close (wsV RX0 104 RX0 yX0_owedTo wsX0_owedTo) := goodIn_app (goodIn_of _ (by decide +kernel)) ggX0_close_X0_owedTo
theorem dX0_close_0 : decode cX0_close 0 = .ok (.aload_n 0, 1) := by decide +kernel
theorem dX0_close_1 : decode cX0_close 1 = .ok (.iload_n 1, 1) := by decide +kernel
theorem dX0_close_2 : decode cX0_close 2 = .ok (.invokevirtual 101, 3) := by decide +kernel
theorem dX0_close_5 : decode cX0_close 5 = .ok (.aload_n 0, 1) := by decide +kernel
theorem dX0_close_6 : decode cX0_close 6 = .ok (.getfield 41, 3) := by decide +kernel
theorem dX0_close_9 : decode cX0_close 9 = .ok (.iload_n 1, 1) := by decide +kernel
theorem dX0_close_10 : decode cX0_close 10 = .ok (.baload, 1) := by decide +kernel
theorem dX0_close_11 : decode cX0_close 11 = .ok (.ifCond .ne 7, 3) := by decide +kernel
theorem dX0_close_14 : decode cX0_close 14 = .ok (.iconst 1, 1) := by decide +kernel
theorem dX0_close_15 : decode cX0_close 15 = .ok (.goto 4, 3) := by decide +kernel
theorem dX0_close_18 : decode cX0_close 18 = .ok (.iconst 0, 1) := by decide +kernel
theorem dX0_close_19 : decode cX0_close 19 = .ok (.invokestatic 68, 3) := by decide +kernel
theorem dX0_close_22 : decode cX0_close 22 = .ok (.aload_n 0, 1) := by decide +kernel
theorem dX0_close_23 : decode cX0_close 23 = .ok (.getfield 41, 3) := by decide +kernel
theorem dX0_close_26 : decode cX0_close 26 = .ok (.iload_n 1, 1) := by decide +kernel
theorem dX0_close_27 : decode cX0_close 27 = .ok (.iconst 1, 1) := by decide +kernel
theorem dX0_close_28 : decode cX0_close 28 = .ok (.bastore, 1) := by decide +kernel
theorem dX0_close_29 : decode cX0_close 29 = .ok (.iconst 0, 1) := by decide +kernel
theorem dX0_close_30 : decode cX0_close 30 = .ok (.istore_n 2, 1) := by decide +kernel
theorem dX0_close_31 : decode cX0_close 31 = .ok (.iload_n 2, 1) := by decide +kernel
theorem dX0_close_32 : decode cX0_close 32 = .ok (.aload_n 0, 1) := by decide +kernel
theorem dX0_close_33 : decode cX0_close 33 = .ok (.getfield 84, 3) := by decide +kernel
theorem dX0_close_36 : decode cX0_close 36 = .ok (.if_icmp .ge 35, 3) := by decide +kernel
theorem dX0_close_39 : decode cX0_close 39 = .ok (.aload_n 0, 1) := by decide +kernel
theorem dX0_close_40 : decode cX0_close 40 = .ok (.getfield 44, 3) := by decide +kernel
theorem dX0_close_43 : decode cX0_close 43 = .ok (.iload_n 2, 1) := by decide +kernel
theorem dX0_close_44 : decode cX0_close 44 = .ok (.iaload, 1) := by decide +kernel
theorem dX0_close_45 : decode cX0_close 45 = .ok (.iload_n 1, 1) := by decide +kernel
theorem dX0_close_46 : decode cX0_close 46 = .ok (.if_icmp .ne 19, 3) := by decide +kernel
theorem dX0_close_49 : decode cX0_close 49 = .ok (.aload_n 0, 1) := by decide +kernel
theorem dX0_close_50 : decode cX0_close 50 = .ok (.getfield 50, 3) := by decide +kernel
theorem dX0_close_53 : decode cX0_close 53 = .ok (.iload_n 2, 1) := by decide +kernel
theorem dX0_close_54 : decode cX0_close 54 = .ok (.iaload, 1) := by decide +kernel
theorem dX0_close_55 : decode cX0_close 55 = .ok (.ifCond .ne 10, 3) := by decide +kernel
theorem dX0_close_58 : decode cX0_close 58 = .ok (.aload_n 0, 1) := by decide +kernel
theorem dX0_close_59 : decode cX0_close 59 = .ok (.getfield 50, 3) := by decide +kernel
theorem dX0_close_62 : decode cX0_close 62 = .ok (.iload_n 2, 1) := by decide +kernel
theorem dX0_close_63 : decode cX0_close 63 = .ok (.iconst 3, 1) := by decide +kernel
theorem dX0_close_64 : decode cX0_close 64 = .ok (.iastore, 1) := by decide +kernel
theorem dX0_close_65 : decode cX0_close 65 = .ok (.iinc 2 1, 3) := by decide +kernel
theorem dX0_close_68 : decode cX0_close 68 = .ok (.goto (-37), 3) := by decide +kernel
theorem dX0_close_71 : decode cX0_close 71 = .ok (.aload_n 0, 1) := by decide +kernel
theorem dX0_close_72 : decode cX0_close 72 = .ok (.iload_n 1, 1) := by decide +kernel
theorem dX0_close_73 : decode cX0_close 73 = .ok (.invokevirtual 104, 3) := by decide +kernel
theorem dX0_close_76 : decode cX0_close 76 = .ok (.ireturn, 1) := by decide +kernel
theorem dX0_orders_0 : decode cX0_orders 0 = .ok (.aload_n 0, 1) := by decide +kernel
theorem dX0_orders_1 : decode cX0_orders 1 = .ok (.getfield 98, 3) := by decide +kernel
theorem dX0_orders_4 : decode cX0_orders 4 = .ok (.ireturn, 1) := by decide +kernel
set_option maxRecDepth 20000 in
theorem ggX0_whyNot_X0_checkOrder : GoodIn wsX0_whyNot wsX0_checkOrder := goodIn_ca (goodIn_r _ [5, 6, 7, 8, 4, 9, 10, 11, 60, 61, 62, 63, 64, 65, 66, 67, 68, 69, 70, 71, 72, 73, 74, 75, 76, 77] (by decide +kernel) (by decide +kernel)) (goodIn_sub (fun _ h => List.mem_cons_of_mem _ (List.mem_append_right _ h)) (by decide +kernel))
set_option maxRecDepth 20000 in
theorem gX0_whyNot_X0_checkOrder : GoodIn wsX0_whyNot (wsV RX0 101 RX0 yX0_checkOrder wsX0_checkOrder) := goodIn_app (goodIn_of _ (by decide +kernel)) ggX0_whyNot_X0_checkOrder
set_option maxRecDepth 20000 in
theorem ggX0_whyNot_X0_checkBreak : GoodIn wsX0_whyNot wsX0_checkBreak := goodIn_ca (goodIn_r _ [15, 16, 7, 8, 4, 9, 10, 11, 60, 61, 62, 63, 64, 65, 66, 67, 68, 69, 70, 71, 72, 73, 74, 75, 76, 77] (by decide +kernel) (by decide +kernel)) (goodIn_sub (fun _ h => List.mem_cons_of_mem _ (List.mem_append_right _ h)) (by decide +kernel))
set_option maxRecDepth 20000 in
theorem gX0_whyNot_X0_checkBreak : GoodIn wsX0_whyNot (wsV RX0 71 RX0 yX0_checkBreak wsX0_checkBreak) := goodIn_app (goodIn_of _ (by decide +kernel)) ggX0_whyNot_X0_checkBreak
set_option maxRecDepth 20000 in
theorem ggX0_whyNot_X0_obstacle : GoodIn wsX0_whyNot wsX0_obstacle := goodIn_r _ [20, 21, 22, 23, 24, 25, 26, 27, 4, 28, 29, 30, 31, 32, 33, 34, 35, 36, 37, 38, 39, 40, 41, 42, 43, 44, 45, 46, 47, 48, 49, 50, 51, 52, 53, 54, 55, 56, 57, 58, 59, 60, 61, 62, 63, 64, 65, 66, 67, 68, 69, 70, 71, 72, 73, 74, 75, 76, 77] (by decide +kernel) (by decide +kernel)
set_option maxRecDepth 20000 in
theorem gX0_whyNot_X0_obstacle : GoodIn wsX0_whyNot (wsV RX0 107 RX0 yX0_obstacle wsX0_obstacle) := goodIn_app (goodIn_of _ (by decide +kernel)) ggX0_whyNot_X0_obstacle
theorem dX0_whyNot_0 : decode cX0_whyNot 0 = .ok (.aload_n 0, 1) := by decide +kernel
theorem dX0_whyNot_1 : decode cX0_whyNot 1 = .ok (.iload_n 1, 1) := by decide +kernel
theorem dX0_whyNot_2 : decode cX0_whyNot 2 = .ok (.invokevirtual 101, 3) := by decide +kernel
theorem dX0_whyNot_5 : decode cX0_whyNot 5 = .ok (.aload_n 0, 1) := by decide +kernel
theorem dX0_whyNot_6 : decode cX0_whyNot 6 = .ok (.iload_n 2, 1) := by decide +kernel
theorem dX0_whyNot_7 : decode cX0_whyNot 7 = .ok (.invokevirtual 71, 3) := by decide +kernel
theorem dX0_whyNot_10 : decode cX0_whyNot 10 = .ok (.aload_n 0, 1) := by decide +kernel
theorem dX0_whyNot_11 : decode cX0_whyNot 11 = .ok (.iload_n 1, 1) := by decide +kernel
theorem dX0_whyNot_12 : decode cX0_whyNot 12 = .ok (.iload_n 2, 1) := by decide +kernel
theorem dX0_whyNot_13 : decode cX0_whyNot 13 = .ok (.invokevirtual 107, 3) := by decide +kernel
theorem dX0_whyNot_16 : decode cX0_whyNot 16 = .ok (.ireturn, 1) := by decide +kernel
set_option maxRecDepth 20000 in
theorem ggX0_place_X0_checkOrder : GoodIn wsX0_place wsX0_checkOrder := goodIn_ca (goodIn_r _ [7, 8, 9, 10, 6, 11, 12, 13, 71, 72, 73, 74, 75, 76, 77, 78, 79, 80, 81, 82, 83, 84, 85, 86, 87, 88] (by decide +kernel) (by decide +kernel)) (goodIn_sub (fun _ h => List.mem_cons_of_mem _ (List.mem_append_left _ (List.mem_append_right _ h))) (by decide +kernel))
set_option maxRecDepth 20000 in
theorem gX0_place_X0_checkOrder : GoodIn wsX0_place (wsV RX0 101 RX0 yX0_checkOrder wsX0_checkOrder) := goodIn_app (goodIn_of _ (by decide +kernel)) ggX0_place_X0_checkOrder
set_option maxRecDepth 20000 in
theorem ggX0_place_X0_checkBreak : GoodIn wsX0_place wsX0_checkBreak := goodIn_ca (goodIn_r _ [17, 18, 9, 10, 6, 11, 12, 13, 71, 72, 73, 74, 75, 76, 77, 78, 79, 80, 81, 82, 83, 84, 85, 86, 87, 88] (by decide +kernel) (by decide +kernel)) (goodIn_sub (fun _ h => List.mem_cons_of_mem _ (List.mem_append_left _ (List.mem_append_right _ h))) (by decide +kernel))
set_option maxRecDepth 20000 in
theorem gX0_place_X0_checkBreak : GoodIn wsX0_place (wsV RX0 71 RX0 yX0_checkBreak wsX0_checkBreak) := goodIn_app (goodIn_of _ (by decide +kernel)) ggX0_place_X0_checkBreak
set_option maxRecDepth 20000 in
theorem ggX0_place_X0_checkState : GoodIn wsX0_place wsX0_checkState := goodIn_ca (goodIn_r _ [21, 22, 23] (by decide +kernel) (by decide +kernel)) (goodIn_sub (fun _ h => List.mem_cons_of_mem _ (List.mem_append_right _ h)) (by decide +kernel))
set_option maxRecDepth 20000 in
theorem gX0_place_X0_checkState : GoodIn wsX0_place (va_wsS RX0 68 yX0_checkState wsX0_checkState) := goodIn_app (goodIn_of _ (by decide +kernel)) ggX0_place_X0_checkState
set_option maxRecDepth 20000 in
theorem ggX0_place_X0_obstacle : GoodIn wsX0_place wsX0_obstacle := goodIn_r _ [27, 28, 29, 30, 31, 32, 33, 34, 6, 35, 36, 2, 37, 38, 39, 40, 41, 42, 43, 44, 45, 46, 47, 48, 49, 50, 51, 52, 53, 54, 55, 56, 57, 58, 59, 60, 61, 62, 63, 64, 65, 71, 72, 73, 74, 75, 76, 77, 78, 79, 80, 81, 82, 83, 84, 85, 86, 87, 88] (by decide +kernel) (by decide +kernel)
set_option maxRecDepth 20000 in
theorem gX0_place_X0_obstacle : GoodIn wsX0_place (wsV RX0 107 RX0 yX0_obstacle wsX0_obstacle) := goodIn_app (goodIn_of _ (by decide +kernel)) ggX0_place_X0_obstacle
set_option maxRecDepth 20000 in
theorem ggX0_place_X0_addSpot : GoodIn wsX0_place wsX0_addSpot := goodIn_r _ [69, 2, 38, 37, 43, 70, 71, 72, 73, 74, 75, 76, 77, 78, 79, 80, 81, 82, 83, 84, 85, 86, 87, 88] (by decide +kernel) (by decide +kernel)
set_option maxRecDepth 20000 in
theorem gX0_place_X0_addSpot : GoodIn wsX0_place (wsV RX0 110 RX0 yX0_addSpot wsX0_addSpot) := goodIn_app (goodIn_of _ (by decide +kernel)) ggX0_place_X0_addSpot
theorem dX0_place_0 : decode cX0_place 0 = .ok (.aload_n 0, 1) := by decide +kernel
theorem dX0_place_1 : decode cX0_place 1 = .ok (.iload_n 1, 1) := by decide +kernel
theorem dX0_place_2 : decode cX0_place 2 = .ok (.invokevirtual 101, 3) := by decide +kernel
theorem dX0_place_5 : decode cX0_place 5 = .ok (.aload_n 0, 1) := by decide +kernel
theorem dX0_place_6 : decode cX0_place 6 = .ok (.iload_n 2, 1) := by decide +kernel
theorem dX0_place_7 : decode cX0_place 7 = .ok (.invokevirtual 71, 3) := by decide +kernel
theorem dX0_place_10 : decode cX0_place 10 = .ok (.aload_n 0, 1) := by decide +kernel
theorem dX0_place_11 : decode cX0_place 11 = .ok (.getfield 41, 3) := by decide +kernel
theorem dX0_place_14 : decode cX0_place 14 = .ok (.iload_n 1, 1) := by decide +kernel
theorem dX0_place_15 : decode cX0_place 15 = .ok (.baload, 1) := by decide +kernel
theorem dX0_place_16 : decode cX0_place 16 = .ok (.ifCond .ne 7, 3) := by decide +kernel
theorem dX0_place_19 : decode cX0_place 19 = .ok (.iconst 1, 1) := by decide +kernel
theorem dX0_place_20 : decode cX0_place 20 = .ok (.goto 4, 3) := by decide +kernel
theorem dX0_place_23 : decode cX0_place 23 = .ok (.iconst 0, 1) := by decide +kernel
theorem dX0_place_24 : decode cX0_place 24 = .ok (.invokestatic 68, 3) := by decide +kernel
theorem dX0_place_27 : decode cX0_place 27 = .ok (.aload_n 0, 1) := by decide +kernel
theorem dX0_place_28 : decode cX0_place 28 = .ok (.iload_n 1, 1) := by decide +kernel
theorem dX0_place_29 : decode cX0_place 29 = .ok (.iload_n 2, 1) := by decide +kernel
theorem dX0_place_30 : decode cX0_place 30 = .ok (.invokevirtual 107, 3) := by decide +kernel
theorem dX0_place_33 : decode cX0_place 33 = .ok (.ifCond .ne 7, 3) := by decide +kernel
theorem dX0_place_36 : decode cX0_place 36 = .ok (.iconst 1, 1) := by decide +kernel
theorem dX0_place_37 : decode cX0_place 37 = .ok (.goto 4, 3) := by decide +kernel
theorem dX0_place_40 : decode cX0_place 40 = .ok (.iconst 0, 1) := by decide +kernel
theorem dX0_place_41 : decode cX0_place 41 = .ok (.invokestatic 68, 3) := by decide +kernel
theorem dX0_place_44 : decode cX0_place 44 = .ok (.aload_n 0, 1) := by decide +kernel
theorem dX0_place_45 : decode cX0_place 45 = .ok (.getfield 84, 3) := by decide +kernel
theorem dX0_place_48 : decode cX0_place 48 = .ok (.sipush 150, 3) := by decide +kernel
theorem dX0_place_51 : decode cX0_place 51 = .ok (.if_icmp .ge 7, 3) := by decide +kernel
theorem dX0_place_54 : decode cX0_place 54 = .ok (.iconst 1, 1) := by decide +kernel
theorem dX0_place_55 : decode cX0_place 55 = .ok (.goto 4, 3) := by decide +kernel
theorem dX0_place_58 : decode cX0_place 58 = .ok (.iconst 0, 1) := by decide +kernel
theorem dX0_place_59 : decode cX0_place 59 = .ok (.invokestatic 68, 3) := by decide +kernel
theorem dX0_place_62 : decode cX0_place 62 = .ok (.aload_n 0, 1) := by decide +kernel
theorem dX0_place_63 : decode cX0_place 63 = .ok (.iload_n 1, 1) := by decide +kernel
theorem dX0_place_64 : decode cX0_place 64 = .ok (.iload_n 2, 1) := by decide +kernel
theorem dX0_place_65 : decode cX0_place 65 = .ok (.iconst 0, 1) := by decide +kernel
theorem dX0_place_66 : decode cX0_place 66 = .ok (.invokevirtual 110, 3) := by decide +kernel
theorem dX0_place_69 : decode cX0_place 69 = .ok (.ireturn, 1) := by decide +kernel
set_option maxRecDepth 20000 in
theorem ggX0_give_X0_checkOrder : GoodIn wsX0_give wsX0_checkOrder := goodIn_ca (goodIn_r _ [6, 7, 8, 9, 5, 10, 11, 12, 88, 89, 90, 91, 92, 93, 94, 95, 96, 97, 98, 99, 100, 101, 102, 103, 104, 105] (by decide +kernel) (by decide +kernel)) (goodIn_sub (fun _ h => List.mem_cons_of_mem _ (List.mem_append_left _ (List.mem_append_right _ h))) (by decide +kernel))
set_option maxRecDepth 20000 in
theorem gX0_give_X0_checkOrder : GoodIn wsX0_give (wsV RX0 101 RX0 yX0_checkOrder wsX0_checkOrder) := goodIn_app (goodIn_of _ (by decide +kernel)) ggX0_give_X0_checkOrder
set_option maxRecDepth 20000 in
theorem ggX0_give_X0_checkBreak : GoodIn wsX0_give wsX0_checkBreak := goodIn_ca (goodIn_r _ [16, 17, 8, 9, 5, 10, 11, 12, 88, 89, 90, 91, 92, 93, 94, 95, 96, 97, 98, 99, 100, 101, 102, 103, 104, 105] (by decide +kernel) (by decide +kernel)) (goodIn_sub (fun _ h => List.mem_cons_of_mem _ (List.mem_append_left _ (List.mem_append_right _ h))) (by decide +kernel))
set_option maxRecDepth 20000 in
theorem gX0_give_X0_checkBreak : GoodIn wsX0_give (wsV RX0 71 RX0 yX0_checkBreak wsX0_checkBreak) := goodIn_app (goodIn_of _ (by decide +kernel)) ggX0_give_X0_checkBreak
set_option maxRecDepth 20000 in
theorem ggX0_give_X0_restOf : GoodIn wsX0_give wsX0_restOf := goodIn_r _ [21, 1, 22, 23, 24, 25, 26, 27, 28, 29, 30, 31, 32, 5, 33, 34, 35, 36, 37, 38, 39, 40, 41, 42, 43, 44, 45, 46, 47, 48, 88, 89, 90, 91, 92, 93, 94, 95, 96, 97, 98, 99, 100, 101, 102, 103, 104, 105] (by decide +kernel) (by decide +kernel)
set_option maxRecDepth 20000 in
theorem gX0_give_X0_restOf : GoodIn wsX0_give (wsV RX0 114 RX0 yX0_restOf wsX0_restOf) := goodIn_app (goodIn_of _ (by decide +kernel)) ggX0_give_X0_restOf
set_option maxRecDepth 20000 in
theorem ggX0_give_X0_checkState : GoodIn wsX0_give wsX0_checkState := goodIn_ca (goodIn_r _ [51, 52, 53] (by decide +kernel) (by decide +kernel)) (goodIn_sub (fun _ h => List.mem_cons_of_mem _ (List.mem_append_right _ h)) (by decide +kernel))
set_option maxRecDepth 20000 in
theorem gX0_give_X0_checkState : GoodIn wsX0_give (va_wsS RX0 68 yX0_checkState wsX0_checkState) := goodIn_app (goodIn_of _ (by decide +kernel)) ggX0_give_X0_checkState
set_option maxRecDepth 20000 in
theorem ggX0_give_X0_obstacle : GoodIn wsX0_give wsX0_obstacle := goodIn_r _ [57, 58, 59, 60, 61, 62, 63, 64, 5, 65, 66, 1, 25, 22, 67, 68, 69, 70, 24, 40, 41, 42, 43, 44, 45, 46, 47, 48, 71, 72, 73, 74, 75, 76, 77, 78, 79, 80, 81, 82, 83, 88, 89, 90, 91, 92, 93, 94, 95, 96, 97, 98, 99, 100, 101, 102, 103, 104, 105] (by decide +kernel) (by decide +kernel)
set_option maxRecDepth 20000 in
theorem gX0_give_X0_obstacle : GoodIn wsX0_give (wsV RX0 107 RX0 yX0_obstacle wsX0_obstacle) := goodIn_app (goodIn_of _ (by decide +kernel)) ggX0_give_X0_obstacle
set_option maxRecDepth 20000 in
theorem ggX0_give_X0_addSpot : GoodIn wsX0_give wsX0_addSpot := goodIn_r _ [87, 1, 22, 25, 24, 23, 88, 89, 90, 91, 92, 93, 94, 95, 96, 97, 98, 99, 100, 101, 102, 103, 104, 105] (by decide +kernel) (by decide +kernel)
set_option maxRecDepth 20000 in
theorem gX0_give_X0_addSpot : GoodIn wsX0_give (wsV RX0 110 RX0 yX0_addSpot wsX0_addSpot) := goodIn_app (goodIn_of _ (by decide +kernel)) ggX0_give_X0_addSpot
theorem dX0_give_0 : decode cX0_give 0 = .ok (.aload_n 0, 1) := by decide +kernel
theorem dX0_give_1 : decode cX0_give 1 = .ok (.iload_n 1, 1) := by decide +kernel
theorem dX0_give_2 : decode cX0_give 2 = .ok (.invokevirtual 101, 3) := by decide +kernel
theorem dX0_give_5 : decode cX0_give 5 = .ok (.aload_n 0, 1) := by decide +kernel
theorem dX0_give_6 : decode cX0_give 6 = .ok (.iload_n 2, 1) := by decide +kernel
theorem dX0_give_7 : decode cX0_give 7 = .ok (.invokevirtual 71, 3) := by decide +kernel
theorem dX0_give_10 : decode cX0_give 10 = .ok (.aload_n 0, 1) := by decide +kernel
theorem dX0_give_11 : decode cX0_give 11 = .ok (.iload_n 1, 1) := by decide +kernel
theorem dX0_give_12 : decode cX0_give 12 = .ok (.invokevirtual 114, 3) := by decide +kernel
theorem dX0_give_15 : decode cX0_give 15 = .ok (.ifCond .le 7, 3) := by decide +kernel
theorem dX0_give_18 : decode cX0_give 18 = .ok (.iconst 1, 1) := by decide +kernel
theorem dX0_give_19 : decode cX0_give 19 = .ok (.goto 4, 3) := by decide +kernel
theorem dX0_give_22 : decode cX0_give 22 = .ok (.iconst 0, 1) := by decide +kernel
theorem dX0_give_23 : decode cX0_give 23 = .ok (.invokestatic 68, 3) := by decide +kernel
theorem dX0_give_26 : decode cX0_give 26 = .ok (.aload_n 0, 1) := by decide +kernel
theorem dX0_give_27 : decode cX0_give 27 = .ok (.iload_n 1, 1) := by decide +kernel
theorem dX0_give_28 : decode cX0_give 28 = .ok (.iload_n 2, 1) := by decide +kernel
theorem dX0_give_29 : decode cX0_give 29 = .ok (.invokevirtual 107, 3) := by decide +kernel
theorem dX0_give_32 : decode cX0_give 32 = .ok (.ifCond .ne 7, 3) := by decide +kernel
theorem dX0_give_35 : decode cX0_give 35 = .ok (.iconst 1, 1) := by decide +kernel
theorem dX0_give_36 : decode cX0_give 36 = .ok (.goto 4, 3) := by decide +kernel
theorem dX0_give_39 : decode cX0_give 39 = .ok (.iconst 0, 1) := by decide +kernel
theorem dX0_give_40 : decode cX0_give 40 = .ok (.invokestatic 68, 3) := by decide +kernel
theorem dX0_give_43 : decode cX0_give 43 = .ok (.aload_n 0, 1) := by decide +kernel
theorem dX0_give_44 : decode cX0_give 44 = .ok (.getfield 84, 3) := by decide +kernel
theorem dX0_give_47 : decode cX0_give 47 = .ok (.sipush 150, 3) := by decide +kernel
theorem dX0_give_50 : decode cX0_give 50 = .ok (.if_icmp .ge 7, 3) := by decide +kernel
theorem dX0_give_53 : decode cX0_give 53 = .ok (.iconst 1, 1) := by decide +kernel
theorem dX0_give_54 : decode cX0_give 54 = .ok (.goto 4, 3) := by decide +kernel
theorem dX0_give_57 : decode cX0_give 57 = .ok (.iconst 0, 1) := by decide +kernel
theorem dX0_give_58 : decode cX0_give 58 = .ok (.invokestatic 68, 3) := by decide +kernel
theorem dX0_give_61 : decode cX0_give 61 = .ok (.aload_n 0, 1) := by decide +kernel
theorem dX0_give_62 : decode cX0_give 62 = .ok (.iload_n 1, 1) := by decide +kernel
theorem dX0_give_63 : decode cX0_give 63 = .ok (.iload_n 2, 1) := by decide +kernel
theorem dX0_give_64 : decode cX0_give 64 = .ok (.iconst 1, 1) := by decide +kernel
theorem dX0_give_65 : decode cX0_give 65 = .ok (.invokevirtual 110, 3) := by decide +kernel
theorem dX0_give_68 : decode cX0_give 68 = .ok (.ireturn, 1) := by decide +kernel
set_option maxRecDepth 20000 in
theorem ggX0_fill_X0_checkOrder : GoodIn wsX0_fill wsX0_checkOrder := goodIn_ca (goodIn_r _ [7, 8, 9, 10, 6, 11, 12, 13, 88, 89, 90, 91, 92, 93, 94, 95, 96, 97, 98, 99, 100, 101, 102, 103, 104, 105] (by decide +kernel) (by decide +kernel)) (goodIn_sub (fun _ h => List.mem_cons_of_mem _ (List.mem_append_left _ (List.mem_append_left _ (List.mem_append_right _ h)))) (by decide +kernel))
set_option maxRecDepth 20000 in
theorem gX0_fill_X0_checkOrder : GoodIn wsX0_fill (wsV RX0 101 RX0 yX0_checkOrder wsX0_checkOrder) := goodIn_app (goodIn_of _ (by decide +kernel)) ggX0_fill_X0_checkOrder
set_option maxRecDepth 20000 in
theorem ggX0_fill_X0_isWithin : GoodIn wsX0_fill wsX0_isWithin := goodIn_r _ [16] (by decide +kernel) (by decide +kernel)
set_option maxRecDepth 20000 in
theorem gX0_fill_X0_isWithin : GoodIn wsX0_fill (va_wsS RX0 56 yX0_isWithin wsX0_isWithin) := goodIn_app (goodIn_of _ (by decide +kernel)) ggX0_fill_X0_isWithin
set_option maxRecDepth 20000 in
theorem ggX0_fill_X0_checkArgument : GoodIn wsX0_fill wsX0_checkArgument := goodIn_ca (goodIn_r _ [19, 20, 21] (by decide +kernel) (by decide +kernel)) (goodIn_sub (fun _ h => List.mem_cons_of_mem _ (List.mem_append_left _ (List.mem_append_right _ h))) (by decide +kernel))
set_option maxRecDepth 20000 in
theorem gX0_fill_X0_checkArgument : GoodIn wsX0_fill (va_wsS RX0 60 yX0_checkArgument wsX0_checkArgument) := goodIn_app (goodIn_of _ (by decide +kernel)) ggX0_fill_X0_checkArgument
set_option maxRecDepth 20000 in
theorem ggX0_fill_X0_checkState : GoodIn wsX0_fill wsX0_checkState := goodIn_ca (goodIn_r _ [24, 25, 26] (by decide +kernel) (by decide +kernel)) (goodIn_sub (fun _ h => List.mem_cons_of_mem _ (List.mem_append_right _ h)) (by decide +kernel))
set_option maxRecDepth 20000 in
theorem gX0_fill_X0_checkState : GoodIn wsX0_fill (va_wsS RX0 68 yX0_checkState wsX0_checkState) := goodIn_app (goodIn_of _ (by decide +kernel)) ggX0_fill_X0_checkState
set_option maxRecDepth 20000 in
theorem ggX0_fill_X0_isShortOfPromise : GoodIn wsX0_fill wsX0_isShortOfPromise := goodIn_r _ [30, 31, 32, 33, 34, 6, 35, 2, 36, 37, 38, 39, 40, 41, 42, 43, 44, 45, 46, 47, 88, 89, 90, 91, 92, 93, 94, 95, 96, 97, 98, 99, 100, 101, 102, 103, 104, 105] (by decide +kernel) (by decide +kernel)
set_option maxRecDepth 20000 in
theorem gX0_fill_X0_isShortOfPromise : GoodIn wsX0_fill (wsV RX0 117 RX0 yX0_isShortOfPromise wsX0_isShortOfPromise) := goodIn_app (goodIn_of _ (by decide +kernel)) ggX0_fill_X0_isShortOfPromise
set_option maxRecDepth 20000 in
theorem ggX0_fill_X0_bestBreak : GoodIn wsX0_fill wsX0_bestBreak := goodIn_r _ [51, 52, 39, 40, 41, 6, 42, 43, 44, 45, 46, 47, 53, 54, 55, 56, 57, 58, 59, 60, 61, 62, 63, 64, 65, 2, 38, 36, 66, 67, 68, 69, 37, 70, 71, 72, 73, 74, 75, 76, 77, 78, 79, 80, 81, 82, 88, 89, 90, 91, 92, 93, 94, 95, 96, 97, 98, 99, 100, 101, 102, 103, 104, 105] (by decide +kernel) (by decide +kernel)
set_option maxRecDepth 20000 in
theorem gX0_fill_X0_bestBreak : GoodIn wsX0_fill (wsV RX0 120 RX0 yX0_bestBreak wsX0_bestBreak) := goodIn_app (goodIn_of _ (by decide +kernel)) ggX0_fill_X0_bestBreak
set_option maxRecDepth 20000 in
theorem ggX0_fill_X0_addSpot : GoodIn wsX0_fill wsX0_addSpot := goodIn_r _ [86, 2, 36, 38, 37, 87, 88, 89, 90, 91, 92, 93, 94, 95, 96, 97, 98, 99, 100, 101, 102, 103, 104, 105] (by decide +kernel) (by decide +kernel)
set_option maxRecDepth 20000 in
theorem gX0_fill_X0_addSpot : GoodIn wsX0_fill (wsV RX0 110 RX0 yX0_addSpot wsX0_addSpot) := goodIn_app (goodIn_of _ (by decide +kernel)) ggX0_fill_X0_addSpot
theorem dX0_fill_0 : decode cX0_fill 0 = .ok (.aload_n 0, 1) := by decide +kernel
theorem dX0_fill_1 : decode cX0_fill 1 = .ok (.iload_n 1, 1) := by decide +kernel
theorem dX0_fill_2 : decode cX0_fill 2 = .ok (.invokevirtual 101, 3) := by decide +kernel
theorem dX0_fill_5 : decode cX0_fill 5 = .ok (.iload_n 2, 1) := by decide +kernel
theorem dX0_fill_6 : decode cX0_fill 6 = .ok (.iconst 1, 1) := by decide +kernel
theorem dX0_fill_7 : decode cX0_fill 7 = .ok (.bipush 24, 2) := by decide +kernel
theorem dX0_fill_9 : decode cX0_fill 9 = .ok (.invokestatic 56, 3) := by decide +kernel
theorem dX0_fill_12 : decode cX0_fill 12 = .ok (.invokestatic 60, 3) := by decide +kernel
theorem dX0_fill_15 : decode cX0_fill 15 = .ok (.aload_n 0, 1) := by decide +kernel
theorem dX0_fill_16 : decode cX0_fill 16 = .ok (.getfield 41, 3) := by decide +kernel
theorem dX0_fill_19 : decode cX0_fill 19 = .ok (.iload_n 1, 1) := by decide +kernel
theorem dX0_fill_20 : decode cX0_fill 20 = .ok (.baload, 1) := by decide +kernel
theorem dX0_fill_21 : decode cX0_fill 21 = .ok (.ifCond .ne 7, 3) := by decide +kernel
theorem dX0_fill_24 : decode cX0_fill 24 = .ok (.iconst 1, 1) := by decide +kernel
theorem dX0_fill_25 : decode cX0_fill 25 = .ok (.goto 4, 3) := by decide +kernel
theorem dX0_fill_28 : decode cX0_fill 28 = .ok (.iconst 0, 1) := by decide +kernel
theorem dX0_fill_29 : decode cX0_fill 29 = .ok (.invokestatic 68, 3) := by decide +kernel
theorem dX0_fill_32 : decode cX0_fill 32 = .ok (.iconst 0, 1) := by decide +kernel
theorem dX0_fill_33 : decode cX0_fill 33 = .ok (.istore_n 3, 1) := by decide +kernel
theorem dX0_fill_34 : decode cX0_fill 34 = .ok (.iload_n 3, 1) := by decide +kernel
theorem dX0_fill_35 : decode cX0_fill 35 = .ok (.iload_n 2, 1) := by decide +kernel
theorem dX0_fill_36 : decode cX0_fill 36 = .ok (.if_icmp .ge 52, 3) := by decide +kernel
theorem dX0_fill_39 : decode cX0_fill 39 = .ok (.aload_n 0, 1) := by decide +kernel
theorem dX0_fill_40 : decode cX0_fill 40 = .ok (.getfield 84, 3) := by decide +kernel
theorem dX0_fill_43 : decode cX0_fill 43 = .ok (.sipush 150, 3) := by decide +kernel
theorem dX0_fill_46 : decode cX0_fill 46 = .ok (.if_icmp .ge 42, 3) := by decide +kernel
theorem dX0_fill_49 : decode cX0_fill 49 = .ok (.aload_n 0, 1) := by decide +kernel
theorem dX0_fill_50 : decode cX0_fill 50 = .ok (.iload_n 1, 1) := by decide +kernel
theorem dX0_fill_51 : decode cX0_fill 51 = .ok (.invokevirtual 117, 3) := by decide +kernel
theorem dX0_fill_54 : decode cX0_fill 54 = .ok (.ifCond .eq 34, 3) := by decide +kernel
theorem dX0_fill_57 : decode cX0_fill 57 = .ok (.aload_n 0, 1) := by decide +kernel
theorem dX0_fill_58 : decode cX0_fill 58 = .ok (.iload_n 1, 1) := by decide +kernel
theorem dX0_fill_59 : decode cX0_fill 59 = .ok (.invokevirtual 120, 3) := by decide +kernel
theorem dX0_fill_62 : decode cX0_fill 62 = .ok (.istore 4, 2) := by decide +kernel
theorem dX0_fill_64 : decode cX0_fill 64 = .ok (.iload 4, 2) := by decide +kernel
theorem dX0_fill_66 : decode cX0_fill 66 = .ok (.iconst (-1), 1) := by decide +kernel
theorem dX0_fill_67 : decode cX0_fill 67 = .ok (.if_icmp .ne 6, 3) := by decide +kernel
theorem dX0_fill_70 : decode cX0_fill 70 = .ok (.goto 18, 3) := by decide +kernel
theorem dX0_fill_73 : decode cX0_fill 73 = .ok (.aload_n 0, 1) := by decide +kernel
theorem dX0_fill_74 : decode cX0_fill 74 = .ok (.iload_n 1, 1) := by decide +kernel
theorem dX0_fill_75 : decode cX0_fill 75 = .ok (.iload 4, 2) := by decide +kernel
theorem dX0_fill_77 : decode cX0_fill 77 = .ok (.iconst 0, 1) := by decide +kernel
theorem dX0_fill_78 : decode cX0_fill 78 = .ok (.invokevirtual 110, 3) := by decide +kernel
theorem dX0_fill_81 : decode cX0_fill 81 = .ok (.pop, 1) := by decide +kernel
theorem dX0_fill_82 : decode cX0_fill 82 = .ok (.iinc 3 1, 3) := by decide +kernel
theorem dX0_fill_85 : decode cX0_fill 85 = .ok (.goto (-51), 3) := by decide +kernel
theorem dX0_fill_88 : decode cX0_fill 88 = .ok (.iload_n 3, 1) := by decide +kernel
theorem dX0_fill_89 : decode cX0_fill 89 = .ok (.ireturn, 1) := by decide +kernel
set_option maxRecDepth 20000 in
theorem ggX0_move_X0_checkSpot : GoodIn wsX0_move wsX0_checkSpot := goodIn_ca (goodIn_r _ [8, 9, 10, 11, 7, 12, 13, 14, 64, 65, 66, 67, 68, 69, 70, 71, 72, 73, 74, 75, 76, 77, 78, 79, 80, 81] (by decide +kernel) (by decide +kernel)) (goodIn_sub (fun _ h => List.mem_cons_of_mem _ (List.mem_append_left _ (List.mem_append_right _ h))) (by decide +kernel))
set_option maxRecDepth 20000 in
theorem gX0_move_X0_checkSpot : GoodIn wsX0_move (wsV RX0 123 RX0 yX0_checkSpot wsX0_checkSpot) := goodIn_app (goodIn_of _ (by decide +kernel)) ggX0_move_X0_checkSpot
set_option maxRecDepth 20000 in
theorem ggX0_move_X0_checkBreak : GoodIn wsX0_move wsX0_checkBreak := goodIn_ca (goodIn_r _ [18, 19, 10, 11, 7, 12, 13, 14, 64, 65, 66, 67, 68, 69, 70, 71, 72, 73, 74, 75, 76, 77, 78, 79, 80, 81] (by decide +kernel) (by decide +kernel)) (goodIn_sub (fun _ h => List.mem_cons_of_mem _ (List.mem_append_left _ (List.mem_append_right _ h))) (by decide +kernel))
set_option maxRecDepth 20000 in
theorem gX0_move_X0_checkBreak : GoodIn wsX0_move (wsV RX0 71 RX0 yX0_checkBreak wsX0_checkBreak) := goodIn_app (goodIn_of _ (by decide +kernel)) ggX0_move_X0_checkBreak
set_option maxRecDepth 20000 in
theorem ggX0_move_X0_checkState : GoodIn wsX0_move wsX0_checkState := goodIn_ca (goodIn_r _ [22, 23, 24] (by decide +kernel) (by decide +kernel)) (goodIn_sub (fun _ h => List.mem_cons_of_mem _ (List.mem_append_right _ h)) (by decide +kernel))
set_option maxRecDepth 20000 in
theorem gX0_move_X0_checkState : GoodIn wsX0_move (va_wsS RX0 68 yX0_checkState wsX0_checkState) := goodIn_app (goodIn_of _ (by decide +kernel)) ggX0_move_X0_checkState
set_option maxRecDepth 20000 in
theorem ggX0_move_X0_obstacle : GoodIn wsX0_move wsX0_obstacle := goodIn_r _ [28, 29, 30, 31, 32, 33, 34, 35, 7, 36, 37, 9, 2, 3, 38, 39, 40, 41, 1, 42, 43, 44, 45, 46, 47, 48, 49, 50, 51, 52, 53, 54, 55, 56, 57, 58, 59, 60, 61, 62, 63, 64, 65, 66, 67, 68, 69, 70, 71, 72, 73, 74, 75, 76, 77, 78, 79, 80, 81] (by decide +kernel) (by decide +kernel)
set_option maxRecDepth 20000 in
theorem gX0_move_X0_obstacle : GoodIn wsX0_move (wsV RX0 107 RX0 yX0_obstacle wsX0_obstacle) := goodIn_app (goodIn_of _ (by decide +kernel)) ggX0_move_X0_obstacle
theorem dX0_move_0 : decode cX0_move 0 = .ok (.aload_n 0, 1) := by decide +kernel
theorem dX0_move_1 : decode cX0_move 1 = .ok (.iload_n 1, 1) := by decide +kernel
theorem dX0_move_2 : decode cX0_move 2 = .ok (.invokevirtual 123, 3) := by decide +kernel
theorem dX0_move_5 : decode cX0_move 5 = .ok (.aload_n 0, 1) := by decide +kernel
theorem dX0_move_6 : decode cX0_move 6 = .ok (.iload_n 2, 1) := by decide +kernel
theorem dX0_move_7 : decode cX0_move 7 = .ok (.invokevirtual 71, 3) := by decide +kernel
theorem dX0_move_10 : decode cX0_move 10 = .ok (.aload_n 0, 1) := by decide +kernel
theorem dX0_move_11 : decode cX0_move 11 = .ok (.getfield 50, 3) := by decide +kernel
theorem dX0_move_14 : decode cX0_move 14 = .ok (.iload_n 1, 1) := by decide +kernel
theorem dX0_move_15 : decode cX0_move 15 = .ok (.iaload, 1) := by decide +kernel
theorem dX0_move_16 : decode cX0_move 16 = .ok (.ifCond .ne 7, 3) := by decide +kernel
theorem dX0_move_19 : decode cX0_move 19 = .ok (.iconst 1, 1) := by decide +kernel
theorem dX0_move_20 : decode cX0_move 20 = .ok (.goto 4, 3) := by decide +kernel
theorem dX0_move_23 : decode cX0_move 23 = .ok (.iconst 0, 1) := by decide +kernel
theorem dX0_move_24 : decode cX0_move 24 = .ok (.invokestatic 68, 3) := by decide +kernel
theorem dX0_move_27 : decode cX0_move 27 = .ok (.aload_n 0, 1) := by decide +kernel
theorem dX0_move_28 : decode cX0_move 28 = .ok (.getfield 47, 3) := by decide +kernel
theorem dX0_move_31 : decode cX0_move 31 = .ok (.iload_n 1, 1) := by decide +kernel
theorem dX0_move_32 : decode cX0_move 32 = .ok (.iaload, 1) := by decide +kernel
theorem dX0_move_33 : decode cX0_move 33 = .ok (.istore_n 3, 1) := by decide +kernel
theorem dX0_move_34 : decode cX0_move 34 = .ok (.iload_n 2, 1) := by decide +kernel
theorem dX0_move_35 : decode cX0_move 35 = .ok (.iload_n 3, 1) := by decide +kernel
theorem dX0_move_36 : decode cX0_move 36 = .ok (.if_icmp .eq 17, 3) := by decide +kernel
theorem dX0_move_39 : decode cX0_move 39 = .ok (.aload_n 0, 1) := by decide +kernel
theorem dX0_move_40 : decode cX0_move 40 = .ok (.aload_n 0, 1) := by decide +kernel
theorem dX0_move_41 : decode cX0_move 41 = .ok (.getfield 44, 3) := by decide +kernel
theorem dX0_move_44 : decode cX0_move 44 = .ok (.iload_n 1, 1) := by decide +kernel
theorem dX0_move_45 : decode cX0_move 45 = .ok (.iaload, 1) := by decide +kernel
theorem dX0_move_46 : decode cX0_move 46 = .ok (.iload_n 2, 1) := by decide +kernel
theorem dX0_move_47 : decode cX0_move 47 = .ok (.invokevirtual 107, 3) := by decide +kernel
theorem dX0_move_50 : decode cX0_move 50 = .ok (.ifCond .ne 7, 3) := by decide +kernel
theorem dX0_move_53 : decode cX0_move 53 = .ok (.iconst 1, 1) := by decide +kernel
theorem dX0_move_54 : decode cX0_move 54 = .ok (.goto 4, 3) := by decide +kernel
theorem dX0_move_57 : decode cX0_move 57 = .ok (.iconst 0, 1) := by decide +kernel
theorem dX0_move_58 : decode cX0_move 58 = .ok (.invokestatic 68, 3) := by decide +kernel
theorem dX0_move_61 : decode cX0_move 61 = .ok (.aload_n 0, 1) := by decide +kernel
theorem dX0_move_62 : decode cX0_move 62 = .ok (.getfield 47, 3) := by decide +kernel
theorem dX0_move_65 : decode cX0_move 65 = .ok (.iload_n 1, 1) := by decide +kernel
theorem dX0_move_66 : decode cX0_move 66 = .ok (.iload_n 2, 1) := by decide +kernel
theorem dX0_move_67 : decode cX0_move 67 = .ok (.iastore, 1) := by decide +kernel
theorem dX0_move_68 : decode cX0_move 68 = .ok (.iload_n 3, 1) := by decide +kernel
theorem dX0_move_69 : decode cX0_move 69 = .ok (.ireturn, 1) := by decide +kernel
set_option maxRecDepth 20000 in
theorem ggX0_miss_X0_checkSpot : GoodIn wsX0_miss wsX0_checkSpot := goodIn_ca (goodIn_r _ [6, 7, 8, 9, 5, 10, 11, 12, 22, 23, 24, 25, 26, 27, 28, 29, 30, 31, 32, 33, 34, 35, 36, 37, 38, 39] (by decide +kernel) (by decide +kernel)) (goodIn_sub (fun _ h => List.mem_cons_of_mem _ (List.mem_append_left _ (List.mem_append_right _ h))) (by decide +kernel))
set_option maxRecDepth 20000 in
theorem gX0_miss_X0_checkSpot : GoodIn wsX0_miss (wsV RX0 123 RX0 yX0_checkSpot wsX0_checkSpot) := goodIn_app (goodIn_of _ (by decide +kernel)) ggX0_miss_X0_checkSpot
set_option maxRecDepth 20000 in
theorem ggX0_miss_X0_isInBreak : GoodIn wsX0_miss wsX0_isInBreak := goodIn_r _ [16, 1, 22, 23, 24, 25, 26, 27, 28, 29, 30, 31, 32, 33, 34, 35, 36, 37, 38, 39] (by decide +kernel) (by decide +kernel)
set_option maxRecDepth 20000 in
theorem gX0_miss_X0_isInBreak : GoodIn wsX0_miss (wsV RX0 126 RX0 yX0_isInBreak wsX0_isInBreak) := goodIn_app (goodIn_of _ (by decide +kernel)) ggX0_miss_X0_isInBreak
set_option maxRecDepth 20000 in
theorem ggX0_miss_X0_checkState : GoodIn wsX0_miss wsX0_checkState := goodIn_ca (goodIn_r _ [19, 20, 21] (by decide +kernel) (by decide +kernel)) (goodIn_sub (fun _ h => List.mem_cons_of_mem _ (List.mem_append_right _ h)) (by decide +kernel))
set_option maxRecDepth 20000 in
theorem gX0_miss_X0_checkState : GoodIn wsX0_miss (va_wsS RX0 68 yX0_checkState wsX0_checkState) := goodIn_app (goodIn_of _ (by decide +kernel)) ggX0_miss_X0_checkState
theorem dX0_miss_0 : decode cX0_miss 0 = .ok (.aload_n 0, 1) := by decide +kernel
theorem dX0_miss_1 : decode cX0_miss 1 = .ok (.iload_n 1, 1) := by decide +kernel
theorem dX0_miss_2 : decode cX0_miss 2 = .ok (.invokevirtual 123, 3) := by decide +kernel
theorem dX0_miss_5 : decode cX0_miss 5 = .ok (.aload_n 0, 1) := by decide +kernel
theorem dX0_miss_6 : decode cX0_miss 6 = .ok (.iload_n 1, 1) := by decide +kernel
theorem dX0_miss_7 : decode cX0_miss 7 = .ok (.invokevirtual 126, 3) := by decide +kernel
theorem dX0_miss_10 : decode cX0_miss 10 = .ok (.invokestatic 68, 3) := by decide +kernel
theorem dX0_miss_13 : decode cX0_miss 13 = .ok (.aload_n 0, 1) := by decide +kernel
theorem dX0_miss_14 : decode cX0_miss 14 = .ok (.getfield 50, 3) := by decide +kernel
theorem dX0_miss_17 : decode cX0_miss 17 = .ok (.iload_n 1, 1) := by decide +kernel
theorem dX0_miss_18 : decode cX0_miss 18 = .ok (.iaload, 1) := by decide +kernel
theorem dX0_miss_19 : decode cX0_miss 19 = .ok (.iconst 1, 1) := by decide +kernel
theorem dX0_miss_20 : decode cX0_miss 20 = .ok (.if_icmp .ne 7, 3) := by decide +kernel
theorem dX0_miss_23 : decode cX0_miss 23 = .ok (.iconst 1, 1) := by decide +kernel
theorem dX0_miss_24 : decode cX0_miss 24 = .ok (.goto 4, 3) := by decide +kernel
theorem dX0_miss_27 : decode cX0_miss 27 = .ok (.iconst 0, 1) := by decide +kernel
theorem dX0_miss_28 : decode cX0_miss 28 = .ok (.istore_n 2, 1) := by decide +kernel
theorem dX0_miss_29 : decode cX0_miss 29 = .ok (.aload_n 0, 1) := by decide +kernel
theorem dX0_miss_30 : decode cX0_miss 30 = .ok (.getfield 50, 3) := by decide +kernel
theorem dX0_miss_33 : decode cX0_miss 33 = .ok (.iload_n 1, 1) := by decide +kernel
theorem dX0_miss_34 : decode cX0_miss 34 = .ok (.iconst 2, 1) := by decide +kernel
theorem dX0_miss_35 : decode cX0_miss 35 = .ok (.iastore, 1) := by decide +kernel
theorem dX0_miss_36 : decode cX0_miss 36 = .ok (.iload_n 2, 1) := by decide +kernel
theorem dX0_miss_37 : decode cX0_miss 37 = .ok (.ireturn, 1) := by decide +kernel
set_option maxRecDepth 20000 in
theorem ggX0_drop_X0_checkSpot : GoodIn wsX0_drop wsX0_checkSpot := goodIn_ca (goodIn_r _ [6, 7, 8, 9, 5, 10, 11, 12, 18, 19, 20, 21, 22, 23, 24, 25, 26, 27, 28, 29, 30, 31, 32, 33, 34, 35] (by decide +kernel) (by decide +kernel)) (goodIn_sub (fun _ h => List.mem_cons_of_mem _ (List.mem_append_left _ (List.mem_append_right _ h))) (by decide +kernel))
set_option maxRecDepth 20000 in
theorem gX0_drop_X0_checkSpot : GoodIn wsX0_drop (wsV RX0 123 RX0 yX0_checkSpot wsX0_checkSpot) := goodIn_app (goodIn_of _ (by decide +kernel)) ggX0_drop_X0_checkSpot
set_option maxRecDepth 20000 in
theorem ggX0_drop_X0_checkState : GoodIn wsX0_drop wsX0_checkState := goodIn_ca (goodIn_r _ [15, 16, 17] (by decide +kernel) (by decide +kernel)) (goodIn_sub (fun _ h => List.mem_cons_of_mem _ (List.mem_append_right _ h)) (by decide +kernel))
set_option maxRecDepth 20000 in
theorem gX0_drop_X0_checkState : GoodIn wsX0_drop (va_wsS RX0 68 yX0_checkState wsX0_checkState) := goodIn_app (goodIn_of _ (by decide +kernel)) ggX0_drop_X0_checkState
theorem dX0_drop_0 : decode cX0_drop 0 = .ok (.aload_n 0, 1) := by decide +kernel
theorem dX0_drop_1 : decode cX0_drop 1 = .ok (.iload_n 1, 1) := by decide +kernel
theorem dX0_drop_2 : decode cX0_drop 2 = .ok (.invokevirtual 123, 3) := by decide +kernel
theorem dX0_drop_5 : decode cX0_drop 5 = .ok (.aload_n 0, 1) := by decide +kernel
theorem dX0_drop_6 : decode cX0_drop 6 = .ok (.getfield 50, 3) := by decide +kernel
theorem dX0_drop_9 : decode cX0_drop 9 = .ok (.iload_n 1, 1) := by decide +kernel
theorem dX0_drop_10 : decode cX0_drop 10 = .ok (.iaload, 1) := by decide +kernel
theorem dX0_drop_11 : decode cX0_drop 11 = .ok (.ifCond .ne 7, 3) := by decide +kernel
theorem dX0_drop_14 : decode cX0_drop 14 = .ok (.iconst 1, 1) := by decide +kernel
theorem dX0_drop_15 : decode cX0_drop 15 = .ok (.goto 4, 3) := by decide +kernel
theorem dX0_drop_18 : decode cX0_drop 18 = .ok (.iconst 0, 1) := by decide +kernel
theorem dX0_drop_19 : decode cX0_drop 19 = .ok (.invokestatic 68, 3) := by decide +kernel
theorem dX0_drop_22 : decode cX0_drop 22 = .ok (.aload_n 0, 1) := by decide +kernel
theorem dX0_drop_23 : decode cX0_drop 23 = .ok (.getfield 50, 3) := by decide +kernel
theorem dX0_drop_26 : decode cX0_drop 26 = .ok (.iload_n 1, 1) := by decide +kernel
theorem dX0_drop_27 : decode cX0_drop 27 = .ok (.iconst 3, 1) := by decide +kernel
theorem dX0_drop_28 : decode cX0_drop 28 = .ok (.iastore, 1) := by decide +kernel
theorem dX0_drop_29 : decode cX0_drop 29 = .ok (.return_, 1) := by decide +kernel
theorem dX0_spots_0 : decode cX0_spots 0 = .ok (.aload_n 0, 1) := by decide +kernel
theorem dX0_spots_1 : decode cX0_spots 1 = .ok (.getfield 84, 3) := by decide +kernel
theorem dX0_spots_4 : decode cX0_spots 4 = .ok (.ireturn, 1) := by decide +kernel
set_option maxRecDepth 20000 in
theorem ggX0_stateOf_X0_checkSpot : GoodIn wsX0_stateOf wsX0_checkSpot := goodIn_ca (goodIn_r _ [6, 7, 8, 9, 5, 10, 11, 12, 13, 14, 15, 16, 17, 18, 19, 20, 21, 22, 23, 24, 25, 26, 27, 28, 29, 30] (by decide +kernel) (by decide +kernel)) (goodIn_sub (fun _ h => List.mem_cons_of_mem _ (List.mem_append_right _ h)) (by decide +kernel))
set_option maxRecDepth 20000 in
theorem gX0_stateOf_X0_checkSpot : GoodIn wsX0_stateOf (wsV RX0 123 RX0 yX0_checkSpot wsX0_checkSpot) := goodIn_app (goodIn_of _ (by decide +kernel)) ggX0_stateOf_X0_checkSpot
theorem dX0_stateOf_0 : decode cX0_stateOf 0 = .ok (.aload_n 0, 1) := by decide +kernel
theorem dX0_stateOf_1 : decode cX0_stateOf 1 = .ok (.iload_n 1, 1) := by decide +kernel
theorem dX0_stateOf_2 : decode cX0_stateOf 2 = .ok (.invokevirtual 123, 3) := by decide +kernel
theorem dX0_stateOf_5 : decode cX0_stateOf 5 = .ok (.aload_n 0, 1) := by decide +kernel
theorem dX0_stateOf_6 : decode cX0_stateOf 6 = .ok (.getfield 50, 3) := by decide +kernel
theorem dX0_stateOf_9 : decode cX0_stateOf 9 = .ok (.iload_n 1, 1) := by decide +kernel
theorem dX0_stateOf_10 : decode cX0_stateOf 10 = .ok (.iaload, 1) := by decide +kernel
theorem dX0_stateOf_11 : decode cX0_stateOf 11 = .ok (.ireturn, 1) := by decide +kernel
set_option maxRecDepth 20000 in
theorem ggX0_breakOf_X0_checkSpot : GoodIn wsX0_breakOf wsX0_checkSpot := goodIn_ca (goodIn_r _ [6, 7, 8, 9, 5, 10, 11, 12, 13, 14, 15, 16, 17, 18, 19, 20, 21, 22, 23, 24, 25, 26, 27, 28, 29, 30] (by decide +kernel) (by decide +kernel)) (goodIn_sub (fun _ h => List.mem_cons_of_mem _ (List.mem_append_right _ h)) (by decide +kernel))
set_option maxRecDepth 20000 in
theorem gX0_breakOf_X0_checkSpot : GoodIn wsX0_breakOf (wsV RX0 123 RX0 yX0_checkSpot wsX0_checkSpot) := goodIn_app (goodIn_of _ (by decide +kernel)) ggX0_breakOf_X0_checkSpot
theorem dX0_breakOf_0 : decode cX0_breakOf 0 = .ok (.aload_n 0, 1) := by decide +kernel
theorem dX0_breakOf_1 : decode cX0_breakOf 1 = .ok (.iload_n 1, 1) := by decide +kernel
theorem dX0_breakOf_2 : decode cX0_breakOf 2 = .ok (.invokevirtual 123, 3) := by decide +kernel
theorem dX0_breakOf_5 : decode cX0_breakOf 5 = .ok (.aload_n 0, 1) := by decide +kernel
theorem dX0_breakOf_6 : decode cX0_breakOf 6 = .ok (.getfield 47, 3) := by decide +kernel
theorem dX0_breakOf_9 : decode cX0_breakOf 9 = .ok (.iload_n 1, 1) := by decide +kernel
theorem dX0_breakOf_10 : decode cX0_breakOf 10 = .ok (.iaload, 1) := by decide +kernel
theorem dX0_breakOf_11 : decode cX0_breakOf 11 = .ok (.ireturn, 1) := by decide +kernel
set_option maxRecDepth 20000 in
theorem ggX0_delivered_X0_checkOrder : GoodIn wsX0_delivered wsX0_checkOrder := goodIn_ca (goodIn_r _ [5, 6, 7, 8, 4, 9, 10, 11, 29, 30, 31, 32, 33, 34, 35, 36, 37, 38, 39, 40, 41, 42, 43, 44, 45, 46] (by decide +kernel) (by decide +kernel)) (goodIn_sub (fun _ h => List.mem_cons_of_mem _ (List.mem_append_right _ h)) (by decide +kernel))
set_option maxRecDepth 20000 in
theorem gX0_delivered_X0_checkOrder : GoodIn wsX0_delivered (wsV RX0 101 RX0 yX0_checkOrder wsX0_checkOrder) := goodIn_app (goodIn_of _ (by decide +kernel)) ggX0_delivered_X0_checkOrder
set_option maxRecDepth 20000 in
theorem ggX0_delivered_X0_audience : GoodIn wsX0_delivered wsX0_audience := goodIn_r _ [15, 16, 17, 18, 19, 20, 21, 22, 4, 23, 24, 25, 26, 27, 28, 29, 30, 31, 32, 33, 34, 35, 36, 37, 38, 39, 40, 41, 42, 43, 44, 45, 46] (by decide +kernel) (by decide +kernel)
set_option maxRecDepth 20000 in
theorem gX0_delivered_X0_audience : GoodIn wsX0_delivered (wsV RX0 129 RX0 yX0_audience wsX0_audience) := goodIn_app (goodIn_of _ (by decide +kernel)) ggX0_delivered_X0_audience
theorem dX0_delivered_0 : decode cX0_delivered 0 = .ok (.aload_n 0, 1) := by decide +kernel
theorem dX0_delivered_1 : decode cX0_delivered 1 = .ok (.iload_n 1, 1) := by decide +kernel
theorem dX0_delivered_2 : decode cX0_delivered 2 = .ok (.invokevirtual 101, 3) := by decide +kernel
theorem dX0_delivered_5 : decode cX0_delivered 5 = .ok (.aload_n 0, 1) := by decide +kernel
theorem dX0_delivered_6 : decode cX0_delivered 6 = .ok (.iload_n 1, 1) := by decide +kernel
theorem dX0_delivered_7 : decode cX0_delivered 7 = .ok (.iconst 1, 1) := by decide +kernel
theorem dX0_delivered_8 : decode cX0_delivered 8 = .ok (.invokevirtual 129, 3) := by decide +kernel
theorem dX0_delivered_11 : decode cX0_delivered 11 = .ok (.ireturn, 1) := by decide +kernel
set_option maxRecDepth 20000 in
theorem ggX0_owed_X0_checkOrder : GoodIn wsX0_owed wsX0_checkOrder := goodIn_ca (goodIn_r _ [5, 6, 7, 8, 4, 9, 10, 11, 39, 40, 41, 42, 43, 44, 45, 46, 47, 48, 49, 50, 51, 52, 53, 54, 55, 56] (by decide +kernel) (by decide +kernel)) (goodIn_sub (fun _ h => List.mem_cons_of_mem _ (List.mem_append_right _ h)) (by decide +kernel))
set_option maxRecDepth 20000 in
theorem gX0_owed_X0_checkOrder : GoodIn wsX0_owed (wsV RX0 101 RX0 yX0_checkOrder wsX0_checkOrder) := goodIn_app (goodIn_of _ (by decide +kernel)) ggX0_owed_X0_checkOrder
set_option maxRecDepth 20000 in
theorem ggX0_owed_X0_owedTo : GoodIn wsX0_owed wsX0_owedTo := goodIn_r _ [15, 16, 17, 18, 19, 20, 21, 22, 23, 24, 4, 25, 26, 27, 28, 29, 30, 31, 32, 33, 34, 35, 36, 37, 38, 39, 40, 41, 42, 43, 44, 45, 46, 47, 48, 49, 50, 51, 52, 53, 54, 55, 56] (by decide +kernel) (by decide +kernel)
set_option maxRecDepth 20000 in
theorem gX0_owed_X0_owedTo : GoodIn wsX0_owed (wsV RX0 104 RX0 yX0_owedTo wsX0_owedTo) := goodIn_app (goodIn_of _ (by decide +kernel)) ggX0_owed_X0_owedTo
theorem dX0_owed_0 : decode cX0_owed 0 = .ok (.aload_n 0, 1) := by decide +kernel
theorem dX0_owed_1 : decode cX0_owed 1 = .ok (.iload_n 1, 1) := by decide +kernel
theorem dX0_owed_2 : decode cX0_owed 2 = .ok (.invokevirtual 101, 3) := by decide +kernel
theorem dX0_owed_5 : decode cX0_owed 5 = .ok (.aload_n 0, 1) := by decide +kernel
theorem dX0_owed_6 : decode cX0_owed 6 = .ok (.iload_n 1, 1) := by decide +kernel
theorem dX0_owed_7 : decode cX0_owed 7 = .ok (.invokevirtual 104, 3) := by decide +kernel
theorem dX0_owed_10 : decode cX0_owed 10 = .ok (.ireturn, 1) := by decide +kernel
set_option maxRecDepth 20000 in
theorem ggX0_rest_X0_checkOrder : GoodIn wsX0_rest wsX0_checkOrder := goodIn_ca (goodIn_r _ [5, 6, 7, 8, 4, 9, 10, 11, 44, 45, 46, 47, 48, 49, 50, 51, 52, 53, 54, 55, 56, 57, 58, 59, 60, 61] (by decide +kernel) (by decide +kernel)) (goodIn_sub (fun _ h => List.mem_cons_of_mem _ (List.mem_append_right _ h)) (by decide +kernel))
set_option maxRecDepth 20000 in
theorem gX0_rest_X0_checkOrder : GoodIn wsX0_rest (wsV RX0 101 RX0 yX0_checkOrder wsX0_checkOrder) := goodIn_app (goodIn_of _ (by decide +kernel)) ggX0_rest_X0_checkOrder
set_option maxRecDepth 20000 in
theorem ggX0_rest_X0_restOf : GoodIn wsX0_rest wsX0_restOf := goodIn_r _ [15, 16, 17, 18, 19, 20, 21, 22, 23, 24, 25, 26, 27, 4, 28, 29, 30, 31, 32, 33, 34, 35, 36, 37, 38, 39, 40, 41, 42, 43, 44, 45, 46, 47, 48, 49, 50, 51, 52, 53, 54, 55, 56, 57, 58, 59, 60, 61] (by decide +kernel) (by decide +kernel)
set_option maxRecDepth 20000 in
theorem gX0_rest_X0_restOf : GoodIn wsX0_rest (wsV RX0 114 RX0 yX0_restOf wsX0_restOf) := goodIn_app (goodIn_of _ (by decide +kernel)) ggX0_rest_X0_restOf
theorem dX0_rest_0 : decode cX0_rest 0 = .ok (.aload_n 0, 1) := by decide +kernel
theorem dX0_rest_1 : decode cX0_rest 1 = .ok (.iload_n 1, 1) := by decide +kernel
theorem dX0_rest_2 : decode cX0_rest 2 = .ok (.invokevirtual 101, 3) := by decide +kernel
theorem dX0_rest_5 : decode cX0_rest 5 = .ok (.aload_n 0, 1) := by decide +kernel
theorem dX0_rest_6 : decode cX0_rest 6 = .ok (.iload_n 1, 1) := by decide +kernel
theorem dX0_rest_7 : decode cX0_rest 7 = .ok (.invokevirtual 114, 3) := by decide +kernel
theorem dX0_rest_10 : decode cX0_rest 10 = .ok (.ireturn, 1) := by decide +kernel
set_option maxRecDepth 20000 in
theorem ggX0_bill_X0_checkOrder : GoodIn wsX0_bill wsX0_checkOrder := goodIn_ca (goodIn_r _ [5, 6, 7, 8, 4, 9, 10, 11, 21, 22, 23, 24, 25, 26, 27, 28, 29, 30, 31, 32, 33, 34, 35, 36, 37, 38] (by decide +kernel) (by decide +kernel)) (goodIn_sub (fun _ h => List.mem_cons_of_mem _ (List.mem_append_right _ h)) (by decide +kernel))
set_option maxRecDepth 20000 in
theorem gX0_bill_X0_checkOrder : GoodIn wsX0_bill (wsV RX0 101 RX0 yX0_checkOrder wsX0_checkOrder) := goodIn_app (goodIn_of _ (by decide +kernel)) ggX0_bill_X0_checkOrder
set_option maxRecDepth 20000 in
theorem ggX0_bill_X0_billOf : GoodIn wsX0_bill wsX0_billOf := goodIn_r _ [15, 16, 17, 18, 19, 20, 21, 22, 23, 24, 25, 26, 27, 28, 29, 30, 31, 32, 33, 34, 35, 36, 37, 38] (by decide +kernel) (by decide +kernel)
set_option maxRecDepth 20000 in
theorem gX0_bill_X0_billOf : GoodIn wsX0_bill (wsV RX0 132 RX0 yX0_billOf wsX0_billOf) := goodIn_app (goodIn_of _ (by decide +kernel)) ggX0_bill_X0_billOf
theorem dX0_bill_0 : decode cX0_bill 0 = .ok (.aload_n 0, 1) := by decide +kernel
theorem dX0_bill_1 : decode cX0_bill 1 = .ok (.iload_n 1, 1) := by decide +kernel
theorem dX0_bill_2 : decode cX0_bill 2 = .ok (.invokevirtual 101, 3) := by decide +kernel
theorem dX0_bill_5 : decode cX0_bill 5 = .ok (.aload_n 0, 1) := by decide +kernel
theorem dX0_bill_6 : decode cX0_bill 6 = .ok (.iload_n 1, 1) := by decide +kernel
theorem dX0_bill_7 : decode cX0_bill 7 = .ok (.invokevirtual 132, 3) := by decide +kernel
theorem dX0_bill_10 : decode cX0_bill 10 = .ok (.ireturn, 1) := by decide +kernel
set_option maxRecDepth 20000 in
theorem ggX0_billTo_X0_isAdvertiser : GoodIn wsX0_billTo wsX0_isAdvertiser := goodIn_r _ [6, 7, 8, 5, 9] (by decide +kernel) (by decide +kernel)
set_option maxRecDepth 20000 in
theorem gX0_billTo_X0_isAdvertiser : GoodIn wsX0_billTo (va_wsS RX0 91 yX0_isAdvertiser wsX0_isAdvertiser) := goodIn_app (goodIn_of _ (by decide +kernel)) ggX0_billTo_X0_isAdvertiser
set_option maxRecDepth 20000 in
theorem ggX0_billTo_X0_checkArgument : GoodIn wsX0_billTo wsX0_checkArgument := goodIn_ca (goodIn_r _ [12, 13, 14] (by decide +kernel) (by decide +kernel)) (goodIn_sub (fun _ h => List.mem_cons_of_mem _ (List.mem_append_right _ h)) (by decide +kernel))
set_option maxRecDepth 20000 in
theorem gX0_billTo_X0_checkArgument : GoodIn wsX0_billTo (va_wsS RX0 60 yX0_checkArgument wsX0_checkArgument) := goodIn_app (goodIn_of _ (by decide +kernel)) ggX0_billTo_X0_checkArgument
set_option maxRecDepth 20000 in
theorem ggX0_billTo_X0_billOf : GoodIn wsX0_billTo wsX0_billOf := goodIn_r _ [18, 19, 20, 21, 22, 23, 24, 25, 26, 27, 28, 29, 30, 31, 32, 33, 34, 35, 36, 37, 38, 39, 40, 41] (by decide +kernel) (by decide +kernel)
set_option maxRecDepth 20000 in
theorem gX0_billTo_X0_billOf : GoodIn wsX0_billTo (wsV RX0 132 RX0 yX0_billOf wsX0_billOf) := goodIn_app (goodIn_of _ (by decide +kernel)) ggX0_billTo_X0_billOf
theorem dX0_billTo_0 : decode cX0_billTo 0 = .ok (.iload_n 1, 1) := by decide +kernel
theorem dX0_billTo_1 : decode cX0_billTo 1 = .ok (.invokestatic 91, 3) := by decide +kernel
theorem dX0_billTo_4 : decode cX0_billTo 4 = .ok (.invokestatic 60, 3) := by decide +kernel
theorem dX0_billTo_7 : decode cX0_billTo 7 = .ok (.iconst 0, 1) := by decide +kernel
theorem dX0_billTo_8 : decode cX0_billTo 8 = .ok (.istore_n 2, 1) := by decide +kernel
theorem dX0_billTo_9 : decode cX0_billTo 9 = .ok (.iconst 0, 1) := by decide +kernel
theorem dX0_billTo_10 : decode cX0_billTo 10 = .ok (.istore_n 3, 1) := by decide +kernel
theorem dX0_billTo_11 : decode cX0_billTo 11 = .ok (.iload_n 3, 1) := by decide +kernel
theorem dX0_billTo_12 : decode cX0_billTo 12 = .ok (.aload_n 0, 1) := by decide +kernel
theorem dX0_billTo_13 : decode cX0_billTo 13 = .ok (.getfield 98, 3) := by decide +kernel
theorem dX0_billTo_16 : decode cX0_billTo 16 = .ok (.if_icmp .ge 27, 3) := by decide +kernel
theorem dX0_billTo_19 : decode cX0_billTo 19 = .ok (.aload_n 0, 1) := by decide +kernel
theorem dX0_billTo_20 : decode cX0_billTo 20 = .ok (.getfield 20, 3) := by decide +kernel
theorem dX0_billTo_23 : decode cX0_billTo 23 = .ok (.iload_n 3, 1) := by decide +kernel
theorem dX0_billTo_24 : decode cX0_billTo 24 = .ok (.iaload, 1) := by decide +kernel
theorem dX0_billTo_25 : decode cX0_billTo 25 = .ok (.iload_n 1, 1) := by decide +kernel
theorem dX0_billTo_26 : decode cX0_billTo 26 = .ok (.if_icmp .ne 11, 3) := by decide +kernel
theorem dX0_billTo_29 : decode cX0_billTo 29 = .ok (.iload_n 2, 1) := by decide +kernel
theorem dX0_billTo_30 : decode cX0_billTo 30 = .ok (.aload_n 0, 1) := by decide +kernel
theorem dX0_billTo_31 : decode cX0_billTo 31 = .ok (.iload_n 3, 1) := by decide +kernel
theorem dX0_billTo_32 : decode cX0_billTo 32 = .ok (.invokevirtual 132, 3) := by decide +kernel
theorem dX0_billTo_35 : decode cX0_billTo 35 = .ok (.iadd, 1) := by decide +kernel
theorem dX0_billTo_36 : decode cX0_billTo 36 = .ok (.istore_n 2, 1) := by decide +kernel
theorem dX0_billTo_37 : decode cX0_billTo 37 = .ok (.iinc 3 1, 3) := by decide +kernel
theorem dX0_billTo_40 : decode cX0_billTo 40 = .ok (.goto (-29), 3) := by decide +kernel
theorem dX0_billTo_43 : decode cX0_billTo 43 = .ok (.iload_n 2, 1) := by decide +kernel
theorem dX0_billTo_44 : decode cX0_billTo 44 = .ok (.ireturn, 1) := by decide +kernel
set_option maxRecDepth 20000 in
theorem ggX0_mostOwed_X0_restOf : GoodIn wsX0_mostOwed wsX0_restOf := goodIn_r _ [6, 7, 8, 9, 10, 11, 12, 13, 14, 15, 16, 17, 18, 5, 19, 20, 21, 22, 23, 24, 25, 26, 27, 28, 29, 30, 31, 32, 33, 34, 35, 36, 37, 38, 39, 40, 41, 42, 43, 44, 45, 46, 47, 48, 49, 50, 51, 52] (by decide +kernel) (by decide +kernel)
set_option maxRecDepth 20000 in
theorem gX0_mostOwed_X0_restOf : GoodIn wsX0_mostOwed (wsV RX0 114 RX0 yX0_restOf wsX0_restOf) := goodIn_app (goodIn_of _ (by decide +kernel)) ggX0_mostOwed_X0_restOf
theorem dX0_mostOwed_0 : decode cX0_mostOwed 0 = .ok (.iconst (-1), 1) := by decide +kernel
theorem dX0_mostOwed_1 : decode cX0_mostOwed 1 = .ok (.istore_n 1, 1) := by decide +kernel
theorem dX0_mostOwed_2 : decode cX0_mostOwed 2 = .ok (.iconst 0, 1) := by decide +kernel
theorem dX0_mostOwed_3 : decode cX0_mostOwed 3 = .ok (.istore_n 2, 1) := by decide +kernel
theorem dX0_mostOwed_4 : decode cX0_mostOwed 4 = .ok (.iconst 0, 1) := by decide +kernel
theorem dX0_mostOwed_5 : decode cX0_mostOwed 5 = .ok (.istore_n 3, 1) := by decide +kernel
theorem dX0_mostOwed_6 : decode cX0_mostOwed 6 = .ok (.iload_n 3, 1) := by decide +kernel
theorem dX0_mostOwed_7 : decode cX0_mostOwed 7 = .ok (.aload_n 0, 1) := by decide +kernel
theorem dX0_mostOwed_8 : decode cX0_mostOwed 8 = .ok (.getfield 98, 3) := by decide +kernel
theorem dX0_mostOwed_11 : decode cX0_mostOwed 11 = .ok (.if_icmp .ge 27, 3) := by decide +kernel
theorem dX0_mostOwed_14 : decode cX0_mostOwed 14 = .ok (.aload_n 0, 1) := by decide +kernel
theorem dX0_mostOwed_15 : decode cX0_mostOwed 15 = .ok (.iload_n 3, 1) := by decide +kernel
theorem dX0_mostOwed_16 : decode cX0_mostOwed 16 = .ok (.invokevirtual 114, 3) := by decide +kernel
theorem dX0_mostOwed_19 : decode cX0_mostOwed 19 = .ok (.istore 4, 2) := by decide +kernel
theorem dX0_mostOwed_21 : decode cX0_mostOwed 21 = .ok (.iload 4, 2) := by decide +kernel
theorem dX0_mostOwed_23 : decode cX0_mostOwed 23 = .ok (.iload_n 2, 1) := by decide +kernel
theorem dX0_mostOwed_24 : decode cX0_mostOwed 24 = .ok (.if_icmp .le 8, 3) := by decide +kernel
theorem dX0_mostOwed_27 : decode cX0_mostOwed 27 = .ok (.iload 4, 2) := by decide +kernel
theorem dX0_mostOwed_29 : decode cX0_mostOwed 29 = .ok (.istore_n 2, 1) := by decide +kernel
theorem dX0_mostOwed_30 : decode cX0_mostOwed 30 = .ok (.iload_n 3, 1) := by decide +kernel
theorem dX0_mostOwed_31 : decode cX0_mostOwed 31 = .ok (.istore_n 1, 1) := by decide +kernel
theorem dX0_mostOwed_32 : decode cX0_mostOwed 32 = .ok (.iinc 3 1, 3) := by decide +kernel
theorem dX0_mostOwed_35 : decode cX0_mostOwed 35 = .ok (.goto (-29), 3) := by decide +kernel
theorem dX0_mostOwed_38 : decode cX0_mostOwed 38 = .ok (.iload_n 1, 1) := by decide +kernel
theorem dX0_mostOwed_39 : decode cX0_mostOwed 39 = .ok (.ireturn, 1) := by decide +kernel
set_option maxRecDepth 20000 in
theorem ggX0_checkBreak_X0_checkIndex : GoodIn wsX0_checkBreak wsX0_checkIndex := goodIn_ca (goodIn_r _ [5, 6, 7] (by decide +kernel) (by decide +kernel)) (goodIn_sub (fun _ h => List.mem_cons_of_mem _ (List.mem_append_right _ h)) (by decide +kernel))
set_option maxRecDepth 20000 in
theorem gX0_checkBreak_X0_checkIndex : GoodIn wsX0_checkBreak (va_wsS RX0 135 yX0_checkIndex wsX0_checkIndex) := goodIn_app (goodIn_of _ (by decide +kernel)) ggX0_checkBreak_X0_checkIndex
theorem dX0_checkBreak_0 : decode cX0_checkBreak 0 = .ok (.iload_n 1, 1) := by decide +kernel
theorem dX0_checkBreak_1 : decode cX0_checkBreak 1 = .ok (.aload_n 0, 1) := by decide +kernel
theorem dX0_checkBreak_2 : decode cX0_checkBreak 2 = .ok (.getfield 64, 3) := by decide +kernel
theorem dX0_checkBreak_5 : decode cX0_checkBreak 5 = .ok (.invokestatic 135, 3) := by decide +kernel
theorem dX0_checkBreak_8 : decode cX0_checkBreak 8 = .ok (.return_, 1) := by decide +kernel
set_option maxRecDepth 20000 in
theorem ggX0_checkOrder_X0_checkIndex : GoodIn wsX0_checkOrder wsX0_checkIndex := goodIn_ca (goodIn_r _ [5, 6, 7] (by decide +kernel) (by decide +kernel)) (goodIn_sub (fun _ h => List.mem_cons_of_mem _ (List.mem_append_right _ h)) (by decide +kernel))
set_option maxRecDepth 20000 in
theorem gX0_checkOrder_X0_checkIndex : GoodIn wsX0_checkOrder (va_wsS RX0 135 yX0_checkIndex wsX0_checkIndex) := goodIn_app (goodIn_of _ (by decide +kernel)) ggX0_checkOrder_X0_checkIndex
theorem dX0_checkOrder_0 : decode cX0_checkOrder 0 = .ok (.iload_n 1, 1) := by decide +kernel
theorem dX0_checkOrder_1 : decode cX0_checkOrder 1 = .ok (.aload_n 0, 1) := by decide +kernel
theorem dX0_checkOrder_2 : decode cX0_checkOrder 2 = .ok (.getfield 98, 3) := by decide +kernel
theorem dX0_checkOrder_5 : decode cX0_checkOrder 5 = .ok (.invokestatic 135, 3) := by decide +kernel
theorem dX0_checkOrder_8 : decode cX0_checkOrder 8 = .ok (.return_, 1) := by decide +kernel
set_option maxRecDepth 20000 in
theorem ggX0_checkSpot_X0_checkIndex : GoodIn wsX0_checkSpot wsX0_checkIndex := goodIn_ca (goodIn_r _ [5, 6, 7] (by decide +kernel) (by decide +kernel)) (goodIn_sub (fun _ h => List.mem_cons_of_mem _ (List.mem_append_right _ h)) (by decide +kernel))
set_option maxRecDepth 20000 in
theorem gX0_checkSpot_X0_checkIndex : GoodIn wsX0_checkSpot (va_wsS RX0 135 yX0_checkIndex wsX0_checkIndex) := goodIn_app (goodIn_of _ (by decide +kernel)) ggX0_checkSpot_X0_checkIndex
theorem dX0_checkSpot_0 : decode cX0_checkSpot 0 = .ok (.iload_n 1, 1) := by decide +kernel
theorem dX0_checkSpot_1 : decode cX0_checkSpot 1 = .ok (.aload_n 0, 1) := by decide +kernel
theorem dX0_checkSpot_2 : decode cX0_checkSpot 2 = .ok (.getfield 84, 3) := by decide +kernel
theorem dX0_checkSpot_5 : decode cX0_checkSpot 5 = .ok (.invokestatic 135, 3) := by decide +kernel
theorem dX0_checkSpot_8 : decode cX0_checkSpot 8 = .ok (.return_, 1) := by decide +kernel
theorem dX0_checkIndex_0 : decode cX0_checkIndex 0 = .ok (.iload_n 0, 1) := by decide +kernel
theorem dX0_checkIndex_1 : decode cX0_checkIndex 1 = .ok (.ifCond .lt 8, 3) := by decide +kernel
theorem dX0_checkIndex_4 : decode cX0_checkIndex 4 = .ok (.iload_n 0, 1) := by decide +kernel
theorem dX0_checkIndex_5 : decode cX0_checkIndex 5 = .ok (.iload_n 1, 1) := by decide +kernel
theorem dX0_checkIndex_6 : decode cX0_checkIndex 6 = .ok (.if_icmp .lt 13, 3) := by decide +kernel
theorem dX0_checkIndex_9 : decode cX0_checkIndex 9 = .ok (.new 139, 3) := by decide +kernel
theorem dX0_checkIndex_12 : decode cX0_checkIndex 12 = .ok (.dup, 1) := by decide +kernel
theorem dX0_checkIndex_13 : decode cX0_checkIndex 13 = .ok (.ldc 141, 2) := by decide +kernel
theorem dX0_checkIndex_15 : decode cX0_checkIndex 15 = .ok (.invokespecial 143, 3) := by decide +kernel
theorem dX0_checkIndex_18 : decode cX0_checkIndex 18 = .ok (.athrow, 1) := by decide +kernel
theorem dX0_checkIndex_19 : decode cX0_checkIndex 19 = .ok (.return_, 1) := by decide +kernel
theorem dX0_checkArgument_0 : decode cX0_checkArgument 0 = .ok (.iload_n 0, 1) := by decide +kernel
theorem dX0_checkArgument_1 : decode cX0_checkArgument 1 = .ok (.ifCond .ne 13, 3) := by decide +kernel
theorem dX0_checkArgument_4 : decode cX0_checkArgument 4 = .ok (.new 146, 3) := by decide +kernel
theorem dX0_checkArgument_7 : decode cX0_checkArgument 7 = .ok (.dup, 1) := by decide +kernel
theorem dX0_checkArgument_8 : decode cX0_checkArgument 8 = .ok (.ldc 148, 2) := by decide +kernel
theorem dX0_checkArgument_10 : decode cX0_checkArgument 10 = .ok (.invokespecial 150, 3) := by decide +kernel
theorem dX0_checkArgument_13 : decode cX0_checkArgument 13 = .ok (.athrow, 1) := by decide +kernel
theorem dX0_checkArgument_14 : decode cX0_checkArgument 14 = .ok (.return_, 1) := by decide +kernel
theorem dX0_checkState_0 : decode cX0_checkState 0 = .ok (.iload_n 0, 1) := by decide +kernel
theorem dX0_checkState_1 : decode cX0_checkState 1 = .ok (.ifCond .ne 13, 3) := by decide +kernel
theorem dX0_checkState_4 : decode cX0_checkState 4 = .ok (.new 151, 3) := by decide +kernel
theorem dX0_checkState_7 : decode cX0_checkState 7 = .ok (.dup, 1) := by decide +kernel
theorem dX0_checkState_8 : decode cX0_checkState 8 = .ok (.ldc 153, 2) := by decide +kernel
theorem dX0_checkState_10 : decode cX0_checkState 10 = .ok (.invokespecial 155, 3) := by decide +kernel
theorem dX0_checkState_13 : decode cX0_checkState 13 = .ok (.athrow, 1) := by decide +kernel
theorem dX0_checkState_14 : decode cX0_checkState 14 = .ok (.return_, 1) := by decide +kernel
theorem dX0_isWithin_0 : decode cX0_isWithin 0 = .ok (.iload_n 0, 1) := by decide +kernel
theorem dX0_isWithin_1 : decode cX0_isWithin 1 = .ok (.iload_n 1, 1) := by decide +kernel
theorem dX0_isWithin_2 : decode cX0_isWithin 2 = .ok (.if_icmp .lt 12, 3) := by decide +kernel
theorem dX0_isWithin_5 : decode cX0_isWithin 5 = .ok (.iload_n 0, 1) := by decide +kernel
theorem dX0_isWithin_6 : decode cX0_isWithin 6 = .ok (.iload_n 2, 1) := by decide +kernel
theorem dX0_isWithin_7 : decode cX0_isWithin 7 = .ok (.if_icmp .gt 7, 3) := by decide +kernel
theorem dX0_isWithin_10 : decode cX0_isWithin 10 = .ok (.iconst 1, 1) := by decide +kernel
theorem dX0_isWithin_11 : decode cX0_isWithin 11 = .ok (.goto 4, 3) := by decide +kernel
theorem dX0_isWithin_14 : decode cX0_isWithin 14 = .ok (.iconst 0, 1) := by decide +kernel
theorem dX0_isWithin_15 : decode cX0_isWithin 15 = .ok (.ireturn, 1) := by decide +kernel
set_option maxRecDepth 20000 in
theorem ggX0_isGroup_X0_isWithin : GoodIn wsX0_isGroup wsX0_isWithin := goodIn_r _ [4] (by decide +kernel) (by decide +kernel)
set_option maxRecDepth 20000 in
theorem gX0_isGroup_X0_isWithin : GoodIn wsX0_isGroup (va_wsS RX0 56 yX0_isWithin wsX0_isWithin) := goodIn_app (goodIn_of _ (by decide +kernel)) ggX0_isGroup_X0_isWithin
theorem dX0_isGroup_0 : decode cX0_isGroup 0 = .ok (.iload_n 0, 1) := by decide +kernel
theorem dX0_isGroup_1 : decode cX0_isGroup 1 = .ok (.iconst 0, 1) := by decide +kernel
theorem dX0_isGroup_2 : decode cX0_isGroup 2 = .ok (.iconst 2, 1) := by decide +kernel
theorem dX0_isGroup_3 : decode cX0_isGroup 3 = .ok (.invokestatic 56, 3) := by decide +kernel
theorem dX0_isGroup_6 : decode cX0_isGroup 6 = .ok (.ireturn, 1) := by decide +kernel
set_option maxRecDepth 20000 in
theorem ggX0_isAdvertiser_X0_isWithin : GoodIn wsX0_isAdvertiser wsX0_isWithin := goodIn_r _ [4] (by decide +kernel) (by decide +kernel)
set_option maxRecDepth 20000 in
theorem gX0_isAdvertiser_X0_isWithin : GoodIn wsX0_isAdvertiser (va_wsS RX0 56 yX0_isWithin wsX0_isWithin) := goodIn_app (goodIn_of _ (by decide +kernel)) ggX0_isAdvertiser_X0_isWithin
theorem dX0_isAdvertiser_0 : decode cX0_isAdvertiser 0 = .ok (.iload_n 0, 1) := by decide +kernel
theorem dX0_isAdvertiser_1 : decode cX0_isAdvertiser 1 = .ok (.iconst 0, 1) := by decide +kernel
theorem dX0_isAdvertiser_2 : decode cX0_isAdvertiser 2 = .ok (.bipush 9, 2) := by decide +kernel
theorem dX0_isAdvertiser_4 : decode cX0_isAdvertiser 4 = .ok (.invokestatic 56, 3) := by decide +kernel
theorem dX0_isAdvertiser_7 : decode cX0_isAdvertiser 7 = .ok (.ireturn, 1) := by decide +kernel
theorem dX0_isSpotLength_0 : decode cX0_isSpotLength 0 = .ok (.iload_n 0, 1) := by decide +kernel
theorem dX0_isSpotLength_1 : decode cX0_isSpotLength 1 = .ok (.bipush 15, 2) := by decide +kernel
theorem dX0_isSpotLength_3 : decode cX0_isSpotLength 3 = .ok (.if_icmp .eq 15, 3) := by decide +kernel
theorem dX0_isSpotLength_6 : decode cX0_isSpotLength 6 = .ok (.iload_n 0, 1) := by decide +kernel
theorem dX0_isSpotLength_7 : decode cX0_isSpotLength 7 = .ok (.bipush 30, 2) := by decide +kernel
theorem dX0_isSpotLength_9 : decode cX0_isSpotLength 9 = .ok (.if_icmp .eq 9, 3) := by decide +kernel
theorem dX0_isSpotLength_12 : decode cX0_isSpotLength 12 = .ok (.iload_n 0, 1) := by decide +kernel
theorem dX0_isSpotLength_13 : decode cX0_isSpotLength 13 = .ok (.bipush 60, 2) := by decide +kernel
theorem dX0_isSpotLength_15 : decode cX0_isSpotLength 15 = .ok (.if_icmp .ne 7, 3) := by decide +kernel
theorem dX0_isSpotLength_18 : decode cX0_isSpotLength 18 = .ok (.iconst 1, 1) := by decide +kernel
theorem dX0_isSpotLength_19 : decode cX0_isSpotLength 19 = .ok (.goto 4, 3) := by decide +kernel
theorem dX0_isSpotLength_22 : decode cX0_isSpotLength 22 = .ok (.iconst 0, 1) := by decide +kernel
theorem dX0_isSpotLength_23 : decode cX0_isSpotLength 23 = .ok (.ireturn, 1) := by decide +kernel
set_option maxRecDepth 20000 in
theorem ggX0_obstacle_X0_secondsLeft : GoodIn wsX0_obstacle wsX0_secondsLeft := goodIn_r _ [9, 10, 11, 12, 2, 13, 14, 15, 16, 8, 17, 18, 41, 42, 43, 44, 45, 46, 47, 48, 49, 50, 51, 52, 53, 54, 55, 56, 57, 58] (by decide +kernel) (by decide +kernel)
set_option maxRecDepth 20000 in
theorem gX0_obstacle_X0_secondsLeft : GoodIn wsX0_obstacle (wsV RX0 87 RX0 yX0_secondsLeft wsX0_secondsLeft) := goodIn_app (goodIn_of _ (by decide +kernel)) ggX0_obstacle_X0_secondsLeft
set_option maxRecDepth 20000 in
theorem ggX0_obstacle_X0_ratingFor : GoodIn wsX0_obstacle wsX0_ratingFor := goodIn_r _ [22, 23, 24, 25, 26, 8, 27, 41, 42, 43, 44, 45, 46, 47, 48, 49, 50, 51, 52, 53, 54, 55, 56, 57, 58] (by decide +kernel) (by decide +kernel)
set_option maxRecDepth 20000 in
theorem gX0_obstacle_X0_ratingFor : GoodIn wsX0_obstacle (wsV RX0 156 RX0 yX0_ratingFor wsX0_ratingFor) := goodIn_app (goodIn_of _ (by decide +kernel)) ggX0_obstacle_X0_ratingFor
set_option maxRecDepth 20000 in
theorem ggX0_obstacle_X0_holdsAdvertiser : GoodIn wsX0_obstacle wsX0_holdsAdvertiser := goodIn_r _ [31, 11, 12, 4, 13, 14, 15, 16, 8, 17, 18, 41, 42, 43, 44, 45, 46, 47, 48, 49, 50, 51, 52, 53, 54, 55, 56, 57, 58] (by decide +kernel) (by decide +kernel)
set_option maxRecDepth 20000 in
theorem gX0_obstacle_X0_holdsAdvertiser : GoodIn wsX0_obstacle (wsV RX0 159 RX0 yX0_holdsAdvertiser wsX0_holdsAdvertiser) := goodIn_app (goodIn_of _ (by decide +kernel)) ggX0_obstacle_X0_holdsAdvertiser
set_option maxRecDepth 20000 in
theorem ggX0_obstacle_X0_holdsRival : GoodIn wsX0_obstacle wsX0_holdsRival := goodIn_r _ [35, 11, 12, 13, 14, 15, 16, 8, 17, 18, 36, 37, 38, 39, 40, 4, 41, 42, 43, 44, 45, 46, 47, 48, 49, 50, 51, 52, 53, 54, 55, 56, 57, 58] (by decide +kernel) (by decide +kernel)
set_option maxRecDepth 20000 in
theorem gX0_obstacle_X0_holdsRival : GoodIn wsX0_obstacle (wsV RX0 163 RX0 yX0_holdsRival wsX0_holdsRival) := goodIn_app (goodIn_of _ (by decide +kernel)) ggX0_obstacle_X0_holdsRival
theorem dX0_obstacle_0 : decode cX0_obstacle 0 = .ok (.aload_n 0, 1) := by decide +kernel
theorem dX0_obstacle_1 : decode cX0_obstacle 1 = .ok (.getfield 13, 3) := by decide +kernel
theorem dX0_obstacle_4 : decode cX0_obstacle 4 = .ok (.iload_n 2, 1) := by decide +kernel
theorem dX0_obstacle_5 : decode cX0_obstacle 5 = .ok (.baload, 1) := by decide +kernel
theorem dX0_obstacle_6 : decode cX0_obstacle 6 = .ok (.ifCond .eq 5, 3) := by decide +kernel
theorem dX0_obstacle_9 : decode cX0_obstacle 9 = .ok (.iconst 1, 1) := by decide +kernel
theorem dX0_obstacle_10 : decode cX0_obstacle 10 = .ok (.ireturn, 1) := by decide +kernel
theorem dX0_obstacle_11 : decode cX0_obstacle 11 = .ok (.aload_n 0, 1) := by decide +kernel
theorem dX0_obstacle_12 : decode cX0_obstacle 12 = .ok (.iload_n 2, 1) := by decide +kernel
theorem dX0_obstacle_13 : decode cX0_obstacle 13 = .ok (.invokevirtual 87, 3) := by decide +kernel
theorem dX0_obstacle_16 : decode cX0_obstacle 16 = .ok (.aload_n 0, 1) := by decide +kernel
theorem dX0_obstacle_17 : decode cX0_obstacle 17 = .ok (.getfield 29, 3) := by decide +kernel
theorem dX0_obstacle_20 : decode cX0_obstacle 20 = .ok (.iload_n 1, 1) := by decide +kernel
theorem dX0_obstacle_21 : decode cX0_obstacle 21 = .ok (.iaload, 1) := by decide +kernel
theorem dX0_obstacle_22 : decode cX0_obstacle 22 = .ok (.if_icmp .ge 5, 3) := by decide +kernel
theorem dX0_obstacle_25 : decode cX0_obstacle 25 = .ok (.iconst 2, 1) := by decide +kernel
theorem dX0_obstacle_26 : decode cX0_obstacle 26 = .ok (.ireturn, 1) := by decide +kernel
theorem dX0_obstacle_27 : decode cX0_obstacle 27 = .ok (.aload_n 0, 1) := by decide +kernel
theorem dX0_obstacle_28 : decode cX0_obstacle 28 = .ok (.iload_n 1, 1) := by decide +kernel
theorem dX0_obstacle_29 : decode cX0_obstacle 29 = .ok (.iload_n 2, 1) := by decide +kernel
theorem dX0_obstacle_30 : decode cX0_obstacle 30 = .ok (.invokevirtual 156, 3) := by decide +kernel
theorem dX0_obstacle_33 : decode cX0_obstacle 33 = .ok (.aload_n 0, 1) := by decide +kernel
theorem dX0_obstacle_34 : decode cX0_obstacle 34 = .ok (.getfield 38, 3) := by decide +kernel
theorem dX0_obstacle_37 : decode cX0_obstacle 37 = .ok (.iload_n 1, 1) := by decide +kernel
theorem dX0_obstacle_38 : decode cX0_obstacle 38 = .ok (.iaload, 1) := by decide +kernel
theorem dX0_obstacle_39 : decode cX0_obstacle 39 = .ok (.if_icmp .ge 5, 3) := by decide +kernel
theorem dX0_obstacle_42 : decode cX0_obstacle 42 = .ok (.iconst 3, 1) := by decide +kernel
theorem dX0_obstacle_43 : decode cX0_obstacle 43 = .ok (.ireturn, 1) := by decide +kernel
theorem dX0_obstacle_44 : decode cX0_obstacle 44 = .ok (.aload_n 0, 1) := by decide +kernel
theorem dX0_obstacle_45 : decode cX0_obstacle 45 = .ok (.iload_n 2, 1) := by decide +kernel
theorem dX0_obstacle_46 : decode cX0_obstacle 46 = .ok (.aload_n 0, 1) := by decide +kernel
theorem dX0_obstacle_47 : decode cX0_obstacle 47 = .ok (.getfield 20, 3) := by decide +kernel
theorem dX0_obstacle_50 : decode cX0_obstacle 50 = .ok (.iload_n 1, 1) := by decide +kernel
theorem dX0_obstacle_51 : decode cX0_obstacle 51 = .ok (.iaload, 1) := by decide +kernel
theorem dX0_obstacle_52 : decode cX0_obstacle 52 = .ok (.invokevirtual 159, 3) := by decide +kernel
theorem dX0_obstacle_55 : decode cX0_obstacle 55 = .ok (.ifCond .eq 5, 3) := by decide +kernel
theorem dX0_obstacle_58 : decode cX0_obstacle 58 = .ok (.iconst 4, 1) := by decide +kernel
theorem dX0_obstacle_59 : decode cX0_obstacle 59 = .ok (.ireturn, 1) := by decide +kernel
theorem dX0_obstacle_60 : decode cX0_obstacle 60 = .ok (.aload_n 0, 1) := by decide +kernel
theorem dX0_obstacle_61 : decode cX0_obstacle 61 = .ok (.iload_n 2, 1) := by decide +kernel
theorem dX0_obstacle_62 : decode cX0_obstacle 62 = .ok (.iload_n 1, 1) := by decide +kernel
theorem dX0_obstacle_63 : decode cX0_obstacle 63 = .ok (.invokevirtual 163, 3) := by decide +kernel
theorem dX0_obstacle_66 : decode cX0_obstacle 66 = .ok (.ifCond .eq 5, 3) := by decide +kernel
theorem dX0_obstacle_69 : decode cX0_obstacle 69 = .ok (.iconst 5, 1) := by decide +kernel
theorem dX0_obstacle_70 : decode cX0_obstacle 70 = .ok (.ireturn, 1) := by decide +kernel
theorem dX0_obstacle_71 : decode cX0_obstacle 71 = .ok (.aload_n 0, 1) := by decide +kernel
theorem dX0_obstacle_72 : decode cX0_obstacle 72 = .ok (.iload_n 2, 1) := by decide +kernel
theorem dX0_obstacle_73 : decode cX0_obstacle 73 = .ok (.iconst 1, 1) := by decide +kernel
theorem dX0_obstacle_74 : decode cX0_obstacle 74 = .ok (.isub, 1) := by decide +kernel
theorem dX0_obstacle_75 : decode cX0_obstacle 75 = .ok (.iload_n 1, 1) := by decide +kernel
theorem dX0_obstacle_76 : decode cX0_obstacle 76 = .ok (.invokevirtual 163, 3) := by decide +kernel
theorem dX0_obstacle_79 : decode cX0_obstacle 79 = .ok (.ifCond .ne 14, 3) := by decide +kernel
theorem dX0_obstacle_82 : decode cX0_obstacle 82 = .ok (.aload_n 0, 1) := by decide +kernel
theorem dX0_obstacle_83 : decode cX0_obstacle 83 = .ok (.iload_n 2, 1) := by decide +kernel
theorem dX0_obstacle_84 : decode cX0_obstacle 84 = .ok (.iconst 1, 1) := by decide +kernel
theorem dX0_obstacle_85 : decode cX0_obstacle 85 = .ok (.iadd, 1) := by decide +kernel
theorem dX0_obstacle_86 : decode cX0_obstacle 86 = .ok (.iload_n 1, 1) := by decide +kernel
theorem dX0_obstacle_87 : decode cX0_obstacle 87 = .ok (.invokevirtual 163, 3) := by decide +kernel
theorem dX0_obstacle_90 : decode cX0_obstacle 90 = .ok (.ifCond .eq 6, 3) := by decide +kernel
theorem dX0_obstacle_93 : decode cX0_obstacle 93 = .ok (.bipush 6, 2) := by decide +kernel
theorem dX0_obstacle_95 : decode cX0_obstacle 95 = .ok (.ireturn, 1) := by decide +kernel
theorem dX0_obstacle_96 : decode cX0_obstacle 96 = .ok (.iconst 0, 1) := by decide +kernel
theorem dX0_obstacle_97 : decode cX0_obstacle 97 = .ok (.ireturn, 1) := by decide +kernel
set_option maxRecDepth 20000 in
theorem ggX0_bestBreak_X0_ratingFor : GoodIn wsX0_bestBreak wsX0_ratingFor := goodIn_r _ [6, 7, 8, 9, 10, 5, 11, 46, 47, 48, 49, 50, 51, 52, 53, 54, 55, 56, 57, 58, 59, 60, 61, 62, 63] (by decide +kernel) (by decide +kernel)
set_option maxRecDepth 20000 in
theorem gX0_bestBreak_X0_ratingFor : GoodIn wsX0_bestBreak (wsV RX0 156 RX0 yX0_ratingFor wsX0_ratingFor) := goodIn_app (goodIn_of _ (by decide +kernel)) ggX0_bestBreak_X0_ratingFor
set_option maxRecDepth 20000 in
theorem ggX0_bestBreak_X0_obstacle : GoodIn wsX0_bestBreak wsX0_obstacle := goodIn_r _ [15, 16, 17, 18, 19, 20, 21, 22, 5, 23, 24, 25, 26, 27, 28, 29, 30, 31, 32, 2, 3, 4, 6, 7, 8, 9, 10, 11, 33, 34, 35, 36, 37, 38, 39, 40, 41, 42, 43, 44, 45, 46, 47, 48, 49, 50, 51, 52, 53, 54, 55, 56, 57, 58, 59, 60, 61, 62, 63] (by decide +kernel) (by decide +kernel)
set_option maxRecDepth 20000 in
theorem gX0_bestBreak_X0_obstacle : GoodIn wsX0_bestBreak (wsV RX0 107 RX0 yX0_obstacle wsX0_obstacle) := goodIn_app (goodIn_of _ (by decide +kernel)) ggX0_bestBreak_X0_obstacle
theorem dX0_bestBreak_0 : decode cX0_bestBreak 0 = .ok (.iconst (-1), 1) := by decide +kernel
theorem dX0_bestBreak_1 : decode cX0_bestBreak 1 = .ok (.istore_n 2, 1) := by decide +kernel
theorem dX0_bestBreak_2 : decode cX0_bestBreak 2 = .ok (.iconst 0, 1) := by decide +kernel
theorem dX0_bestBreak_3 : decode cX0_bestBreak 3 = .ok (.istore_n 3, 1) := by decide +kernel
theorem dX0_bestBreak_4 : decode cX0_bestBreak 4 = .ok (.iconst 0, 1) := by decide +kernel
theorem dX0_bestBreak_5 : decode cX0_bestBreak 5 = .ok (.istore 4, 2) := by decide +kernel
theorem dX0_bestBreak_7 : decode cX0_bestBreak 7 = .ok (.iload 4, 2) := by decide +kernel
theorem dX0_bestBreak_9 : decode cX0_bestBreak 9 = .ok (.aload_n 0, 1) := by decide +kernel
theorem dX0_bestBreak_10 : decode cX0_bestBreak 10 = .ok (.getfield 64, 3) := by decide +kernel
theorem dX0_bestBreak_13 : decode cX0_bestBreak 13 = .ok (.if_icmp .ge 45, 3) := by decide +kernel
theorem dX0_bestBreak_16 : decode cX0_bestBreak 16 = .ok (.aload_n 0, 1) := by decide +kernel
theorem dX0_bestBreak_17 : decode cX0_bestBreak 17 = .ok (.iload_n 1, 1) := by decide +kernel
theorem dX0_bestBreak_18 : decode cX0_bestBreak 18 = .ok (.iload 4, 2) := by decide +kernel
theorem dX0_bestBreak_20 : decode cX0_bestBreak 20 = .ok (.invokevirtual 156, 3) := by decide +kernel
theorem dX0_bestBreak_23 : decode cX0_bestBreak 23 = .ok (.istore 5, 2) := by decide +kernel
theorem dX0_bestBreak_25 : decode cX0_bestBreak 25 = .ok (.iload_n 2, 1) := by decide +kernel
theorem dX0_bestBreak_26 : decode cX0_bestBreak 26 = .ok (.iconst (-1), 1) := by decide +kernel
theorem dX0_bestBreak_27 : decode cX0_bestBreak 27 = .ok (.if_icmp .eq 9, 3) := by decide +kernel
theorem dX0_bestBreak_30 : decode cX0_bestBreak 30 = .ok (.iload 5, 2) := by decide +kernel
theorem dX0_bestBreak_32 : decode cX0_bestBreak 32 = .ok (.iload_n 3, 1) := by decide +kernel
theorem dX0_bestBreak_33 : decode cX0_bestBreak 33 = .ok (.if_icmp .le 19, 3) := by decide +kernel
theorem dX0_bestBreak_36 : decode cX0_bestBreak 36 = .ok (.aload_n 0, 1) := by decide +kernel
theorem dX0_bestBreak_37 : decode cX0_bestBreak 37 = .ok (.iload_n 1, 1) := by decide +kernel
theorem dX0_bestBreak_38 : decode cX0_bestBreak 38 = .ok (.iload 4, 2) := by decide +kernel
theorem dX0_bestBreak_40 : decode cX0_bestBreak 40 = .ok (.invokevirtual 107, 3) := by decide +kernel
theorem dX0_bestBreak_43 : decode cX0_bestBreak 43 = .ok (.ifCond .ne 9, 3) := by decide +kernel
theorem dX0_bestBreak_46 : decode cX0_bestBreak 46 = .ok (.iload 5, 2) := by decide +kernel
theorem dX0_bestBreak_48 : decode cX0_bestBreak 48 = .ok (.istore_n 3, 1) := by decide +kernel
theorem dX0_bestBreak_49 : decode cX0_bestBreak 49 = .ok (.iload 4, 2) := by decide +kernel
theorem dX0_bestBreak_51 : decode cX0_bestBreak 51 = .ok (.istore_n 2, 1) := by decide +kernel
theorem dX0_bestBreak_52 : decode cX0_bestBreak 52 = .ok (.iinc 4 1, 3) := by decide +kernel
theorem dX0_bestBreak_55 : decode cX0_bestBreak 55 = .ok (.goto (-48), 3) := by decide +kernel
theorem dX0_bestBreak_58 : decode cX0_bestBreak 58 = .ok (.iload_n 2, 1) := by decide +kernel
theorem dX0_bestBreak_59 : decode cX0_bestBreak 59 = .ok (.ireturn, 1) := by decide +kernel
theorem dX0_addSpot_0 : decode cX0_addSpot 0 = .ok (.aload_n 0, 1) := by decide +kernel
theorem dX0_addSpot_1 : decode cX0_addSpot 1 = .ok (.getfield 84, 3) := by decide +kernel
theorem dX0_addSpot_4 : decode cX0_addSpot 4 = .ok (.istore 4, 2) := by decide +kernel
theorem dX0_addSpot_6 : decode cX0_addSpot 6 = .ok (.aload_n 0, 1) := by decide +kernel
theorem dX0_addSpot_7 : decode cX0_addSpot 7 = .ok (.getfield 44, 3) := by decide +kernel
theorem dX0_addSpot_10 : decode cX0_addSpot 10 = .ok (.iload 4, 2) := by decide +kernel
theorem dX0_addSpot_12 : decode cX0_addSpot 12 = .ok (.iload_n 1, 1) := by decide +kernel
theorem dX0_addSpot_13 : decode cX0_addSpot 13 = .ok (.iastore, 1) := by decide +kernel
theorem dX0_addSpot_14 : decode cX0_addSpot 14 = .ok (.aload_n 0, 1) := by decide +kernel
theorem dX0_addSpot_15 : decode cX0_addSpot 15 = .ok (.getfield 47, 3) := by decide +kernel
theorem dX0_addSpot_18 : decode cX0_addSpot 18 = .ok (.iload 4, 2) := by decide +kernel
theorem dX0_addSpot_20 : decode cX0_addSpot 20 = .ok (.iload_n 2, 1) := by decide +kernel
theorem dX0_addSpot_21 : decode cX0_addSpot 21 = .ok (.iastore, 1) := by decide +kernel
theorem dX0_addSpot_22 : decode cX0_addSpot 22 = .ok (.aload_n 0, 1) := by decide +kernel
theorem dX0_addSpot_23 : decode cX0_addSpot 23 = .ok (.getfield 50, 3) := by decide +kernel
theorem dX0_addSpot_26 : decode cX0_addSpot 26 = .ok (.iload 4, 2) := by decide +kernel
theorem dX0_addSpot_28 : decode cX0_addSpot 28 = .ok (.iconst 0, 1) := by decide +kernel
theorem dX0_addSpot_29 : decode cX0_addSpot 29 = .ok (.iastore, 1) := by decide +kernel
theorem dX0_addSpot_30 : decode cX0_addSpot 30 = .ok (.aload_n 0, 1) := by decide +kernel
theorem dX0_addSpot_31 : decode cX0_addSpot 31 = .ok (.getfield 53, 3) := by decide +kernel
theorem dX0_addSpot_34 : decode cX0_addSpot 34 = .ok (.iload 4, 2) := by decide +kernel
theorem dX0_addSpot_36 : decode cX0_addSpot 36 = .ok (.iload_n 3, 1) := by decide +kernel
theorem dX0_addSpot_37 : decode cX0_addSpot 37 = .ok (.bastore, 1) := by decide +kernel
theorem dX0_addSpot_38 : decode cX0_addSpot 38 = .ok (.aload_n 0, 1) := by decide +kernel
theorem dX0_addSpot_39 : decode cX0_addSpot 39 = .ok (.dup, 1) := by decide +kernel
theorem dX0_addSpot_40 : decode cX0_addSpot 40 = .ok (.getfield 84, 3) := by decide +kernel
theorem dX0_addSpot_43 : decode cX0_addSpot 43 = .ok (.iconst 1, 1) := by decide +kernel
theorem dX0_addSpot_44 : decode cX0_addSpot 44 = .ok (.iadd, 1) := by decide +kernel
theorem dX0_addSpot_45 : decode cX0_addSpot 45 = .ok (.putfield 84, 3) := by decide +kernel
theorem dX0_addSpot_48 : decode cX0_addSpot 48 = .ok (.iload 4, 2) := by decide +kernel
theorem dX0_addSpot_50 : decode cX0_addSpot 50 = .ok (.ireturn, 1) := by decide +kernel
theorem dX0_isInBreak_0 : decode cX0_isInBreak 0 = .ok (.aload_n 0, 1) := by decide +kernel
theorem dX0_isInBreak_1 : decode cX0_isInBreak 1 = .ok (.getfield 50, 3) := by decide +kernel
theorem dX0_isInBreak_4 : decode cX0_isInBreak 4 = .ok (.iload_n 1, 1) := by decide +kernel
theorem dX0_isInBreak_5 : decode cX0_isInBreak 5 = .ok (.iaload, 1) := by decide +kernel
theorem dX0_isInBreak_6 : decode cX0_isInBreak 6 = .ok (.ifCond .eq 13, 3) := by decide +kernel
theorem dX0_isInBreak_9 : decode cX0_isInBreak 9 = .ok (.aload_n 0, 1) := by decide +kernel
theorem dX0_isInBreak_10 : decode cX0_isInBreak 10 = .ok (.getfield 50, 3) := by decide +kernel
theorem dX0_isInBreak_13 : decode cX0_isInBreak 13 = .ok (.iload_n 1, 1) := by decide +kernel
theorem dX0_isInBreak_14 : decode cX0_isInBreak 14 = .ok (.iaload, 1) := by decide +kernel
theorem dX0_isInBreak_15 : decode cX0_isInBreak 15 = .ok (.iconst 1, 1) := by decide +kernel
theorem dX0_isInBreak_16 : decode cX0_isInBreak 16 = .ok (.if_icmp .ne 7, 3) := by decide +kernel
theorem dX0_isInBreak_19 : decode cX0_isInBreak 19 = .ok (.iconst 1, 1) := by decide +kernel
theorem dX0_isInBreak_20 : decode cX0_isInBreak 20 = .ok (.goto 4, 3) := by decide +kernel
theorem dX0_isInBreak_23 : decode cX0_isInBreak 23 = .ok (.iconst 0, 1) := by decide +kernel
theorem dX0_isInBreak_24 : decode cX0_isInBreak 24 = .ok (.ireturn, 1) := by decide +kernel
set_option maxRecDepth 20000 in
theorem ggX0_secondsLeft_X0_isInBreak : GoodIn wsX0_secondsLeft wsX0_isInBreak := goodIn_r _ [10, 11, 12, 13, 14, 15, 16, 17, 18, 19, 20, 21, 22, 23, 24, 25, 26, 27, 28, 29] (by decide +kernel) (by decide +kernel)
set_option maxRecDepth 20000 in
theorem gX0_secondsLeft_X0_isInBreak : GoodIn wsX0_secondsLeft (wsV RX0 126 RX0 yX0_isInBreak wsX0_isInBreak) := goodIn_app (goodIn_of _ (by decide +kernel)) ggX0_secondsLeft_X0_isInBreak
theorem dX0_secondsLeft_0 : decode cX0_secondsLeft 0 = .ok (.aload_n 0, 1) := by decide +kernel
theorem dX0_secondsLeft_1 : decode cX0_secondsLeft 1 = .ok (.getfield 9, 3) := by decide +kernel
theorem dX0_secondsLeft_4 : decode cX0_secondsLeft 4 = .ok (.iload_n 1, 1) := by decide +kernel
theorem dX0_secondsLeft_5 : decode cX0_secondsLeft 5 = .ok (.iaload, 1) := by decide +kernel
theorem dX0_secondsLeft_6 : decode cX0_secondsLeft 6 = .ok (.istore_n 2, 1) := by decide +kernel
theorem dX0_secondsLeft_7 : decode cX0_secondsLeft 7 = .ok (.iconst 0, 1) := by decide +kernel
theorem dX0_secondsLeft_8 : decode cX0_secondsLeft 8 = .ok (.istore_n 3, 1) := by decide +kernel
theorem dX0_secondsLeft_9 : decode cX0_secondsLeft 9 = .ok (.iload_n 3, 1) := by decide +kernel
theorem dX0_secondsLeft_10 : decode cX0_secondsLeft 10 = .ok (.aload_n 0, 1) := by decide +kernel
theorem dX0_secondsLeft_11 : decode cX0_secondsLeft 11 = .ok (.getfield 84, 3) := by decide +kernel
theorem dX0_secondsLeft_14 : decode cX0_secondsLeft 14 = .ok (.if_icmp .ge 41, 3) := by decide +kernel
theorem dX0_secondsLeft_17 : decode cX0_secondsLeft 17 = .ok (.aload_n 0, 1) := by decide +kernel
theorem dX0_secondsLeft_18 : decode cX0_secondsLeft 18 = .ok (.getfield 47, 3) := by decide +kernel
theorem dX0_secondsLeft_21 : decode cX0_secondsLeft 21 = .ok (.iload_n 3, 1) := by decide +kernel
theorem dX0_secondsLeft_22 : decode cX0_secondsLeft 22 = .ok (.iaload, 1) := by decide +kernel
theorem dX0_secondsLeft_23 : decode cX0_secondsLeft 23 = .ok (.iload_n 1, 1) := by decide +kernel
theorem dX0_secondsLeft_24 : decode cX0_secondsLeft 24 = .ok (.if_icmp .ne 25, 3) := by decide +kernel
theorem dX0_secondsLeft_27 : decode cX0_secondsLeft 27 = .ok (.aload_n 0, 1) := by decide +kernel
theorem dX0_secondsLeft_28 : decode cX0_secondsLeft 28 = .ok (.iload_n 3, 1) := by decide +kernel
theorem dX0_secondsLeft_29 : decode cX0_secondsLeft 29 = .ok (.invokevirtual 126, 3) := by decide +kernel
theorem dX0_secondsLeft_32 : decode cX0_secondsLeft 32 = .ok (.ifCond .eq 17, 3) := by decide +kernel
theorem dX0_secondsLeft_35 : decode cX0_secondsLeft 35 = .ok (.iload_n 2, 1) := by decide +kernel
theorem dX0_secondsLeft_36 : decode cX0_secondsLeft 36 = .ok (.aload_n 0, 1) := by decide +kernel
theorem dX0_secondsLeft_37 : decode cX0_secondsLeft 37 = .ok (.getfield 29, 3) := by decide +kernel
theorem dX0_secondsLeft_40 : decode cX0_secondsLeft 40 = .ok (.aload_n 0, 1) := by decide +kernel
theorem dX0_secondsLeft_41 : decode cX0_secondsLeft 41 = .ok (.getfield 44, 3) := by decide +kernel
theorem dX0_secondsLeft_44 : decode cX0_secondsLeft 44 = .ok (.iload_n 3, 1) := by decide +kernel
theorem dX0_secondsLeft_45 : decode cX0_secondsLeft 45 = .ok (.iaload, 1) := by decide +kernel
theorem dX0_secondsLeft_46 : decode cX0_secondsLeft 46 = .ok (.iaload, 1) := by decide +kernel
theorem dX0_secondsLeft_47 : decode cX0_secondsLeft 47 = .ok (.isub, 1) := by decide +kernel
theorem dX0_secondsLeft_48 : decode cX0_secondsLeft 48 = .ok (.istore_n 2, 1) := by decide +kernel
theorem dX0_secondsLeft_49 : decode cX0_secondsLeft 49 = .ok (.iinc 3 1, 3) := by decide +kernel
theorem dX0_secondsLeft_52 : decode cX0_secondsLeft 52 = .ok (.goto (-43), 3) := by decide +kernel
theorem dX0_secondsLeft_55 : decode cX0_secondsLeft 55 = .ok (.iload_n 2, 1) := by decide +kernel
theorem dX0_secondsLeft_56 : decode cX0_secondsLeft 56 = .ok (.ireturn, 1) := by decide +kernel
set_option maxRecDepth 20000 in
theorem ggX0_holdsAdvertiser_X0_isInBreak : GoodIn wsX0_holdsAdvertiser wsX0_isInBreak := goodIn_r _ [9, 10, 11, 12, 13, 14, 15, 16, 17, 18, 19, 20, 21, 22, 23, 24, 25, 26, 27, 28] (by decide +kernel) (by decide +kernel)
set_option maxRecDepth 20000 in
theorem gX0_holdsAdvertiser_X0_isInBreak : GoodIn wsX0_holdsAdvertiser (wsV RX0 126 RX0 yX0_isInBreak wsX0_isInBreak) := goodIn_app (goodIn_of _ (by decide +kernel)) ggX0_holdsAdvertiser_X0_isInBreak
theorem dX0_holdsAdvertiser_0 : decode cX0_holdsAdvertiser 0 = .ok (.iconst 0, 1) := by decide +kernel
theorem dX0_holdsAdvertiser_1 : decode cX0_holdsAdvertiser 1 = .ok (.istore_n 3, 1) := by decide +kernel
theorem dX0_holdsAdvertiser_2 : decode cX0_holdsAdvertiser 2 = .ok (.iload_n 3, 1) := by decide +kernel
theorem dX0_holdsAdvertiser_3 : decode cX0_holdsAdvertiser 3 = .ok (.aload_n 0, 1) := by decide +kernel
theorem dX0_holdsAdvertiser_4 : decode cX0_holdsAdvertiser 4 = .ok (.getfield 84, 3) := by decide +kernel
theorem dX0_holdsAdvertiser_7 : decode cX0_holdsAdvertiser 7 = .ok (.if_icmp .ge 44, 3) := by decide +kernel
theorem dX0_holdsAdvertiser_10 : decode cX0_holdsAdvertiser 10 = .ok (.aload_n 0, 1) := by decide +kernel
theorem dX0_holdsAdvertiser_11 : decode cX0_holdsAdvertiser 11 = .ok (.getfield 47, 3) := by decide +kernel
theorem dX0_holdsAdvertiser_14 : decode cX0_holdsAdvertiser 14 = .ok (.iload_n 3, 1) := by decide +kernel
theorem dX0_holdsAdvertiser_15 : decode cX0_holdsAdvertiser 15 = .ok (.iaload, 1) := by decide +kernel
theorem dX0_holdsAdvertiser_16 : decode cX0_holdsAdvertiser 16 = .ok (.iload_n 1, 1) := by decide +kernel
theorem dX0_holdsAdvertiser_17 : decode cX0_holdsAdvertiser 17 = .ok (.if_icmp .ne 28, 3) := by decide +kernel
theorem dX0_holdsAdvertiser_20 : decode cX0_holdsAdvertiser 20 = .ok (.aload_n 0, 1) := by decide +kernel
theorem dX0_holdsAdvertiser_21 : decode cX0_holdsAdvertiser 21 = .ok (.iload_n 3, 1) := by decide +kernel
theorem dX0_holdsAdvertiser_22 : decode cX0_holdsAdvertiser 22 = .ok (.invokevirtual 126, 3) := by decide +kernel
theorem dX0_holdsAdvertiser_25 : decode cX0_holdsAdvertiser 25 = .ok (.ifCond .eq 20, 3) := by decide +kernel
theorem dX0_holdsAdvertiser_28 : decode cX0_holdsAdvertiser 28 = .ok (.aload_n 0, 1) := by decide +kernel
theorem dX0_holdsAdvertiser_29 : decode cX0_holdsAdvertiser 29 = .ok (.getfield 20, 3) := by decide +kernel
theorem dX0_holdsAdvertiser_32 : decode cX0_holdsAdvertiser 32 = .ok (.aload_n 0, 1) := by decide +kernel
theorem dX0_holdsAdvertiser_33 : decode cX0_holdsAdvertiser 33 = .ok (.getfield 44, 3) := by decide +kernel
theorem dX0_holdsAdvertiser_36 : decode cX0_holdsAdvertiser 36 = .ok (.iload_n 3, 1) := by decide +kernel
theorem dX0_holdsAdvertiser_37 : decode cX0_holdsAdvertiser 37 = .ok (.iaload, 1) := by decide +kernel
theorem dX0_holdsAdvertiser_38 : decode cX0_holdsAdvertiser 38 = .ok (.iaload, 1) := by decide +kernel
theorem dX0_holdsAdvertiser_39 : decode cX0_holdsAdvertiser 39 = .ok (.iload_n 2, 1) := by decide +kernel
theorem dX0_holdsAdvertiser_40 : decode cX0_holdsAdvertiser 40 = .ok (.if_icmp .ne 5, 3) := by decide +kernel
theorem dX0_holdsAdvertiser_43 : decode cX0_holdsAdvertiser 43 = .ok (.iconst 1, 1) := by decide +kernel
theorem dX0_holdsAdvertiser_44 : decode cX0_holdsAdvertiser 44 = .ok (.ireturn, 1) := by decide +kernel
theorem dX0_holdsAdvertiser_45 : decode cX0_holdsAdvertiser 45 = .ok (.iinc 3 1, 3) := by decide +kernel
theorem dX0_holdsAdvertiser_48 : decode cX0_holdsAdvertiser 48 = .ok (.goto (-46), 3) := by decide +kernel
theorem dX0_holdsAdvertiser_51 : decode cX0_holdsAdvertiser 51 = .ok (.iconst 0, 1) := by decide +kernel
theorem dX0_holdsAdvertiser_52 : decode cX0_holdsAdvertiser 52 = .ok (.ireturn, 1) := by decide +kernel
set_option maxRecDepth 20000 in
theorem ggX0_holdsRival_X0_isInBreak : GoodIn wsX0_holdsRival wsX0_isInBreak := goodIn_r _ [8, 9, 16, 17, 18, 19, 20, 21, 22, 23, 24, 25, 26, 27, 28, 29, 30, 31, 32, 33] (by decide +kernel) (by decide +kernel)
set_option maxRecDepth 20000 in
theorem gX0_holdsRival_X0_isInBreak : GoodIn wsX0_holdsRival (wsV RX0 126 RX0 yX0_isInBreak wsX0_isInBreak) := goodIn_app (goodIn_of _ (by decide +kernel)) ggX0_holdsRival_X0_isInBreak
set_option maxRecDepth 20000 in
theorem ggX0_holdsRival_X0_areRivals : GoodIn wsX0_holdsRival wsX0_areRivals := goodIn_r _ [13, 14, 15, 16, 17, 18, 19, 20, 21, 22, 23, 24, 25, 26, 27, 28, 29, 30, 31, 32, 33] (by decide +kernel) (by decide +kernel)
set_option maxRecDepth 20000 in
theorem gX0_holdsRival_X0_areRivals : GoodIn wsX0_holdsRival (wsV RX0 166 RX0 yX0_areRivals wsX0_areRivals) := goodIn_app (goodIn_of _ (by decide +kernel)) ggX0_holdsRival_X0_areRivals
theorem dX0_holdsRival_0 : decode cX0_holdsRival 0 = .ok (.iconst 0, 1) := by decide +kernel
theorem dX0_holdsRival_1 : decode cX0_holdsRival 1 = .ok (.istore_n 3, 1) := by decide +kernel
theorem dX0_holdsRival_2 : decode cX0_holdsRival 2 = .ok (.iload_n 3, 1) := by decide +kernel
theorem dX0_holdsRival_3 : decode cX0_holdsRival 3 = .ok (.aload_n 0, 1) := by decide +kernel
theorem dX0_holdsRival_4 : decode cX0_holdsRival 4 = .ok (.getfield 84, 3) := by decide +kernel
theorem dX0_holdsRival_7 : decode cX0_holdsRival 7 = .ok (.if_icmp .ge 43, 3) := by decide +kernel
theorem dX0_holdsRival_10 : decode cX0_holdsRival 10 = .ok (.aload_n 0, 1) := by decide +kernel
theorem dX0_holdsRival_11 : decode cX0_holdsRival 11 = .ok (.getfield 47, 3) := by decide +kernel
theorem dX0_holdsRival_14 : decode cX0_holdsRival 14 = .ok (.iload_n 3, 1) := by decide +kernel
theorem dX0_holdsRival_15 : decode cX0_holdsRival 15 = .ok (.iaload, 1) := by decide +kernel
theorem dX0_holdsRival_16 : decode cX0_holdsRival 16 = .ok (.iload_n 1, 1) := by decide +kernel
theorem dX0_holdsRival_17 : decode cX0_holdsRival 17 = .ok (.if_icmp .ne 27, 3) := by decide +kernel
theorem dX0_holdsRival_20 : decode cX0_holdsRival 20 = .ok (.aload_n 0, 1) := by decide +kernel
theorem dX0_holdsRival_21 : decode cX0_holdsRival 21 = .ok (.iload_n 3, 1) := by decide +kernel
theorem dX0_holdsRival_22 : decode cX0_holdsRival 22 = .ok (.invokevirtual 126, 3) := by decide +kernel
theorem dX0_holdsRival_25 : decode cX0_holdsRival 25 = .ok (.ifCond .eq 19, 3) := by decide +kernel
theorem dX0_holdsRival_28 : decode cX0_holdsRival 28 = .ok (.aload_n 0, 1) := by decide +kernel
theorem dX0_holdsRival_29 : decode cX0_holdsRival 29 = .ok (.aload_n 0, 1) := by decide +kernel
theorem dX0_holdsRival_30 : decode cX0_holdsRival 30 = .ok (.getfield 44, 3) := by decide +kernel
theorem dX0_holdsRival_33 : decode cX0_holdsRival 33 = .ok (.iload_n 3, 1) := by decide +kernel
theorem dX0_holdsRival_34 : decode cX0_holdsRival 34 = .ok (.iaload, 1) := by decide +kernel
theorem dX0_holdsRival_35 : decode cX0_holdsRival 35 = .ok (.iload_n 2, 1) := by decide +kernel
theorem dX0_holdsRival_36 : decode cX0_holdsRival 36 = .ok (.invokevirtual 166, 3) := by decide +kernel
theorem dX0_holdsRival_39 : decode cX0_holdsRival 39 = .ok (.ifCond .eq 5, 3) := by decide +kernel
theorem dX0_holdsRival_42 : decode cX0_holdsRival 42 = .ok (.iconst 1, 1) := by decide +kernel
theorem dX0_holdsRival_43 : decode cX0_holdsRival 43 = .ok (.ireturn, 1) := by decide +kernel
theorem dX0_holdsRival_44 : decode cX0_holdsRival 44 = .ok (.iinc 3 1, 3) := by decide +kernel
theorem dX0_holdsRival_47 : decode cX0_holdsRival 47 = .ok (.goto (-45), 3) := by decide +kernel
theorem dX0_holdsRival_50 : decode cX0_holdsRival 50 = .ok (.iconst 0, 1) := by decide +kernel
theorem dX0_holdsRival_51 : decode cX0_holdsRival 51 = .ok (.ireturn, 1) := by decide +kernel
theorem dX0_areRivals_0 : decode cX0_areRivals 0 = .ok (.aload_n 0, 1) := by decide +kernel
theorem dX0_areRivals_1 : decode cX0_areRivals 1 = .ok (.getfield 23, 3) := by decide +kernel
theorem dX0_areRivals_4 : decode cX0_areRivals 4 = .ok (.iload_n 1, 1) := by decide +kernel
theorem dX0_areRivals_5 : decode cX0_areRivals 5 = .ok (.iaload, 1) := by decide +kernel
theorem dX0_areRivals_6 : decode cX0_areRivals 6 = .ok (.aload_n 0, 1) := by decide +kernel
theorem dX0_areRivals_7 : decode cX0_areRivals 7 = .ok (.getfield 23, 3) := by decide +kernel
theorem dX0_areRivals_10 : decode cX0_areRivals 10 = .ok (.iload_n 2, 1) := by decide +kernel
theorem dX0_areRivals_11 : decode cX0_areRivals 11 = .ok (.iaload, 1) := by decide +kernel
theorem dX0_areRivals_12 : decode cX0_areRivals 12 = .ok (.if_icmp .ne 22, 3) := by decide +kernel
theorem dX0_areRivals_15 : decode cX0_areRivals 15 = .ok (.aload_n 0, 1) := by decide +kernel
theorem dX0_areRivals_16 : decode cX0_areRivals 16 = .ok (.getfield 20, 3) := by decide +kernel
theorem dX0_areRivals_19 : decode cX0_areRivals 19 = .ok (.iload_n 1, 1) := by decide +kernel
theorem dX0_areRivals_20 : decode cX0_areRivals 20 = .ok (.iaload, 1) := by decide +kernel
theorem dX0_areRivals_21 : decode cX0_areRivals 21 = .ok (.aload_n 0, 1) := by decide +kernel
theorem dX0_areRivals_22 : decode cX0_areRivals 22 = .ok (.getfield 20, 3) := by decide +kernel
theorem dX0_areRivals_25 : decode cX0_areRivals 25 = .ok (.iload_n 2, 1) := by decide +kernel
theorem dX0_areRivals_26 : decode cX0_areRivals 26 = .ok (.iaload, 1) := by decide +kernel
theorem dX0_areRivals_27 : decode cX0_areRivals 27 = .ok (.if_icmp .eq 7, 3) := by decide +kernel
theorem dX0_areRivals_30 : decode cX0_areRivals 30 = .ok (.iconst 1, 1) := by decide +kernel
theorem dX0_areRivals_31 : decode cX0_areRivals 31 = .ok (.goto 4, 3) := by decide +kernel
theorem dX0_areRivals_34 : decode cX0_areRivals 34 = .ok (.iconst 0, 1) := by decide +kernel
theorem dX0_areRivals_35 : decode cX0_areRivals 35 = .ok (.ireturn, 1) := by decide +kernel
theorem dX0_ratingCell_0 : decode cX0_ratingCell 0 = .ok (.iload_n 0, 1) := by decide +kernel
theorem dX0_ratingCell_1 : decode cX0_ratingCell 1 = .ok (.iconst 3, 1) := by decide +kernel
theorem dX0_ratingCell_2 : decode cX0_ratingCell 2 = .ok (.imul, 1) := by decide +kernel
theorem dX0_ratingCell_3 : decode cX0_ratingCell 3 = .ok (.iload_n 1, 1) := by decide +kernel
theorem dX0_ratingCell_4 : decode cX0_ratingCell 4 = .ok (.iadd, 1) := by decide +kernel
theorem dX0_ratingCell_5 : decode cX0_ratingCell 5 = .ok (.ireturn, 1) := by decide +kernel
set_option maxRecDepth 20000 in
theorem ggX0_ratingFor_X0_ratingCell : GoodIn wsX0_ratingFor wsX0_ratingCell := goodIn_r _ [6] (by decide +kernel) (by decide +kernel)
set_option maxRecDepth 20000 in
theorem gX0_ratingFor_X0_ratingCell : GoodIn wsX0_ratingFor (va_wsS RX0 80 yX0_ratingCell wsX0_ratingCell) := goodIn_app (goodIn_of _ (by decide +kernel)) ggX0_ratingFor_X0_ratingCell
theorem dX0_ratingFor_0 : decode cX0_ratingFor 0 = .ok (.aload_n 0, 1) := by decide +kernel
theorem dX0_ratingFor_1 : decode cX0_ratingFor 1 = .ok (.getfield 17, 3) := by decide +kernel
theorem dX0_ratingFor_4 : decode cX0_ratingFor 4 = .ok (.iload_n 2, 1) := by decide +kernel
theorem dX0_ratingFor_5 : decode cX0_ratingFor 5 = .ok (.aload_n 0, 1) := by decide +kernel
theorem dX0_ratingFor_6 : decode cX0_ratingFor 6 = .ok (.getfield 26, 3) := by decide +kernel
theorem dX0_ratingFor_9 : decode cX0_ratingFor 9 = .ok (.iload_n 1, 1) := by decide +kernel
theorem dX0_ratingFor_10 : decode cX0_ratingFor 10 = .ok (.iaload, 1) := by decide +kernel
theorem dX0_ratingFor_11 : decode cX0_ratingFor 11 = .ok (.invokestatic 80, 3) := by decide +kernel
theorem dX0_ratingFor_14 : decode cX0_ratingFor 14 = .ok (.iaload, 1) := by decide +kernel
theorem dX0_ratingFor_15 : decode cX0_ratingFor 15 = .ok (.ireturn, 1) := by decide +kernel
set_option maxRecDepth 20000 in
theorem ggX0_audience_X0_ratingFor : GoodIn wsX0_audience wsX0_ratingFor := goodIn_r _ [9, 10, 11, 12, 13, 8, 14, 15, 16, 17, 18, 19, 20, 21, 22, 23, 24, 25, 26, 27, 28, 29, 30, 31, 32] (by decide +kernel) (by decide +kernel)
set_option maxRecDepth 20000 in
theorem gX0_audience_X0_ratingFor : GoodIn wsX0_audience (wsV RX0 156 RX0 yX0_ratingFor wsX0_ratingFor) := goodIn_app (goodIn_of _ (by decide +kernel)) ggX0_audience_X0_ratingFor
theorem dX0_audience_0 : decode cX0_audience 0 = .ok (.iconst 0, 1) := by decide +kernel
theorem dX0_audience_1 : decode cX0_audience 1 = .ok (.istore_n 3, 1) := by decide +kernel
theorem dX0_audience_2 : decode cX0_audience 2 = .ok (.iconst 0, 1) := by decide +kernel
theorem dX0_audience_3 : decode cX0_audience 3 = .ok (.istore 4, 2) := by decide +kernel
theorem dX0_audience_5 : decode cX0_audience 5 = .ok (.iload 4, 2) := by decide +kernel
theorem dX0_audience_7 : decode cX0_audience 7 = .ok (.aload_n 0, 1) := by decide +kernel
theorem dX0_audience_8 : decode cX0_audience 8 = .ok (.getfield 84, 3) := by decide +kernel
theorem dX0_audience_11 : decode cX0_audience 11 = .ok (.if_icmp .ge 46, 3) := by decide +kernel
theorem dX0_audience_14 : decode cX0_audience 14 = .ok (.aload_n 0, 1) := by decide +kernel
theorem dX0_audience_15 : decode cX0_audience 15 = .ok (.getfield 44, 3) := by decide +kernel
theorem dX0_audience_18 : decode cX0_audience 18 = .ok (.iload 4, 2) := by decide +kernel
theorem dX0_audience_20 : decode cX0_audience 20 = .ok (.iaload, 1) := by decide +kernel
theorem dX0_audience_21 : decode cX0_audience 21 = .ok (.iload_n 1, 1) := by decide +kernel
theorem dX0_audience_22 : decode cX0_audience 22 = .ok (.if_icmp .ne 29, 3) := by decide +kernel
theorem dX0_audience_25 : decode cX0_audience 25 = .ok (.aload_n 0, 1) := by decide +kernel
theorem dX0_audience_26 : decode cX0_audience 26 = .ok (.getfield 50, 3) := by decide +kernel
theorem dX0_audience_29 : decode cX0_audience 29 = .ok (.iload 4, 2) := by decide +kernel
theorem dX0_audience_31 : decode cX0_audience 31 = .ok (.iaload, 1) := by decide +kernel
theorem dX0_audience_32 : decode cX0_audience 32 = .ok (.iload_n 2, 1) := by decide +kernel
theorem dX0_audience_33 : decode cX0_audience 33 = .ok (.if_icmp .ne 18, 3) := by decide +kernel
theorem dX0_audience_36 : decode cX0_audience 36 = .ok (.iload_n 3, 1) := by decide +kernel
theorem dX0_audience_37 : decode cX0_audience 37 = .ok (.aload_n 0, 1) := by decide +kernel
theorem dX0_audience_38 : decode cX0_audience 38 = .ok (.iload_n 1, 1) := by decide +kernel
theorem dX0_audience_39 : decode cX0_audience 39 = .ok (.aload_n 0, 1) := by decide +kernel
theorem dX0_audience_40 : decode cX0_audience 40 = .ok (.getfield 47, 3) := by decide +kernel
theorem dX0_audience_43 : decode cX0_audience 43 = .ok (.iload 4, 2) := by decide +kernel
theorem dX0_audience_45 : decode cX0_audience 45 = .ok (.iaload, 1) := by decide +kernel
theorem dX0_audience_46 : decode cX0_audience 46 = .ok (.invokevirtual 156, 3) := by decide +kernel
theorem dX0_audience_49 : decode cX0_audience 49 = .ok (.iadd, 1) := by decide +kernel
theorem dX0_audience_50 : decode cX0_audience 50 = .ok (.istore_n 3, 1) := by decide +kernel
theorem dX0_audience_51 : decode cX0_audience 51 = .ok (.iinc 4 1, 3) := by decide +kernel
theorem dX0_audience_54 : decode cX0_audience 54 = .ok (.goto (-49), 3) := by decide +kernel
theorem dX0_audience_57 : decode cX0_audience 57 = .ok (.iload_n 3, 1) := by decide +kernel
theorem dX0_audience_58 : decode cX0_audience 58 = .ok (.ireturn, 1) := by decide +kernel
set_option maxRecDepth 20000 in
theorem ggX0_isShortOfPromise_X0_audience : GoodIn wsX0_isShortOfPromise wsX0_audience := goodIn_r _ [6, 7, 8, 9, 10, 11, 12, 13, 5, 14, 15, 16, 17, 18, 19, 20, 21, 22, 23, 24, 25, 26, 27, 28, 29, 30, 31, 32, 33, 34, 35, 36, 37] (by decide +kernel) (by decide +kernel)
set_option maxRecDepth 20000 in
theorem gX0_isShortOfPromise_X0_audience : GoodIn wsX0_isShortOfPromise (wsV RX0 129 RX0 yX0_audience wsX0_audience) := goodIn_app (goodIn_of _ (by decide +kernel)) ggX0_isShortOfPromise_X0_audience
theorem dX0_isShortOfPromise_0 : decode cX0_isShortOfPromise 0 = .ok (.aload_n 0, 1) := by decide +kernel
theorem dX0_isShortOfPromise_1 : decode cX0_isShortOfPromise 1 = .ok (.iload_n 1, 1) := by decide +kernel
theorem dX0_isShortOfPromise_2 : decode cX0_isShortOfPromise 2 = .ok (.iconst 1, 1) := by decide +kernel
theorem dX0_isShortOfPromise_3 : decode cX0_isShortOfPromise 3 = .ok (.invokevirtual 129, 3) := by decide +kernel
theorem dX0_isShortOfPromise_6 : decode cX0_isShortOfPromise 6 = .ok (.aload_n 0, 1) := by decide +kernel
theorem dX0_isShortOfPromise_7 : decode cX0_isShortOfPromise 7 = .ok (.iload_n 1, 1) := by decide +kernel
theorem dX0_isShortOfPromise_8 : decode cX0_isShortOfPromise 8 = .ok (.iconst 0, 1) := by decide +kernel
theorem dX0_isShortOfPromise_9 : decode cX0_isShortOfPromise 9 = .ok (.invokevirtual 129, 3) := by decide +kernel
theorem dX0_isShortOfPromise_12 : decode cX0_isShortOfPromise 12 = .ok (.iadd, 1) := by decide +kernel
theorem dX0_isShortOfPromise_13 : decode cX0_isShortOfPromise 13 = .ok (.aload_n 0, 1) := by decide +kernel
theorem dX0_isShortOfPromise_14 : decode cX0_isShortOfPromise 14 = .ok (.getfield 35, 3) := by decide +kernel
theorem dX0_isShortOfPromise_17 : decode cX0_isShortOfPromise 17 = .ok (.iload_n 1, 1) := by decide +kernel
theorem dX0_isShortOfPromise_18 : decode cX0_isShortOfPromise 18 = .ok (.iaload, 1) := by decide +kernel
theorem dX0_isShortOfPromise_19 : decode cX0_isShortOfPromise 19 = .ok (.if_icmp .ge 7, 3) := by decide +kernel
theorem dX0_isShortOfPromise_22 : decode cX0_isShortOfPromise 22 = .ok (.iconst 1, 1) := by decide +kernel
theorem dX0_isShortOfPromise_23 : decode cX0_isShortOfPromise 23 = .ok (.goto 4, 3) := by decide +kernel
theorem dX0_isShortOfPromise_26 : decode cX0_isShortOfPromise 26 = .ok (.iconst 0, 1) := by decide +kernel
theorem dX0_isShortOfPromise_27 : decode cX0_isShortOfPromise 27 = .ok (.ireturn, 1) := by decide +kernel
set_option maxRecDepth 20000 in
theorem ggX0_owedTo_X0_audience : GoodIn wsX0_owedTo wsX0_audience := goodIn_r _ [11, 12, 13, 14, 15, 16, 17, 18, 10, 19, 20, 21, 22, 23, 24, 25, 26, 27, 28, 29, 30, 31, 32, 33, 34, 35, 36, 37, 38, 39, 40, 41, 42] (by decide +kernel) (by decide +kernel)
set_option maxRecDepth 20000 in
theorem gX0_owedTo_X0_audience : GoodIn wsX0_owedTo (wsV RX0 129 RX0 yX0_audience wsX0_audience) := goodIn_app (goodIn_of _ (by decide +kernel)) ggX0_owedTo_X0_audience
theorem dX0_owedTo_0 : decode cX0_owedTo 0 = .ok (.aload_n 0, 1) := by decide +kernel
theorem dX0_owedTo_1 : decode cX0_owedTo 1 = .ok (.getfield 41, 3) := by decide +kernel
theorem dX0_owedTo_4 : decode cX0_owedTo 4 = .ok (.iload_n 1, 1) := by decide +kernel
theorem dX0_owedTo_5 : decode cX0_owedTo 5 = .ok (.baload, 1) := by decide +kernel
theorem dX0_owedTo_6 : decode cX0_owedTo 6 = .ok (.ifCond .ne 5, 3) := by decide +kernel
theorem dX0_owedTo_9 : decode cX0_owedTo 9 = .ok (.iconst 0, 1) := by decide +kernel
theorem dX0_owedTo_10 : decode cX0_owedTo 10 = .ok (.ireturn, 1) := by decide +kernel
theorem dX0_owedTo_11 : decode cX0_owedTo 11 = .ok (.aload_n 0, 1) := by decide +kernel
theorem dX0_owedTo_12 : decode cX0_owedTo 12 = .ok (.getfield 35, 3) := by decide +kernel
theorem dX0_owedTo_15 : decode cX0_owedTo 15 = .ok (.iload_n 1, 1) := by decide +kernel
theorem dX0_owedTo_16 : decode cX0_owedTo 16 = .ok (.iaload, 1) := by decide +kernel
theorem dX0_owedTo_17 : decode cX0_owedTo 17 = .ok (.aload_n 0, 1) := by decide +kernel
theorem dX0_owedTo_18 : decode cX0_owedTo 18 = .ok (.iload_n 1, 1) := by decide +kernel
theorem dX0_owedTo_19 : decode cX0_owedTo 19 = .ok (.iconst 1, 1) := by decide +kernel
theorem dX0_owedTo_20 : decode cX0_owedTo 20 = .ok (.invokevirtual 129, 3) := by decide +kernel
theorem dX0_owedTo_23 : decode cX0_owedTo 23 = .ok (.isub, 1) := by decide +kernel
theorem dX0_owedTo_24 : decode cX0_owedTo 24 = .ok (.iconst 0, 1) := by decide +kernel
theorem dX0_owedTo_25 : decode cX0_owedTo 25 = .ok (.invokestatic 169, 3) := by decide +kernel
theorem dX0_owedTo_28 : decode cX0_owedTo 28 = .ok (.ireturn, 1) := by decide +kernel
set_option maxRecDepth 20000 in
theorem ggX0_restOf_X0_owedTo : GoodIn wsX0_restOf wsX0_owedTo := goodIn_r _ [14, 15, 16, 6, 7, 8, 9, 17, 18, 19, 13, 20, 1, 2, 4, 5, 21, 22, 23, 24, 25, 26, 27, 28, 29, 30, 31, 32, 33, 34, 35, 36, 37, 38, 39, 40, 41, 42, 43, 44, 45, 46, 47] (by decide +kernel) (by decide +kernel)
set_option maxRecDepth 20000 in
theorem gX0_restOf_X0_owedTo : GoodIn wsX0_restOf (wsV RX0 104 RX0 yX0_owedTo wsX0_owedTo) := goodIn_app (goodIn_of _ (by decide +kernel)) ggX0_restOf_X0_owedTo
set_option maxRecDepth 20000 in
theorem ggX0_restOf_X0_ratingFor : GoodIn wsX0_restOf wsX0_ratingFor := goodIn_r _ [24, 25, 26, 27, 28, 13, 29, 30, 31, 32, 33, 34, 35, 36, 37, 38, 39, 40, 41, 42, 43, 44, 45, 46, 47] (by decide +kernel) (by decide +kernel)
set_option maxRecDepth 20000 in
theorem gX0_restOf_X0_ratingFor : GoodIn wsX0_restOf (wsV RX0 156 RX0 yX0_ratingFor wsX0_ratingFor) := goodIn_app (goodIn_of _ (by decide +kernel)) ggX0_restOf_X0_ratingFor
theorem dX0_restOf_0 : decode cX0_restOf 0 = .ok (.aload_n 0, 1) := by decide +kernel
theorem dX0_restOf_1 : decode cX0_restOf 1 = .ok (.iload_n 1, 1) := by decide +kernel
theorem dX0_restOf_2 : decode cX0_restOf 2 = .ok (.invokevirtual 104, 3) := by decide +kernel
theorem dX0_restOf_5 : decode cX0_restOf 5 = .ok (.istore_n 2, 1) := by decide +kernel
theorem dX0_restOf_6 : decode cX0_restOf 6 = .ok (.iconst 0, 1) := by decide +kernel
theorem dX0_restOf_7 : decode cX0_restOf 7 = .ok (.istore_n 3, 1) := by decide +kernel
theorem dX0_restOf_8 : decode cX0_restOf 8 = .ok (.iload_n 3, 1) := by decide +kernel
theorem dX0_restOf_9 : decode cX0_restOf 9 = .ok (.aload_n 0, 1) := by decide +kernel
theorem dX0_restOf_10 : decode cX0_restOf 10 = .ok (.getfield 84, 3) := by decide +kernel
theorem dX0_restOf_13 : decode cX0_restOf 13 = .ok (.if_icmp .ge 51, 3) := by decide +kernel
theorem dX0_restOf_16 : decode cX0_restOf 16 = .ok (.aload_n 0, 1) := by decide +kernel
theorem dX0_restOf_17 : decode cX0_restOf 17 = .ok (.getfield 44, 3) := by decide +kernel
theorem dX0_restOf_20 : decode cX0_restOf 20 = .ok (.iload_n 3, 1) := by decide +kernel
theorem dX0_restOf_21 : decode cX0_restOf 21 = .ok (.iaload, 1) := by decide +kernel
theorem dX0_restOf_22 : decode cX0_restOf 22 = .ok (.iload_n 1, 1) := by decide +kernel
theorem dX0_restOf_23 : decode cX0_restOf 23 = .ok (.if_icmp .ne 35, 3) := by decide +kernel
theorem dX0_restOf_26 : decode cX0_restOf 26 = .ok (.aload_n 0, 1) := by decide +kernel
theorem dX0_restOf_27 : decode cX0_restOf 27 = .ok (.getfield 53, 3) := by decide +kernel
theorem dX0_restOf_30 : decode cX0_restOf 30 = .ok (.iload_n 3, 1) := by decide +kernel
theorem dX0_restOf_31 : decode cX0_restOf 31 = .ok (.baload, 1) := by decide +kernel
theorem dX0_restOf_32 : decode cX0_restOf 32 = .ok (.ifCond .eq 26, 3) := by decide +kernel
theorem dX0_restOf_35 : decode cX0_restOf 35 = .ok (.aload_n 0, 1) := by decide +kernel
theorem dX0_restOf_36 : decode cX0_restOf 36 = .ok (.getfield 50, 3) := by decide +kernel
theorem dX0_restOf_39 : decode cX0_restOf 39 = .ok (.iload_n 3, 1) := by decide +kernel
theorem dX0_restOf_40 : decode cX0_restOf 40 = .ok (.iaload, 1) := by decide +kernel
theorem dX0_restOf_41 : decode cX0_restOf 41 = .ok (.ifCond .ne 17, 3) := by decide +kernel
theorem dX0_restOf_44 : decode cX0_restOf 44 = .ok (.iload_n 2, 1) := by decide +kernel
theorem dX0_restOf_45 : decode cX0_restOf 45 = .ok (.aload_n 0, 1) := by decide +kernel
theorem dX0_restOf_46 : decode cX0_restOf 46 = .ok (.iload_n 1, 1) := by decide +kernel
theorem dX0_restOf_47 : decode cX0_restOf 47 = .ok (.aload_n 0, 1) := by decide +kernel
theorem dX0_restOf_48 : decode cX0_restOf 48 = .ok (.getfield 47, 3) := by decide +kernel
theorem dX0_restOf_51 : decode cX0_restOf 51 = .ok (.iload_n 3, 1) := by decide +kernel
theorem dX0_restOf_52 : decode cX0_restOf 52 = .ok (.iaload, 1) := by decide +kernel
theorem dX0_restOf_53 : decode cX0_restOf 53 = .ok (.invokevirtual 156, 3) := by decide +kernel
theorem dX0_restOf_56 : decode cX0_restOf 56 = .ok (.isub, 1) := by decide +kernel
theorem dX0_restOf_57 : decode cX0_restOf 57 = .ok (.istore_n 2, 1) := by decide +kernel
theorem dX0_restOf_58 : decode cX0_restOf 58 = .ok (.iinc 3 1, 3) := by decide +kernel
theorem dX0_restOf_61 : decode cX0_restOf 61 = .ok (.goto (-53), 3) := by decide +kernel
theorem dX0_restOf_64 : decode cX0_restOf 64 = .ok (.iload_n 2, 1) := by decide +kernel
theorem dX0_restOf_65 : decode cX0_restOf 65 = .ok (.iconst 0, 1) := by decide +kernel
theorem dX0_restOf_66 : decode cX0_restOf 66 = .ok (.invokestatic 169, 3) := by decide +kernel
theorem dX0_restOf_69 : decode cX0_restOf 69 = .ok (.ireturn, 1) := by decide +kernel
theorem dX0_billOf_0 : decode cX0_billOf 0 = .ok (.iconst 0, 1) := by decide +kernel
theorem dX0_billOf_1 : decode cX0_billOf 1 = .ok (.istore_n 2, 1) := by decide +kernel
theorem dX0_billOf_2 : decode cX0_billOf 2 = .ok (.iconst 0, 1) := by decide +kernel
theorem dX0_billOf_3 : decode cX0_billOf 3 = .ok (.istore_n 3, 1) := by decide +kernel
theorem dX0_billOf_4 : decode cX0_billOf 4 = .ok (.iload_n 3, 1) := by decide +kernel
theorem dX0_billOf_5 : decode cX0_billOf 5 = .ok (.aload_n 0, 1) := by decide +kernel
theorem dX0_billOf_6 : decode cX0_billOf 6 = .ok (.getfield 84, 3) := by decide +kernel
theorem dX0_billOf_9 : decode cX0_billOf 9 = .ok (.if_icmp .ge 47, 3) := by decide +kernel
theorem dX0_billOf_12 : decode cX0_billOf 12 = .ok (.aload_n 0, 1) := by decide +kernel
theorem dX0_billOf_13 : decode cX0_billOf 13 = .ok (.getfield 44, 3) := by decide +kernel
theorem dX0_billOf_16 : decode cX0_billOf 16 = .ok (.iload_n 3, 1) := by decide +kernel
theorem dX0_billOf_17 : decode cX0_billOf 17 = .ok (.iaload, 1) := by decide +kernel
theorem dX0_billOf_18 : decode cX0_billOf 18 = .ok (.iload_n 1, 1) := by decide +kernel
theorem dX0_billOf_19 : decode cX0_billOf 19 = .ok (.if_icmp .ne 31, 3) := by decide +kernel
theorem dX0_billOf_22 : decode cX0_billOf 22 = .ok (.aload_n 0, 1) := by decide +kernel
theorem dX0_billOf_23 : decode cX0_billOf 23 = .ok (.getfield 53, 3) := by decide +kernel
theorem dX0_billOf_26 : decode cX0_billOf 26 = .ok (.iload_n 3, 1) := by decide +kernel
theorem dX0_billOf_27 : decode cX0_billOf 27 = .ok (.baload, 1) := by decide +kernel
theorem dX0_billOf_28 : decode cX0_billOf 28 = .ok (.ifCond .ne 22, 3) := by decide +kernel
theorem dX0_billOf_31 : decode cX0_billOf 31 = .ok (.aload_n 0, 1) := by decide +kernel
theorem dX0_billOf_32 : decode cX0_billOf 32 = .ok (.getfield 50, 3) := by decide +kernel
theorem dX0_billOf_35 : decode cX0_billOf 35 = .ok (.iload_n 3, 1) := by decide +kernel
theorem dX0_billOf_36 : decode cX0_billOf 36 = .ok (.iaload, 1) := by decide +kernel
theorem dX0_billOf_37 : decode cX0_billOf 37 = .ok (.iconst 1, 1) := by decide +kernel
theorem dX0_billOf_38 : decode cX0_billOf 38 = .ok (.if_icmp .ne 12, 3) := by decide +kernel
theorem dX0_billOf_41 : decode cX0_billOf 41 = .ok (.iload_n 2, 1) := by decide +kernel
theorem dX0_billOf_42 : decode cX0_billOf 42 = .ok (.aload_n 0, 1) := by decide +kernel
theorem dX0_billOf_43 : decode cX0_billOf 43 = .ok (.getfield 32, 3) := by decide +kernel
theorem dX0_billOf_46 : decode cX0_billOf 46 = .ok (.iload_n 1, 1) := by decide +kernel
theorem dX0_billOf_47 : decode cX0_billOf 47 = .ok (.iaload, 1) := by decide +kernel
theorem dX0_billOf_48 : decode cX0_billOf 48 = .ok (.iadd, 1) := by decide +kernel
theorem dX0_billOf_49 : decode cX0_billOf 49 = .ok (.istore_n 2, 1) := by decide +kernel
theorem dX0_billOf_50 : decode cX0_billOf 50 = .ok (.iinc 3 1, 3) := by decide +kernel
theorem dX0_billOf_53 : decode cX0_billOf 53 = .ok (.goto (-49), 3) := by decide +kernel
theorem dX0_billOf_56 : decode cX0_billOf 56 = .ok (.iload_n 2, 1) := by decide +kernel
theorem dX0_billOf_57 : decode cX0_billOf 57 = .ok (.ireturn, 1) := by decide +kernel
end
section
theorem dL_at_0 : decode cL_at 0 = .ok (.iload_n 1, 1) := by decide +kernel
theorem dL_at_1 : decode cL_at 1 = .ok (.aload_n 0, 1) := by decide +kernel
theorem dL_at_2 : decode cL_at 2 = .ok (.arraylength, 1) := by decide +kernel
theorem dL_at_3 : decode cL_at 3 = .ok (.if_icmp .ge 9, 3) := by decide +kernel
theorem dL_at_6 : decode cL_at 6 = .ok (.aload_n 0, 1) := by decide +kernel
theorem dL_at_7 : decode cL_at 7 = .ok (.iload_n 1, 1) := by decide +kernel
theorem dL_at_8 : decode cL_at 8 = .ok (.iaload, 1) := by decide +kernel
theorem dL_at_9 : decode cL_at 9 = .ok (.goto 12, 3) := by decide +kernel
theorem dL_at_12 : decode cL_at 12 = .ok (.ldc 7, 2) := by decide +kernel
theorem dL_at_14 : decode cL_at 14 = .ok (.iload_n 1, 1) := by decide +kernel
theorem dL_at_15 : decode cL_at 15 = .ok (.iconst 1, 1) := by decide +kernel
theorem dL_at_16 : decode cL_at 16 = .ok (.iadd, 1) := by decide +kernel
theorem dL_at_17 : decode cL_at 17 = .ok (.imul, 1) := by decide +kernel
theorem dL_at_18 : decode cL_at 18 = .ok (.ldc 8, 2) := by decide +kernel
theorem dL_at_20 : decode cL_at 20 = .ok (.iadd, 1) := by decide +kernel
theorem dL_at_21 : decode cL_at 21 = .ok (.ireturn, 1) := by decide +kernel
theorem dL_low_0 : decode cL_low 0 = .ok (.iload_n 0, 1) := by decide +kernel
theorem dL_low_1 : decode cL_low 1 = .ok (.ldc 9, 2) := by decide +kernel
theorem dL_low_3 : decode cL_low 3 = .ok (.iand, 1) := by decide +kernel
theorem dL_low_4 : decode cL_low 4 = .ok (.iload_n 1, 1) := by decide +kernel
theorem dL_low_5 : decode cL_low 5 = .ok (.irem, 1) := by decide +kernel
theorem dL_low_6 : decode cL_low 6 = .ok (.ireturn, 1) := by decide +kernel
set_option maxRecDepth 20000 in
theorem ggL_addBreak_X0_addBreak : GoodIn wsL_addBreak wsX0_addBreak := goodIn_ca (goodIn_ca (goodIn_r _ [9, 10, 11, 12, 13, 8, 14, 15, 16, 17, 18, 19, 20, 21, 22, 23, 24, 25, 26, 27, 28, 29, 30, 31, 32, 33, 34, 35, 36, 37, 38, 39, 40, 41, 42] (by decide +kernel) (by decide +kernel)) (goodIn_sub (fun _ h => List.mem_cons_of_mem _ (List.mem_append_left _ (List.mem_append_right _ h))) (by decide +kernel))) (goodIn_sub (fun _ h => List.mem_cons_of_mem _ (List.mem_append_right _ h)) (by decide +kernel))
set_option maxRecDepth 20000 in
theorem gL_addBreak_X0_addBreak : GoodIn wsL_addBreak (wsV RL 10 RX0 yX0_addBreak wsX0_addBreak) := goodIn_app (goodIn_of _ (by decide +kernel)) ggL_addBreak_X0_addBreak
theorem dL_addBreak_0 : decode cL_addBreak 0 = .ok (.aload_n 0, 1) := by decide +kernel
theorem dL_addBreak_1 : decode cL_addBreak 1 = .ok (.iload_n 1, 1) := by decide +kernel
theorem dL_addBreak_2 : decode cL_addBreak 2 = .ok (.invokevirtual 10, 3) := by decide +kernel
theorem dL_addBreak_5 : decode cL_addBreak 5 = .ok (.ireturn, 1) := by decide +kernel
theorem dL_addBreak_6 : decode cL_addBreak 6 = .ok (.astore_n 2, 1) := by decide +kernel
theorem dL_addBreak_7 : decode cL_addBreak 7 = .ok (.ldc 18, 2) := by decide +kernel
theorem dL_addBreak_9 : decode cL_addBreak 9 = .ok (.ireturn, 1) := by decide +kernel
theorem dL_addBreak_10 : decode cL_addBreak 10 = .ok (.astore_n 2, 1) := by decide +kernel
theorem dL_addBreak_11 : decode cL_addBreak 11 = .ok (.ldc 21, 2) := by decide +kernel
theorem dL_addBreak_13 : decode cL_addBreak 13 = .ok (.ireturn, 1) := by decide +kernel
set_option maxRecDepth 20000 in
theorem ggL_rate_X0_rate : GoodIn wsL_rate wsX0_rate := goodIn_ca (goodIn_ca (goodIn_r _ [9, 10, 11, 12, 13, 14, 8, 15, 16, 17, 18, 19, 20, 21, 22, 23, 24, 25, 26, 27, 28, 29, 30, 31, 32, 33, 34, 35, 36, 37, 38, 39, 40, 41, 42, 43, 44, 45, 46, 47, 48, 49, 50, 51, 52, 53] (by decide +kernel) (by decide +kernel)) (goodIn_sub (fun _ h => List.mem_cons_of_mem _ (List.mem_append_left _ (List.mem_append_right _ h))) (by decide +kernel))) (goodIn_sub (fun _ h => List.mem_cons_of_mem _ (List.mem_append_right _ h)) (by decide +kernel))
set_option maxRecDepth 20000 in
theorem gL_rate_X0_rate : GoodIn wsL_rate (wsV RL 22 RX0 yX0_rate wsX0_rate) := goodIn_app (goodIn_of _ (by decide +kernel)) ggL_rate_X0_rate
theorem dL_rate_0 : decode cL_rate 0 = .ok (.aload_n 0, 1) := by decide +kernel
theorem dL_rate_1 : decode cL_rate 1 = .ok (.iload_n 1, 1) := by decide +kernel
theorem dL_rate_2 : decode cL_rate 2 = .ok (.iload_n 2, 1) := by decide +kernel
theorem dL_rate_3 : decode cL_rate 3 = .ok (.iload_n 3, 1) := by decide +kernel
theorem dL_rate_4 : decode cL_rate 4 = .ok (.invokevirtual 22, 3) := by decide +kernel
theorem dL_rate_7 : decode cL_rate 7 = .ok (.ireturn, 1) := by decide +kernel
theorem dL_rate_8 : decode cL_rate 8 = .ok (.astore 4, 2) := by decide +kernel
theorem dL_rate_10 : decode cL_rate 10 = .ok (.ldc 28, 2) := by decide +kernel
theorem dL_rate_12 : decode cL_rate 12 = .ok (.ireturn, 1) := by decide +kernel
theorem dL_rate_13 : decode cL_rate 13 = .ok (.astore 4, 2) := by decide +kernel
theorem dL_rate_15 : decode cL_rate 15 = .ok (.ldc 18, 2) := by decide +kernel
theorem dL_rate_17 : decode cL_rate 17 = .ok (.ireturn, 1) := by decide +kernel
set_option maxRecDepth 20000 in
theorem ggL_air_X0_air : GoodIn wsL_air wsX0_air := goodIn_ca (goodIn_ca (goodIn_r _ [9, 10, 11, 12, 13, 14, 15, 16, 8, 17, 18, 19, 20, 21, 22, 23, 24, 25, 26, 27, 28, 29, 30, 31, 32, 33, 34, 35, 36, 37, 38, 39, 40, 41, 42, 43, 44, 45, 46] (by decide +kernel) (by decide +kernel)) (goodIn_sub (fun _ h => List.mem_cons_of_mem _ (List.mem_append_left _ (List.mem_append_right _ h))) (by decide +kernel))) (goodIn_sub (fun _ h => List.mem_cons_of_mem _ (List.mem_append_right _ h)) (by decide +kernel))
set_option maxRecDepth 20000 in
theorem gL_air_X0_air : GoodIn wsL_air (wsV RL 29 RX0 yX0_air wsX0_air) := goodIn_app (goodIn_of _ (by decide +kernel)) ggL_air_X0_air
theorem dL_air_0 : decode cL_air 0 = .ok (.aload_n 0, 1) := by decide +kernel
theorem dL_air_1 : decode cL_air 1 = .ok (.iload_n 1, 1) := by decide +kernel
theorem dL_air_2 : decode cL_air 2 = .ok (.invokevirtual 29, 3) := by decide +kernel
theorem dL_air_5 : decode cL_air 5 = .ok (.ireturn, 1) := by decide +kernel
theorem dL_air_6 : decode cL_air 6 = .ok (.astore_n 2, 1) := by decide +kernel
theorem dL_air_7 : decode cL_air 7 = .ok (.ldc 28, 2) := by decide +kernel
theorem dL_air_9 : decode cL_air 9 = .ok (.ireturn, 1) := by decide +kernel
theorem dL_air_10 : decode cL_air 10 = .ok (.astore_n 2, 1) := by decide +kernel
theorem dL_air_11 : decode cL_air 11 = .ok (.ldc 21, 2) := by decide +kernel
theorem dL_air_13 : decode cL_air 13 = .ok (.ireturn, 1) := by decide +kernel
set_option maxRecDepth 20000 in
theorem ggL_isAired_X0_isAired : GoodIn wsL_isAired wsX0_isAired := goodIn_ca (goodIn_r _ [7, 8, 9, 10, 11, 6, 12, 13, 14, 15, 16, 17, 18, 19, 20, 21, 22, 23, 24, 25, 26, 27, 28, 29, 30, 31, 32, 33, 34, 35, 36] (by decide +kernel) (by decide +kernel)) (goodIn_sub (fun _ h => List.mem_cons_of_mem _ (List.mem_append_right _ h)) (by decide +kernel))
set_option maxRecDepth 20000 in
theorem gL_isAired_X0_isAired : GoodIn wsL_isAired (wsV RL 32 RX0 yX0_isAired wsX0_isAired) := goodIn_app (goodIn_of _ (by decide +kernel)) ggL_isAired_X0_isAired
theorem dL_isAired_0 : decode cL_isAired 0 = .ok (.aload_n 0, 1) := by decide +kernel
theorem dL_isAired_1 : decode cL_isAired 1 = .ok (.iload_n 1, 1) := by decide +kernel
theorem dL_isAired_2 : decode cL_isAired 2 = .ok (.invokevirtual 32, 3) := by decide +kernel
theorem dL_isAired_5 : decode cL_isAired 5 = .ok (.ifCond .eq 7, 3) := by decide +kernel
theorem dL_isAired_8 : decode cL_isAired 8 = .ok (.iconst 1, 1) := by decide +kernel
theorem dL_isAired_9 : decode cL_isAired 9 = .ok (.goto 4, 3) := by decide +kernel
theorem dL_isAired_12 : decode cL_isAired 12 = .ok (.iconst 0, 1) := by decide +kernel
theorem dL_isAired_13 : decode cL_isAired 13 = .ok (.ireturn, 1) := by decide +kernel
theorem dL_isAired_14 : decode cL_isAired 14 = .ok (.astore_n 2, 1) := by decide +kernel
theorem dL_isAired_15 : decode cL_isAired 15 = .ok (.ldc 28, 2) := by decide +kernel
theorem dL_isAired_17 : decode cL_isAired 17 = .ok (.ireturn, 1) := by decide +kernel
set_option maxRecDepth 20000 in
theorem ggL_room_X0_room : GoodIn wsL_room wsX0_room := goodIn_ca (goodIn_r _ [7, 8, 9, 10, 6, 11, 12, 13, 14, 15, 16, 17, 18, 19, 20, 21, 22, 23, 24, 25, 26, 27, 28, 29, 30, 31, 32, 33, 34, 35, 36, 37, 38, 39, 40, 41, 42, 43, 44, 45, 46, 47, 48, 49] (by decide +kernel) (by decide +kernel)) (goodIn_sub (fun _ h => List.mem_cons_of_mem _ (List.mem_append_right _ h)) (by decide +kernel))
set_option maxRecDepth 20000 in
theorem gL_room_X0_room : GoodIn wsL_room (wsV RL 36 RX0 yX0_room wsX0_room) := goodIn_app (goodIn_of _ (by decide +kernel)) ggL_room_X0_room
theorem dL_room_0 : decode cL_room 0 = .ok (.aload_n 0, 1) := by decide +kernel
theorem dL_room_1 : decode cL_room 1 = .ok (.iload_n 1, 1) := by decide +kernel
theorem dL_room_2 : decode cL_room 2 = .ok (.invokevirtual 36, 3) := by decide +kernel
theorem dL_room_5 : decode cL_room 5 = .ok (.ireturn, 1) := by decide +kernel
theorem dL_room_6 : decode cL_room 6 = .ok (.astore_n 2, 1) := by decide +kernel
theorem dL_room_7 : decode cL_room 7 = .ok (.ldc 28, 2) := by decide +kernel
theorem dL_room_9 : decode cL_room 9 = .ok (.ireturn, 1) := by decide +kernel
set_option maxRecDepth 20000 in
theorem ggL_rating_X0_rating : GoodIn wsL_rating wsX0_rating := goodIn_ca (goodIn_ca (goodIn_r _ [9, 10, 11, 12, 13, 8, 14, 15, 16, 17, 18, 19, 20, 21, 22, 23, 24, 25, 26, 27, 28, 29, 30, 31, 32, 33, 34, 35, 36, 37, 38, 39, 40, 41, 42, 43, 44, 45, 46, 47, 48, 49, 50, 51, 52] (by decide +kernel) (by decide +kernel)) (goodIn_sub (fun _ h => List.mem_cons_of_mem _ (List.mem_append_left _ (List.mem_append_right _ h))) (by decide +kernel))) (goodIn_sub (fun _ h => List.mem_cons_of_mem _ (List.mem_append_right _ h)) (by decide +kernel))
set_option maxRecDepth 20000 in
theorem gL_rating_X0_rating : GoodIn wsL_rating (wsV RL 39 RX0 yX0_rating wsX0_rating) := goodIn_app (goodIn_of _ (by decide +kernel)) ggL_rating_X0_rating
theorem dL_rating_0 : decode cL_rating 0 = .ok (.aload_n 0, 1) := by decide +kernel
theorem dL_rating_1 : decode cL_rating 1 = .ok (.iload_n 1, 1) := by decide +kernel
theorem dL_rating_2 : decode cL_rating 2 = .ok (.iload_n 2, 1) := by decide +kernel
theorem dL_rating_3 : decode cL_rating 3 = .ok (.invokevirtual 39, 3) := by decide +kernel
theorem dL_rating_6 : decode cL_rating 6 = .ok (.ireturn, 1) := by decide +kernel
theorem dL_rating_7 : decode cL_rating 7 = .ok (.astore_n 3, 1) := by decide +kernel
theorem dL_rating_8 : decode cL_rating 8 = .ok (.ldc 28, 2) := by decide +kernel
theorem dL_rating_10 : decode cL_rating 10 = .ok (.ireturn, 1) := by decide +kernel
theorem dL_rating_11 : decode cL_rating 11 = .ok (.astore_n 3, 1) := by decide +kernel
theorem dL_rating_12 : decode cL_rating 12 = .ok (.ldc 18, 2) := by decide +kernel
theorem dL_rating_14 : decode cL_rating 14 = .ok (.ireturn, 1) := by decide +kernel
set_option maxRecDepth 20000 in
theorem ggL_addOrder_X0_addOrder : GoodIn wsL_addOrder wsX0_addOrder := goodIn_ca (goodIn_ca (goodIn_r _ [9, 10, 11, 12, 13, 14, 15, 16, 17, 18, 19, 20, 21, 8, 22, 23, 24, 25, 26, 27, 28, 29, 30, 31, 32, 33, 34, 35, 36, 37, 38, 39, 40, 41, 42, 43, 44, 45, 46, 47, 48, 49, 50, 51, 52, 53, 54, 55, 56, 57, 58, 59] (by decide +kernel) (by decide +kernel)) (goodIn_sub (fun _ h => List.mem_cons_of_mem _ (List.mem_append_left _ (List.mem_append_right _ h))) (by decide +kernel))) (goodIn_sub (fun _ h => List.mem_cons_of_mem _ (List.mem_append_right _ h)) (by decide +kernel))
set_option maxRecDepth 20000 in
theorem gL_addOrder_X0_addOrder : GoodIn wsL_addOrder (wsV RL 43 RX0 yX0_addOrder wsX0_addOrder) := goodIn_app (goodIn_of _ (by decide +kernel)) ggL_addOrder_X0_addOrder
theorem dL_addOrder_0 : decode cL_addOrder 0 = .ok (.aload_n 0, 1) := by decide +kernel
theorem dL_addOrder_1 : decode cL_addOrder 1 = .ok (.iload_n 1, 1) := by decide +kernel
theorem dL_addOrder_2 : decode cL_addOrder 2 = .ok (.iload_n 2, 1) := by decide +kernel
theorem dL_addOrder_3 : decode cL_addOrder 3 = .ok (.iload_n 3, 1) := by decide +kernel
theorem dL_addOrder_4 : decode cL_addOrder 4 = .ok (.iload 4, 2) := by decide +kernel
theorem dL_addOrder_6 : decode cL_addOrder 6 = .ok (.iload 5, 2) := by decide +kernel
theorem dL_addOrder_8 : decode cL_addOrder 8 = .ok (.iload 6, 2) := by decide +kernel
theorem dL_addOrder_10 : decode cL_addOrder 10 = .ok (.iload 7, 2) := by decide +kernel
theorem dL_addOrder_12 : decode cL_addOrder 12 = .ok (.invokevirtual 43, 3) := by decide +kernel
theorem dL_addOrder_15 : decode cL_addOrder 15 = .ok (.ireturn, 1) := by decide +kernel
theorem dL_addOrder_16 : decode cL_addOrder 16 = .ok (.astore 8, 2) := by decide +kernel
theorem dL_addOrder_18 : decode cL_addOrder 18 = .ok (.ldc 18, 2) := by decide +kernel
theorem dL_addOrder_20 : decode cL_addOrder 20 = .ok (.ireturn, 1) := by decide +kernel
theorem dL_addOrder_21 : decode cL_addOrder 21 = .ok (.astore 8, 2) := by decide +kernel
theorem dL_addOrder_23 : decode cL_addOrder 23 = .ok (.ldc 21, 2) := by decide +kernel
theorem dL_addOrder_25 : decode cL_addOrder 25 = .ok (.ireturn, 1) := by decide +kernel
set_option maxRecDepth 20000 in
theorem ggL_close_X0_close : GoodIn wsL_close wsX0_close := goodIn_ca (goodIn_ca (goodIn_r _ [9, 10, 11, 12, 13, 14, 15, 16, 8, 17, 18, 19, 20, 21, 22, 23, 24, 25, 26, 27, 28, 29, 30, 31, 32, 33, 34, 35, 36, 37, 38, 39, 40, 41, 42, 43, 44, 45, 46, 47, 48, 49, 50, 51, 52, 53, 54, 55, 56, 57, 58, 59, 60, 61, 62, 63, 64, 65, 66, 67, 68, 69] (by decide +kernel) (by decide +kernel)) (goodIn_sub (fun _ h => List.mem_cons_of_mem _ (List.mem_append_left _ (List.mem_append_right _ h))) (by decide +kernel))) (goodIn_sub (fun _ h => List.mem_cons_of_mem _ (List.mem_append_right _ h)) (by decide +kernel))
set_option maxRecDepth 20000 in
theorem gL_close_X0_close : GoodIn wsL_close (wsV RL 47 RX0 yX0_close wsX0_close) := goodIn_app (goodIn_of _ (by decide +kernel)) ggL_close_X0_close
theorem dL_close_0 : decode cL_close 0 = .ok (.aload_n 0, 1) := by decide +kernel
theorem dL_close_1 : decode cL_close 1 = .ok (.iload_n 1, 1) := by decide +kernel
theorem dL_close_2 : decode cL_close 2 = .ok (.invokevirtual 47, 3) := by decide +kernel
theorem dL_close_5 : decode cL_close 5 = .ok (.ireturn, 1) := by decide +kernel
theorem dL_close_6 : decode cL_close 6 = .ok (.astore_n 2, 1) := by decide +kernel
theorem dL_close_7 : decode cL_close 7 = .ok (.ldc 28, 2) := by decide +kernel
theorem dL_close_9 : decode cL_close 9 = .ok (.ireturn, 1) := by decide +kernel
theorem dL_close_10 : decode cL_close 10 = .ok (.astore_n 2, 1) := by decide +kernel
theorem dL_close_11 : decode cL_close 11 = .ok (.ldc 21, 2) := by decide +kernel
theorem dL_close_13 : decode cL_close 13 = .ok (.ireturn, 1) := by decide +kernel
set_option maxRecDepth 20000 in
theorem ggL_whyNot_X0_whyNot : GoodIn wsL_whyNot wsX0_whyNot := goodIn_ca (goodIn_r _ [7, 8, 9, 10, 6, 11, 12, 13, 14, 15, 16, 17, 18, 19, 20, 21, 22, 23, 24, 25, 26, 27, 28, 29, 30, 31, 32, 33, 34, 35, 36, 37, 38, 39, 40, 41, 42, 43, 44, 45, 46, 47, 48, 49, 50, 51, 52, 53, 54, 55, 56, 57, 58, 59, 60, 61, 62, 63, 64, 65, 66, 67, 68, 69, 70, 71, 72, 73, 74, 75, 76, 77, 78, 79, 80, 81, 82, 83] (by decide +kernel) (by decide +kernel)) (goodIn_sub (fun _ h => List.mem_cons_of_mem _ (List.mem_append_right _ h)) (by decide +kernel))
set_option maxRecDepth 20000 in
theorem gL_whyNot_X0_whyNot : GoodIn wsL_whyNot (wsV RL 50 RX0 yX0_whyNot wsX0_whyNot) := goodIn_app (goodIn_of _ (by decide +kernel)) ggL_whyNot_X0_whyNot
theorem dL_whyNot_0 : decode cL_whyNot 0 = .ok (.aload_n 0, 1) := by decide +kernel
theorem dL_whyNot_1 : decode cL_whyNot 1 = .ok (.iload_n 1, 1) := by decide +kernel
theorem dL_whyNot_2 : decode cL_whyNot 2 = .ok (.iload_n 2, 1) := by decide +kernel
theorem dL_whyNot_3 : decode cL_whyNot 3 = .ok (.invokevirtual 50, 3) := by decide +kernel
theorem dL_whyNot_6 : decode cL_whyNot 6 = .ok (.ireturn, 1) := by decide +kernel
theorem dL_whyNot_7 : decode cL_whyNot 7 = .ok (.astore_n 3, 1) := by decide +kernel
theorem dL_whyNot_8 : decode cL_whyNot 8 = .ok (.ldc 28, 2) := by decide +kernel
theorem dL_whyNot_10 : decode cL_whyNot 10 = .ok (.ireturn, 1) := by decide +kernel
set_option maxRecDepth 20000 in
theorem ggL_place_X0_place : GoodIn wsL_place wsX0_place := goodIn_ca (goodIn_ca (goodIn_r _ [9, 10, 11, 12, 13, 14, 8, 15, 16, 17, 18, 19, 20, 21, 22, 23, 24, 25, 26, 27, 28, 29, 30, 31, 32, 33, 34, 35, 36, 37, 38, 39, 40, 41, 42, 43, 44, 45, 46, 47, 48, 49, 50, 51, 52, 53, 54, 55, 56, 57, 58, 59, 60, 61, 62, 63, 64, 65, 66, 67, 68, 69, 70, 71, 72, 73, 74, 75, 76, 77, 78, 79, 80, 81, 82, 83, 84, 85, 86, 87, 88, 89, 90, 91, 92, 93, 94, 95, 96] (by decide +kernel) (by decide +kernel)) (goodIn_sub (fun _ h => List.mem_cons_of_mem _ (List.mem_append_left _ (List.mem_append_right _ h))) (by decide +kernel))) (goodIn_sub (fun _ h => List.mem_cons_of_mem _ (List.mem_append_right _ h)) (by decide +kernel))
set_option maxRecDepth 20000 in
theorem gL_place_X0_place : GoodIn wsL_place (wsV RL 53 RX0 yX0_place wsX0_place) := goodIn_app (goodIn_of _ (by decide +kernel)) ggL_place_X0_place
theorem dL_place_0 : decode cL_place 0 = .ok (.aload_n 0, 1) := by decide +kernel
theorem dL_place_1 : decode cL_place 1 = .ok (.iload_n 1, 1) := by decide +kernel
theorem dL_place_2 : decode cL_place 2 = .ok (.iload_n 2, 1) := by decide +kernel
theorem dL_place_3 : decode cL_place 3 = .ok (.invokevirtual 53, 3) := by decide +kernel
theorem dL_place_6 : decode cL_place 6 = .ok (.ireturn, 1) := by decide +kernel
theorem dL_place_7 : decode cL_place 7 = .ok (.astore_n 3, 1) := by decide +kernel
theorem dL_place_8 : decode cL_place 8 = .ok (.ldc 28, 2) := by decide +kernel
theorem dL_place_10 : decode cL_place 10 = .ok (.ireturn, 1) := by decide +kernel
theorem dL_place_11 : decode cL_place 11 = .ok (.astore_n 3, 1) := by decide +kernel
theorem dL_place_12 : decode cL_place 12 = .ok (.ldc 21, 2) := by decide +kernel
theorem dL_place_14 : decode cL_place 14 = .ok (.ireturn, 1) := by decide +kernel
set_option maxRecDepth 20000 in
theorem ggL_give_X0_give : GoodIn wsL_give wsX0_give := goodIn_ca (goodIn_ca (goodIn_r _ [9, 10, 11, 12, 13, 8, 14, 15, 16, 17, 18, 19, 20, 21, 22, 23, 24, 25, 26, 27, 28, 29, 30, 31, 32, 33, 34, 35, 36, 37, 38, 39, 40, 41, 42, 43, 44, 45, 46, 47, 48, 49, 50, 51, 52, 53, 54, 55, 56, 57, 58, 59, 60, 61, 62, 63, 64, 65, 66, 67, 68, 69, 70, 71, 72, 73, 74, 75, 76, 77, 78, 79, 80, 81, 82, 83, 84, 85, 86, 87, 88, 89, 90, 91, 92, 93, 94, 95, 96, 97, 98, 99, 100, 101, 102, 103, 104, 105, 106, 107, 108, 109, 110, 111, 112, 113] (by decide +kernel) (by decide +kernel)) (goodIn_sub (fun _ h => List.mem_cons_of_mem _ (List.mem_append_left _ (List.mem_append_right _ h))) (by decide +kernel))) (goodIn_sub (fun _ h => List.mem_cons_of_mem _ (List.mem_append_right _ h)) (by decide +kernel))
set_option maxRecDepth 20000 in
theorem gL_give_X0_give : GoodIn wsL_give (wsV RL 56 RX0 yX0_give wsX0_give) := goodIn_app (goodIn_of _ (by decide +kernel)) ggL_give_X0_give
theorem dL_give_0 : decode cL_give 0 = .ok (.aload_n 0, 1) := by decide +kernel
theorem dL_give_1 : decode cL_give 1 = .ok (.iload_n 1, 1) := by decide +kernel
theorem dL_give_2 : decode cL_give 2 = .ok (.iload_n 2, 1) := by decide +kernel
theorem dL_give_3 : decode cL_give 3 = .ok (.invokevirtual 56, 3) := by decide +kernel
theorem dL_give_6 : decode cL_give 6 = .ok (.ireturn, 1) := by decide +kernel
theorem dL_give_7 : decode cL_give 7 = .ok (.astore_n 3, 1) := by decide +kernel
theorem dL_give_8 : decode cL_give 8 = .ok (.ldc 28, 2) := by decide +kernel
theorem dL_give_10 : decode cL_give 10 = .ok (.ireturn, 1) := by decide +kernel
theorem dL_give_11 : decode cL_give 11 = .ok (.astore_n 3, 1) := by decide +kernel
theorem dL_give_12 : decode cL_give 12 = .ok (.ldc 21, 2) := by decide +kernel
theorem dL_give_14 : decode cL_give 14 = .ok (.ireturn, 1) := by decide +kernel
set_option maxRecDepth 20000 in
theorem ggL_fill_X0_fill : GoodIn wsL_fill wsX0_fill := goodIn_ca (goodIn_ca (goodIn_ca (goodIn_r _ [11, 12, 13, 14, 15, 16, 10, 17, 18, 19, 20, 21, 22, 23, 24, 25, 26, 27, 28, 29, 30, 31, 32, 33, 34, 35, 36, 37, 38, 39, 40, 41, 42, 43, 44, 45, 46, 47, 48, 49, 50, 51, 52, 53, 54, 55, 56, 57, 58, 59, 60, 61, 62, 63, 64, 65, 66, 67, 68, 69, 70, 71, 72, 73, 74, 75, 76, 77, 78, 79, 80, 81, 82, 83, 84, 85, 86, 87, 88, 89, 90, 91, 92, 93, 94, 95, 96, 97, 98, 99, 100, 101, 102, 103, 104, 105, 106, 107, 108, 109, 110, 111, 112, 113, 114, 115] (by decide +kernel) (by decide +kernel)) (goodIn_sub (fun _ h => List.mem_cons_of_mem _ (List.mem_append_left _ (List.mem_append_left _ (List.mem_append_right _ h)))) (by decide +kernel))) (goodIn_sub (fun _ h => List.mem_cons_of_mem _ (List.mem_append_left _ (List.mem_append_right _ h))) (by decide +kernel))) (goodIn_sub (fun _ h => List.mem_cons_of_mem _ (List.mem_append_right _ h)) (by decide +kernel))
set_option maxRecDepth 20000 in
theorem gL_fill_X0_fill : GoodIn wsL_fill (wsV RL 59 RX0 yX0_fill wsX0_fill) := goodIn_app (goodIn_of _ (by decide +kernel)) ggL_fill_X0_fill
theorem dL_fill_0 : decode cL_fill 0 = .ok (.aload_n 0, 1) := by decide +kernel
theorem dL_fill_1 : decode cL_fill 1 = .ok (.iload_n 1, 1) := by decide +kernel
theorem dL_fill_2 : decode cL_fill 2 = .ok (.iload_n 2, 1) := by decide +kernel
theorem dL_fill_3 : decode cL_fill 3 = .ok (.invokevirtual 59, 3) := by decide +kernel
theorem dL_fill_6 : decode cL_fill 6 = .ok (.ireturn, 1) := by decide +kernel
theorem dL_fill_7 : decode cL_fill 7 = .ok (.astore_n 3, 1) := by decide +kernel
theorem dL_fill_8 : decode cL_fill 8 = .ok (.ldc 28, 2) := by decide +kernel
theorem dL_fill_10 : decode cL_fill 10 = .ok (.ireturn, 1) := by decide +kernel
theorem dL_fill_11 : decode cL_fill 11 = .ok (.astore_n 3, 1) := by decide +kernel
theorem dL_fill_12 : decode cL_fill 12 = .ok (.ldc 18, 2) := by decide +kernel
theorem dL_fill_14 : decode cL_fill 14 = .ok (.ireturn, 1) := by decide +kernel
theorem dL_fill_15 : decode cL_fill 15 = .ok (.astore_n 3, 1) := by decide +kernel
theorem dL_fill_16 : decode cL_fill 16 = .ok (.ldc 21, 2) := by decide +kernel
theorem dL_fill_18 : decode cL_fill 18 = .ok (.ireturn, 1) := by decide +kernel
set_option maxRecDepth 20000 in
theorem ggL_move_X0_move : GoodIn wsL_move wsX0_move := goodIn_ca (goodIn_ca (goodIn_r _ [9, 10, 11, 12, 13, 14, 15, 8, 16, 17, 18, 19, 20, 21, 22, 23, 24, 25, 26, 27, 28, 29, 30, 31, 32, 33, 34, 35, 36, 37, 38, 39, 40, 41, 42, 43, 44, 45, 46, 47, 48, 49, 50, 51, 52, 53, 54, 55, 56, 57, 58, 59, 60, 61, 62, 63, 64, 65, 66, 67, 68, 69, 70, 71, 72, 73, 74, 75, 76, 77, 78, 79, 80, 81, 82, 83, 84, 85, 86, 87, 88, 89] (by decide +kernel) (by decide +kernel)) (goodIn_sub (fun _ h => List.mem_cons_of_mem _ (List.mem_append_left _ (List.mem_append_right _ h))) (by decide +kernel))) (goodIn_sub (fun _ h => List.mem_cons_of_mem _ (List.mem_append_right _ h)) (by decide +kernel))
set_option maxRecDepth 20000 in
theorem gL_move_X0_move : GoodIn wsL_move (wsV RL 62 RX0 yX0_move wsX0_move) := goodIn_app (goodIn_of _ (by decide +kernel)) ggL_move_X0_move
theorem dL_move_0 : decode cL_move 0 = .ok (.aload_n 0, 1) := by decide +kernel
theorem dL_move_1 : decode cL_move 1 = .ok (.iload_n 1, 1) := by decide +kernel
theorem dL_move_2 : decode cL_move 2 = .ok (.iload_n 2, 1) := by decide +kernel
theorem dL_move_3 : decode cL_move 3 = .ok (.invokevirtual 62, 3) := by decide +kernel
theorem dL_move_6 : decode cL_move 6 = .ok (.ireturn, 1) := by decide +kernel
theorem dL_move_7 : decode cL_move 7 = .ok (.astore_n 3, 1) := by decide +kernel
theorem dL_move_8 : decode cL_move 8 = .ok (.ldc 28, 2) := by decide +kernel
theorem dL_move_10 : decode cL_move 10 = .ok (.ireturn, 1) := by decide +kernel
theorem dL_move_11 : decode cL_move 11 = .ok (.astore_n 3, 1) := by decide +kernel
theorem dL_move_12 : decode cL_move 12 = .ok (.ldc 21, 2) := by decide +kernel
theorem dL_move_14 : decode cL_move 14 = .ok (.ireturn, 1) := by decide +kernel
set_option maxRecDepth 20000 in
theorem ggL_miss_X0_miss : GoodIn wsL_miss wsX0_miss := goodIn_ca (goodIn_ca (goodIn_r _ [9, 10, 11, 12, 13, 8, 14, 15, 16, 17, 18, 19, 20, 21, 22, 23, 24, 25, 26, 27, 28, 29, 30, 31, 32, 33, 34, 35, 36, 37, 38, 39, 40, 41, 42, 43, 44, 45, 46, 47] (by decide +kernel) (by decide +kernel)) (goodIn_sub (fun _ h => List.mem_cons_of_mem _ (List.mem_append_left _ (List.mem_append_right _ h))) (by decide +kernel))) (goodIn_sub (fun _ h => List.mem_cons_of_mem _ (List.mem_append_right _ h)) (by decide +kernel))
set_option maxRecDepth 20000 in
theorem gL_miss_X0_miss : GoodIn wsL_miss (wsV RL 65 RX0 yX0_miss wsX0_miss) := goodIn_app (goodIn_of _ (by decide +kernel)) ggL_miss_X0_miss
theorem dL_miss_0 : decode cL_miss 0 = .ok (.aload_n 0, 1) := by decide +kernel
theorem dL_miss_1 : decode cL_miss 1 = .ok (.iload_n 1, 1) := by decide +kernel
theorem dL_miss_2 : decode cL_miss 2 = .ok (.invokevirtual 65, 3) := by decide +kernel
theorem dL_miss_5 : decode cL_miss 5 = .ok (.ifCond .eq 7, 3) := by decide +kernel
theorem dL_miss_8 : decode cL_miss 8 = .ok (.iconst 1, 1) := by decide +kernel
theorem dL_miss_9 : decode cL_miss 9 = .ok (.goto 4, 3) := by decide +kernel
theorem dL_miss_12 : decode cL_miss 12 = .ok (.iconst 0, 1) := by decide +kernel
theorem dL_miss_13 : decode cL_miss 13 = .ok (.ireturn, 1) := by decide +kernel
theorem dL_miss_14 : decode cL_miss 14 = .ok (.astore_n 2, 1) := by decide +kernel
theorem dL_miss_15 : decode cL_miss 15 = .ok (.ldc 28, 2) := by decide +kernel
theorem dL_miss_17 : decode cL_miss 17 = .ok (.ireturn, 1) := by decide +kernel
theorem dL_miss_18 : decode cL_miss 18 = .ok (.astore_n 2, 1) := by decide +kernel
theorem dL_miss_19 : decode cL_miss 19 = .ok (.ldc 21, 2) := by decide +kernel
theorem dL_miss_21 : decode cL_miss 21 = .ok (.ireturn, 1) := by decide +kernel
set_option maxRecDepth 20000 in
theorem ggL_drop_X0_drop : GoodIn wsL_drop wsX0_drop := goodIn_ca (goodIn_ca (goodIn_r _ [9, 10, 11, 12, 13, 8, 14, 15, 16, 17, 18, 19, 20, 21, 22, 23, 24, 25, 26, 27, 28, 29, 30, 31, 32, 33, 34, 35, 36, 37, 38, 39, 40, 41, 42, 43] (by decide +kernel) (by decide +kernel)) (goodIn_sub (fun _ h => List.mem_cons_of_mem _ (List.mem_append_left _ (List.mem_append_right _ h))) (by decide +kernel))) (goodIn_sub (fun _ h => List.mem_cons_of_mem _ (List.mem_append_right _ h)) (by decide +kernel))
set_option maxRecDepth 20000 in
theorem gL_drop_X0_drop : GoodIn wsL_drop (wsV RL 68 RX0 yX0_drop wsX0_drop) := goodIn_app (goodIn_of _ (by decide +kernel)) ggL_drop_X0_drop
theorem dL_drop_0 : decode cL_drop 0 = .ok (.aload_n 0, 1) := by decide +kernel
theorem dL_drop_1 : decode cL_drop 1 = .ok (.iload_n 1, 1) := by decide +kernel
theorem dL_drop_2 : decode cL_drop 2 = .ok (.invokevirtual 68, 3) := by decide +kernel
theorem dL_drop_5 : decode cL_drop 5 = .ok (.iconst 0, 1) := by decide +kernel
theorem dL_drop_6 : decode cL_drop 6 = .ok (.ireturn, 1) := by decide +kernel
theorem dL_drop_7 : decode cL_drop 7 = .ok (.astore_n 2, 1) := by decide +kernel
theorem dL_drop_8 : decode cL_drop 8 = .ok (.ldc 28, 2) := by decide +kernel
theorem dL_drop_10 : decode cL_drop 10 = .ok (.ireturn, 1) := by decide +kernel
theorem dL_drop_11 : decode cL_drop 11 = .ok (.astore_n 2, 1) := by decide +kernel
theorem dL_drop_12 : decode cL_drop 12 = .ok (.ldc 21, 2) := by decide +kernel
theorem dL_drop_14 : decode cL_drop 14 = .ok (.ireturn, 1) := by decide +kernel
set_option maxRecDepth 20000 in
theorem ggL_stateOf_X0_stateOf : GoodIn wsL_stateOf wsX0_stateOf := goodIn_ca (goodIn_r _ [7, 8, 9, 10, 11, 6, 12, 13, 14, 15, 16, 17, 18, 19, 20, 21, 22, 23, 24, 25, 26, 27, 28, 29, 30, 31, 32, 33, 34, 35, 36] (by decide +kernel) (by decide +kernel)) (goodIn_sub (fun _ h => List.mem_cons_of_mem _ (List.mem_append_right _ h)) (by decide +kernel))
set_option maxRecDepth 20000 in
theorem gL_stateOf_X0_stateOf : GoodIn wsL_stateOf (wsV RL 72 RX0 yX0_stateOf wsX0_stateOf) := goodIn_app (goodIn_of _ (by decide +kernel)) ggL_stateOf_X0_stateOf
theorem dL_stateOf_0 : decode cL_stateOf 0 = .ok (.aload_n 0, 1) := by decide +kernel
theorem dL_stateOf_1 : decode cL_stateOf 1 = .ok (.iload_n 1, 1) := by decide +kernel
theorem dL_stateOf_2 : decode cL_stateOf 2 = .ok (.invokevirtual 72, 3) := by decide +kernel
theorem dL_stateOf_5 : decode cL_stateOf 5 = .ok (.ireturn, 1) := by decide +kernel
theorem dL_stateOf_6 : decode cL_stateOf 6 = .ok (.astore_n 2, 1) := by decide +kernel
theorem dL_stateOf_7 : decode cL_stateOf 7 = .ok (.ldc 28, 2) := by decide +kernel
theorem dL_stateOf_9 : decode cL_stateOf 9 = .ok (.ireturn, 1) := by decide +kernel
set_option maxRecDepth 20000 in
theorem ggL_breakOf_X0_breakOf : GoodIn wsL_breakOf wsX0_breakOf := goodIn_ca (goodIn_r _ [7, 8, 9, 10, 11, 6, 12, 13, 14, 15, 16, 17, 18, 19, 20, 21, 22, 23, 24, 25, 26, 27, 28, 29, 30, 31, 32, 33, 34, 35, 36] (by decide +kernel) (by decide +kernel)) (goodIn_sub (fun _ h => List.mem_cons_of_mem _ (List.mem_append_right _ h)) (by decide +kernel))
set_option maxRecDepth 20000 in
theorem gL_breakOf_X0_breakOf : GoodIn wsL_breakOf (wsV RL 75 RX0 yX0_breakOf wsX0_breakOf) := goodIn_app (goodIn_of _ (by decide +kernel)) ggL_breakOf_X0_breakOf
theorem dL_breakOf_0 : decode cL_breakOf 0 = .ok (.aload_n 0, 1) := by decide +kernel
theorem dL_breakOf_1 : decode cL_breakOf 1 = .ok (.iload_n 1, 1) := by decide +kernel
theorem dL_breakOf_2 : decode cL_breakOf 2 = .ok (.invokevirtual 75, 3) := by decide +kernel
theorem dL_breakOf_5 : decode cL_breakOf 5 = .ok (.ireturn, 1) := by decide +kernel
theorem dL_breakOf_6 : decode cL_breakOf 6 = .ok (.astore_n 2, 1) := by decide +kernel
theorem dL_breakOf_7 : decode cL_breakOf 7 = .ok (.ldc 28, 2) := by decide +kernel
theorem dL_breakOf_9 : decode cL_breakOf 9 = .ok (.ireturn, 1) := by decide +kernel
set_option maxRecDepth 20000 in
theorem ggL_delivered_X0_delivered : GoodIn wsL_delivered wsX0_delivered := goodIn_ca (goodIn_r _ [7, 8, 9, 10, 6, 11, 12, 13, 14, 15, 16, 17, 18, 19, 20, 21, 22, 23, 24, 25, 26, 27, 28, 29, 30, 31, 32, 33, 34, 35, 36, 37, 38, 39, 40, 41, 42, 43, 44, 45, 46, 47, 48, 49, 50, 51, 52] (by decide +kernel) (by decide +kernel)) (goodIn_sub (fun _ h => List.mem_cons_of_mem _ (List.mem_append_right _ h)) (by decide +kernel))
set_option maxRecDepth 20000 in
theorem gL_delivered_X0_delivered : GoodIn wsL_delivered (wsV RL 78 RX0 yX0_delivered wsX0_delivered) := goodIn_app (goodIn_of _ (by decide +kernel)) ggL_delivered_X0_delivered
theorem dL_delivered_0 : decode cL_delivered 0 = .ok (.aload_n 0, 1) := by decide +kernel
theorem dL_delivered_1 : decode cL_delivered 1 = .ok (.iload_n 1, 1) := by decide +kernel
theorem dL_delivered_2 : decode cL_delivered 2 = .ok (.invokevirtual 78, 3) := by decide +kernel
theorem dL_delivered_5 : decode cL_delivered 5 = .ok (.ireturn, 1) := by decide +kernel
theorem dL_delivered_6 : decode cL_delivered 6 = .ok (.astore_n 2, 1) := by decide +kernel
theorem dL_delivered_7 : decode cL_delivered 7 = .ok (.ldc 28, 2) := by decide +kernel
theorem dL_delivered_9 : decode cL_delivered 9 = .ok (.ireturn, 1) := by decide +kernel
set_option maxRecDepth 20000 in
theorem ggL_owed_X0_owed : GoodIn wsL_owed wsX0_owed := goodIn_ca (goodIn_r _ [7, 8, 9, 10, 6, 11, 12, 13, 14, 15, 16, 17, 18, 19, 20, 21, 22, 23, 24, 25, 26, 27, 28, 29, 30, 31, 32, 33, 34, 35, 36, 37, 38, 39, 40, 41, 42, 43, 44, 45, 46, 47, 48, 49, 50, 51, 52, 53, 54, 55, 56, 57, 58, 59, 60, 61, 62] (by decide +kernel) (by decide +kernel)) (goodIn_sub (fun _ h => List.mem_cons_of_mem _ (List.mem_append_right _ h)) (by decide +kernel))
set_option maxRecDepth 20000 in
theorem gL_owed_X0_owed : GoodIn wsL_owed (wsV RL 81 RX0 yX0_owed wsX0_owed) := goodIn_app (goodIn_of _ (by decide +kernel)) ggL_owed_X0_owed
theorem dL_owed_0 : decode cL_owed 0 = .ok (.aload_n 0, 1) := by decide +kernel
theorem dL_owed_1 : decode cL_owed 1 = .ok (.iload_n 1, 1) := by decide +kernel
theorem dL_owed_2 : decode cL_owed 2 = .ok (.invokevirtual 81, 3) := by decide +kernel
theorem dL_owed_5 : decode cL_owed 5 = .ok (.ireturn, 1) := by decide +kernel
theorem dL_owed_6 : decode cL_owed 6 = .ok (.astore_n 2, 1) := by decide +kernel
theorem dL_owed_7 : decode cL_owed 7 = .ok (.ldc 28, 2) := by decide +kernel
theorem dL_owed_9 : decode cL_owed 9 = .ok (.ireturn, 1) := by decide +kernel
set_option maxRecDepth 20000 in
theorem ggL_rest_X0_rest : GoodIn wsL_rest wsX0_rest := goodIn_ca (goodIn_r _ [7, 8, 9, 10, 6, 11, 12, 13, 14, 15, 16, 17, 18, 19, 20, 21, 22, 23, 24, 25, 26, 27, 28, 29, 30, 31, 32, 33, 34, 35, 36, 37, 38, 39, 40, 41, 42, 43, 44, 45, 46, 47, 48, 49, 50, 51, 52, 53, 54, 55, 56, 57, 58, 59, 60, 61, 62, 63, 64, 65, 66, 67] (by decide +kernel) (by decide +kernel)) (goodIn_sub (fun _ h => List.mem_cons_of_mem _ (List.mem_append_right _ h)) (by decide +kernel))
set_option maxRecDepth 20000 in
theorem gL_rest_X0_rest : GoodIn wsL_rest (wsV RL 84 RX0 yX0_rest wsX0_rest) := goodIn_app (goodIn_of _ (by decide +kernel)) ggL_rest_X0_rest
theorem dL_rest_0 : decode cL_rest 0 = .ok (.aload_n 0, 1) := by decide +kernel
theorem dL_rest_1 : decode cL_rest 1 = .ok (.iload_n 1, 1) := by decide +kernel
theorem dL_rest_2 : decode cL_rest 2 = .ok (.invokevirtual 84, 3) := by decide +kernel
theorem dL_rest_5 : decode cL_rest 5 = .ok (.ireturn, 1) := by decide +kernel
theorem dL_rest_6 : decode cL_rest 6 = .ok (.astore_n 2, 1) := by decide +kernel
theorem dL_rest_7 : decode cL_rest 7 = .ok (.ldc 28, 2) := by decide +kernel
theorem dL_rest_9 : decode cL_rest 9 = .ok (.ireturn, 1) := by decide +kernel
set_option maxRecDepth 20000 in
theorem ggL_bill_X0_bill : GoodIn wsL_bill wsX0_bill := goodIn_ca (goodIn_r _ [7, 8, 9, 10, 6, 11, 12, 13, 14, 15, 16, 17, 18, 19, 20, 21, 22, 23, 24, 25, 26, 27, 28, 29, 30, 31, 32, 33, 34, 35, 36, 37, 38, 39, 40, 41, 42, 43, 44] (by decide +kernel) (by decide +kernel)) (goodIn_sub (fun _ h => List.mem_cons_of_mem _ (List.mem_append_right _ h)) (by decide +kernel))
set_option maxRecDepth 20000 in
theorem gL_bill_X0_bill : GoodIn wsL_bill (wsV RL 87 RX0 yX0_bill wsX0_bill) := goodIn_app (goodIn_of _ (by decide +kernel)) ggL_bill_X0_bill
theorem dL_bill_0 : decode cL_bill 0 = .ok (.aload_n 0, 1) := by decide +kernel
theorem dL_bill_1 : decode cL_bill 1 = .ok (.iload_n 1, 1) := by decide +kernel
theorem dL_bill_2 : decode cL_bill 2 = .ok (.invokevirtual 87, 3) := by decide +kernel
theorem dL_bill_5 : decode cL_bill 5 = .ok (.ireturn, 1) := by decide +kernel
theorem dL_bill_6 : decode cL_bill 6 = .ok (.astore_n 2, 1) := by decide +kernel
theorem dL_bill_7 : decode cL_bill 7 = .ok (.ldc 28, 2) := by decide +kernel
theorem dL_bill_9 : decode cL_bill 9 = .ok (.ireturn, 1) := by decide +kernel
set_option maxRecDepth 20000 in
theorem ggL_billTo_X0_billTo : GoodIn wsL_billTo wsX0_billTo := goodIn_ca (goodIn_r _ [7, 8, 9, 10, 11, 6, 12, 13, 14, 15, 16, 17, 18, 19, 20, 21, 22, 23, 24, 25, 26, 27, 28, 29, 30, 31, 32, 33, 34, 35, 36, 37, 38, 39, 40, 41, 42, 43, 44, 45, 46, 47] (by decide +kernel) (by decide +kernel)) (goodIn_sub (fun _ h => List.mem_cons_of_mem _ (List.mem_append_right _ h)) (by decide +kernel))
set_option maxRecDepth 20000 in
theorem gL_billTo_X0_billTo : GoodIn wsL_billTo (wsV RL 90 RX0 yX0_billTo wsX0_billTo) := goodIn_app (goodIn_of _ (by decide +kernel)) ggL_billTo_X0_billTo
theorem dL_billTo_0 : decode cL_billTo 0 = .ok (.aload_n 0, 1) := by decide +kernel
theorem dL_billTo_1 : decode cL_billTo 1 = .ok (.iload_n 1, 1) := by decide +kernel
theorem dL_billTo_2 : decode cL_billTo 2 = .ok (.invokevirtual 90, 3) := by decide +kernel
theorem dL_billTo_5 : decode cL_billTo 5 = .ok (.ireturn, 1) := by decide +kernel
theorem dL_billTo_6 : decode cL_billTo 6 = .ok (.astore_n 2, 1) := by decide +kernel
theorem dL_billTo_7 : decode cL_billTo 7 = .ok (.ldc 18, 2) := by decide +kernel
theorem dL_billTo_9 : decode cL_billTo 9 = .ok (.ireturn, 1) := by decide +kernel
set_option maxRecDepth 20000 in
theorem ggL_stands_L_stateOf : GoodIn wsL_stands wsL_stateOf := goodIn_ca (goodIn_r _ [4, 5, 6, 7, 8, 9, 10, 11, 12, 13, 14, 15, 16, 17, 18, 19, 20, 21, 22, 23, 24, 25, 26, 27, 28, 29, 30, 31, 32, 33, 34, 35, 36, 37, 38, 39, 40] (by decide +kernel) (by decide +kernel)) (goodIn_sub (fun _ h => List.mem_cons_of_mem _ (List.mem_append_right _ h)) (by decide +kernel))
set_option maxRecDepth 20000 in
theorem gL_stands_L_stateOf : GoodIn wsL_stands (va_wsS RL 93 yL_stateOf wsL_stateOf) := goodIn_app (goodIn_of _ (by decide +kernel)) ggL_stands_L_stateOf
theorem dL_stands_0 : decode cL_stands 0 = .ok (.aload_n 0, 1) := by decide +kernel
theorem dL_stands_1 : decode cL_stands 1 = .ok (.iload_n 1, 1) := by decide +kernel
theorem dL_stands_2 : decode cL_stands 2 = .ok (.invokestatic 93, 3) := by decide +kernel
theorem dL_stands_5 : decode cL_stands 5 = .ok (.ifCond .eq 12, 3) := by decide +kernel
theorem dL_stands_8 : decode cL_stands 8 = .ok (.aload_n 0, 1) := by decide +kernel
theorem dL_stands_9 : decode cL_stands 9 = .ok (.iload_n 1, 1) := by decide +kernel
theorem dL_stands_10 : decode cL_stands 10 = .ok (.invokestatic 93, 3) := by decide +kernel
theorem dL_stands_13 : decode cL_stands 13 = .ok (.iconst 1, 1) := by decide +kernel
theorem dL_stands_14 : decode cL_stands 14 = .ok (.if_icmp .ne 7, 3) := by decide +kernel
theorem dL_stands_17 : decode cL_stands 17 = .ok (.iconst 1, 1) := by decide +kernel
theorem dL_stands_18 : decode cL_stands 18 = .ok (.goto 4, 3) := by decide +kernel
theorem dL_stands_21 : decode cL_stands 21 = .ok (.iconst 0, 1) := by decide +kernel
theorem dL_stands_22 : decode cL_stands 22 = .ok (.ireturn, 1) := by decide +kernel
set_option maxRecDepth 20000 in
theorem ggL_breaks_L_stands : GoodIn wsL_breaks wsL_stands := goodIn_ca (goodIn_r _ [5, 6, 7, 4, 8, 9, 1, 10, 11, 12, 13, 14, 15, 16, 17, 18, 19, 20, 21, 22, 23, 24, 25, 78, 79, 80, 81, 82, 83, 84, 85, 86, 87, 88, 89, 90, 91, 92, 93, 94, 95] (by decide +kernel) (by decide +kernel)) (goodIn_sub (fun _ h => List.mem_cons_of_mem _ (List.mem_append_right _ h)) (by decide +kernel))
set_option maxRecDepth 20000 in
theorem gL_breaks_L_stands : GoodIn wsL_breaks (va_wsS RL 98 yL_stands wsL_stands) := goodIn_app (goodIn_of _ (by decide +kernel)) ggL_breaks_L_stands
set_option maxRecDepth 20000 in
theorem ggL_breaks_L_breakOf : GoodIn wsL_breaks wsL_breakOf := goodIn_ca (goodIn_r _ [28, 9, 1, 29, 30, 31, 13, 32, 33, 16, 17, 18, 19, 20, 21, 22, 23, 24, 25, 78, 79, 80, 81, 82, 83, 84, 85, 86, 87, 88, 89, 90, 91, 92, 93, 94, 95] (by decide +kernel) (by decide +kernel)) (goodIn_sub (fun _ h => List.mem_cons_of_mem _ (List.mem_append_right _ h)) (by decide +kernel))
set_option maxRecDepth 20000 in
theorem gL_breaks_L_breakOf : GoodIn wsL_breaks (va_wsS RL 102 yL_breakOf wsL_breakOf) := goodIn_app (goodIn_of _ (by decide +kernel)) ggL_breaks_L_breakOf
set_option maxRecDepth 20000 in
theorem ggL_breaks_L_room : GoodIn wsL_breaks wsL_room := goodIn_ca (goodIn_r _ [36, 9, 1, 37, 38, 39, 13, 40, 41, 42, 43, 44, 45, 21, 22, 23, 24, 25, 46, 47, 48, 49, 50, 20, 33, 51, 52, 53, 54, 55, 56, 15, 78, 79, 80, 81, 82, 83, 84, 85, 86, 87, 88, 89, 90, 91, 92, 93, 94, 95] (by decide +kernel) (by decide +kernel)) (goodIn_sub (fun _ h => List.mem_cons_of_mem _ (List.mem_append_right _ h)) (by decide +kernel))
set_option maxRecDepth 20000 in
theorem gL_breaks_L_room : GoodIn wsL_breaks (va_wsS RL 104 yL_room wsL_room) := goodIn_app (goodIn_of _ (by decide +kernel)) ggL_breaks_L_room
set_option maxRecDepth 20000 in
theorem ggL_breaks_L_stateOf : GoodIn wsL_breaks wsL_stateOf := goodIn_ca (goodIn_r _ [8, 9, 1, 10, 11, 12, 13, 14, 15, 16, 17, 18, 19, 20, 21, 22, 23, 24, 25, 78, 79, 80, 81, 82, 83, 84, 85, 86, 87, 88, 89, 90, 91, 92, 93, 94, 95] (by decide +kernel) (by decide +kernel)) (goodIn_sub (fun _ h => List.mem_cons_of_mem _ (List.mem_append_right _ h)) (by decide +kernel))
set_option maxRecDepth 20000 in
theorem gL_breaks_L_stateOf : GoodIn wsL_breaks (va_wsS RL 93 yL_stateOf wsL_stateOf) := goodIn_app (goodIn_of _ (by decide +kernel)) ggL_breaks_L_stateOf
set_option maxRecDepth 20000 in
theorem ggL_breaks_L_isAired : GoodIn wsL_breaks wsL_isAired := goodIn_ca (goodIn_r _ [59, 9, 1, 60, 61, 62, 13, 63, 64, 41, 42, 43, 44, 45, 21, 22, 23, 24, 25, 78, 79, 80, 81, 82, 83, 84, 85, 86, 87, 88, 89, 90, 91, 92, 93, 94, 95] (by decide +kernel) (by decide +kernel)) (goodIn_sub (fun _ h => List.mem_cons_of_mem _ (List.mem_append_right _ h)) (by decide +kernel))
set_option maxRecDepth 20000 in
theorem gL_breaks_L_isAired : GoodIn wsL_breaks (va_wsS RL 106 yL_isAired wsL_isAired) := goodIn_app (goodIn_of _ (by decide +kernel)) ggL_breaks_L_isAired
set_option maxRecDepth 20000 in
theorem ggL_breaks_X0_breaks : GoodIn wsL_breaks wsX0_breaks := goodIn_r _ [68, 45, 78, 79, 80, 81, 82, 83, 84, 85, 86, 87, 88, 89, 90, 91, 92, 93, 94, 95] (by decide +kernel) (by decide +kernel)
set_option maxRecDepth 20000 in
theorem gL_breaks_X0_breaks : GoodIn wsL_breaks (wsV RL 108 RX0 yX0_breaks wsX0_breaks) := goodIn_app (goodIn_of _ (by decide +kernel)) ggL_breaks_X0_breaks
set_option maxRecDepth 20000 in
theorem ggL_breaks_X0_orders : GoodIn wsL_breaks wsX0_orders := goodIn_r _ [72, 73, 78, 79, 80, 81, 82, 83, 84, 85, 86, 87, 88, 89, 90, 91, 92, 93, 94, 95] (by decide +kernel) (by decide +kernel)
set_option maxRecDepth 20000 in
theorem gL_breaks_X0_orders : GoodIn wsL_breaks (wsV RL 112 RX0 yX0_orders wsX0_orders) := goodIn_app (goodIn_of _ (by decide +kernel)) ggL_breaks_X0_orders
set_option maxRecDepth 20000 in
theorem ggL_breaks_X0_spots : GoodIn wsL_breaks wsX0_spots := goodIn_r _ [77, 20, 78, 79, 80, 81, 82, 83, 84, 85, 86, 87, 88, 89, 90, 91, 92, 93, 94, 95] (by decide +kernel) (by decide +kernel)
set_option maxRecDepth 20000 in
theorem gL_breaks_X0_spots : GoodIn wsL_breaks (wsV RL 115 RX0 yX0_spots wsX0_spots) := goodIn_app (goodIn_of _ (by decide +kernel)) ggL_breaks_X0_spots
theorem dL_breaks_0 : decode cL_breaks 0 = .ok (.iconst 0, 1) := by decide +kernel
theorem dL_breaks_1 : decode cL_breaks 1 = .ok (.istore 5, 2) := by decide +kernel
theorem dL_breaks_3 : decode cL_breaks 3 = .ok (.iload 5, 2) := by decide +kernel
theorem dL_breaks_5 : decode cL_breaks 5 = .ok (.aload 4, 2) := by decide +kernel
theorem dL_breaks_7 : decode cL_breaks 7 = .ok (.iconst 0, 1) := by decide +kernel
theorem dL_breaks_8 : decode cL_breaks 8 = .ok (.iaload, 1) := by decide +kernel
theorem dL_breaks_9 : decode cL_breaks 9 = .ok (.if_icmp .ge 94, 3) := by decide +kernel
theorem dL_breaks_12 : decode cL_breaks 12 = .ok (.aload_n 2, 1) := by decide +kernel
theorem dL_breaks_13 : decode cL_breaks 13 = .ok (.iload 5, 2) := by decide +kernel
theorem dL_breaks_15 : decode cL_breaks 15 = .ok (.iaload, 1) := by decide +kernel
theorem dL_breaks_16 : decode cL_breaks 16 = .ok (.istore 6, 2) := by decide +kernel
theorem dL_breaks_18 : decode cL_breaks 18 = .ok (.iconst 0, 1) := by decide +kernel
theorem dL_breaks_19 : decode cL_breaks 19 = .ok (.istore 7, 2) := by decide +kernel
theorem dL_breaks_21 : decode cL_breaks 21 = .ok (.iload 7, 2) := by decide +kernel
theorem dL_breaks_23 : decode cL_breaks 23 = .ok (.aload 4, 2) := by decide +kernel
theorem dL_breaks_25 : decode cL_breaks 25 = .ok (.iconst 2, 1) := by decide +kernel
theorem dL_breaks_26 : decode cL_breaks 26 = .ok (.iaload, 1) := by decide +kernel
theorem dL_breaks_27 : decode cL_breaks 27 = .ok (.if_icmp .ge 52, 3) := by decide +kernel
theorem dL_breaks_30 : decode cL_breaks 30 = .ok (.iload 6, 2) := by decide +kernel
theorem dL_breaks_32 : decode cL_breaks 32 = .ok (.aload_n 0, 1) := by decide +kernel
theorem dL_breaks_33 : decode cL_breaks 33 = .ok (.iload 7, 2) := by decide +kernel
theorem dL_breaks_35 : decode cL_breaks 35 = .ok (.invokestatic 98, 3) := by decide +kernel
theorem dL_breaks_38 : decode cL_breaks 38 = .ok (.ifCond .eq 31, 3) := by decide +kernel
theorem dL_breaks_41 : decode cL_breaks 41 = .ok (.aload_n 0, 1) := by decide +kernel
theorem dL_breaks_42 : decode cL_breaks 42 = .ok (.iload 7, 2) := by decide +kernel
theorem dL_breaks_44 : decode cL_breaks 44 = .ok (.invokestatic 102, 3) := by decide +kernel
theorem dL_breaks_47 : decode cL_breaks 47 = .ok (.iload 5, 2) := by decide +kernel
theorem dL_breaks_49 : decode cL_breaks 49 = .ok (.if_icmp .ne 20, 3) := by decide +kernel
theorem dL_breaks_52 : decode cL_breaks 52 = .ok (.aload_n 1, 1) := by decide +kernel
theorem dL_breaks_53 : decode cL_breaks 53 = .ok (.bipush 7, 2) := by decide +kernel
theorem dL_breaks_55 : decode cL_breaks 55 = .ok (.aload_n 3, 1) := by decide +kernel
theorem dL_breaks_56 : decode cL_breaks 56 = .ok (.iload 7, 2) := by decide +kernel
theorem dL_breaks_58 : decode cL_breaks 58 = .ok (.iaload, 1) := by decide +kernel
theorem dL_breaks_59 : decode cL_breaks 59 = .ok (.bipush 32, 2) := by decide +kernel
theorem dL_breaks_61 : decode cL_breaks 61 = .ok (.irem, 1) := by decide +kernel
theorem dL_breaks_62 : decode cL_breaks 62 = .ok (.imul, 1) := by decide +kernel
theorem dL_breaks_63 : decode cL_breaks 63 = .ok (.iconst 3, 1) := by decide +kernel
theorem dL_breaks_64 : decode cL_breaks 64 = .ok (.iadd, 1) := by decide +kernel
theorem dL_breaks_65 : decode cL_breaks 65 = .ok (.iaload, 1) := by decide +kernel
theorem dL_breaks_66 : decode cL_breaks 66 = .ok (.goto 4, 3) := by decide +kernel
theorem dL_breaks_69 : decode cL_breaks 69 = .ok (.iconst 0, 1) := by decide +kernel
theorem dL_breaks_70 : decode cL_breaks 70 = .ok (.isub, 1) := by decide +kernel
theorem dL_breaks_71 : decode cL_breaks 71 = .ok (.istore 6, 2) := by decide +kernel
theorem dL_breaks_73 : decode cL_breaks 73 = .ok (.iinc 7 1, 3) := by decide +kernel
theorem dL_breaks_76 : decode cL_breaks 76 = .ok (.goto (-55), 3) := by decide +kernel
theorem dL_breaks_79 : decode cL_breaks 79 = .ok (.aload_n 0, 1) := by decide +kernel
theorem dL_breaks_80 : decode cL_breaks 80 = .ok (.iload 5, 2) := by decide +kernel
theorem dL_breaks_82 : decode cL_breaks 82 = .ok (.invokestatic 104, 3) := by decide +kernel
theorem dL_breaks_85 : decode cL_breaks 85 = .ok (.iload 6, 2) := by decide +kernel
theorem dL_breaks_87 : decode cL_breaks 87 = .ok (.if_icmp .ne 8, 3) := by decide +kernel
theorem dL_breaks_90 : decode cL_breaks 90 = .ok (.iload 6, 2) := by decide +kernel
theorem dL_breaks_92 : decode cL_breaks 92 = .ok (.ifCond .ge 5, 3) := by decide +kernel
theorem dL_breaks_95 : decode cL_breaks 95 = .ok (.iconst 0, 1) := by decide +kernel
theorem dL_breaks_96 : decode cL_breaks 96 = .ok (.ireturn, 1) := by decide +kernel
theorem dL_breaks_97 : decode cL_breaks 97 = .ok (.iinc 5 1, 3) := by decide +kernel
theorem dL_breaks_100 : decode cL_breaks 100 = .ok (.goto (-97), 3) := by decide +kernel
theorem dL_breaks_103 : decode cL_breaks 103 = .ok (.iconst 0, 1) := by decide +kernel
theorem dL_breaks_104 : decode cL_breaks 104 = .ok (.istore 5, 2) := by decide +kernel
theorem dL_breaks_106 : decode cL_breaks 106 = .ok (.iload 5, 2) := by decide +kernel
theorem dL_breaks_108 : decode cL_breaks 108 = .ok (.aload 4, 2) := by decide +kernel
theorem dL_breaks_110 : decode cL_breaks 110 = .ok (.iconst 2, 1) := by decide +kernel
theorem dL_breaks_111 : decode cL_breaks 111 = .ok (.iaload, 1) := by decide +kernel
theorem dL_breaks_112 : decode cL_breaks 112 = .ok (.if_icmp .ge 250, 3) := by decide +kernel
theorem dL_breaks_115 : decode cL_breaks 115 = .ok (.aload_n 0, 1) := by decide +kernel
theorem dL_breaks_116 : decode cL_breaks 116 = .ok (.iload 5, 2) := by decide +kernel
theorem dL_breaks_118 : decode cL_breaks 118 = .ok (.invokestatic 102, 3) := by decide +kernel
theorem dL_breaks_121 : decode cL_breaks 121 = .ok (.istore 6, 2) := by decide +kernel
theorem dL_breaks_123 : decode cL_breaks 123 = .ok (.aload_n 0, 1) := by decide +kernel
theorem dL_breaks_124 : decode cL_breaks 124 = .ok (.iload 5, 2) := by decide +kernel
theorem dL_breaks_126 : decode cL_breaks 126 = .ok (.invokestatic 93, 3) := by decide +kernel
theorem dL_breaks_129 : decode cL_breaks 129 = .ok (.istore 7, 2) := by decide +kernel
theorem dL_breaks_131 : decode cL_breaks 131 = .ok (.iload 6, 2) := by decide +kernel
theorem dL_breaks_133 : decode cL_breaks 133 = .ok (.ifCond .lt 53, 3) := by decide +kernel
theorem dL_breaks_136 : decode cL_breaks 136 = .ok (.iload 6, 2) := by decide +kernel
theorem dL_breaks_138 : decode cL_breaks 138 = .ok (.aload 4, 2) := by decide +kernel
theorem dL_breaks_140 : decode cL_breaks 140 = .ok (.iconst 0, 1) := by decide +kernel
theorem dL_breaks_141 : decode cL_breaks 141 = .ok (.iaload, 1) := by decide +kernel
theorem dL_breaks_142 : decode cL_breaks 142 = .ok (.if_icmp .ge 44, 3) := by decide +kernel
theorem dL_breaks_145 : decode cL_breaks 145 = .ok (.iload 7, 2) := by decide +kernel
theorem dL_breaks_147 : decode cL_breaks 147 = .ok (.ifCond .lt 39, 3) := by decide +kernel
theorem dL_breaks_150 : decode cL_breaks 150 = .ok (.iload 7, 2) := by decide +kernel
theorem dL_breaks_152 : decode cL_breaks 152 = .ok (.iconst 3, 1) := by decide +kernel
theorem dL_breaks_153 : decode cL_breaks 153 = .ok (.if_icmp .gt 33, 3) := by decide +kernel
theorem dL_breaks_156 : decode cL_breaks 156 = .ok (.iload 7, 2) := by decide +kernel
theorem dL_breaks_158 : decode cL_breaks 158 = .ok (.ifCond .ne 12, 3) := by decide +kernel
theorem dL_breaks_161 : decode cL_breaks 161 = .ok (.aload_n 0, 1) := by decide +kernel
theorem dL_breaks_162 : decode cL_breaks 162 = .ok (.iload 6, 2) := by decide +kernel
theorem dL_breaks_164 : decode cL_breaks 164 = .ok (.invokestatic 106, 3) := by decide +kernel
theorem dL_breaks_167 : decode cL_breaks 167 = .ok (.ifCond .ne 19, 3) := by decide +kernel
theorem dL_breaks_170 : decode cL_breaks 170 = .ok (.iload 7, 2) := by decide +kernel
theorem dL_breaks_172 : decode cL_breaks 172 = .ok (.iconst 1, 1) := by decide +kernel
theorem dL_breaks_173 : decode cL_breaks 173 = .ok (.if_icmp .ne 15, 3) := by decide +kernel
theorem dL_breaks_176 : decode cL_breaks 176 = .ok (.aload_n 0, 1) := by decide +kernel
theorem dL_breaks_177 : decode cL_breaks 177 = .ok (.iload 6, 2) := by decide +kernel
theorem dL_breaks_179 : decode cL_breaks 179 = .ok (.invokestatic 106, 3) := by decide +kernel
theorem dL_breaks_182 : decode cL_breaks 182 = .ok (.iconst 1, 1) := by decide +kernel
theorem dL_breaks_183 : decode cL_breaks 183 = .ok (.if_icmp .eq 5, 3) := by decide +kernel
theorem dL_breaks_186 : decode cL_breaks 186 = .ok (.iconst 0, 1) := by decide +kernel
theorem dL_breaks_187 : decode cL_breaks 187 = .ok (.ireturn, 1) := by decide +kernel
theorem dL_breaks_188 : decode cL_breaks 188 = .ok (.iconst 0, 1) := by decide +kernel
theorem dL_breaks_189 : decode cL_breaks 189 = .ok (.istore 8, 2) := by decide +kernel
theorem dL_breaks_191 : decode cL_breaks 191 = .ok (.iload 8, 2) := by decide +kernel
theorem dL_breaks_193 : decode cL_breaks 193 = .ok (.iload 5, 2) := by decide +kernel
theorem dL_breaks_195 : decode cL_breaks 195 = .ok (.if_icmp .ge 161, 3) := by decide +kernel
theorem dL_breaks_198 : decode cL_breaks 198 = .ok (.aload_n 0, 1) := by decide +kernel
theorem dL_breaks_199 : decode cL_breaks 199 = .ok (.iload 5, 2) := by decide +kernel
theorem dL_breaks_201 : decode cL_breaks 201 = .ok (.invokestatic 98, 3) := by decide +kernel
theorem dL_breaks_204 : decode cL_breaks 204 = .ok (.ifCond .eq 146, 3) := by decide +kernel
theorem dL_breaks_207 : decode cL_breaks 207 = .ok (.aload_n 0, 1) := by decide +kernel
theorem dL_breaks_208 : decode cL_breaks 208 = .ok (.iload 8, 2) := by decide +kernel
theorem dL_breaks_210 : decode cL_breaks 210 = .ok (.invokestatic 98, 3) := by decide +kernel
theorem dL_breaks_213 : decode cL_breaks 213 = .ok (.ifCond .eq 137, 3) := by decide +kernel
theorem dL_breaks_216 : decode cL_breaks 216 = .ok (.iload 6, 2) := by decide +kernel
theorem dL_breaks_218 : decode cL_breaks 218 = .ok (.aload_n 0, 1) := by decide +kernel
theorem dL_breaks_219 : decode cL_breaks 219 = .ok (.iload 8, 2) := by decide +kernel
theorem dL_breaks_221 : decode cL_breaks 221 = .ok (.invokestatic 102, 3) := by decide +kernel
theorem dL_breaks_224 : decode cL_breaks 224 = .ok (.if_icmp .le 15, 3) := by decide +kernel
theorem dL_breaks_227 : decode cL_breaks 227 = .ok (.iload 6, 2) := by decide +kernel
theorem dL_breaks_229 : decode cL_breaks 229 = .ok (.aload_n 0, 1) := by decide +kernel
theorem dL_breaks_230 : decode cL_breaks 230 = .ok (.iload 8, 2) := by decide +kernel
theorem dL_breaks_232 : decode cL_breaks 232 = .ok (.invokestatic 102, 3) := by decide +kernel
theorem dL_breaks_235 : decode cL_breaks 235 = .ok (.isub, 1) := by decide +kernel
theorem dL_breaks_236 : decode cL_breaks 236 = .ok (.goto 12, 3) := by decide +kernel
theorem dL_breaks_239 : decode cL_breaks 239 = .ok (.aload_n 0, 1) := by decide +kernel
theorem dL_breaks_240 : decode cL_breaks 240 = .ok (.iload 8, 2) := by decide +kernel
theorem dL_breaks_242 : decode cL_breaks 242 = .ok (.invokestatic 102, 3) := by decide +kernel
theorem dL_breaks_245 : decode cL_breaks 245 = .ok (.iload 6, 2) := by decide +kernel
theorem dL_breaks_247 : decode cL_breaks 247 = .ok (.isub, 1) := by decide +kernel
theorem dL_breaks_248 : decode cL_breaks 248 = .ok (.istore 9, 2) := by decide +kernel
theorem dL_breaks_250 : decode cL_breaks 250 = .ok (.aload_n 1, 1) := by decide +kernel
theorem dL_breaks_251 : decode cL_breaks 251 = .ok (.bipush 7, 2) := by decide +kernel
theorem dL_breaks_253 : decode cL_breaks 253 = .ok (.aload_n 3, 1) := by decide +kernel
theorem dL_breaks_254 : decode cL_breaks 254 = .ok (.iload 5, 2) := by decide +kernel
theorem dL_breaks_256 : decode cL_breaks 256 = .ok (.iaload, 1) := by decide +kernel
theorem dL_breaks_257 : decode cL_breaks 257 = .ok (.bipush 32, 2) := by decide +kernel
theorem dL_breaks_259 : decode cL_breaks 259 = .ok (.irem, 1) := by decide +kernel
theorem dL_breaks_260 : decode cL_breaks 260 = .ok (.imul, 1) := by decide +kernel
theorem dL_breaks_261 : decode cL_breaks 261 = .ok (.iaload, 1) := by decide +kernel
theorem dL_breaks_262 : decode cL_breaks 262 = .ok (.aload_n 1, 1) := by decide +kernel
theorem dL_breaks_263 : decode cL_breaks 263 = .ok (.bipush 7, 2) := by decide +kernel
theorem dL_breaks_265 : decode cL_breaks 265 = .ok (.aload_n 3, 1) := by decide +kernel
theorem dL_breaks_266 : decode cL_breaks 266 = .ok (.iload 8, 2) := by decide +kernel
theorem dL_breaks_268 : decode cL_breaks 268 = .ok (.iaload, 1) := by decide +kernel
theorem dL_breaks_269 : decode cL_breaks 269 = .ok (.bipush 32, 2) := by decide +kernel
theorem dL_breaks_271 : decode cL_breaks 271 = .ok (.irem, 1) := by decide +kernel
theorem dL_breaks_272 : decode cL_breaks 272 = .ok (.imul, 1) := by decide +kernel
theorem dL_breaks_273 : decode cL_breaks 273 = .ok (.iaload, 1) := by decide +kernel
theorem dL_breaks_274 : decode cL_breaks 274 = .ok (.if_icmp .ne 7, 3) := by decide +kernel
theorem dL_breaks_277 : decode cL_breaks 277 = .ok (.iconst 1, 1) := by decide +kernel
theorem dL_breaks_278 : decode cL_breaks 278 = .ok (.goto 4, 3) := by decide +kernel
theorem dL_breaks_281 : decode cL_breaks 281 = .ok (.iconst 0, 1) := by decide +kernel
theorem dL_breaks_282 : decode cL_breaks 282 = .ok (.istore 10, 2) := by decide +kernel
theorem dL_breaks_284 : decode cL_breaks 284 = .ok (.aload_n 1, 1) := by decide +kernel
theorem dL_breaks_285 : decode cL_breaks 285 = .ok (.bipush 7, 2) := by decide +kernel
theorem dL_breaks_287 : decode cL_breaks 287 = .ok (.aload_n 3, 1) := by decide +kernel
theorem dL_breaks_288 : decode cL_breaks 288 = .ok (.iload 5, 2) := by decide +kernel
theorem dL_breaks_290 : decode cL_breaks 290 = .ok (.iaload, 1) := by decide +kernel
theorem dL_breaks_291 : decode cL_breaks 291 = .ok (.bipush 32, 2) := by decide +kernel
theorem dL_breaks_293 : decode cL_breaks 293 = .ok (.irem, 1) := by decide +kernel
theorem dL_breaks_294 : decode cL_breaks 294 = .ok (.imul, 1) := by decide +kernel
theorem dL_breaks_295 : decode cL_breaks 295 = .ok (.iconst 1, 1) := by decide +kernel
theorem dL_breaks_296 : decode cL_breaks 296 = .ok (.iadd, 1) := by decide +kernel
theorem dL_breaks_297 : decode cL_breaks 297 = .ok (.iaload, 1) := by decide +kernel
theorem dL_breaks_298 : decode cL_breaks 298 = .ok (.aload_n 1, 1) := by decide +kernel
theorem dL_breaks_299 : decode cL_breaks 299 = .ok (.bipush 7, 2) := by decide +kernel
theorem dL_breaks_301 : decode cL_breaks 301 = .ok (.aload_n 3, 1) := by decide +kernel
theorem dL_breaks_302 : decode cL_breaks 302 = .ok (.iload 8, 2) := by decide +kernel
theorem dL_breaks_304 : decode cL_breaks 304 = .ok (.iaload, 1) := by decide +kernel
theorem dL_breaks_305 : decode cL_breaks 305 = .ok (.bipush 32, 2) := by decide +kernel
theorem dL_breaks_307 : decode cL_breaks 307 = .ok (.irem, 1) := by decide +kernel
theorem dL_breaks_308 : decode cL_breaks 308 = .ok (.imul, 1) := by decide +kernel
theorem dL_breaks_309 : decode cL_breaks 309 = .ok (.iconst 1, 1) := by decide +kernel
theorem dL_breaks_310 : decode cL_breaks 310 = .ok (.iadd, 1) := by decide +kernel
theorem dL_breaks_311 : decode cL_breaks 311 = .ok (.iaload, 1) := by decide +kernel
theorem dL_breaks_312 : decode cL_breaks 312 = .ok (.if_icmp .ne 7, 3) := by decide +kernel
theorem dL_breaks_315 : decode cL_breaks 315 = .ok (.iconst 1, 1) := by decide +kernel
theorem dL_breaks_316 : decode cL_breaks 316 = .ok (.goto 4, 3) := by decide +kernel
theorem dL_breaks_319 : decode cL_breaks 319 = .ok (.iconst 0, 1) := by decide +kernel
theorem dL_breaks_320 : decode cL_breaks 320 = .ok (.istore 11, 2) := by decide +kernel
theorem dL_breaks_322 : decode cL_breaks 322 = .ok (.iload 10, 2) := by decide +kernel
theorem dL_breaks_324 : decode cL_breaks 324 = .ok (.ifCond .eq 8, 3) := by decide +kernel
theorem dL_breaks_327 : decode cL_breaks 327 = .ok (.iload 9, 2) := by decide +kernel
theorem dL_breaks_329 : decode cL_breaks 329 = .ok (.ifCond .eq 19, 3) := by decide +kernel
theorem dL_breaks_332 : decode cL_breaks 332 = .ok (.iload 10, 2) := by decide +kernel
theorem dL_breaks_334 : decode cL_breaks 334 = .ok (.ifCond .ne 16, 3) := by decide +kernel
theorem dL_breaks_337 : decode cL_breaks 337 = .ok (.iload 11, 2) := by decide +kernel
theorem dL_breaks_339 : decode cL_breaks 339 = .ok (.ifCond .eq 11, 3) := by decide +kernel
theorem dL_breaks_342 : decode cL_breaks 342 = .ok (.iload 9, 2) := by decide +kernel
theorem dL_breaks_344 : decode cL_breaks 344 = .ok (.iconst 2, 1) := by decide +kernel
theorem dL_breaks_345 : decode cL_breaks 345 = .ok (.if_icmp .ge 5, 3) := by decide +kernel
theorem dL_breaks_348 : decode cL_breaks 348 = .ok (.iconst 0, 1) := by decide +kernel
theorem dL_breaks_349 : decode cL_breaks 349 = .ok (.ireturn, 1) := by decide +kernel
theorem dL_breaks_350 : decode cL_breaks 350 = .ok (.iinc 8 1, 3) := by decide +kernel
theorem dL_breaks_353 : decode cL_breaks 353 = .ok (.goto (-162), 3) := by decide +kernel
theorem dL_breaks_356 : decode cL_breaks 356 = .ok (.iinc 5 1, 3) := by decide +kernel
theorem dL_breaks_359 : decode cL_breaks 359 = .ok (.goto (-253), 3) := by decide +kernel
theorem dL_breaks_362 : decode cL_breaks 362 = .ok (.aload_n 0, 1) := by decide +kernel
theorem dL_breaks_363 : decode cL_breaks 363 = .ok (.invokevirtual 108, 3) := by decide +kernel
theorem dL_breaks_366 : decode cL_breaks 366 = .ok (.aload 4, 2) := by decide +kernel
theorem dL_breaks_368 : decode cL_breaks 368 = .ok (.iconst 0, 1) := by decide +kernel
theorem dL_breaks_369 : decode cL_breaks 369 = .ok (.iaload, 1) := by decide +kernel
theorem dL_breaks_370 : decode cL_breaks 370 = .ok (.if_icmp .ne 75, 3) := by decide +kernel
theorem dL_breaks_373 : decode cL_breaks 373 = .ok (.aload_n 0, 1) := by decide +kernel
theorem dL_breaks_374 : decode cL_breaks 374 = .ok (.invokevirtual 112, 3) := by decide +kernel
theorem dL_breaks_377 : decode cL_breaks 377 = .ok (.aload 4, 2) := by decide +kernel
theorem dL_breaks_379 : decode cL_breaks 379 = .ok (.iconst 1, 1) := by decide +kernel
theorem dL_breaks_380 : decode cL_breaks 380 = .ok (.iaload, 1) := by decide +kernel
theorem dL_breaks_381 : decode cL_breaks 381 = .ok (.if_icmp .ne 64, 3) := by decide +kernel
theorem dL_breaks_384 : decode cL_breaks 384 = .ok (.aload_n 0, 1) := by decide +kernel
theorem dL_breaks_385 : decode cL_breaks 385 = .ok (.invokevirtual 115, 3) := by decide +kernel
theorem dL_breaks_388 : decode cL_breaks 388 = .ok (.aload 4, 2) := by decide +kernel
theorem dL_breaks_390 : decode cL_breaks 390 = .ok (.iconst 2, 1) := by decide +kernel
theorem dL_breaks_391 : decode cL_breaks 391 = .ok (.iaload, 1) := by decide +kernel
theorem dL_breaks_392 : decode cL_breaks 392 = .ok (.if_icmp .ne 53, 3) := by decide +kernel
theorem dL_breaks_395 : decode cL_breaks 395 = .ok (.aload_n 0, 1) := by decide +kernel
theorem dL_breaks_396 : decode cL_breaks 396 = .ok (.aload 4, 2) := by decide +kernel
theorem dL_breaks_398 : decode cL_breaks 398 = .ok (.iconst 0, 1) := by decide +kernel
theorem dL_breaks_399 : decode cL_breaks 399 = .ok (.iaload, 1) := by decide +kernel
theorem dL_breaks_400 : decode cL_breaks 400 = .ok (.invokestatic 104, 3) := by decide +kernel
theorem dL_breaks_403 : decode cL_breaks 403 = .ok (.ldc 28, 2) := by decide +kernel
theorem dL_breaks_405 : decode cL_breaks 405 = .ok (.if_icmp .ne 40, 3) := by decide +kernel
theorem dL_breaks_408 : decode cL_breaks 408 = .ok (.aload_n 0, 1) := by decide +kernel
theorem dL_breaks_409 : decode cL_breaks 409 = .ok (.iconst (-1), 1) := by decide +kernel
theorem dL_breaks_410 : decode cL_breaks 410 = .ok (.invokestatic 106, 3) := by decide +kernel
theorem dL_breaks_413 : decode cL_breaks 413 = .ok (.ldc 28, 2) := by decide +kernel
theorem dL_breaks_415 : decode cL_breaks 415 = .ok (.if_icmp .ne 30, 3) := by decide +kernel
theorem dL_breaks_418 : decode cL_breaks 418 = .ok (.aload_n 0, 1) := by decide +kernel
theorem dL_breaks_419 : decode cL_breaks 419 = .ok (.aload 4, 2) := by decide +kernel
theorem dL_breaks_421 : decode cL_breaks 421 = .ok (.iconst 2, 1) := by decide +kernel
theorem dL_breaks_422 : decode cL_breaks 422 = .ok (.iaload, 1) := by decide +kernel
theorem dL_breaks_423 : decode cL_breaks 423 = .ok (.invokestatic 93, 3) := by decide +kernel
theorem dL_breaks_426 : decode cL_breaks 426 = .ok (.ldc 28, 2) := by decide +kernel
theorem dL_breaks_428 : decode cL_breaks 428 = .ok (.if_icmp .ne 17, 3) := by decide +kernel
theorem dL_breaks_431 : decode cL_breaks 431 = .ok (.aload_n 0, 1) := by decide +kernel
theorem dL_breaks_432 : decode cL_breaks 432 = .ok (.iconst (-1), 1) := by decide +kernel
theorem dL_breaks_433 : decode cL_breaks 433 = .ok (.invokestatic 102, 3) := by decide +kernel
theorem dL_breaks_436 : decode cL_breaks 436 = .ok (.ldc 28, 2) := by decide +kernel
theorem dL_breaks_438 : decode cL_breaks 438 = .ok (.if_icmp .ne 7, 3) := by decide +kernel
theorem dL_breaks_441 : decode cL_breaks 441 = .ok (.iconst 1, 1) := by decide +kernel
theorem dL_breaks_442 : decode cL_breaks 442 = .ok (.goto 4, 3) := by decide +kernel
theorem dL_breaks_445 : decode cL_breaks 445 = .ok (.iconst 0, 1) := by decide +kernel
theorem dL_breaks_446 : decode cL_breaks 446 = .ok (.ireturn, 1) := by decide +kernel
set_option maxRecDepth 20000 in
theorem ggL_orders_L_breakOf : GoodIn wsL_orders wsL_breakOf := goodIn_ca (goodIn_r _ [6, 7, 2, 8, 9, 10, 11, 12, 13, 14, 15, 16, 17, 18, 19, 20, 21, 22, 23, 138, 139, 140, 141, 142, 143, 144, 145, 146, 147, 148, 149, 150, 151, 152, 153, 154, 155] (by decide +kernel) (by decide +kernel)) (goodIn_sub (fun _ h => List.mem_cons_of_mem _ (List.mem_append_left _ (List.mem_append_right _ h))) (by decide +kernel))
set_option maxRecDepth 20000 in
theorem gL_orders_L_breakOf : GoodIn wsL_orders (va_wsS RL 102 yL_breakOf wsL_breakOf) := goodIn_app (goodIn_of _ (by decide +kernel)) ggL_orders_L_breakOf
set_option maxRecDepth 20000 in
theorem ggL_orders_L_rating : GoodIn wsL_orders wsL_rating := goodIn_ca (goodIn_ca (goodIn_r _ [26, 7, 27, 2, 1, 28, 29, 30, 11, 31, 32, 33, 34, 35, 36, 37, 19, 20, 21, 22, 23, 38, 39, 40, 41, 42, 43, 44, 45, 46, 47, 48, 49, 50, 51, 138, 139, 140, 141, 142, 143, 144, 145, 146, 147, 148, 149, 150, 151, 152, 153, 154, 155] (by decide +kernel) (by decide +kernel)) (goodIn_sub (fun _ h => List.mem_cons_of_mem _ (List.mem_append_left _ (List.mem_append_right _ h))) (by decide +kernel))) (goodIn_sub (fun _ h => List.mem_cons_of_mem _ (List.mem_append_right _ h)) (by decide +kernel))
set_option maxRecDepth 20000 in
theorem gL_orders_L_rating : GoodIn wsL_orders (va_wsS RL 118 yL_rating wsL_rating) := goodIn_app (goodIn_of _ (by decide +kernel)) ggL_orders_L_rating
set_option maxRecDepth 20000 in
theorem ggL_orders_L_stateOf : GoodIn wsL_orders wsL_stateOf := goodIn_ca (goodIn_r _ [54, 7, 2, 55, 56, 57, 11, 58, 59, 14, 15, 16, 17, 18, 19, 20, 21, 22, 23, 138, 139, 140, 141, 142, 143, 144, 145, 146, 147, 148, 149, 150, 151, 152, 153, 154, 155] (by decide +kernel) (by decide +kernel)) (goodIn_sub (fun _ h => List.mem_cons_of_mem _ (List.mem_append_left _ (List.mem_append_right _ h))) (by decide +kernel))
set_option maxRecDepth 20000 in
theorem gL_orders_L_stateOf : GoodIn wsL_orders (va_wsS RL 93 yL_stateOf wsL_stateOf) := goodIn_app (goodIn_of _ (by decide +kernel)) ggL_orders_L_stateOf
set_option maxRecDepth 20000 in
theorem ggL_orders_L_delivered : GoodIn wsL_orders wsL_delivered := goodIn_ca (goodIn_r _ [62, 7, 2, 63, 64, 65, 11, 66, 67, 68, 69, 70, 71, 19, 20, 21, 22, 23, 72, 73, 74, 75, 18, 76, 59, 13, 77, 78, 79, 80, 32, 81, 49, 50, 51, 138, 139, 140, 141, 142, 143, 144, 145, 146, 147, 148, 149, 150, 151, 152, 153, 154, 155] (by decide +kernel) (by decide +kernel)) (goodIn_sub (fun _ h => List.mem_cons_of_mem _ (List.mem_append_left _ (List.mem_append_right _ h))) (by decide +kernel))
set_option maxRecDepth 20000 in
theorem gL_orders_L_delivered : GoodIn wsL_orders (va_wsS RL 121 yL_delivered wsL_delivered) := goodIn_app (goodIn_of _ (by decide +kernel)) ggL_orders_L_delivered
set_option maxRecDepth 20000 in
theorem ggL_orders_L_owed : GoodIn wsL_orders wsL_owed := goodIn_ca (goodIn_r _ [84, 7, 2, 85, 86, 87, 11, 88, 67, 68, 69, 70, 71, 19, 20, 21, 22, 23, 89, 90, 91, 92, 93, 94, 95, 96, 97, 98, 72, 73, 74, 75, 18, 76, 59, 13, 77, 78, 79, 80, 32, 81, 49, 50, 51, 138, 139, 140, 141, 142, 143, 144, 145, 146, 147, 148, 149, 150, 151, 152, 153, 154, 155] (by decide +kernel) (by decide +kernel)) (goodIn_sub (fun _ h => List.mem_cons_of_mem _ (List.mem_append_left _ (List.mem_append_right _ h))) (by decide +kernel))
set_option maxRecDepth 20000 in
theorem gL_orders_L_owed : GoodIn wsL_orders (va_wsS RL 123 yL_owed wsL_owed) := goodIn_app (goodIn_of _ (by decide +kernel)) ggL_orders_L_owed
set_option maxRecDepth 20000 in
theorem ggL_orders_L_rest : GoodIn wsL_orders wsL_rest := goodIn_ca (goodIn_r _ [101, 7, 2, 102, 103, 104, 11, 105, 67, 68, 69, 70, 71, 19, 20, 21, 22, 23, 106, 107, 108, 109, 18, 76, 110, 59, 13, 95, 96, 97, 98, 89, 90, 91, 92, 93, 94, 72, 73, 74, 75, 77, 78, 79, 80, 32, 81, 49, 50, 51, 138, 139, 140, 141, 142, 143, 144, 145, 146, 147, 148, 149, 150, 151, 152, 153, 154, 155] (by decide +kernel) (by decide +kernel)) (goodIn_sub (fun _ h => List.mem_cons_of_mem _ (List.mem_append_left _ (List.mem_append_right _ h))) (by decide +kernel))
set_option maxRecDepth 20000 in
theorem gL_orders_L_rest : GoodIn wsL_orders (va_wsS RL 125 yL_rest wsL_rest) := goodIn_app (goodIn_of _ (by decide +kernel)) ggL_orders_L_rest
set_option maxRecDepth 20000 in
theorem ggL_orders_L_bill : GoodIn wsL_orders wsL_bill := goodIn_ca (goodIn_r _ [113, 7, 2, 114, 115, 116, 11, 117, 67, 68, 69, 70, 71, 19, 20, 21, 22, 23, 118, 119, 120, 121, 18, 76, 110, 59, 122, 138, 139, 140, 141, 142, 143, 144, 145, 146, 147, 148, 149, 150, 151, 152, 153, 154, 155] (by decide +kernel) (by decide +kernel)) (goodIn_sub (fun _ h => List.mem_cons_of_mem _ (List.mem_append_left _ (List.mem_append_right _ h))) (by decide +kernel))
set_option maxRecDepth 20000 in
theorem gL_orders_L_bill : GoodIn wsL_orders (va_wsS RL 127 yL_bill wsL_bill) := goodIn_app (goodIn_of _ (by decide +kernel)) ggL_orders_L_bill
set_option maxRecDepth 20000 in
theorem ggL_orders_L_billTo : GoodIn wsL_orders wsL_billTo := goodIn_ca (goodIn_r _ [125, 27, 1, 126, 127, 128, 11, 129, 71, 130, 131, 132, 133, 41, 42, 43, 44, 45, 46, 47, 48, 118, 119, 120, 121, 18, 76, 110, 59, 122, 138, 139, 140, 141, 142, 143, 144, 145, 146, 147, 148, 149, 150, 151, 152, 153, 154, 155] (by decide +kernel) (by decide +kernel)) (goodIn_sub (fun _ h => List.mem_cons_of_mem _ (List.mem_append_right _ h)) (by decide +kernel))
set_option maxRecDepth 20000 in
theorem gL_orders_L_billTo : GoodIn wsL_orders (va_wsS RL 129 yL_billTo wsL_billTo) := goodIn_app (goodIn_of _ (by decide +kernel)) ggL_orders_L_billTo
set_option maxRecDepth 20000 in
theorem ggL_orders_X0_mostOwed : GoodIn wsL_orders wsX0_mostOwed := goodIn_r _ [137, 71, 106, 107, 108, 11, 109, 18, 76, 110, 59, 13, 95, 96, 97, 98, 89, 90, 91, 92, 93, 94, 72, 73, 74, 75, 77, 78, 79, 80, 32, 81, 49, 50, 51, 138, 139, 140, 141, 142, 143, 144, 145, 146, 147, 148, 149, 150, 151, 152, 153, 154, 155] (by decide +kernel) (by decide +kernel)
set_option maxRecDepth 20000 in
theorem gL_orders_X0_mostOwed : GoodIn wsL_orders (wsV RL 131 RX0 yX0_mostOwed wsX0_mostOwed) := goodIn_app (goodIn_of _ (by decide +kernel)) ggL_orders_X0_mostOwed
theorem dL_orders_0 : decode cL_orders 0 = .ok (.iconst (-1), 1) := by decide +kernel
theorem dL_orders_1 : decode cL_orders 1 = .ok (.istore 4, 2) := by decide +kernel
theorem dL_orders_3 : decode cL_orders 3 = .ok (.iconst 0, 1) := by decide +kernel
theorem dL_orders_4 : decode cL_orders 4 = .ok (.istore 5, 2) := by decide +kernel
theorem dL_orders_6 : decode cL_orders 6 = .ok (.iload 5, 2) := by decide +kernel
theorem dL_orders_8 : decode cL_orders 8 = .ok (.aload_n 3, 1) := by decide +kernel
theorem dL_orders_9 : decode cL_orders 9 = .ok (.iconst 1, 1) := by decide +kernel
theorem dL_orders_10 : decode cL_orders 10 = .ok (.iaload, 1) := by decide +kernel
theorem dL_orders_11 : decode cL_orders 11 = .ok (.if_icmp .ge 331, 3) := by decide +kernel
theorem dL_orders_14 : decode cL_orders 14 = .ok (.iconst 0, 1) := by decide +kernel
theorem dL_orders_15 : decode cL_orders 15 = .ok (.istore 6, 2) := by decide +kernel
theorem dL_orders_17 : decode cL_orders 17 = .ok (.iconst 0, 1) := by decide +kernel
theorem dL_orders_18 : decode cL_orders 18 = .ok (.istore 7, 2) := by decide +kernel
theorem dL_orders_20 : decode cL_orders 20 = .ok (.iconst 0, 1) := by decide +kernel
theorem dL_orders_21 : decode cL_orders 21 = .ok (.istore 8, 2) := by decide +kernel
theorem dL_orders_23 : decode cL_orders 23 = .ok (.iconst 0, 1) := by decide +kernel
theorem dL_orders_24 : decode cL_orders 24 = .ok (.istore 9, 2) := by decide +kernel
theorem dL_orders_26 : decode cL_orders 26 = .ok (.iload 9, 2) := by decide +kernel
theorem dL_orders_28 : decode cL_orders 28 = .ok (.aload_n 3, 1) := by decide +kernel
theorem dL_orders_29 : decode cL_orders 29 = .ok (.iconst 2, 1) := by decide +kernel
theorem dL_orders_30 : decode cL_orders 30 = .ok (.iaload, 1) := by decide +kernel
theorem dL_orders_31 : decode cL_orders 31 = .ok (.if_icmp .ge 155, 3) := by decide +kernel
theorem dL_orders_34 : decode cL_orders 34 = .ok (.aload_n 2, 1) := by decide +kernel
theorem dL_orders_35 : decode cL_orders 35 = .ok (.iload 9, 2) := by decide +kernel
theorem dL_orders_37 : decode cL_orders 37 = .ok (.iaload, 1) := by decide +kernel
theorem dL_orders_38 : decode cL_orders 38 = .ok (.bipush 32, 2) := by decide +kernel
theorem dL_orders_40 : decode cL_orders 40 = .ok (.irem, 1) := by decide +kernel
theorem dL_orders_41 : decode cL_orders 41 = .ok (.iload 5, 2) := by decide +kernel
theorem dL_orders_43 : decode cL_orders 43 = .ok (.if_icmp .ne 137, 3) := by decide +kernel
theorem dL_orders_46 : decode cL_orders 46 = .ok (.aload_n 0, 1) := by decide +kernel
theorem dL_orders_47 : decode cL_orders 47 = .ok (.aload_n 0, 1) := by decide +kernel
theorem dL_orders_48 : decode cL_orders 48 = .ok (.iload 9, 2) := by decide +kernel
theorem dL_orders_50 : decode cL_orders 50 = .ok (.invokestatic 102, 3) := by decide +kernel
theorem dL_orders_53 : decode cL_orders 53 = .ok (.aload_n 1, 1) := by decide +kernel
theorem dL_orders_54 : decode cL_orders 54 = .ok (.bipush 7, 2) := by decide +kernel
theorem dL_orders_56 : decode cL_orders 56 = .ok (.iload 5, 2) := by decide +kernel
theorem dL_orders_58 : decode cL_orders 58 = .ok (.imul, 1) := by decide +kernel
theorem dL_orders_59 : decode cL_orders 59 = .ok (.iconst 2, 1) := by decide +kernel
theorem dL_orders_60 : decode cL_orders 60 = .ok (.iadd, 1) := by decide +kernel
theorem dL_orders_61 : decode cL_orders 61 = .ok (.iaload, 1) := by decide +kernel
theorem dL_orders_62 : decode cL_orders 62 = .ok (.invokestatic 118, 3) := by decide +kernel
theorem dL_orders_65 : decode cL_orders 65 = .ok (.istore 10, 2) := by decide +kernel
theorem dL_orders_67 : decode cL_orders 67 = .ok (.iload 6, 2) := by decide +kernel
theorem dL_orders_69 : decode cL_orders 69 = .ok (.aload_n 0, 1) := by decide +kernel
theorem dL_orders_70 : decode cL_orders 70 = .ok (.iload 9, 2) := by decide +kernel
theorem dL_orders_72 : decode cL_orders 72 = .ok (.invokestatic 93, 3) := by decide +kernel
theorem dL_orders_75 : decode cL_orders 75 = .ok (.iconst 1, 1) := by decide +kernel
theorem dL_orders_76 : decode cL_orders 76 = .ok (.if_icmp .ne 8, 3) := by decide +kernel
theorem dL_orders_79 : decode cL_orders 79 = .ok (.iload 10, 2) := by decide +kernel
theorem dL_orders_81 : decode cL_orders 81 = .ok (.goto 4, 3) := by decide +kernel
theorem dL_orders_84 : decode cL_orders 84 = .ok (.iconst 0, 1) := by decide +kernel
theorem dL_orders_85 : decode cL_orders 85 = .ok (.iadd, 1) := by decide +kernel
theorem dL_orders_86 : decode cL_orders 86 = .ok (.istore 6, 2) := by decide +kernel
theorem dL_orders_88 : decode cL_orders 88 = .ok (.iload 7, 2) := by decide +kernel
theorem dL_orders_90 : decode cL_orders 90 = .ok (.aload_n 0, 1) := by decide +kernel
theorem dL_orders_91 : decode cL_orders 91 = .ok (.iload 9, 2) := by decide +kernel
theorem dL_orders_93 : decode cL_orders 93 = .ok (.invokestatic 93, 3) := by decide +kernel
theorem dL_orders_96 : decode cL_orders 96 = .ok (.ifCond .ne 17, 3) := by decide +kernel
theorem dL_orders_99 : decode cL_orders 99 = .ok (.aload_n 2, 1) := by decide +kernel
theorem dL_orders_100 : decode cL_orders 100 = .ok (.iload 9, 2) := by decide +kernel
theorem dL_orders_102 : decode cL_orders 102 = .ok (.iaload, 1) := by decide +kernel
theorem dL_orders_103 : decode cL_orders 103 = .ok (.bipush 31, 2) := by decide +kernel
theorem dL_orders_105 : decode cL_orders 105 = .ok (.if_icmp .le 8, 3) := by decide +kernel
theorem dL_orders_108 : decode cL_orders 108 = .ok (.iload 10, 2) := by decide +kernel
theorem dL_orders_110 : decode cL_orders 110 = .ok (.goto 4, 3) := by decide +kernel
theorem dL_orders_113 : decode cL_orders 113 = .ok (.iconst 0, 1) := by decide +kernel
theorem dL_orders_114 : decode cL_orders 114 = .ok (.iadd, 1) := by decide +kernel
theorem dL_orders_115 : decode cL_orders 115 = .ok (.istore 7, 2) := by decide +kernel
theorem dL_orders_117 : decode cL_orders 117 = .ok (.iload 8, 2) := by decide +kernel
theorem dL_orders_119 : decode cL_orders 119 = .ok (.aload_n 0, 1) := by decide +kernel
theorem dL_orders_120 : decode cL_orders 120 = .ok (.iload 9, 2) := by decide +kernel
theorem dL_orders_122 : decode cL_orders 122 = .ok (.invokestatic 93, 3) := by decide +kernel
theorem dL_orders_125 : decode cL_orders 125 = .ok (.iconst 1, 1) := by decide +kernel
theorem dL_orders_126 : decode cL_orders 126 = .ok (.if_icmp .ne 16, 3) := by decide +kernel
theorem dL_orders_129 : decode cL_orders 129 = .ok (.aload_n 2, 1) := by decide +kernel
theorem dL_orders_130 : decode cL_orders 130 = .ok (.iload 9, 2) := by decide +kernel
theorem dL_orders_132 : decode cL_orders 132 = .ok (.iaload, 1) := by decide +kernel
theorem dL_orders_133 : decode cL_orders 133 = .ok (.bipush 32, 2) := by decide +kernel
theorem dL_orders_135 : decode cL_orders 135 = .ok (.if_icmp .ge 7, 3) := by decide +kernel
theorem dL_orders_138 : decode cL_orders 138 = .ok (.iconst 1, 1) := by decide +kernel
theorem dL_orders_139 : decode cL_orders 139 = .ok (.goto 4, 3) := by decide +kernel
theorem dL_orders_142 : decode cL_orders 142 = .ok (.iconst 0, 1) := by decide +kernel
theorem dL_orders_143 : decode cL_orders 143 = .ok (.iadd, 1) := by decide +kernel
theorem dL_orders_144 : decode cL_orders 144 = .ok (.istore 8, 2) := by decide +kernel
theorem dL_orders_146 : decode cL_orders 146 = .ok (.aload_n 0, 1) := by decide +kernel
theorem dL_orders_147 : decode cL_orders 147 = .ok (.iload 9, 2) := by decide +kernel
theorem dL_orders_149 : decode cL_orders 149 = .ok (.invokestatic 93, 3) := by decide +kernel
theorem dL_orders_152 : decode cL_orders 152 = .ok (.ifCond .ne 28, 3) := by decide +kernel
theorem dL_orders_155 : decode cL_orders 155 = .ok (.aload_n 2, 1) := by decide +kernel
theorem dL_orders_156 : decode cL_orders 156 = .ok (.iload 9, 2) := by decide +kernel
theorem dL_orders_158 : decode cL_orders 158 = .ok (.iaload, 1) := by decide +kernel
theorem dL_orders_159 : decode cL_orders 159 = .ok (.bipush 32, 2) := by decide +kernel
theorem dL_orders_161 : decode cL_orders 161 = .ok (.if_icmp .ge 19, 3) := by decide +kernel
theorem dL_orders_164 : decode cL_orders 164 = .ok (.aload_n 1, 1) := by decide +kernel
theorem dL_orders_165 : decode cL_orders 165 = .ok (.bipush 7, 2) := by decide +kernel
theorem dL_orders_167 : decode cL_orders 167 = .ok (.iload 5, 2) := by decide +kernel
theorem dL_orders_169 : decode cL_orders 169 = .ok (.imul, 1) := by decide +kernel
theorem dL_orders_170 : decode cL_orders 170 = .ok (.bipush 6, 2) := by decide +kernel
theorem dL_orders_172 : decode cL_orders 172 = .ok (.iadd, 1) := by decide +kernel
theorem dL_orders_173 : decode cL_orders 173 = .ok (.iaload, 1) := by decide +kernel
theorem dL_orders_174 : decode cL_orders 174 = .ok (.iconst 1, 1) := by decide +kernel
theorem dL_orders_175 : decode cL_orders 175 = .ok (.if_icmp .ne 5, 3) := by decide +kernel
theorem dL_orders_178 : decode cL_orders 178 = .ok (.iconst 0, 1) := by decide +kernel
theorem dL_orders_179 : decode cL_orders 179 = .ok (.ireturn, 1) := by decide +kernel
theorem dL_orders_180 : decode cL_orders 180 = .ok (.iinc 9 1, 3) := by decide +kernel
theorem dL_orders_183 : decode cL_orders 183 = .ok (.goto (-157), 3) := by decide +kernel
theorem dL_orders_186 : decode cL_orders 186 = .ok (.aload_n 1, 1) := by decide +kernel
theorem dL_orders_187 : decode cL_orders 187 = .ok (.bipush 7, 2) := by decide +kernel
theorem dL_orders_189 : decode cL_orders 189 = .ok (.iload 5, 2) := by decide +kernel
theorem dL_orders_191 : decode cL_orders 191 = .ok (.imul, 1) := by decide +kernel
theorem dL_orders_192 : decode cL_orders 192 = .ok (.bipush 6, 2) := by decide +kernel
theorem dL_orders_194 : decode cL_orders 194 = .ok (.iadd, 1) := by decide +kernel
theorem dL_orders_195 : decode cL_orders 195 = .ok (.iaload, 1) := by decide +kernel
theorem dL_orders_196 : decode cL_orders 196 = .ok (.iconst 1, 1) := by decide +kernel
theorem dL_orders_197 : decode cL_orders 197 = .ok (.if_icmp .ne 32, 3) := by decide +kernel
theorem dL_orders_200 : decode cL_orders 200 = .ok (.aload_n 1, 1) := by decide +kernel
theorem dL_orders_201 : decode cL_orders 201 = .ok (.bipush 7, 2) := by decide +kernel
theorem dL_orders_203 : decode cL_orders 203 = .ok (.iload 5, 2) := by decide +kernel
theorem dL_orders_205 : decode cL_orders 205 = .ok (.imul, 1) := by decide +kernel
theorem dL_orders_206 : decode cL_orders 206 = .ok (.iconst 5, 1) := by decide +kernel
theorem dL_orders_207 : decode cL_orders 207 = .ok (.iadd, 1) := by decide +kernel
theorem dL_orders_208 : decode cL_orders 208 = .ok (.iaload, 1) := by decide +kernel
theorem dL_orders_209 : decode cL_orders 209 = .ok (.iload 6, 2) := by decide +kernel
theorem dL_orders_211 : decode cL_orders 211 = .ok (.if_icmp .le 18, 3) := by decide +kernel
theorem dL_orders_214 : decode cL_orders 214 = .ok (.aload_n 1, 1) := by decide +kernel
theorem dL_orders_215 : decode cL_orders 215 = .ok (.bipush 7, 2) := by decide +kernel
theorem dL_orders_217 : decode cL_orders 217 = .ok (.iload 5, 2) := by decide +kernel
theorem dL_orders_219 : decode cL_orders 219 = .ok (.imul, 1) := by decide +kernel
theorem dL_orders_220 : decode cL_orders 220 = .ok (.iconst 5, 1) := by decide +kernel
theorem dL_orders_221 : decode cL_orders 221 = .ok (.iadd, 1) := by decide +kernel
theorem dL_orders_222 : decode cL_orders 222 = .ok (.iaload, 1) := by decide +kernel
theorem dL_orders_223 : decode cL_orders 223 = .ok (.iload 6, 2) := by decide +kernel
theorem dL_orders_225 : decode cL_orders 225 = .ok (.isub, 1) := by decide +kernel
theorem dL_orders_226 : decode cL_orders 226 = .ok (.goto 4, 3) := by decide +kernel
theorem dL_orders_229 : decode cL_orders 229 = .ok (.iconst 0, 1) := by decide +kernel
theorem dL_orders_230 : decode cL_orders 230 = .ok (.istore 9, 2) := by decide +kernel
theorem dL_orders_232 : decode cL_orders 232 = .ok (.iload 9, 2) := by decide +kernel
theorem dL_orders_234 : decode cL_orders 234 = .ok (.iload 7, 2) := by decide +kernel
theorem dL_orders_236 : decode cL_orders 236 = .ok (.if_icmp .le 11, 3) := by decide +kernel
theorem dL_orders_239 : decode cL_orders 239 = .ok (.iload 9, 2) := by decide +kernel
theorem dL_orders_241 : decode cL_orders 241 = .ok (.iload 7, 2) := by decide +kernel
theorem dL_orders_243 : decode cL_orders 243 = .ok (.isub, 1) := by decide +kernel
theorem dL_orders_244 : decode cL_orders 244 = .ok (.goto 4, 3) := by decide +kernel
theorem dL_orders_247 : decode cL_orders 247 = .ok (.iconst 0, 1) := by decide +kernel
theorem dL_orders_248 : decode cL_orders 248 = .ok (.istore 10, 2) := by decide +kernel
theorem dL_orders_250 : decode cL_orders 250 = .ok (.aload_n 0, 1) := by decide +kernel
theorem dL_orders_251 : decode cL_orders 251 = .ok (.iload 5, 2) := by decide +kernel
theorem dL_orders_253 : decode cL_orders 253 = .ok (.invokestatic 121, 3) := by decide +kernel
theorem dL_orders_256 : decode cL_orders 256 = .ok (.iload 6, 2) := by decide +kernel
theorem dL_orders_258 : decode cL_orders 258 = .ok (.if_icmp .ne 46, 3) := by decide +kernel
theorem dL_orders_261 : decode cL_orders 261 = .ok (.aload_n 0, 1) := by decide +kernel
theorem dL_orders_262 : decode cL_orders 262 = .ok (.iload 5, 2) := by decide +kernel
theorem dL_orders_264 : decode cL_orders 264 = .ok (.invokestatic 123, 3) := by decide +kernel
theorem dL_orders_267 : decode cL_orders 267 = .ok (.iload 9, 2) := by decide +kernel
theorem dL_orders_269 : decode cL_orders 269 = .ok (.if_icmp .ne 35, 3) := by decide +kernel
theorem dL_orders_272 : decode cL_orders 272 = .ok (.aload_n 0, 1) := by decide +kernel
theorem dL_orders_273 : decode cL_orders 273 = .ok (.iload 5, 2) := by decide +kernel
theorem dL_orders_275 : decode cL_orders 275 = .ok (.invokestatic 125, 3) := by decide +kernel
theorem dL_orders_278 : decode cL_orders 278 = .ok (.iload 10, 2) := by decide +kernel
theorem dL_orders_280 : decode cL_orders 280 = .ok (.if_icmp .ne 24, 3) := by decide +kernel
theorem dL_orders_283 : decode cL_orders 283 = .ok (.aload_n 0, 1) := by decide +kernel
theorem dL_orders_284 : decode cL_orders 284 = .ok (.iload 5, 2) := by decide +kernel
theorem dL_orders_286 : decode cL_orders 286 = .ok (.invokestatic 127, 3) := by decide +kernel
theorem dL_orders_289 : decode cL_orders 289 = .ok (.iload 8, 2) := by decide +kernel
theorem dL_orders_291 : decode cL_orders 291 = .ok (.aload_n 1, 1) := by decide +kernel
theorem dL_orders_292 : decode cL_orders 292 = .ok (.bipush 7, 2) := by decide +kernel
theorem dL_orders_294 : decode cL_orders 294 = .ok (.iload 5, 2) := by decide +kernel
theorem dL_orders_296 : decode cL_orders 296 = .ok (.imul, 1) := by decide +kernel
theorem dL_orders_297 : decode cL_orders 297 = .ok (.iconst 4, 1) := by decide +kernel
theorem dL_orders_298 : decode cL_orders 298 = .ok (.iadd, 1) := by decide +kernel
theorem dL_orders_299 : decode cL_orders 299 = .ok (.iaload, 1) := by decide +kernel
theorem dL_orders_300 : decode cL_orders 300 = .ok (.imul, 1) := by decide +kernel
theorem dL_orders_301 : decode cL_orders 301 = .ok (.if_icmp .eq 5, 3) := by decide +kernel
theorem dL_orders_304 : decode cL_orders 304 = .ok (.iconst 0, 1) := by decide +kernel
theorem dL_orders_305 : decode cL_orders 305 = .ok (.ireturn, 1) := by decide +kernel
theorem dL_orders_306 : decode cL_orders 306 = .ok (.iload 10, 2) := by decide +kernel
theorem dL_orders_308 : decode cL_orders 308 = .ok (.ifCond .le 24, 3) := by decide +kernel
theorem dL_orders_311 : decode cL_orders 311 = .ok (.iload 4, 2) := by decide +kernel
theorem dL_orders_313 : decode cL_orders 313 = .ok (.ifCond .lt 14, 3) := by decide +kernel
theorem dL_orders_316 : decode cL_orders 316 = .ok (.iload 10, 2) := by decide +kernel
theorem dL_orders_318 : decode cL_orders 318 = .ok (.aload_n 0, 1) := by decide +kernel
theorem dL_orders_319 : decode cL_orders 319 = .ok (.iload 4, 2) := by decide +kernel
theorem dL_orders_321 : decode cL_orders 321 = .ok (.invokestatic 125, 3) := by decide +kernel
theorem dL_orders_324 : decode cL_orders 324 = .ok (.if_icmp .le 8, 3) := by decide +kernel
theorem dL_orders_327 : decode cL_orders 327 = .ok (.iload 5, 2) := by decide +kernel
theorem dL_orders_329 : decode cL_orders 329 = .ok (.goto 5, 3) := by decide +kernel
theorem dL_orders_332 : decode cL_orders 332 = .ok (.iload 4, 2) := by decide +kernel
theorem dL_orders_334 : decode cL_orders 334 = .ok (.istore 4, 2) := by decide +kernel
theorem dL_orders_336 : decode cL_orders 336 = .ok (.iinc 5 1, 3) := by decide +kernel
theorem dL_orders_339 : decode cL_orders 339 = .ok (.goto (-333), 3) := by decide +kernel
theorem dL_orders_342 : decode cL_orders 342 = .ok (.iconst 0, 1) := by decide +kernel
theorem dL_orders_343 : decode cL_orders 343 = .ok (.istore 5, 2) := by decide +kernel
theorem dL_orders_345 : decode cL_orders 345 = .ok (.iload 5, 2) := by decide +kernel
theorem dL_orders_347 : decode cL_orders 347 = .ok (.bipush 10, 2) := by decide +kernel
theorem dL_orders_349 : decode cL_orders 349 = .ok (.if_icmp .ge 69, 3) := by decide +kernel
theorem dL_orders_352 : decode cL_orders 352 = .ok (.iconst 0, 1) := by decide +kernel
theorem dL_orders_353 : decode cL_orders 353 = .ok (.istore 6, 2) := by decide +kernel
theorem dL_orders_355 : decode cL_orders 355 = .ok (.iconst 0, 1) := by decide +kernel
theorem dL_orders_356 : decode cL_orders 356 = .ok (.istore 7, 2) := by decide +kernel
theorem dL_orders_358 : decode cL_orders 358 = .ok (.iload 7, 2) := by decide +kernel
theorem dL_orders_360 : decode cL_orders 360 = .ok (.aload_n 3, 1) := by decide +kernel
theorem dL_orders_361 : decode cL_orders 361 = .ok (.iconst 1, 1) := by decide +kernel
theorem dL_orders_362 : decode cL_orders 362 = .ok (.iaload, 1) := by decide +kernel
theorem dL_orders_363 : decode cL_orders 363 = .ok (.if_icmp .ge 36, 3) := by decide +kernel
theorem dL_orders_366 : decode cL_orders 366 = .ok (.iload 6, 2) := by decide +kernel
theorem dL_orders_368 : decode cL_orders 368 = .ok (.aload_n 1, 1) := by decide +kernel
theorem dL_orders_369 : decode cL_orders 369 = .ok (.bipush 7, 2) := by decide +kernel
theorem dL_orders_371 : decode cL_orders 371 = .ok (.iload 7, 2) := by decide +kernel
theorem dL_orders_373 : decode cL_orders 373 = .ok (.imul, 1) := by decide +kernel
theorem dL_orders_374 : decode cL_orders 374 = .ok (.iaload, 1) := by decide +kernel
theorem dL_orders_375 : decode cL_orders 375 = .ok (.iload 5, 2) := by decide +kernel
theorem dL_orders_377 : decode cL_orders 377 = .ok (.if_icmp .ne 12, 3) := by decide +kernel
theorem dL_orders_380 : decode cL_orders 380 = .ok (.aload_n 0, 1) := by decide +kernel
theorem dL_orders_381 : decode cL_orders 381 = .ok (.iload 7, 2) := by decide +kernel
theorem dL_orders_383 : decode cL_orders 383 = .ok (.invokestatic 127, 3) := by decide +kernel
theorem dL_orders_386 : decode cL_orders 386 = .ok (.goto 4, 3) := by decide +kernel
theorem dL_orders_389 : decode cL_orders 389 = .ok (.iconst 0, 1) := by decide +kernel
theorem dL_orders_390 : decode cL_orders 390 = .ok (.iadd, 1) := by decide +kernel
theorem dL_orders_391 : decode cL_orders 391 = .ok (.istore 6, 2) := by decide +kernel
theorem dL_orders_393 : decode cL_orders 393 = .ok (.iinc 7 1, 3) := by decide +kernel
theorem dL_orders_396 : decode cL_orders 396 = .ok (.goto (-38), 3) := by decide +kernel
theorem dL_orders_399 : decode cL_orders 399 = .ok (.aload_n 0, 1) := by decide +kernel
theorem dL_orders_400 : decode cL_orders 400 = .ok (.iload 5, 2) := by decide +kernel
theorem dL_orders_402 : decode cL_orders 402 = .ok (.invokestatic 129, 3) := by decide +kernel
theorem dL_orders_405 : decode cL_orders 405 = .ok (.iload 6, 2) := by decide +kernel
theorem dL_orders_407 : decode cL_orders 407 = .ok (.if_icmp .eq 5, 3) := by decide +kernel
theorem dL_orders_410 : decode cL_orders 410 = .ok (.iconst 0, 1) := by decide +kernel
theorem dL_orders_411 : decode cL_orders 411 = .ok (.ireturn, 1) := by decide +kernel
theorem dL_orders_412 : decode cL_orders 412 = .ok (.iinc 5 1, 3) := by decide +kernel
theorem dL_orders_415 : decode cL_orders 415 = .ok (.goto (-70), 3) := by decide +kernel
theorem dL_orders_418 : decode cL_orders 418 = .ok (.aload_n 0, 1) := by decide +kernel
theorem dL_orders_419 : decode cL_orders 419 = .ok (.invokevirtual 131, 3) := by decide +kernel
theorem dL_orders_422 : decode cL_orders 422 = .ok (.iload 4, 2) := by decide +kernel
theorem dL_orders_424 : decode cL_orders 424 = .ok (.if_icmp .ne 62, 3) := by decide +kernel
theorem dL_orders_427 : decode cL_orders 427 = .ok (.aload_n 0, 1) := by decide +kernel
theorem dL_orders_428 : decode cL_orders 428 = .ok (.bipush 10, 2) := by decide +kernel
theorem dL_orders_430 : decode cL_orders 430 = .ok (.invokestatic 129, 3) := by decide +kernel
theorem dL_orders_433 : decode cL_orders 433 = .ok (.ldc 18, 2) := by decide +kernel
theorem dL_orders_435 : decode cL_orders 435 = .ok (.if_icmp .ne 51, 3) := by decide +kernel
theorem dL_orders_438 : decode cL_orders 438 = .ok (.aload_n 0, 1) := by decide +kernel
theorem dL_orders_439 : decode cL_orders 439 = .ok (.aload_n 3, 1) := by decide +kernel
theorem dL_orders_440 : decode cL_orders 440 = .ok (.iconst 1, 1) := by decide +kernel
theorem dL_orders_441 : decode cL_orders 441 = .ok (.iaload, 1) := by decide +kernel
theorem dL_orders_442 : decode cL_orders 442 = .ok (.invokestatic 121, 3) := by decide +kernel
theorem dL_orders_445 : decode cL_orders 445 = .ok (.ldc 28, 2) := by decide +kernel
theorem dL_orders_447 : decode cL_orders 447 = .ok (.if_icmp .ne 39, 3) := by decide +kernel
theorem dL_orders_450 : decode cL_orders 450 = .ok (.aload_n 0, 1) := by decide +kernel
theorem dL_orders_451 : decode cL_orders 451 = .ok (.iconst (-1), 1) := by decide +kernel
theorem dL_orders_452 : decode cL_orders 452 = .ok (.invokestatic 123, 3) := by decide +kernel
theorem dL_orders_455 : decode cL_orders 455 = .ok (.ldc 28, 2) := by decide +kernel
theorem dL_orders_457 : decode cL_orders 457 = .ok (.if_icmp .ne 29, 3) := by decide +kernel
theorem dL_orders_460 : decode cL_orders 460 = .ok (.aload_n 0, 1) := by decide +kernel
theorem dL_orders_461 : decode cL_orders 461 = .ok (.aload_n 3, 1) := by decide +kernel
theorem dL_orders_462 : decode cL_orders 462 = .ok (.iconst 1, 1) := by decide +kernel
theorem dL_orders_463 : decode cL_orders 463 = .ok (.iaload, 1) := by decide +kernel
theorem dL_orders_464 : decode cL_orders 464 = .ok (.invokestatic 125, 3) := by decide +kernel
theorem dL_orders_467 : decode cL_orders 467 = .ok (.ldc 28, 2) := by decide +kernel
theorem dL_orders_469 : decode cL_orders 469 = .ok (.if_icmp .ne 17, 3) := by decide +kernel
theorem dL_orders_472 : decode cL_orders 472 = .ok (.aload_n 0, 1) := by decide +kernel
theorem dL_orders_473 : decode cL_orders 473 = .ok (.iconst (-1), 1) := by decide +kernel
theorem dL_orders_474 : decode cL_orders 474 = .ok (.invokestatic 127, 3) := by decide +kernel
theorem dL_orders_477 : decode cL_orders 477 = .ok (.ldc 28, 2) := by decide +kernel
theorem dL_orders_479 : decode cL_orders 479 = .ok (.if_icmp .ne 7, 3) := by decide +kernel
theorem dL_orders_482 : decode cL_orders 482 = .ok (.iconst 1, 1) := by decide +kernel
theorem dL_orders_483 : decode cL_orders 483 = .ok (.goto 4, 3) := by decide +kernel
theorem dL_orders_486 : decode cL_orders 486 = .ok (.iconst 0, 1) := by decide +kernel
theorem dL_orders_487 : decode cL_orders 487 = .ok (.ireturn, 1) := by decide +kernel
set_option maxRecDepth 20000 in
theorem ggL_fills_L_fill : GoodIn wsL_fills wsL_fill := goodIn_ca (goodIn_ca (goodIn_ca (goodIn_r _ [7, 8, 9, 10, 3, 2, 1, 11, 12, 13, 14, 15, 16, 17, 18, 19, 20, 21, 22, 23, 24, 25, 26, 27, 28, 29, 30, 31, 32, 33, 34, 35, 36, 37, 38, 39, 40, 41, 42, 43, 44, 45, 46, 47, 48, 49, 50, 51, 52, 53, 54, 55, 56, 57, 58, 59, 60, 61, 62, 63, 64, 65, 66, 67, 68, 69, 70, 71, 72, 73, 74, 75, 76, 77, 78, 79, 80, 81, 82, 83, 84, 85, 86, 87, 88, 89, 90, 91, 92, 93, 94, 95, 96, 97, 98, 99, 100, 101, 151, 152, 153, 154, 155, 156, 157, 158, 159, 160, 161, 162, 163, 164, 165, 166, 167, 168] (by decide +kernel) (by decide +kernel)) (goodIn_sub (fun _ h => List.mem_cons_of_mem _ (List.mem_append_left _ (List.mem_append_left _ (List.mem_append_right _ h)))) (by decide +kernel))) (goodIn_sub (fun _ h => List.mem_cons_of_mem _ (List.mem_append_left _ (List.mem_append_right _ h))) (by decide +kernel))) (goodIn_sub (fun _ h => List.mem_cons_of_mem _ (List.mem_append_right _ h)) (by decide +kernel))
set_option maxRecDepth 20000 in
theorem gL_fills_L_fill : GoodIn wsL_fills (va_wsS RL 134 yL_fill wsL_fill) := goodIn_app (goodIn_of _ (by decide +kernel)) ggL_fills_L_fill
set_option maxRecDepth 20000 in
theorem ggL_fills_L_stands : GoodIn wsL_fills wsL_stands := goodIn_ca (goodIn_r _ [104, 105, 106, 6, 107, 8, 3, 108, 109, 110, 14, 111, 51, 112, 113, 114, 115, 17, 23, 24, 25, 26, 27, 151, 152, 153, 154, 155, 156, 157, 158, 159, 160, 161, 162, 163, 164, 165, 166, 167, 168] (by decide +kernel) (by decide +kernel)) (goodIn_sub (fun _ h => List.mem_cons_of_mem _ (List.mem_append_left _ (List.mem_append_left _ (List.mem_append_right _ h)))) (by decide +kernel))
set_option maxRecDepth 20000 in
theorem gL_fills_L_stands : GoodIn wsL_fills (va_wsS RL 98 yL_stands wsL_stands) := goodIn_app (goodIn_of _ (by decide +kernel)) ggL_fills_L_stands
set_option maxRecDepth 20000 in
theorem ggL_fills_L_breakOf : GoodIn wsL_fills wsL_breakOf := goodIn_ca (goodIn_r _ [118, 8, 3, 119, 120, 121, 14, 122, 52, 112, 113, 114, 115, 17, 23, 24, 25, 26, 27, 151, 152, 153, 154, 155, 156, 157, 158, 159, 160, 161, 162, 163, 164, 165, 166, 167, 168] (by decide +kernel) (by decide +kernel)) (goodIn_sub (fun _ h => List.mem_cons_of_mem _ (List.mem_append_left _ (List.mem_append_left _ (List.mem_append_right _ h)))) (by decide +kernel))
set_option maxRecDepth 20000 in
theorem gL_fills_L_breakOf : GoodIn wsL_fills (va_wsS RL 102 yL_breakOf wsL_breakOf) := goodIn_app (goodIn_of _ (by decide +kernel)) ggL_fills_L_breakOf
set_option maxRecDepth 20000 in
theorem ggL_fills_L_rating : GoodIn wsL_fills wsL_rating := goodIn_ca (goodIn_ca (goodIn_r _ [125, 8, 9, 3, 2, 126, 127, 128, 14, 129, 57, 130, 131, 132, 133, 66, 23, 24, 25, 26, 27, 134, 135, 136, 28, 29, 30, 31, 32, 33, 34, 35, 59, 60, 61, 151, 152, 153, 154, 155, 156, 157, 158, 159, 160, 161, 162, 163, 164, 165, 166, 167, 168] (by decide +kernel) (by decide +kernel)) (goodIn_sub (fun _ h => List.mem_cons_of_mem _ (List.mem_append_left _ (List.mem_append_left _ (List.mem_append_right _ h)))) (by decide +kernel))) (goodIn_sub (fun _ h => List.mem_cons_of_mem _ (List.mem_append_left _ (List.mem_append_right _ h))) (by decide +kernel))
set_option maxRecDepth 20000 in
theorem gL_fills_L_rating : GoodIn wsL_fills (va_wsS RL 118 yL_rating wsL_rating) := goodIn_app (goodIn_of _ (by decide +kernel)) ggL_fills_L_rating
set_option maxRecDepth 20000 in
theorem ggL_fills_L_whyNot : GoodIn wsL_fills wsL_whyNot := goodIn_ca (goodIn_r _ [139, 8, 3, 140, 141, 142, 14, 143, 18, 19, 20, 21, 22, 23, 24, 25, 26, 27, 130, 131, 132, 133, 66, 67, 68, 69, 70, 71, 72, 73, 74, 75, 76, 77, 78, 79, 17, 52, 50, 80, 81, 82, 83, 51, 53, 54, 55, 56, 57, 58, 59, 60, 61, 84, 85, 86, 87, 88, 89, 90, 91, 92, 93, 94, 95, 96, 151, 152, 153, 154, 155, 156, 157, 158, 159, 160, 161, 162, 163, 164, 165, 166, 167, 168] (by decide +kernel) (by decide +kernel)) (goodIn_sub (fun _ h => List.mem_cons_of_mem _ (List.mem_append_left _ (List.mem_append_left _ (List.mem_append_right _ h)))) (by decide +kernel))
set_option maxRecDepth 20000 in
theorem gL_fills_L_whyNot : GoodIn wsL_fills (va_wsS RL 136 yL_whyNot wsL_whyNot) := goodIn_app (goodIn_of _ (by decide +kernel)) ggL_fills_L_whyNot
set_option maxRecDepth 20000 in
theorem ggL_fills_L_place : GoodIn wsL_fills wsL_place := goodIn_ca (goodIn_ca (goodIn_r _ [146, 8, 10, 3, 1, 147, 148, 149, 14, 150, 16, 17, 18, 19, 20, 21, 22, 23, 24, 25, 26, 27, 130, 131, 132, 133, 66, 36, 37, 38, 39, 40, 67, 68, 69, 70, 71, 72, 73, 74, 75, 76, 77, 78, 79, 52, 50, 80, 81, 82, 83, 51, 53, 54, 55, 56, 57, 58, 59, 60, 61, 84, 85, 86, 87, 88, 89, 90, 91, 92, 93, 94, 95, 96, 97, 98, 99, 100, 101, 151, 152, 153, 154, 155, 156, 157, 158, 159, 160, 161, 162, 163, 164, 165, 166, 167, 168] (by decide +kernel) (by decide +kernel)) (goodIn_sub (fun _ h => List.mem_cons_of_mem _ (List.mem_append_left _ (List.mem_append_left _ (List.mem_append_right _ h)))) (by decide +kernel))) (goodIn_sub (fun _ h => List.mem_cons_of_mem _ (List.mem_append_right _ h)) (by decide +kernel))
set_option maxRecDepth 20000 in
theorem gL_fills_L_place : GoodIn wsL_fills (va_wsS RL 138 yL_place wsL_place) := goodIn_app (goodIn_of _ (by decide +kernel)) ggL_fills_L_place
theorem dL_fills_0 : decode cL_fills 0 = .ok (.aload_n 2, 1) := by decide +kernel
theorem dL_fills_1 : decode cL_fills 1 = .ok (.bipush 7, 2) := by decide +kernel
theorem dL_fills_3 : decode cL_fills 3 = .ok (.iload 5, 2) := by decide +kernel
theorem dL_fills_5 : decode cL_fills 5 = .ok (.imul, 1) := by decide +kernel
theorem dL_fills_6 : decode cL_fills 6 = .ok (.bipush 6, 2) := by decide +kernel
theorem dL_fills_8 : decode cL_fills 8 = .ok (.iadd, 1) := by decide +kernel
theorem dL_fills_9 : decode cL_fills 9 = .ok (.iaload, 1) := by decide +kernel
theorem dL_fills_10 : decode cL_fills 10 = .ok (.iconst 1, 1) := by decide +kernel
theorem dL_fills_11 : decode cL_fills 11 = .ok (.if_icmp .ne 35, 3) := by decide +kernel
theorem dL_fills_14 : decode cL_fills 14 = .ok (.aload_n 0, 1) := by decide +kernel
theorem dL_fills_15 : decode cL_fills 15 = .ok (.iload 5, 2) := by decide +kernel
theorem dL_fills_17 : decode cL_fills 17 = .ok (.iload 6, 2) := by decide +kernel
theorem dL_fills_19 : decode cL_fills 19 = .ok (.invokestatic 134, 3) := by decide +kernel
theorem dL_fills_22 : decode cL_fills 22 = .ok (.ldc 21, 2) := by decide +kernel
theorem dL_fills_24 : decode cL_fills 24 = .ok (.if_icmp .ne 20, 3) := by decide +kernel
theorem dL_fills_27 : decode cL_fills 27 = .ok (.aload_n 0, 1) := by decide +kernel
theorem dL_fills_28 : decode cL_fills 28 = .ok (.iload 5, 2) := by decide +kernel
theorem dL_fills_30 : decode cL_fills 30 = .ok (.bipush 25, 2) := by decide +kernel
theorem dL_fills_32 : decode cL_fills 32 = .ok (.invokestatic 134, 3) := by decide +kernel
theorem dL_fills_35 : decode cL_fills 35 = .ok (.ldc 18, 2) := by decide +kernel
theorem dL_fills_37 : decode cL_fills 37 = .ok (.if_icmp .ne 7, 3) := by decide +kernel
theorem dL_fills_40 : decode cL_fills 40 = .ok (.iconst 1, 1) := by decide +kernel
theorem dL_fills_41 : decode cL_fills 41 = .ok (.goto 4, 3) := by decide +kernel
theorem dL_fills_44 : decode cL_fills 44 = .ok (.iconst 0, 1) := by decide +kernel
theorem dL_fills_45 : decode cL_fills 45 = .ok (.ireturn, 1) := by decide +kernel
theorem dL_fills_46 : decode cL_fills 46 = .ok (.iconst 0, 1) := by decide +kernel
theorem dL_fills_47 : decode cL_fills 47 = .ok (.istore 7, 2) := by decide +kernel
theorem dL_fills_49 : decode cL_fills 49 = .ok (.iconst 1, 1) := by decide +kernel
theorem dL_fills_50 : decode cL_fills 50 = .ok (.istore 8, 2) := by decide +kernel
theorem dL_fills_52 : decode cL_fills 52 = .ok (.iload 8, 2) := by decide +kernel
theorem dL_fills_54 : decode cL_fills 54 = .ok (.ifCond .eq 227, 3) := by decide +kernel
theorem dL_fills_57 : decode cL_fills 57 = .ok (.iload 7, 2) := by decide +kernel
theorem dL_fills_59 : decode cL_fills 59 = .ok (.iload 6, 2) := by decide +kernel
theorem dL_fills_61 : decode cL_fills 61 = .ok (.if_icmp .ge 220, 3) := by decide +kernel
theorem dL_fills_64 : decode cL_fills 64 = .ok (.iconst 0, 1) := by decide +kernel
theorem dL_fills_65 : decode cL_fills 65 = .ok (.istore 9, 2) := by decide +kernel
theorem dL_fills_67 : decode cL_fills 67 = .ok (.iconst (-1), 1) := by decide +kernel
theorem dL_fills_68 : decode cL_fills 68 = .ok (.istore 10, 2) := by decide +kernel
theorem dL_fills_70 : decode cL_fills 70 = .ok (.iconst 0, 1) := by decide +kernel
theorem dL_fills_71 : decode cL_fills 71 = .ok (.istore 11, 2) := by decide +kernel
theorem dL_fills_73 : decode cL_fills 73 = .ok (.iload 11, 2) := by decide +kernel
theorem dL_fills_75 : decode cL_fills 75 = .ok (.aload 4, 2) := by decide +kernel
theorem dL_fills_77 : decode cL_fills 77 = .ok (.iconst 2, 1) := by decide +kernel
theorem dL_fills_78 : decode cL_fills 78 = .ok (.iaload, 1) := by decide +kernel
theorem dL_fills_79 : decode cL_fills 79 = .ok (.if_icmp .ge 58, 3) := by decide +kernel
theorem dL_fills_82 : decode cL_fills 82 = .ok (.iload 9, 2) := by decide +kernel
theorem dL_fills_84 : decode cL_fills 84 = .ok (.aload_n 3, 1) := by decide +kernel
theorem dL_fills_85 : decode cL_fills 85 = .ok (.iload 11, 2) := by decide +kernel
theorem dL_fills_87 : decode cL_fills 87 = .ok (.iaload, 1) := by decide +kernel
theorem dL_fills_88 : decode cL_fills 88 = .ok (.bipush 32, 2) := by decide +kernel
theorem dL_fills_90 : decode cL_fills 90 = .ok (.irem, 1) := by decide +kernel
theorem dL_fills_91 : decode cL_fills 91 = .ok (.iload 5, 2) := by decide +kernel
theorem dL_fills_93 : decode cL_fills 93 = .ok (.if_icmp .ne 34, 3) := by decide +kernel
theorem dL_fills_96 : decode cL_fills 96 = .ok (.aload_n 1, 1) := by decide +kernel
theorem dL_fills_97 : decode cL_fills 97 = .ok (.iload 11, 2) := by decide +kernel
theorem dL_fills_99 : decode cL_fills 99 = .ok (.invokestatic 98, 3) := by decide +kernel
theorem dL_fills_102 : decode cL_fills 102 = .ok (.ifCond .eq 25, 3) := by decide +kernel
theorem dL_fills_105 : decode cL_fills 105 = .ok (.aload_n 1, 1) := by decide +kernel
theorem dL_fills_106 : decode cL_fills 106 = .ok (.aload_n 1, 1) := by decide +kernel
theorem dL_fills_107 : decode cL_fills 107 = .ok (.iload 11, 2) := by decide +kernel
theorem dL_fills_109 : decode cL_fills 109 = .ok (.invokestatic 102, 3) := by decide +kernel
theorem dL_fills_112 : decode cL_fills 112 = .ok (.aload_n 2, 1) := by decide +kernel
theorem dL_fills_113 : decode cL_fills 113 = .ok (.bipush 7, 2) := by decide +kernel
theorem dL_fills_115 : decode cL_fills 115 = .ok (.iload 5, 2) := by decide +kernel
theorem dL_fills_117 : decode cL_fills 117 = .ok (.imul, 1) := by decide +kernel
theorem dL_fills_118 : decode cL_fills 118 = .ok (.iconst 2, 1) := by decide +kernel
theorem dL_fills_119 : decode cL_fills 119 = .ok (.iadd, 1) := by decide +kernel
theorem dL_fills_120 : decode cL_fills 120 = .ok (.iaload, 1) := by decide +kernel
theorem dL_fills_121 : decode cL_fills 121 = .ok (.invokestatic 118, 3) := by decide +kernel
theorem dL_fills_124 : decode cL_fills 124 = .ok (.goto 4, 3) := by decide +kernel
theorem dL_fills_127 : decode cL_fills 127 = .ok (.iconst 0, 1) := by decide +kernel
theorem dL_fills_128 : decode cL_fills 128 = .ok (.iadd, 1) := by decide +kernel
theorem dL_fills_129 : decode cL_fills 129 = .ok (.istore 9, 2) := by decide +kernel
theorem dL_fills_131 : decode cL_fills 131 = .ok (.iinc 11 1, 3) := by decide +kernel
theorem dL_fills_134 : decode cL_fills 134 = .ok (.goto (-61), 3) := by decide +kernel
theorem dL_fills_137 : decode cL_fills 137 = .ok (.iconst 0, 1) := by decide +kernel
theorem dL_fills_138 : decode cL_fills 138 = .ok (.istore 11, 2) := by decide +kernel
theorem dL_fills_140 : decode cL_fills 140 = .ok (.iload 11, 2) := by decide +kernel
theorem dL_fills_142 : decode cL_fills 142 = .ok (.aload 4, 2) := by decide +kernel
theorem dL_fills_144 : decode cL_fills 144 = .ok (.iconst 0, 1) := by decide +kernel
theorem dL_fills_145 : decode cL_fills 145 = .ok (.iaload, 1) := by decide +kernel
theorem dL_fills_146 : decode cL_fills 146 = .ok (.if_icmp .ge 67, 3) := by decide +kernel
theorem dL_fills_149 : decode cL_fills 149 = .ok (.aload_n 1, 1) := by decide +kernel
theorem dL_fills_150 : decode cL_fills 150 = .ok (.iload 5, 2) := by decide +kernel
theorem dL_fills_152 : decode cL_fills 152 = .ok (.iload 11, 2) := by decide +kernel
theorem dL_fills_154 : decode cL_fills 154 = .ok (.invokestatic 136, 3) := by decide +kernel
theorem dL_fills_157 : decode cL_fills 157 = .ok (.ifCond .ne 46, 3) := by decide +kernel
theorem dL_fills_160 : decode cL_fills 160 = .ok (.iload 10, 2) := by decide +kernel
theorem dL_fills_162 : decode cL_fills 162 = .ok (.ifCond .lt 36, 3) := by decide +kernel
theorem dL_fills_165 : decode cL_fills 165 = .ok (.aload_n 1, 1) := by decide +kernel
theorem dL_fills_166 : decode cL_fills 166 = .ok (.iload 11, 2) := by decide +kernel
theorem dL_fills_168 : decode cL_fills 168 = .ok (.aload_n 2, 1) := by decide +kernel
theorem dL_fills_169 : decode cL_fills 169 = .ok (.bipush 7, 2) := by decide +kernel
theorem dL_fills_171 : decode cL_fills 171 = .ok (.iload 5, 2) := by decide +kernel
theorem dL_fills_173 : decode cL_fills 173 = .ok (.imul, 1) := by decide +kernel
theorem dL_fills_174 : decode cL_fills 174 = .ok (.iconst 2, 1) := by decide +kernel
theorem dL_fills_175 : decode cL_fills 175 = .ok (.iadd, 1) := by decide +kernel
theorem dL_fills_176 : decode cL_fills 176 = .ok (.iaload, 1) := by decide +kernel
theorem dL_fills_177 : decode cL_fills 177 = .ok (.invokestatic 118, 3) := by decide +kernel
theorem dL_fills_180 : decode cL_fills 180 = .ok (.aload_n 1, 1) := by decide +kernel
theorem dL_fills_181 : decode cL_fills 181 = .ok (.iload 10, 2) := by decide +kernel
theorem dL_fills_183 : decode cL_fills 183 = .ok (.aload_n 2, 1) := by decide +kernel
theorem dL_fills_184 : decode cL_fills 184 = .ok (.bipush 7, 2) := by decide +kernel
theorem dL_fills_186 : decode cL_fills 186 = .ok (.iload 5, 2) := by decide +kernel
theorem dL_fills_188 : decode cL_fills 188 = .ok (.imul, 1) := by decide +kernel
theorem dL_fills_189 : decode cL_fills 189 = .ok (.iconst 2, 1) := by decide +kernel
theorem dL_fills_190 : decode cL_fills 190 = .ok (.iadd, 1) := by decide +kernel
theorem dL_fills_191 : decode cL_fills 191 = .ok (.iaload, 1) := by decide +kernel
theorem dL_fills_192 : decode cL_fills 192 = .ok (.invokestatic 118, 3) := by decide +kernel
theorem dL_fills_195 : decode cL_fills 195 = .ok (.if_icmp .le 8, 3) := by decide +kernel
theorem dL_fills_198 : decode cL_fills 198 = .ok (.iload 11, 2) := by decide +kernel
theorem dL_fills_200 : decode cL_fills 200 = .ok (.goto 5, 3) := by decide +kernel
theorem dL_fills_203 : decode cL_fills 203 = .ok (.iload 10, 2) := by decide +kernel
theorem dL_fills_205 : decode cL_fills 205 = .ok (.istore 10, 2) := by decide +kernel
theorem dL_fills_207 : decode cL_fills 207 = .ok (.iinc 11 1, 3) := by decide +kernel
theorem dL_fills_210 : decode cL_fills 210 = .ok (.goto (-70), 3) := by decide +kernel
theorem dL_fills_213 : decode cL_fills 213 = .ok (.iload 9, 2) := by decide +kernel
theorem dL_fills_215 : decode cL_fills 215 = .ok (.aload_n 2, 1) := by decide +kernel
theorem dL_fills_216 : decode cL_fills 216 = .ok (.bipush 7, 2) := by decide +kernel
theorem dL_fills_218 : decode cL_fills 218 = .ok (.iload 5, 2) := by decide +kernel
theorem dL_fills_220 : decode cL_fills 220 = .ok (.imul, 1) := by decide +kernel
theorem dL_fills_221 : decode cL_fills 221 = .ok (.iconst 5, 1) := by decide +kernel
theorem dL_fills_222 : decode cL_fills 222 = .ok (.iadd, 1) := by decide +kernel
theorem dL_fills_223 : decode cL_fills 223 = .ok (.iaload, 1) := by decide +kernel
theorem dL_fills_224 : decode cL_fills 224 = .ok (.if_icmp .ge 27, 3) := by decide +kernel
theorem dL_fills_227 : decode cL_fills 227 = .ok (.iload 10, 2) := by decide +kernel
theorem dL_fills_229 : decode cL_fills 229 = .ok (.ifCond .lt 22, 3) := by decide +kernel
theorem dL_fills_232 : decode cL_fills 232 = .ok (.aload_n 1, 1) := by decide +kernel
theorem dL_fills_233 : decode cL_fills 233 = .ok (.iload 5, 2) := by decide +kernel
theorem dL_fills_235 : decode cL_fills 235 = .ok (.iload 10, 2) := by decide +kernel
theorem dL_fills_237 : decode cL_fills 237 = .ok (.invokestatic 138, 3) := by decide +kernel
theorem dL_fills_240 : decode cL_fills 240 = .ok (.aload 4, 2) := by decide +kernel
theorem dL_fills_242 : decode cL_fills 242 = .ok (.iconst 2, 1) := by decide +kernel
theorem dL_fills_243 : decode cL_fills 243 = .ok (.iaload, 1) := by decide +kernel
theorem dL_fills_244 : decode cL_fills 244 = .ok (.if_icmp .ne 7, 3) := by decide +kernel
theorem dL_fills_247 : decode cL_fills 247 = .ok (.iconst 1, 1) := by decide +kernel
theorem dL_fills_248 : decode cL_fills 248 = .ok (.goto 4, 3) := by decide +kernel
theorem dL_fills_251 : decode cL_fills 251 = .ok (.iconst 0, 1) := by decide +kernel
theorem dL_fills_252 : decode cL_fills 252 = .ok (.istore 8, 2) := by decide +kernel
theorem dL_fills_254 : decode cL_fills 254 = .ok (.iload 8, 2) := by decide +kernel
theorem dL_fills_256 : decode cL_fills 256 = .ok (.ifCond .eq 22, 3) := by decide +kernel
theorem dL_fills_259 : decode cL_fills 259 = .ok (.aload_n 3, 1) := by decide +kernel
theorem dL_fills_260 : decode cL_fills 260 = .ok (.aload 4, 2) := by decide +kernel
theorem dL_fills_262 : decode cL_fills 262 = .ok (.iconst 2, 1) := by decide +kernel
theorem dL_fills_263 : decode cL_fills 263 = .ok (.iaload, 1) := by decide +kernel
theorem dL_fills_264 : decode cL_fills 264 = .ok (.iload 5, 2) := by decide +kernel
theorem dL_fills_266 : decode cL_fills 266 = .ok (.iastore, 1) := by decide +kernel
theorem dL_fills_267 : decode cL_fills 267 = .ok (.aload 4, 2) := by decide +kernel
theorem dL_fills_269 : decode cL_fills 269 = .ok (.iconst 2, 1) := by decide +kernel
theorem dL_fills_270 : decode cL_fills 270 = .ok (.dup2, 1) := by decide +kernel
theorem dL_fills_271 : decode cL_fills 271 = .ok (.iaload, 1) := by decide +kernel
theorem dL_fills_272 : decode cL_fills 272 = .ok (.iconst 1, 1) := by decide +kernel
theorem dL_fills_273 : decode cL_fills 273 = .ok (.iadd, 1) := by decide +kernel
theorem dL_fills_274 : decode cL_fills 274 = .ok (.iastore, 1) := by decide +kernel
theorem dL_fills_275 : decode cL_fills 275 = .ok (.iinc 7 1, 3) := by decide +kernel
theorem dL_fills_278 : decode cL_fills 278 = .ok (.goto (-226), 3) := by decide +kernel
theorem dL_fills_281 : decode cL_fills 281 = .ok (.aload_n 0, 1) := by decide +kernel
theorem dL_fills_282 : decode cL_fills 282 = .ok (.iload 5, 2) := by decide +kernel
theorem dL_fills_284 : decode cL_fills 284 = .ok (.iload 6, 2) := by decide +kernel
theorem dL_fills_286 : decode cL_fills 286 = .ok (.invokestatic 134, 3) := by decide +kernel
theorem dL_fills_289 : decode cL_fills 289 = .ok (.iload 7, 2) := by decide +kernel
theorem dL_fills_291 : decode cL_fills 291 = .ok (.if_icmp .ne 33, 3) := by decide +kernel
theorem dL_fills_294 : decode cL_fills 294 = .ok (.aload_n 0, 1) := by decide +kernel
theorem dL_fills_295 : decode cL_fills 295 = .ok (.iload 5, 2) := by decide +kernel
theorem dL_fills_297 : decode cL_fills 297 = .ok (.iconst 0, 1) := by decide +kernel
theorem dL_fills_298 : decode cL_fills 298 = .ok (.invokestatic 134, 3) := by decide +kernel
theorem dL_fills_301 : decode cL_fills 301 = .ok (.ldc 18, 2) := by decide +kernel
theorem dL_fills_303 : decode cL_fills 303 = .ok (.if_icmp .ne 21, 3) := by decide +kernel
theorem dL_fills_306 : decode cL_fills 306 = .ok (.aload_n 0, 1) := by decide +kernel
theorem dL_fills_307 : decode cL_fills 307 = .ok (.aload 4, 2) := by decide +kernel
theorem dL_fills_309 : decode cL_fills 309 = .ok (.iconst 1, 1) := by decide +kernel
theorem dL_fills_310 : decode cL_fills 310 = .ok (.iaload, 1) := by decide +kernel
theorem dL_fills_311 : decode cL_fills 311 = .ok (.iconst 0, 1) := by decide +kernel
theorem dL_fills_312 : decode cL_fills 312 = .ok (.invokestatic 134, 3) := by decide +kernel
theorem dL_fills_315 : decode cL_fills 315 = .ok (.ldc 28, 2) := by decide +kernel
theorem dL_fills_317 : decode cL_fills 317 = .ok (.if_icmp .ne 7, 3) := by decide +kernel
theorem dL_fills_320 : decode cL_fills 320 = .ok (.iconst 1, 1) := by decide +kernel
theorem dL_fills_321 : decode cL_fills 321 = .ok (.goto 4, 3) := by decide +kernel
theorem dL_fills_324 : decode cL_fills 324 = .ok (.iconst 0, 1) := by decide +kernel
theorem dL_fills_325 : decode cL_fills 325 = .ok (.ireturn, 1) := by decide +kernel
set_option maxRecDepth 20000 in
theorem ggL_acts_L_low : GoodIn wsL_acts wsL_low := goodIn_r _ [9, 10] (by decide +kernel) (by decide +kernel)
set_option maxRecDepth 20000 in
theorem gL_acts_L_low : GoodIn wsL_acts (va_wsS RL 140 yL_low wsL_low) := goodIn_app (goodIn_of _ (by decide +kernel)) ggL_acts_L_low
set_option maxRecDepth 20000 in
theorem ggL_acts_L_addBreak : GoodIn wsL_acts wsL_addBreak := goodIn_ca (goodIn_ca (goodIn_r _ [13, 14, 15, 2, 1, 16, 17, 18, 19, 20, 21, 22, 23, 24, 25, 26, 27, 28, 29, 30, 31, 32, 33, 34, 35, 265, 266, 267, 268, 269, 270, 271, 272, 273, 274, 275, 276, 277, 278, 279, 280, 281, 282] (by decide +kernel) (by decide +kernel)) (goodIn_sub (fun _ h => List.mem_cons_of_mem _ (List.mem_append_left _ (List.mem_append_left _ (List.mem_append_right _ h)))) (by decide +kernel))) (goodIn_sub (fun _ h => List.mem_cons_of_mem _ (List.mem_append_left _ (List.mem_append_right _ h))) (by decide +kernel))
set_option maxRecDepth 20000 in
theorem gL_acts_L_addBreak : GoodIn wsL_acts (va_wsS RL 143 yL_addBreak wsL_addBreak) := goodIn_app (goodIn_of _ (by decide +kernel)) ggL_acts_L_addBreak
set_option maxRecDepth 20000 in
theorem ggL_acts_L_addOrder : GoodIn wsL_acts wsL_addOrder := goodIn_ca (goodIn_ca (goodIn_r _ [38, 14, 15, 2, 1, 39, 40, 41, 19, 42, 43, 44, 45, 46, 47, 48, 49, 50, 51, 52, 53, 54, 55, 23, 24, 25, 26, 27, 28, 29, 30, 56, 57, 58, 59, 60, 61, 31, 32, 33, 34, 35, 265, 266, 267, 268, 269, 270, 271, 272, 273, 274, 275, 276, 277, 278, 279, 280, 281, 282] (by decide +kernel) (by decide +kernel)) (goodIn_sub (fun _ h => List.mem_cons_of_mem _ (List.mem_append_left _ (List.mem_append_left _ (List.mem_append_right _ h)))) (by decide +kernel))) (goodIn_sub (fun _ h => List.mem_cons_of_mem _ (List.mem_append_left _ (List.mem_append_right _ h))) (by decide +kernel))
set_option maxRecDepth 20000 in
theorem gL_acts_L_addOrder : GoodIn wsL_acts (va_wsS RL 146 yL_addOrder wsL_addOrder) := goodIn_app (goodIn_of _ (by decide +kernel)) ggL_acts_L_addOrder
set_option maxRecDepth 20000 in
theorem ggL_acts_L_rating : GoodIn wsL_acts wsL_rating := goodIn_ca (goodIn_ca (goodIn_r _ [64, 65, 14, 5, 2, 66, 67, 68, 19, 69, 70, 71, 72, 73, 74, 21, 75, 76, 77, 78, 79, 56, 57, 58, 23, 24, 25, 26, 27, 28, 29, 30, 80, 81, 82, 265, 266, 267, 268, 269, 270, 271, 272, 273, 274, 275, 276, 277, 278, 279, 280, 281, 282] (by decide +kernel) (by decide +kernel)) (goodIn_sub (fun _ h => List.mem_cons_of_mem _ (List.mem_append_right _ h)) (by decide +kernel))) (goodIn_sub (fun _ h => List.mem_cons_of_mem _ (List.mem_append_left _ (List.mem_append_left _ (List.mem_append_right _ h)))) (by decide +kernel))
set_option maxRecDepth 20000 in
theorem gL_acts_L_rating : GoodIn wsL_acts (va_wsS RL 118 yL_rating wsL_rating) := goodIn_app (goodIn_of _ (by decide +kernel)) ggL_acts_L_rating
set_option maxRecDepth 20000 in
theorem ggL_acts_L_rate : GoodIn wsL_acts wsL_rate := goodIn_ca (goodIn_ca (goodIn_r _ [85, 65, 14, 5, 2, 86, 87, 88, 19, 89, 44, 70, 71, 72, 73, 74, 21, 75, 76, 77, 78, 79, 56, 57, 58, 23, 24, 25, 26, 27, 28, 29, 30, 80, 81, 82, 265, 266, 267, 268, 269, 270, 271, 272, 273, 274, 275, 276, 277, 278, 279, 280, 281, 282] (by decide +kernel) (by decide +kernel)) (goodIn_sub (fun _ h => List.mem_cons_of_mem _ (List.mem_append_right _ h)) (by decide +kernel))) (goodIn_sub (fun _ h => List.mem_cons_of_mem _ (List.mem_append_left _ (List.mem_append_left _ (List.mem_append_right _ h)))) (by decide +kernel))
set_option maxRecDepth 20000 in
theorem gL_acts_L_rate : GoodIn wsL_acts (va_wsS RL 150 yL_rate wsL_rate) := goodIn_app (goodIn_of _ (by decide +kernel)) ggL_acts_L_rate
set_option maxRecDepth 20000 in
theorem ggL_acts_L_whyNot : GoodIn wsL_acts wsL_whyNot := goodIn_ca (goodIn_r _ [92, 65, 5, 93, 94, 95, 19, 96, 97, 98, 99, 100, 45, 75, 76, 77, 78, 79, 71, 72, 73, 74, 21, 101, 102, 103, 104, 105, 49, 52, 46, 106, 107, 108, 109, 22, 110, 111, 112, 113, 114, 115, 116, 117, 118, 119, 120, 121, 70, 48, 80, 81, 82, 122, 123, 124, 125, 126, 127, 128, 129, 130, 131, 132, 133, 47, 265, 266, 267, 268, 269, 270, 271, 272, 273, 274, 275, 276, 277, 278, 279, 280, 281, 282] (by decide +kernel) (by decide +kernel)) (goodIn_sub (fun _ h => List.mem_cons_of_mem _ (List.mem_append_right _ h)) (by decide +kernel))
set_option maxRecDepth 20000 in
theorem gL_acts_L_whyNot : GoodIn wsL_acts (va_wsS RL 136 yL_whyNot wsL_whyNot) := goodIn_app (goodIn_of _ (by decide +kernel)) ggL_acts_L_whyNot
set_option maxRecDepth 20000 in
theorem ggL_acts_L_rest : GoodIn wsL_acts wsL_rest := goodIn_ca (goodIn_r _ [136, 65, 5, 137, 138, 139, 19, 140, 97, 98, 99, 100, 45, 75, 76, 77, 78, 79, 141, 142, 143, 144, 110, 112, 145, 117, 111, 146, 147, 148, 149, 150, 151, 152, 153, 154, 51, 155, 156, 157, 158, 118, 119, 120, 121, 70, 48, 80, 81, 82, 265, 266, 267, 268, 269, 270, 271, 272, 273, 274, 275, 276, 277, 278, 279, 280, 281, 282] (by decide +kernel) (by decide +kernel)) (goodIn_sub (fun _ h => List.mem_cons_of_mem _ (List.mem_append_right _ h)) (by decide +kernel))
set_option maxRecDepth 20000 in
theorem gL_acts_L_rest : GoodIn wsL_acts (va_wsS RL 125 yL_rest wsL_rest) := goodIn_app (goodIn_of _ (by decide +kernel)) ggL_acts_L_rest
set_option maxRecDepth 20000 in
theorem ggL_acts_L_give : GoodIn wsL_acts wsL_give := goodIn_ca (goodIn_ca (goodIn_r _ [161, 65, 15, 5, 1, 162, 163, 164, 19, 165, 110, 97, 98, 99, 100, 45, 75, 76, 77, 78, 79, 71, 72, 73, 74, 21, 141, 142, 143, 144, 112, 145, 117, 111, 146, 147, 148, 149, 150, 151, 152, 153, 154, 51, 155, 156, 157, 158, 118, 119, 120, 121, 70, 48, 80, 81, 82, 31, 32, 33, 34, 35, 101, 102, 103, 104, 105, 49, 52, 46, 106, 107, 108, 109, 22, 113, 114, 115, 116, 122, 123, 124, 125, 126, 127, 128, 129, 130, 131, 132, 133, 47, 166, 167, 168, 169, 265, 266, 267, 268, 269, 270, 271, 272, 273, 274, 275, 276, 277, 278, 279, 280, 281, 282] (by decide +kernel) (by decide +kernel)) (goodIn_sub (fun _ h => List.mem_cons_of_mem _ (List.mem_append_right _ h)) (by decide +kernel))) (goodIn_sub (fun _ h => List.mem_cons_of_mem _ (List.mem_append_left _ (List.mem_append_right _ h))) (by decide +kernel))
set_option maxRecDepth 20000 in
theorem gL_acts_L_give : GoodIn wsL_acts (va_wsS RL 153 yL_give wsL_give) := goodIn_app (goodIn_of _ (by decide +kernel)) ggL_acts_L_give
set_option maxRecDepth 20000 in
theorem ggL_acts_L_place : GoodIn wsL_acts wsL_place := goodIn_ca (goodIn_ca (goodIn_r _ [172, 65, 15, 5, 1, 173, 174, 175, 19, 176, 154, 110, 97, 98, 99, 100, 45, 75, 76, 77, 78, 79, 71, 72, 73, 74, 21, 31, 32, 33, 34, 35, 101, 102, 103, 104, 105, 49, 52, 46, 106, 107, 108, 109, 22, 111, 112, 113, 114, 115, 116, 117, 118, 119, 120, 121, 70, 48, 80, 81, 82, 122, 123, 124, 125, 126, 127, 128, 129, 130, 131, 132, 133, 47, 166, 167, 168, 169, 145, 265, 266, 267, 268, 269, 270, 271, 272, 273, 274, 275, 276, 277, 278, 279, 280, 281, 282] (by decide +kernel) (by decide +kernel)) (goodIn_sub (fun _ h => List.mem_cons_of_mem _ (List.mem_append_right _ h)) (by decide +kernel))) (goodIn_sub (fun _ h => List.mem_cons_of_mem _ (List.mem_append_left _ (List.mem_append_right _ h))) (by decide +kernel))
set_option maxRecDepth 20000 in
theorem gL_acts_L_place : GoodIn wsL_acts (va_wsS RL 138 yL_place wsL_place) := goodIn_app (goodIn_of _ (by decide +kernel)) ggL_acts_L_place
set_option maxRecDepth 20000 in
theorem ggL_acts_L_stateOf : GoodIn wsL_acts wsL_stateOf := goodIn_ca (goodIn_r _ [179, 65, 5, 180, 181, 182, 19, 183, 117, 184, 185, 186, 187, 110, 75, 76, 77, 78, 79, 265, 266, 267, 268, 269, 270, 271, 272, 273, 274, 275, 276, 277, 278, 279, 280, 281, 282] (by decide +kernel) (by decide +kernel)) (goodIn_sub (fun _ h => List.mem_cons_of_mem _ (List.mem_append_right _ h)) (by decide +kernel))
set_option maxRecDepth 20000 in
theorem gL_acts_L_stateOf : GoodIn wsL_acts (va_wsS RL 93 yL_stateOf wsL_stateOf) := goodIn_app (goodIn_of _ (by decide +kernel)) ggL_acts_L_stateOf
set_option maxRecDepth 20000 in
theorem ggL_acts_L_breakOf : GoodIn wsL_acts wsL_breakOf := goodIn_ca (goodIn_r _ [190, 65, 5, 191, 192, 193, 19, 194, 111, 184, 185, 186, 187, 110, 75, 76, 77, 78, 79, 265, 266, 267, 268, 269, 270, 271, 272, 273, 274, 275, 276, 277, 278, 279, 280, 281, 282] (by decide +kernel) (by decide +kernel)) (goodIn_sub (fun _ h => List.mem_cons_of_mem _ (List.mem_append_right _ h)) (by decide +kernel))
set_option maxRecDepth 20000 in
theorem gL_acts_L_breakOf : GoodIn wsL_acts (va_wsS RL 102 yL_breakOf wsL_breakOf) := goodIn_app (goodIn_of _ (by decide +kernel)) ggL_acts_L_breakOf
set_option maxRecDepth 20000 in
theorem ggL_acts_L_fills : GoodIn wsL_acts wsL_fills := goodIn_ca (goodIn_ca (goodIn_ca (goodIn_r _ [197, 1, 2, 5, 198, 199, 8, 200, 65, 14, 15, 201, 202, 203, 19, 204, 154, 110, 97, 98, 99, 100, 45, 75, 76, 77, 78, 79, 23, 24, 25, 26, 27, 28, 29, 30, 31, 32, 33, 34, 35, 205, 206, 207, 208, 51, 155, 156, 157, 158, 112, 117, 111, 118, 119, 120, 121, 70, 48, 80, 81, 82, 209, 210, 211, 212, 21, 101, 102, 103, 104, 105, 49, 52, 46, 106, 107, 108, 109, 22, 113, 114, 115, 116, 122, 123, 124, 125, 126, 127, 128, 129, 130, 131, 132, 133, 47, 166, 167, 168, 169, 145, 213, 214, 215, 177, 178, 179, 180, 181, 182, 183, 184, 185, 186, 187, 188, 189, 190, 191, 192, 193, 194, 62, 63, 64, 66, 67, 68, 69, 71, 72, 73, 74, 56, 57, 58, 90, 91, 92, 93, 94, 95, 96, 170, 171, 172, 173, 174, 175, 176, 265, 266, 267, 268, 269, 270, 271, 272, 273, 274, 275, 276, 277, 278, 279, 280, 281, 282] rfl (by decide +kernel)) (goodIn_sub (fun _ h => List.mem_cons_of_mem _ (List.mem_append_right _ h)) (by decide +kernel))) (goodIn_sub (fun _ h => List.mem_cons_of_mem _ (List.mem_append_left _ (List.mem_append_left _ (List.mem_append_right _ h)))) (by decide +kernel))) (goodIn_sub (fun _ h => List.mem_cons_of_mem _ (List.mem_append_left _ (List.mem_append_right _ h))) (by decide +kernel))
set_option maxRecDepth 20000 in
theorem gL_acts_L_fills : GoodIn wsL_acts (va_wsS RL 155 yL_fills wsL_fills) := goodIn_app (goodIn_of _ (by decide +kernel)) ggL_acts_L_fills
set_option maxRecDepth 20000 in
theorem ggL_acts_L_move : GoodIn wsL_acts wsL_move := goodIn_ca (goodIn_ca (goodIn_r _ [218, 65, 15, 5, 1, 219, 220, 221, 19, 222, 117, 111, 112, 184, 185, 186, 187, 110, 75, 76, 77, 78, 79, 71, 72, 73, 74, 21, 31, 32, 33, 34, 35, 101, 102, 103, 104, 105, 49, 52, 46, 106, 107, 108, 109, 22, 113, 114, 115, 116, 118, 119, 120, 121, 70, 48, 80, 81, 82, 122, 123, 124, 125, 126, 127, 128, 129, 130, 131, 132, 133, 47, 265, 266, 267, 268, 269, 270, 271, 272, 273, 274, 275, 276, 277, 278, 279, 280, 281, 282] (by decide +kernel) (by decide +kernel)) (goodIn_sub (fun _ h => List.mem_cons_of_mem _ (List.mem_append_right _ h)) (by decide +kernel))) (goodIn_sub (fun _ h => List.mem_cons_of_mem _ (List.mem_append_left _ (List.mem_append_right _ h))) (by decide +kernel))
set_option maxRecDepth 20000 in
theorem gL_acts_L_move : GoodIn wsL_acts (va_wsS RL 159 yL_move wsL_move) := goodIn_app (goodIn_of _ (by decide +kernel)) ggL_acts_L_move
set_option maxRecDepth 20000 in
theorem ggL_acts_L_miss : GoodIn wsL_acts wsL_miss := goodIn_ca (goodIn_ca (goodIn_r _ [225, 65, 15, 5, 1, 226, 227, 228, 19, 229, 117, 184, 185, 186, 187, 110, 75, 76, 77, 78, 79, 113, 114, 115, 116, 31, 32, 33, 34, 35, 265, 266, 267, 268, 269, 270, 271, 272, 273, 274, 275, 276, 277, 278, 279, 280, 281, 282] (by decide +kernel) (by decide +kernel)) (goodIn_sub (fun _ h => List.mem_cons_of_mem _ (List.mem_append_right _ h)) (by decide +kernel))) (goodIn_sub (fun _ h => List.mem_cons_of_mem _ (List.mem_append_left _ (List.mem_append_right _ h))) (by decide +kernel))
set_option maxRecDepth 20000 in
theorem gL_acts_L_miss : GoodIn wsL_acts (va_wsS RL 161 yL_miss wsL_miss) := goodIn_app (goodIn_of _ (by decide +kernel)) ggL_acts_L_miss
set_option maxRecDepth 20000 in
theorem ggL_acts_L_drop : GoodIn wsL_acts wsL_drop := goodIn_ca (goodIn_ca (goodIn_r _ [232, 65, 15, 5, 1, 233, 234, 235, 19, 236, 117, 184, 185, 186, 187, 110, 75, 76, 77, 78, 79, 31, 32, 33, 34, 35, 265, 266, 267, 268, 269, 270, 271, 272, 273, 274, 275, 276, 277, 278, 279, 280, 281, 282] (by decide +kernel) (by decide +kernel)) (goodIn_sub (fun _ h => List.mem_cons_of_mem _ (List.mem_append_right _ h)) (by decide +kernel))) (goodIn_sub (fun _ h => List.mem_cons_of_mem _ (List.mem_append_left _ (List.mem_append_right _ h))) (by decide +kernel))
set_option maxRecDepth 20000 in
theorem gL_acts_L_drop : GoodIn wsL_acts (va_wsS RL 163 yL_drop wsL_drop) := goodIn_app (goodIn_of _ (by decide +kernel)) ggL_acts_L_drop
set_option maxRecDepth 20000 in
theorem ggL_acts_L_isAired : GoodIn wsL_acts wsL_isAired := goodIn_ca (goodIn_r _ [239, 65, 5, 240, 241, 242, 19, 243, 105, 71, 72, 73, 74, 21, 75, 76, 77, 78, 79, 265, 266, 267, 268, 269, 270, 271, 272, 273, 274, 275, 276, 277, 278, 279, 280, 281, 282] (by decide +kernel) (by decide +kernel)) (goodIn_sub (fun _ h => List.mem_cons_of_mem _ (List.mem_append_right _ h)) (by decide +kernel))
set_option maxRecDepth 20000 in
theorem gL_acts_L_isAired : GoodIn wsL_acts (va_wsS RL 106 yL_isAired wsL_isAired) := goodIn_app (goodIn_of _ (by decide +kernel)) ggL_acts_L_isAired
set_option maxRecDepth 20000 in
theorem ggL_acts_L_air : GoodIn wsL_acts wsL_air := goodIn_ca (goodIn_ca (goodIn_r _ [246, 65, 15, 5, 1, 247, 248, 249, 19, 250, 105, 110, 111, 117, 71, 72, 73, 74, 21, 75, 76, 77, 78, 79, 31, 32, 33, 34, 35, 265, 266, 267, 268, 269, 270, 271, 272, 273, 274, 275, 276, 277, 278, 279, 280, 281, 282] (by decide +kernel) (by decide +kernel)) (goodIn_sub (fun _ h => List.mem_cons_of_mem _ (List.mem_append_right _ h)) (by decide +kernel))) (goodIn_sub (fun _ h => List.mem_cons_of_mem _ (List.mem_append_left _ (List.mem_append_right _ h))) (by decide +kernel))
set_option maxRecDepth 20000 in
theorem gL_acts_L_air : GoodIn wsL_acts (va_wsS RL 165 yL_air wsL_air) := goodIn_app (goodIn_of _ (by decide +kernel)) ggL_acts_L_air
set_option maxRecDepth 20000 in
theorem ggL_acts_L_close : GoodIn wsL_acts wsL_close := goodIn_ca (goodIn_ca (goodIn_r _ [253, 65, 15, 5, 1, 254, 255, 256, 19, 257, 154, 110, 112, 117, 97, 98, 99, 100, 45, 75, 76, 77, 78, 79, 31, 32, 33, 34, 35, 150, 151, 152, 153, 51, 146, 147, 148, 149, 155, 156, 157, 158, 111, 118, 119, 120, 121, 70, 48, 80, 81, 82, 265, 266, 267, 268, 269, 270, 271, 272, 273, 274, 275, 276, 277, 278, 279, 280, 281, 282] (by decide +kernel) (by decide +kernel)) (goodIn_sub (fun _ h => List.mem_cons_of_mem _ (List.mem_append_right _ h)) (by decide +kernel))) (goodIn_sub (fun _ h => List.mem_cons_of_mem _ (List.mem_append_left _ (List.mem_append_right _ h))) (by decide +kernel))
set_option maxRecDepth 20000 in
theorem gL_acts_L_close : GoodIn wsL_acts (va_wsS RL 167 yL_close wsL_close) := goodIn_app (goodIn_of _ (by decide +kernel)) ggL_acts_L_close
set_option maxRecDepth 20000 in
theorem ggL_acts_L_owed : GoodIn wsL_acts wsL_owed := goodIn_ca (goodIn_r _ [260, 65, 5, 261, 262, 263, 19, 264, 97, 98, 99, 100, 45, 75, 76, 77, 78, 79, 150, 151, 152, 153, 154, 51, 146, 147, 148, 149, 155, 156, 157, 158, 110, 112, 117, 111, 118, 119, 120, 121, 70, 48, 80, 81, 82, 265, 266, 267, 268, 269, 270, 271, 272, 273, 274, 275, 276, 277, 278, 279, 280, 281, 282] (by decide +kernel) (by decide +kernel)) (goodIn_sub (fun _ h => List.mem_cons_of_mem _ (List.mem_append_right _ h)) (by decide +kernel))
set_option maxRecDepth 20000 in
theorem gL_acts_L_owed : GoodIn wsL_acts (va_wsS RL 123 yL_owed wsL_owed) := goodIn_app (goodIn_of _ (by decide +kernel)) ggL_acts_L_owed
theorem dL_acts_0 : decode cL_acts 0 = .ok (.iload 6, 2) := by decide +kernel
theorem dL_acts_2 : decode cL_acts 2 = .ok (.bipush 28, 2) := by decide +kernel
theorem dL_acts_4 : decode cL_acts 4 = .ok (.invokestatic 140, 3) := by decide +kernel
theorem dL_acts_7 : decode cL_acts 7 = .ok (.istore 8, 2) := by decide +kernel
theorem dL_acts_9 : decode cL_acts 9 = .ok (.aload 5, 2) := by decide +kernel
theorem dL_acts_11 : decode cL_acts 11 = .ok (.iconst 0, 1) := by decide +kernel
theorem dL_acts_12 : decode cL_acts 12 = .ok (.iaload, 1) := by decide +kernel
theorem dL_acts_13 : decode cL_acts 13 = .ok (.iconst 3, 1) := by decide +kernel
theorem dL_acts_14 : decode cL_acts 14 = .ok (.if_icmp .lt 8, 3) := by decide +kernel
theorem dL_acts_17 : decode cL_acts 17 = .ok (.iload 8, 2) := by decide +kernel
theorem dL_acts_19 : decode cL_acts 19 = .ok (.ifCond .ne 133, 3) := by decide +kernel
theorem dL_acts_22 : decode cL_acts 22 = .ok (.iload 7, 2) := by decide +kernel
theorem dL_acts_24 : decode cL_acts 24 = .ok (.iconst 3, 1) := by decide +kernel
theorem dL_acts_25 : decode cL_acts 25 = .ok (.invokestatic 140, 3) := by decide +kernel
theorem dL_acts_28 : decode cL_acts 28 = .ok (.ifCond .ne 19, 3) := by decide +kernel
theorem dL_acts_31 : decode cL_acts 31 = .ok (.bipush 15, 2) := by decide +kernel
theorem dL_acts_33 : decode cL_acts 33 = .ok (.iload 7, 2) := by decide +kernel
theorem dL_acts_35 : decode cL_acts 35 = .ok (.iconst 2, 1) := by decide +kernel
theorem dL_acts_36 : decode cL_acts 36 = .ok (.ishr, 1) := by decide +kernel
theorem dL_acts_37 : decode cL_acts 37 = .ok (.sipush 586, 3) := by decide +kernel
theorem dL_acts_40 : decode cL_acts 40 = .ok (.invokestatic 140, 3) := by decide +kernel
theorem dL_acts_43 : decode cL_acts 43 = .ok (.iadd, 1) := by decide +kernel
theorem dL_acts_44 : decode cL_acts 44 = .ok (.goto 16, 3) := by decide +kernel
theorem dL_acts_47 : decode cL_acts 47 = .ok (.bipush 30, 2) := by decide +kernel
theorem dL_acts_49 : decode cL_acts 49 = .ok (.iconst 1, 1) := by decide +kernel
theorem dL_acts_50 : decode cL_acts 50 = .ok (.iload 7, 2) := by decide +kernel
theorem dL_acts_52 : decode cL_acts 52 = .ok (.iconst 2, 1) := by decide +kernel
theorem dL_acts_53 : decode cL_acts 53 = .ok (.ishr, 1) := by decide +kernel
theorem dL_acts_54 : decode cL_acts 54 = .ok (.iconst 5, 1) := by decide +kernel
theorem dL_acts_55 : decode cL_acts 55 = .ok (.invokestatic 140, 3) := by decide +kernel
theorem dL_acts_58 : decode cL_acts 58 = .ok (.iadd, 1) := by decide +kernel
theorem dL_acts_59 : decode cL_acts 59 = .ok (.imul, 1) := by decide +kernel
theorem dL_acts_60 : decode cL_acts 60 = .ok (.istore 9, 2) := by decide +kernel
theorem dL_acts_62 : decode cL_acts 62 = .ok (.aload 5, 2) := by decide +kernel
theorem dL_acts_64 : decode cL_acts 64 = .ok (.iconst 0, 1) := by decide +kernel
theorem dL_acts_65 : decode cL_acts 65 = .ok (.iaload, 1) := by decide +kernel
theorem dL_acts_66 : decode cL_acts 66 = .ok (.bipush 24, 2) := by decide +kernel
theorem dL_acts_68 : decode cL_acts 68 = .ok (.if_icmp .ge 10, 3) := by decide +kernel
theorem dL_acts_71 : decode cL_acts 71 = .ok (.aload 5, 2) := by decide +kernel
theorem dL_acts_73 : decode cL_acts 73 = .ok (.iconst 0, 1) := by decide +kernel
theorem dL_acts_74 : decode cL_acts 74 = .ok (.iaload, 1) := by decide +kernel
theorem dL_acts_75 : decode cL_acts 75 = .ok (.goto 5, 3) := by decide +kernel
theorem dL_acts_78 : decode cL_acts 78 = .ok (.ldc 21, 2) := by decide +kernel
theorem dL_acts_80 : decode cL_acts 80 = .ok (.istore 10, 2) := by decide +kernel
theorem dL_acts_82 : decode cL_acts 82 = .ok (.iload 10, 2) := by decide +kernel
theorem dL_acts_84 : decode cL_acts 84 = .ok (.ifCond .lt 17, 3) := by decide +kernel
theorem dL_acts_87 : decode cL_acts 87 = .ok (.aload_n 3, 1) := by decide +kernel
theorem dL_acts_88 : decode cL_acts 88 = .ok (.iload 10, 2) := by decide +kernel
theorem dL_acts_90 : decode cL_acts 90 = .ok (.iload 9, 2) := by decide +kernel
theorem dL_acts_92 : decode cL_acts 92 = .ok (.iastore, 1) := by decide +kernel
theorem dL_acts_93 : decode cL_acts 93 = .ok (.aload 5, 2) := by decide +kernel
theorem dL_acts_95 : decode cL_acts 95 = .ok (.iconst 0, 1) := by decide +kernel
theorem dL_acts_96 : decode cL_acts 96 = .ok (.dup2, 1) := by decide +kernel
theorem dL_acts_97 : decode cL_acts 97 = .ok (.iaload, 1) := by decide +kernel
theorem dL_acts_98 : decode cL_acts 98 = .ok (.iconst 1, 1) := by decide +kernel
theorem dL_acts_99 : decode cL_acts 99 = .ok (.iadd, 1) := by decide +kernel
theorem dL_acts_100 : decode cL_acts 100 = .ok (.iastore, 1) := by decide +kernel
theorem dL_acts_101 : decode cL_acts 101 = .ok (.aload_n 0, 1) := by decide +kernel
theorem dL_acts_102 : decode cL_acts 102 = .ok (.iload 9, 2) := by decide +kernel
theorem dL_acts_104 : decode cL_acts 104 = .ok (.invokestatic 143, 3) := by decide +kernel
theorem dL_acts_107 : decode cL_acts 107 = .ok (.iload 10, 2) := by decide +kernel
theorem dL_acts_109 : decode cL_acts 109 = .ok (.if_icmp .ne 41, 3) := by decide +kernel
theorem dL_acts_112 : decode cL_acts 112 = .ok (.aload_n 1, 1) := by decide +kernel
theorem dL_acts_113 : decode cL_acts 113 = .ok (.iload 9, 2) := by decide +kernel
theorem dL_acts_115 : decode cL_acts 115 = .ok (.invokestatic 143, 3) := by decide +kernel
theorem dL_acts_118 : decode cL_acts 118 = .ok (.iload 10, 2) := by decide +kernel
theorem dL_acts_120 : decode cL_acts 120 = .ok (.if_icmp .ne 30, 3) := by decide +kernel
theorem dL_acts_123 : decode cL_acts 123 = .ok (.aload_n 0, 1) := by decide +kernel
theorem dL_acts_124 : decode cL_acts 124 = .ok (.bipush 14, 2) := by decide +kernel
theorem dL_acts_126 : decode cL_acts 126 = .ok (.invokestatic 143, 3) := by decide +kernel
theorem dL_acts_129 : decode cL_acts 129 = .ok (.ldc 18, 2) := by decide +kernel
theorem dL_acts_131 : decode cL_acts 131 = .ok (.if_icmp .ne 19, 3) := by decide +kernel
theorem dL_acts_134 : decode cL_acts 134 = .ok (.aload_n 0, 1) := by decide +kernel
theorem dL_acts_135 : decode cL_acts 135 = .ok (.sipush 601, 3) := by decide +kernel
theorem dL_acts_138 : decode cL_acts 138 = .ok (.invokestatic 143, 3) := by decide +kernel
theorem dL_acts_141 : decode cL_acts 141 = .ok (.ldc 18, 2) := by decide +kernel
theorem dL_acts_143 : decode cL_acts 143 = .ok (.if_icmp .ne 7, 3) := by decide +kernel
theorem dL_acts_146 : decode cL_acts 146 = .ok (.iconst 1, 1) := by decide +kernel
theorem dL_acts_147 : decode cL_acts 147 = .ok (.goto 4, 3) := by decide +kernel
theorem dL_acts_150 : decode cL_acts 150 = .ok (.iconst 0, 1) := by decide +kernel
theorem dL_acts_151 : decode cL_acts 151 = .ok (.ireturn, 1) := by decide +kernel
theorem dL_acts_152 : decode cL_acts 152 = .ok (.aload 5, 2) := by decide +kernel
theorem dL_acts_154 : decode cL_acts 154 = .ok (.iconst 1, 1) := by decide +kernel
theorem dL_acts_155 : decode cL_acts 155 = .ok (.iaload, 1) := by decide +kernel
theorem dL_acts_156 : decode cL_acts 156 = .ok (.iconst 3, 1) := by decide +kernel
theorem dL_acts_157 : decode cL_acts 157 = .ok (.if_icmp .lt 18, 3) := by decide +kernel
theorem dL_acts_160 : decode cL_acts 160 = .ok (.iload 8, 2) := by decide +kernel
theorem dL_acts_162 : decode cL_acts 162 = .ok (.iconst 1, 1) := by decide +kernel
theorem dL_acts_163 : decode cL_acts 163 = .ok (.if_icmp .ne 302, 3) := by decide +kernel
theorem dL_acts_166 : decode cL_acts 166 = .ok (.aload 5, 2) := by decide +kernel
theorem dL_acts_168 : decode cL_acts 168 = .ok (.iconst 1, 1) := by decide +kernel
theorem dL_acts_169 : decode cL_acts 169 = .ok (.iaload, 1) := by decide +kernel
theorem dL_acts_170 : decode cL_acts 170 = .ok (.bipush 9, 2) := by decide +kernel
theorem dL_acts_172 : decode cL_acts 172 = .ok (.if_icmp .ge 293, 3) := by decide +kernel
theorem dL_acts_175 : decode cL_acts 175 = .ok (.bipush 7, 2) := by decide +kernel
theorem dL_acts_177 : decode cL_acts 177 = .ok (.aload 5, 2) := by decide +kernel
theorem dL_acts_179 : decode cL_acts 179 = .ok (.iconst 1, 1) := by decide +kernel
theorem dL_acts_180 : decode cL_acts 180 = .ok (.iaload, 1) := by decide +kernel
theorem dL_acts_181 : decode cL_acts 181 = .ok (.imul, 1) := by decide +kernel
theorem dL_acts_182 : decode cL_acts 182 = .ok (.istore 9, 2) := by decide +kernel
theorem dL_acts_184 : decode cL_acts 184 = .ok (.aload_n 2, 1) := by decide +kernel
theorem dL_acts_185 : decode cL_acts 185 = .ok (.iload 9, 2) := by decide +kernel
theorem dL_acts_187 : decode cL_acts 187 = .ok (.iload 7, 2) := by decide +kernel
theorem dL_acts_189 : decode cL_acts 189 = .ok (.iconst 4, 1) := by decide +kernel
theorem dL_acts_190 : decode cL_acts 190 = .ok (.invokestatic 140, 3) := by decide +kernel
theorem dL_acts_193 : decode cL_acts 193 = .ok (.iastore, 1) := by decide +kernel
theorem dL_acts_194 : decode cL_acts 194 = .ok (.aload_n 2, 1) := by decide +kernel
theorem dL_acts_195 : decode cL_acts 195 = .ok (.iload 9, 2) := by decide +kernel
theorem dL_acts_197 : decode cL_acts 197 = .ok (.iconst 1, 1) := by decide +kernel
theorem dL_acts_198 : decode cL_acts 198 = .ok (.iadd, 1) := by decide +kernel
theorem dL_acts_199 : decode cL_acts 199 = .ok (.iload 7, 2) := by decide +kernel
theorem dL_acts_201 : decode cL_acts 201 = .ok (.iconst 2, 1) := by decide +kernel
theorem dL_acts_202 : decode cL_acts 202 = .ok (.ishr, 1) := by decide +kernel
theorem dL_acts_203 : decode cL_acts 203 = .ok (.iconst 2, 1) := by decide +kernel
theorem dL_acts_204 : decode cL_acts 204 = .ok (.invokestatic 140, 3) := by decide +kernel
theorem dL_acts_207 : decode cL_acts 207 = .ok (.iastore, 1) := by decide +kernel
theorem dL_acts_208 : decode cL_acts 208 = .ok (.aload_n 2, 1) := by decide +kernel
theorem dL_acts_209 : decode cL_acts 209 = .ok (.iload 9, 2) := by decide +kernel
theorem dL_acts_211 : decode cL_acts 211 = .ok (.iconst 2, 1) := by decide +kernel
theorem dL_acts_212 : decode cL_acts 212 = .ok (.iadd, 1) := by decide +kernel
theorem dL_acts_213 : decode cL_acts 213 = .ok (.iload 7, 2) := by decide +kernel
theorem dL_acts_215 : decode cL_acts 215 = .ok (.iconst 3, 1) := by decide +kernel
theorem dL_acts_216 : decode cL_acts 216 = .ok (.ishr, 1) := by decide +kernel
theorem dL_acts_217 : decode cL_acts 217 = .ok (.iconst 3, 1) := by decide +kernel
theorem dL_acts_218 : decode cL_acts 218 = .ok (.invokestatic 140, 3) := by decide +kernel
theorem dL_acts_221 : decode cL_acts 221 = .ok (.iastore, 1) := by decide +kernel
theorem dL_acts_222 : decode cL_acts 222 = .ok (.aload_n 2, 1) := by decide +kernel
theorem dL_acts_223 : decode cL_acts 223 = .ok (.iload 9, 2) := by decide +kernel
theorem dL_acts_225 : decode cL_acts 225 = .ok (.iconst 3, 1) := by decide +kernel
theorem dL_acts_226 : decode cL_acts 226 = .ok (.iadd, 1) := by decide +kernel
theorem dL_acts_227 : decode cL_acts 227 = .ok (.iload 7, 2) := by decide +kernel
theorem dL_acts_229 : decode cL_acts 229 = .ok (.iconst 5, 1) := by decide +kernel
theorem dL_acts_230 : decode cL_acts 230 = .ok (.ishr, 1) := by decide +kernel
theorem dL_acts_231 : decode cL_acts 231 = .ok (.iconst 3, 1) := by decide +kernel
theorem dL_acts_232 : decode cL_acts 232 = .ok (.invokestatic 140, 3) := by decide +kernel
theorem dL_acts_235 : decode cL_acts 235 = .ok (.ifCond .ne 8, 3) := by decide +kernel
theorem dL_acts_238 : decode cL_acts 238 = .ok (.bipush 60, 2) := by decide +kernel
theorem dL_acts_240 : decode cL_acts 240 = .ok (.goto 17, 3) := by decide +kernel
theorem dL_acts_243 : decode cL_acts 243 = .ok (.bipush 15, 2) := by decide +kernel
theorem dL_acts_245 : decode cL_acts 245 = .ok (.iconst 1, 1) := by decide +kernel
theorem dL_acts_246 : decode cL_acts 246 = .ok (.iload 7, 2) := by decide +kernel
theorem dL_acts_248 : decode cL_acts 248 = .ok (.bipush 7, 2) := by decide +kernel
theorem dL_acts_250 : decode cL_acts 250 = .ok (.ishr, 1) := by decide +kernel
theorem dL_acts_251 : decode cL_acts 251 = .ok (.iconst 2, 1) := by decide +kernel
theorem dL_acts_252 : decode cL_acts 252 = .ok (.invokestatic 140, 3) := by decide +kernel
theorem dL_acts_255 : decode cL_acts 255 = .ok (.iadd, 1) := by decide +kernel
theorem dL_acts_256 : decode cL_acts 256 = .ok (.imul, 1) := by decide +kernel
theorem dL_acts_257 : decode cL_acts 257 = .ok (.iastore, 1) := by decide +kernel
theorem dL_acts_258 : decode cL_acts 258 = .ok (.aload_n 2, 1) := by decide +kernel
theorem dL_acts_259 : decode cL_acts 259 = .ok (.iload 9, 2) := by decide +kernel
theorem dL_acts_261 : decode cL_acts 261 = .ok (.iconst 4, 1) := by decide +kernel
theorem dL_acts_262 : decode cL_acts 262 = .ok (.iadd, 1) := by decide +kernel
theorem dL_acts_263 : decode cL_acts 263 = .ok (.iload 7, 2) := by decide +kernel
theorem dL_acts_265 : decode cL_acts 265 = .ok (.bipush 8, 2) := by decide +kernel
theorem dL_acts_267 : decode cL_acts 267 = .ok (.ishr, 1) := by decide +kernel
theorem dL_acts_268 : decode cL_acts 268 = .ok (.ldc 145, 2) := by decide +kernel
theorem dL_acts_270 : decode cL_acts 270 = .ok (.invokestatic 140, 3) := by decide +kernel
theorem dL_acts_273 : decode cL_acts 273 = .ok (.iastore, 1) := by decide +kernel
theorem dL_acts_274 : decode cL_acts 274 = .ok (.aload_n 2, 1) := by decide +kernel
theorem dL_acts_275 : decode cL_acts 275 = .ok (.iload 9, 2) := by decide +kernel
theorem dL_acts_277 : decode cL_acts 277 = .ok (.iconst 5, 1) := by decide +kernel
theorem dL_acts_278 : decode cL_acts 278 = .ok (.iadd, 1) := by decide +kernel
theorem dL_acts_279 : decode cL_acts 279 = .ok (.iload 7, 2) := by decide +kernel
theorem dL_acts_281 : decode cL_acts 281 = .ok (.iconst 4, 1) := by decide +kernel
theorem dL_acts_282 : decode cL_acts 282 = .ok (.ishr, 1) := by decide +kernel
theorem dL_acts_283 : decode cL_acts 283 = .ok (.sipush 500, 3) := by decide +kernel
theorem dL_acts_286 : decode cL_acts 286 = .ok (.invokestatic 140, 3) := by decide +kernel
theorem dL_acts_289 : decode cL_acts 289 = .ok (.iastore, 1) := by decide +kernel
theorem dL_acts_290 : decode cL_acts 290 = .ok (.iload 7, 2) := by decide +kernel
theorem dL_acts_292 : decode cL_acts 292 = .ok (.bipush 9, 2) := by decide +kernel
theorem dL_acts_294 : decode cL_acts 294 = .ok (.ishr, 1) := by decide +kernel
theorem dL_acts_295 : decode cL_acts 295 = .ok (.iconst 2, 1) := by decide +kernel
theorem dL_acts_296 : decode cL_acts 296 = .ok (.invokestatic 140, 3) := by decide +kernel
theorem dL_acts_299 : decode cL_acts 299 = .ok (.ifCond .ne 7, 3) := by decide +kernel
theorem dL_acts_302 : decode cL_acts 302 = .ok (.iconst 0, 1) := by decide +kernel
theorem dL_acts_303 : decode cL_acts 303 = .ok (.goto 13, 3) := by decide +kernel
theorem dL_acts_306 : decode cL_acts 306 = .ok (.iload 7, 2) := by decide +kernel
theorem dL_acts_308 : decode cL_acts 308 = .ok (.bipush 10, 2) := by decide +kernel
theorem dL_acts_310 : decode cL_acts 310 = .ok (.ishr, 1) := by decide +kernel
theorem dL_acts_311 : decode cL_acts 311 = .ok (.bipush 90, 2) := by decide +kernel
theorem dL_acts_313 : decode cL_acts 313 = .ok (.invokestatic 140, 3) := by decide +kernel
theorem dL_acts_316 : decode cL_acts 316 = .ok (.istore 10, 2) := by decide +kernel
theorem dL_acts_318 : decode cL_acts 318 = .ok (.aload 5, 2) := by decide +kernel
theorem dL_acts_320 : decode cL_acts 320 = .ok (.iconst 1, 1) := by decide +kernel
theorem dL_acts_321 : decode cL_acts 321 = .ok (.dup2, 1) := by decide +kernel
theorem dL_acts_322 : decode cL_acts 322 = .ok (.iaload, 1) := by decide +kernel
theorem dL_acts_323 : decode cL_acts 323 = .ok (.iconst 1, 1) := by decide +kernel
theorem dL_acts_324 : decode cL_acts 324 = .ok (.iadd, 1) := by decide +kernel
theorem dL_acts_325 : decode cL_acts 325 = .ok (.iastore, 1) := by decide +kernel
theorem dL_acts_326 : decode cL_acts 326 = .ok (.aload_n 0, 1) := by decide +kernel
theorem dL_acts_327 : decode cL_acts 327 = .ok (.aload_n 2, 1) := by decide +kernel
theorem dL_acts_328 : decode cL_acts 328 = .ok (.iload 9, 2) := by decide +kernel
theorem dL_acts_330 : decode cL_acts 330 = .ok (.iaload, 1) := by decide +kernel
theorem dL_acts_331 : decode cL_acts 331 = .ok (.aload_n 2, 1) := by decide +kernel
theorem dL_acts_332 : decode cL_acts 332 = .ok (.iload 9, 2) := by decide +kernel
theorem dL_acts_334 : decode cL_acts 334 = .ok (.iconst 1, 1) := by decide +kernel
theorem dL_acts_335 : decode cL_acts 335 = .ok (.iadd, 1) := by decide +kernel
theorem dL_acts_336 : decode cL_acts 336 = .ok (.iaload, 1) := by decide +kernel
theorem dL_acts_337 : decode cL_acts 337 = .ok (.aload_n 2, 1) := by decide +kernel
theorem dL_acts_338 : decode cL_acts 338 = .ok (.iload 9, 2) := by decide +kernel
theorem dL_acts_340 : decode cL_acts 340 = .ok (.iconst 2, 1) := by decide +kernel
theorem dL_acts_341 : decode cL_acts 341 = .ok (.iadd, 1) := by decide +kernel
theorem dL_acts_342 : decode cL_acts 342 = .ok (.iaload, 1) := by decide +kernel
theorem dL_acts_343 : decode cL_acts 343 = .ok (.aload_n 2, 1) := by decide +kernel
theorem dL_acts_344 : decode cL_acts 344 = .ok (.iload 9, 2) := by decide +kernel
theorem dL_acts_346 : decode cL_acts 346 = .ok (.iconst 3, 1) := by decide +kernel
theorem dL_acts_347 : decode cL_acts 347 = .ok (.iadd, 1) := by decide +kernel
theorem dL_acts_348 : decode cL_acts 348 = .ok (.iaload, 1) := by decide +kernel
theorem dL_acts_349 : decode cL_acts 349 = .ok (.aload_n 2, 1) := by decide +kernel
theorem dL_acts_350 : decode cL_acts 350 = .ok (.iload 9, 2) := by decide +kernel
theorem dL_acts_352 : decode cL_acts 352 = .ok (.iconst 4, 1) := by decide +kernel
theorem dL_acts_353 : decode cL_acts 353 = .ok (.iadd, 1) := by decide +kernel
theorem dL_acts_354 : decode cL_acts 354 = .ok (.iaload, 1) := by decide +kernel
theorem dL_acts_355 : decode cL_acts 355 = .ok (.aload_n 2, 1) := by decide +kernel
theorem dL_acts_356 : decode cL_acts 356 = .ok (.iload 9, 2) := by decide +kernel
theorem dL_acts_358 : decode cL_acts 358 = .ok (.iconst 5, 1) := by decide +kernel
theorem dL_acts_359 : decode cL_acts 359 = .ok (.iadd, 1) := by decide +kernel
theorem dL_acts_360 : decode cL_acts 360 = .ok (.iaload, 1) := by decide +kernel
theorem dL_acts_361 : decode cL_acts 361 = .ok (.iload 10, 2) := by decide +kernel
theorem dL_acts_363 : decode cL_acts 363 = .ok (.invokestatic 146, 3) := by decide +kernel
theorem dL_acts_366 : decode cL_acts 366 = .ok (.aload 5, 2) := by decide +kernel
theorem dL_acts_368 : decode cL_acts 368 = .ok (.iconst 1, 1) := by decide +kernel
theorem dL_acts_369 : decode cL_acts 369 = .ok (.iaload, 1) := by decide +kernel
theorem dL_acts_370 : decode cL_acts 370 = .ok (.iconst 1, 1) := by decide +kernel
theorem dL_acts_371 : decode cL_acts 371 = .ok (.isub, 1) := by decide +kernel
theorem dL_acts_372 : decode cL_acts 372 = .ok (.if_icmp .ne 91, 3) := by decide +kernel
theorem dL_acts_375 : decode cL_acts 375 = .ok (.aload_n 1, 1) := by decide +kernel
theorem dL_acts_376 : decode cL_acts 376 = .ok (.aload_n 2, 1) := by decide +kernel
theorem dL_acts_377 : decode cL_acts 377 = .ok (.iload 9, 2) := by decide +kernel
theorem dL_acts_379 : decode cL_acts 379 = .ok (.iaload, 1) := by decide +kernel
theorem dL_acts_380 : decode cL_acts 380 = .ok (.aload_n 2, 1) := by decide +kernel
theorem dL_acts_381 : decode cL_acts 381 = .ok (.iload 9, 2) := by decide +kernel
theorem dL_acts_383 : decode cL_acts 383 = .ok (.iconst 1, 1) := by decide +kernel
theorem dL_acts_384 : decode cL_acts 384 = .ok (.iadd, 1) := by decide +kernel
theorem dL_acts_385 : decode cL_acts 385 = .ok (.iaload, 1) := by decide +kernel
theorem dL_acts_386 : decode cL_acts 386 = .ok (.aload_n 2, 1) := by decide +kernel
theorem dL_acts_387 : decode cL_acts 387 = .ok (.iload 9, 2) := by decide +kernel
theorem dL_acts_389 : decode cL_acts 389 = .ok (.iconst 2, 1) := by decide +kernel
theorem dL_acts_390 : decode cL_acts 390 = .ok (.iadd, 1) := by decide +kernel
theorem dL_acts_391 : decode cL_acts 391 = .ok (.iaload, 1) := by decide +kernel
theorem dL_acts_392 : decode cL_acts 392 = .ok (.aload_n 2, 1) := by decide +kernel
theorem dL_acts_393 : decode cL_acts 393 = .ok (.iload 9, 2) := by decide +kernel
theorem dL_acts_395 : decode cL_acts 395 = .ok (.iconst 3, 1) := by decide +kernel
theorem dL_acts_396 : decode cL_acts 396 = .ok (.iadd, 1) := by decide +kernel
theorem dL_acts_397 : decode cL_acts 397 = .ok (.iaload, 1) := by decide +kernel
theorem dL_acts_398 : decode cL_acts 398 = .ok (.aload_n 2, 1) := by decide +kernel
theorem dL_acts_399 : decode cL_acts 399 = .ok (.iload 9, 2) := by decide +kernel
theorem dL_acts_401 : decode cL_acts 401 = .ok (.iconst 4, 1) := by decide +kernel
theorem dL_acts_402 : decode cL_acts 402 = .ok (.iadd, 1) := by decide +kernel
theorem dL_acts_403 : decode cL_acts 403 = .ok (.iaload, 1) := by decide +kernel
theorem dL_acts_404 : decode cL_acts 404 = .ok (.aload_n 2, 1) := by decide +kernel
theorem dL_acts_405 : decode cL_acts 405 = .ok (.iload 9, 2) := by decide +kernel
theorem dL_acts_407 : decode cL_acts 407 = .ok (.iconst 5, 1) := by decide +kernel
theorem dL_acts_408 : decode cL_acts 408 = .ok (.iadd, 1) := by decide +kernel
theorem dL_acts_409 : decode cL_acts 409 = .ok (.iaload, 1) := by decide +kernel
theorem dL_acts_410 : decode cL_acts 410 = .ok (.iload 10, 2) := by decide +kernel
theorem dL_acts_412 : decode cL_acts 412 = .ok (.invokestatic 146, 3) := by decide +kernel
theorem dL_acts_415 : decode cL_acts 415 = .ok (.aload 5, 2) := by decide +kernel
theorem dL_acts_417 : decode cL_acts 417 = .ok (.iconst 1, 1) := by decide +kernel
theorem dL_acts_418 : decode cL_acts 418 = .ok (.iaload, 1) := by decide +kernel
theorem dL_acts_419 : decode cL_acts 419 = .ok (.iconst 1, 1) := by decide +kernel
theorem dL_acts_420 : decode cL_acts 420 = .ok (.isub, 1) := by decide +kernel
theorem dL_acts_421 : decode cL_acts 421 = .ok (.if_icmp .ne 42, 3) := by decide +kernel
theorem dL_acts_424 : decode cL_acts 424 = .ok (.aload_n 0, 1) := by decide +kernel
theorem dL_acts_425 : decode cL_acts 425 = .ok (.iconst 0, 1) := by decide +kernel
theorem dL_acts_426 : decode cL_acts 426 = .ok (.iconst 0, 1) := by decide +kernel
theorem dL_acts_427 : decode cL_acts 427 = .ok (.iconst 0, 1) := by decide +kernel
theorem dL_acts_428 : decode cL_acts 428 = .ok (.bipush 45, 2) := by decide +kernel
theorem dL_acts_430 : decode cL_acts 430 = .ok (.iconst 0, 1) := by decide +kernel
theorem dL_acts_431 : decode cL_acts 431 = .ok (.iconst 0, 1) := by decide +kernel
theorem dL_acts_432 : decode cL_acts 432 = .ok (.iconst 0, 1) := by decide +kernel
theorem dL_acts_433 : decode cL_acts 433 = .ok (.invokestatic 146, 3) := by decide +kernel
theorem dL_acts_436 : decode cL_acts 436 = .ok (.ldc 18, 2) := by decide +kernel
theorem dL_acts_438 : decode cL_acts 438 = .ok (.if_icmp .ne 25, 3) := by decide +kernel
theorem dL_acts_441 : decode cL_acts 441 = .ok (.aload_n 0, 1) := by decide +kernel
theorem dL_acts_442 : decode cL_acts 442 = .ok (.iconst 0, 1) := by decide +kernel
theorem dL_acts_443 : decode cL_acts 443 = .ok (.bipush 8, 2) := by decide +kernel
theorem dL_acts_445 : decode cL_acts 445 = .ok (.iconst 0, 1) := by decide +kernel
theorem dL_acts_446 : decode cL_acts 446 = .ok (.bipush 15, 2) := by decide +kernel
theorem dL_acts_448 : decode cL_acts 448 = .ok (.iconst 0, 1) := by decide +kernel
theorem dL_acts_449 : decode cL_acts 449 = .ok (.iconst 0, 1) := by decide +kernel
theorem dL_acts_450 : decode cL_acts 450 = .ok (.iconst 0, 1) := by decide +kernel
theorem dL_acts_451 : decode cL_acts 451 = .ok (.invokestatic 146, 3) := by decide +kernel
theorem dL_acts_454 : decode cL_acts 454 = .ok (.ldc 18, 2) := by decide +kernel
theorem dL_acts_456 : decode cL_acts 456 = .ok (.if_icmp .ne 7, 3) := by decide +kernel
theorem dL_acts_459 : decode cL_acts 459 = .ok (.iconst 1, 1) := by decide +kernel
theorem dL_acts_460 : decode cL_acts 460 = .ok (.goto 4, 3) := by decide +kernel
theorem dL_acts_463 : decode cL_acts 463 = .ok (.iconst 0, 1) := by decide +kernel
theorem dL_acts_464 : decode cL_acts 464 = .ok (.ireturn, 1) := by decide +kernel
theorem dL_acts_465 : decode cL_acts 465 = .ok (.iload 7, 2) := by decide +kernel
theorem dL_acts_467 : decode cL_acts 467 = .ok (.aload 5, 2) := by decide +kernel
theorem dL_acts_469 : decode cL_acts 469 = .ok (.iconst 0, 1) := by decide +kernel
theorem dL_acts_470 : decode cL_acts 470 = .ok (.iaload, 1) := by decide +kernel
theorem dL_acts_471 : decode cL_acts 471 = .ok (.invokestatic 140, 3) := by decide +kernel
theorem dL_acts_474 : decode cL_acts 474 = .ok (.istore 9, 2) := by decide +kernel
theorem dL_acts_476 : decode cL_acts 476 = .ok (.iload 6, 2) := by decide +kernel
theorem dL_acts_478 : decode cL_acts 478 = .ok (.iconst 5, 1) := by decide +kernel
theorem dL_acts_479 : decode cL_acts 479 = .ok (.ishr, 1) := by decide +kernel
theorem dL_acts_480 : decode cL_acts 480 = .ok (.aload 5, 2) := by decide +kernel
theorem dL_acts_482 : decode cL_acts 482 = .ok (.iconst 1, 1) := by decide +kernel
theorem dL_acts_483 : decode cL_acts 483 = .ok (.iaload, 1) := by decide +kernel
theorem dL_acts_484 : decode cL_acts 484 = .ok (.invokestatic 140, 3) := by decide +kernel
theorem dL_acts_487 : decode cL_acts 487 = .ok (.istore 10, 2) := by decide +kernel
theorem dL_acts_489 : decode cL_acts 489 = .ok (.iload 7, 2) := by decide +kernel
theorem dL_acts_491 : decode cL_acts 491 = .ok (.iconst 5, 1) := by decide +kernel
theorem dL_acts_492 : decode cL_acts 492 = .ok (.ishr, 1) := by decide +kernel
theorem dL_acts_493 : decode cL_acts 493 = .ok (.aload 5, 2) := by decide +kernel
theorem dL_acts_495 : decode cL_acts 495 = .ok (.iconst 2, 1) := by decide +kernel
theorem dL_acts_496 : decode cL_acts 496 = .ok (.iaload, 1) := by decide +kernel
theorem dL_acts_497 : decode cL_acts 497 = .ok (.iconst 1, 1) := by decide +kernel
theorem dL_acts_498 : decode cL_acts 498 = .ok (.iadd, 1) := by decide +kernel
theorem dL_acts_499 : decode cL_acts 499 = .ok (.invokestatic 140, 3) := by decide +kernel
theorem dL_acts_502 : decode cL_acts 502 = .ok (.istore 11, 2) := by decide +kernel
theorem dL_acts_504 : decode cL_acts 504 = .ok (.iload 8, 2) := by decide +kernel
theorem dL_acts_506 : decode cL_acts 506 = .ok (.bipush 8, 2) := by decide +kernel
theorem dL_acts_508 : decode cL_acts 508 = .ok (.if_icmp .ge 144, 3) := by decide +kernel
theorem dL_acts_511 : decode cL_acts 511 = .ok (.iload 6, 2) := by decide +kernel
theorem dL_acts_513 : decode cL_acts 513 = .ok (.bipush 7, 2) := by decide +kernel
theorem dL_acts_515 : decode cL_acts 515 = .ok (.ishr, 1) := by decide +kernel
theorem dL_acts_516 : decode cL_acts 516 = .ok (.iconst 3, 1) := by decide +kernel
theorem dL_acts_517 : decode cL_acts 517 = .ok (.invokestatic 140, 3) := by decide +kernel
theorem dL_acts_520 : decode cL_acts 520 = .ok (.istore 12, 2) := by decide +kernel
theorem dL_acts_522 : decode cL_acts 522 = .ok (.iload 7, 2) := by decide +kernel
theorem dL_acts_524 : decode cL_acts 524 = .ok (.iconst 5, 1) := by decide +kernel
theorem dL_acts_525 : decode cL_acts 525 = .ok (.ishr, 1) := by decide +kernel
theorem dL_acts_526 : decode cL_acts 526 = .ok (.iload 6, 2) := by decide +kernel
theorem dL_acts_528 : decode cL_acts 528 = .ok (.bipush 9, 2) := by decide +kernel
theorem dL_acts_530 : decode cL_acts 530 = .ok (.ishr, 1) := by decide +kernel
theorem dL_acts_531 : decode cL_acts 531 = .ok (.bipush 6, 2) := by decide +kernel
theorem dL_acts_533 : decode cL_acts 533 = .ok (.invokestatic 140, 3) := by decide +kernel
theorem dL_acts_536 : decode cL_acts 536 = .ok (.ifCond .ne 8, 3) := by decide +kernel
theorem dL_acts_539 : decode cL_acts 539 = .ok (.ldc 149, 2) := by decide +kernel
theorem dL_acts_541 : decode cL_acts 541 = .ok (.goto 5, 3) := by decide +kernel
theorem dL_acts_544 : decode cL_acts 544 = .ok (.bipush 120, 2) := by decide +kernel
theorem dL_acts_546 : decode cL_acts 546 = .ok (.invokestatic 140, 3) := by decide +kernel
theorem dL_acts_549 : decode cL_acts 549 = .ok (.istore 13, 2) := by decide +kernel
theorem dL_acts_551 : decode cL_acts 551 = .ok (.aload_n 0, 1) := by decide +kernel
theorem dL_acts_552 : decode cL_acts 552 = .ok (.iload 9, 2) := by decide +kernel
theorem dL_acts_554 : decode cL_acts 554 = .ok (.iload 12, 2) := by decide +kernel
theorem dL_acts_556 : decode cL_acts 556 = .ok (.invokestatic 118, 3) := by decide +kernel
theorem dL_acts_559 : decode cL_acts 559 = .ok (.istore 14, 2) := by decide +kernel
theorem dL_acts_561 : decode cL_acts 561 = .ok (.aload_n 0, 1) := by decide +kernel
theorem dL_acts_562 : decode cL_acts 562 = .ok (.iload 9, 2) := by decide +kernel
theorem dL_acts_564 : decode cL_acts 564 = .ok (.iload 12, 2) := by decide +kernel
theorem dL_acts_566 : decode cL_acts 566 = .ok (.iload 13, 2) := by decide +kernel
theorem dL_acts_568 : decode cL_acts 568 = .ok (.invokestatic 150, 3) := by decide +kernel
theorem dL_acts_571 : decode cL_acts 571 = .ok (.iload 14, 2) := by decide +kernel
theorem dL_acts_573 : decode cL_acts 573 = .ok (.if_icmp .ne 77, 3) := by decide +kernel
theorem dL_acts_576 : decode cL_acts 576 = .ok (.aload_n 1, 1) := by decide +kernel
theorem dL_acts_577 : decode cL_acts 577 = .ok (.iload 9, 2) := by decide +kernel
theorem dL_acts_579 : decode cL_acts 579 = .ok (.iload 12, 2) := by decide +kernel
theorem dL_acts_581 : decode cL_acts 581 = .ok (.iload 13, 2) := by decide +kernel
theorem dL_acts_583 : decode cL_acts 583 = .ok (.invokestatic 150, 3) := by decide +kernel
theorem dL_acts_586 : decode cL_acts 586 = .ok (.iload 14, 2) := by decide +kernel
theorem dL_acts_588 : decode cL_acts 588 = .ok (.if_icmp .ne 62, 3) := by decide +kernel
theorem dL_acts_591 : decode cL_acts 591 = .ok (.aload_n 0, 1) := by decide +kernel
theorem dL_acts_592 : decode cL_acts 592 = .ok (.iload 9, 2) := by decide +kernel
theorem dL_acts_594 : decode cL_acts 594 = .ok (.iload 12, 2) := by decide +kernel
theorem dL_acts_596 : decode cL_acts 596 = .ok (.invokestatic 118, 3) := by decide +kernel
theorem dL_acts_599 : decode cL_acts 599 = .ok (.iload 13, 2) := by decide +kernel
theorem dL_acts_601 : decode cL_acts 601 = .ok (.if_icmp .ne 49, 3) := by decide +kernel
theorem dL_acts_604 : decode cL_acts 604 = .ok (.aload_n 0, 1) := by decide +kernel
theorem dL_acts_605 : decode cL_acts 605 = .ok (.iload 9, 2) := by decide +kernel
theorem dL_acts_607 : decode cL_acts 607 = .ok (.iconst 3, 1) := by decide +kernel
theorem dL_acts_608 : decode cL_acts 608 = .ok (.iconst 0, 1) := by decide +kernel
theorem dL_acts_609 : decode cL_acts 609 = .ok (.invokestatic 150, 3) := by decide +kernel
theorem dL_acts_612 : decode cL_acts 612 = .ok (.ldc 18, 2) := by decide +kernel
theorem dL_acts_614 : decode cL_acts 614 = .ok (.if_icmp .ne 36, 3) := by decide +kernel
theorem dL_acts_617 : decode cL_acts 617 = .ok (.aload_n 0, 1) := by decide +kernel
theorem dL_acts_618 : decode cL_acts 618 = .ok (.iload 9, 2) := by decide +kernel
theorem dL_acts_620 : decode cL_acts 620 = .ok (.iconst 0, 1) := by decide +kernel
theorem dL_acts_621 : decode cL_acts 621 = .ok (.ldc 149, 2) := by decide +kernel
theorem dL_acts_623 : decode cL_acts 623 = .ok (.invokestatic 150, 3) := by decide +kernel
theorem dL_acts_626 : decode cL_acts 626 = .ok (.ldc 18, 2) := by decide +kernel
theorem dL_acts_628 : decode cL_acts 628 = .ok (.if_icmp .ne 22, 3) := by decide +kernel
theorem dL_acts_631 : decode cL_acts 631 = .ok (.aload_n 0, 1) := by decide +kernel
theorem dL_acts_632 : decode cL_acts 632 = .ok (.aload 5, 2) := by decide +kernel
theorem dL_acts_634 : decode cL_acts 634 = .ok (.iconst 0, 1) := by decide +kernel
theorem dL_acts_635 : decode cL_acts 635 = .ok (.iaload, 1) := by decide +kernel
theorem dL_acts_636 : decode cL_acts 636 = .ok (.iconst 3, 1) := by decide +kernel
theorem dL_acts_637 : decode cL_acts 637 = .ok (.iconst 0, 1) := by decide +kernel
theorem dL_acts_638 : decode cL_acts 638 = .ok (.invokestatic 150, 3) := by decide +kernel
theorem dL_acts_641 : decode cL_acts 641 = .ok (.ldc 28, 2) := by decide +kernel
theorem dL_acts_643 : decode cL_acts 643 = .ok (.if_icmp .ne 7, 3) := by decide +kernel
theorem dL_acts_646 : decode cL_acts 646 = .ok (.iconst 1, 1) := by decide +kernel
theorem dL_acts_647 : decode cL_acts 647 = .ok (.goto 4, 3) := by decide +kernel
theorem dL_acts_650 : decode cL_acts 650 = .ok (.iconst 0, 1) := by decide +kernel
theorem dL_acts_651 : decode cL_acts 651 = .ok (.ireturn, 1) := by decide +kernel
theorem dL_acts_652 : decode cL_acts 652 = .ok (.iload 8, 2) := by decide +kernel
theorem dL_acts_654 : decode cL_acts 654 = .ok (.bipush 14, 2) := by decide +kernel
theorem dL_acts_656 : decode cL_acts 656 = .ok (.if_icmp .ge 275, 3) := by decide +kernel
theorem dL_acts_659 : decode cL_acts 659 = .ok (.aload 5, 2) := by decide +kernel
theorem dL_acts_661 : decode cL_acts 661 = .ok (.iconst 2, 1) := by decide +kernel
theorem dL_acts_662 : decode cL_acts 662 = .ok (.iaload, 1) := by decide +kernel
theorem dL_acts_663 : decode cL_acts 663 = .ok (.bipush 60, 2) := by decide +kernel
theorem dL_acts_665 : decode cL_acts 665 = .ok (.if_icmp .ge 266, 3) := by decide +kernel
theorem dL_acts_668 : decode cL_acts 668 = .ok (.aload_n 2, 1) := by decide +kernel
theorem dL_acts_669 : decode cL_acts 669 = .ok (.bipush 7, 2) := by decide +kernel
theorem dL_acts_671 : decode cL_acts 671 = .ok (.iload 10, 2) := by decide +kernel
theorem dL_acts_673 : decode cL_acts 673 = .ok (.imul, 1) := by decide +kernel
theorem dL_acts_674 : decode cL_acts 674 = .ok (.bipush 6, 2) := by decide +kernel
theorem dL_acts_676 : decode cL_acts 676 = .ok (.iadd, 1) := by decide +kernel
theorem dL_acts_677 : decode cL_acts 677 = .ok (.iaload, 1) := by decide +kernel
theorem dL_acts_678 : decode cL_acts 678 = .ok (.iconst 1, 1) := by decide +kernel
theorem dL_acts_679 : decode cL_acts 679 = .ok (.if_icmp .ne 7, 3) := by decide +kernel
theorem dL_acts_682 : decode cL_acts 682 = .ok (.iconst 1, 1) := by decide +kernel
theorem dL_acts_683 : decode cL_acts 683 = .ok (.goto 4, 3) := by decide +kernel
theorem dL_acts_686 : decode cL_acts 686 = .ok (.iconst 0, 1) := by decide +kernel
theorem dL_acts_687 : decode cL_acts 687 = .ok (.istore 12, 2) := by decide +kernel
theorem dL_acts_689 : decode cL_acts 689 = .ok (.aload_n 0, 1) := by decide +kernel
theorem dL_acts_690 : decode cL_acts 690 = .ok (.iload 10, 2) := by decide +kernel
theorem dL_acts_692 : decode cL_acts 692 = .ok (.iload 9, 2) := by decide +kernel
theorem dL_acts_694 : decode cL_acts 694 = .ok (.invokestatic 136, 3) := by decide +kernel
theorem dL_acts_697 : decode cL_acts 697 = .ok (.ifCond .ne 21, 3) := by decide +kernel
theorem dL_acts_700 : decode cL_acts 700 = .ok (.iload 12, 2) := by decide +kernel
theorem dL_acts_702 : decode cL_acts 702 = .ok (.ifCond .eq 12, 3) := by decide +kernel
theorem dL_acts_705 : decode cL_acts 705 = .ok (.aload_n 0, 1) := by decide +kernel
theorem dL_acts_706 : decode cL_acts 706 = .ok (.iload 10, 2) := by decide +kernel
theorem dL_acts_708 : decode cL_acts 708 = .ok (.invokestatic 125, 3) := by decide +kernel
theorem dL_acts_711 : decode cL_acts 711 = .ok (.ifCond .le 7, 3) := by decide +kernel
theorem dL_acts_714 : decode cL_acts 714 = .ok (.iconst 1, 1) := by decide +kernel
theorem dL_acts_715 : decode cL_acts 715 = .ok (.goto 4, 3) := by decide +kernel
theorem dL_acts_718 : decode cL_acts 718 = .ok (.iconst 0, 1) := by decide +kernel
theorem dL_acts_719 : decode cL_acts 719 = .ok (.istore 13, 2) := by decide +kernel
theorem dL_acts_721 : decode cL_acts 721 = .ok (.iload 13, 2) := by decide +kernel
theorem dL_acts_723 : decode cL_acts 723 = .ok (.ifCond .eq 10, 3) := by decide +kernel
theorem dL_acts_726 : decode cL_acts 726 = .ok (.aload 5, 2) := by decide +kernel
theorem dL_acts_728 : decode cL_acts 728 = .ok (.iconst 2, 1) := by decide +kernel
theorem dL_acts_729 : decode cL_acts 729 = .ok (.iaload, 1) := by decide +kernel
theorem dL_acts_730 : decode cL_acts 730 = .ok (.goto 5, 3) := by decide +kernel
theorem dL_acts_733 : decode cL_acts 733 = .ok (.ldc 21, 2) := by decide +kernel
theorem dL_acts_735 : decode cL_acts 735 = .ok (.istore 14, 2) := by decide +kernel
theorem dL_acts_737 : decode cL_acts 737 = .ok (.iload 12, 2) := by decide +kernel
theorem dL_acts_739 : decode cL_acts 739 = .ok (.ifCond .eq 14, 3) := by decide +kernel
theorem dL_acts_742 : decode cL_acts 742 = .ok (.aload_n 0, 1) := by decide +kernel
theorem dL_acts_743 : decode cL_acts 743 = .ok (.iload 10, 2) := by decide +kernel
theorem dL_acts_745 : decode cL_acts 745 = .ok (.iload 9, 2) := by decide +kernel
theorem dL_acts_747 : decode cL_acts 747 = .ok (.invokestatic 153, 3) := by decide +kernel
theorem dL_acts_750 : decode cL_acts 750 = .ok (.goto 11, 3) := by decide +kernel
theorem dL_acts_753 : decode cL_acts 753 = .ok (.aload_n 0, 1) := by decide +kernel
theorem dL_acts_754 : decode cL_acts 754 = .ok (.iload 10, 2) := by decide +kernel
theorem dL_acts_756 : decode cL_acts 756 = .ok (.iload 9, 2) := by decide +kernel
theorem dL_acts_758 : decode cL_acts 758 = .ok (.invokestatic 138, 3) := by decide +kernel
theorem dL_acts_761 : decode cL_acts 761 = .ok (.istore 15, 2) := by decide +kernel
theorem dL_acts_763 : decode cL_acts 763 = .ok (.iload 12, 2) := by decide +kernel
theorem dL_acts_765 : decode cL_acts 765 = .ok (.ifCond .eq 14, 3) := by decide +kernel
theorem dL_acts_768 : decode cL_acts 768 = .ok (.aload_n 1, 1) := by decide +kernel
theorem dL_acts_769 : decode cL_acts 769 = .ok (.iload 10, 2) := by decide +kernel
theorem dL_acts_771 : decode cL_acts 771 = .ok (.iload 9, 2) := by decide +kernel
theorem dL_acts_773 : decode cL_acts 773 = .ok (.invokestatic 153, 3) := by decide +kernel
theorem dL_acts_776 : decode cL_acts 776 = .ok (.goto 11, 3) := by decide +kernel
theorem dL_acts_779 : decode cL_acts 779 = .ok (.aload_n 1, 1) := by decide +kernel
theorem dL_acts_780 : decode cL_acts 780 = .ok (.iload 10, 2) := by decide +kernel
theorem dL_acts_782 : decode cL_acts 782 = .ok (.iload 9, 2) := by decide +kernel
theorem dL_acts_784 : decode cL_acts 784 = .ok (.invokestatic 138, 3) := by decide +kernel
theorem dL_acts_787 : decode cL_acts 787 = .ok (.iload 14, 2) := by decide +kernel
theorem dL_acts_789 : decode cL_acts 789 = .ok (.if_icmp .ne 43, 3) := by decide +kernel
theorem dL_acts_792 : decode cL_acts 792 = .ok (.iload 15, 2) := by decide +kernel
theorem dL_acts_794 : decode cL_acts 794 = .ok (.iload 14, 2) := by decide +kernel
theorem dL_acts_796 : decode cL_acts 796 = .ok (.if_icmp .ne 36, 3) := by decide +kernel
theorem dL_acts_799 : decode cL_acts 799 = .ok (.iload 12, 2) := by decide +kernel
theorem dL_acts_801 : decode cL_acts 801 = .ok (.ifCond .eq 14, 3) := by decide +kernel
theorem dL_acts_804 : decode cL_acts 804 = .ok (.aload_n 0, 1) := by decide +kernel
theorem dL_acts_805 : decode cL_acts 805 = .ok (.iload 10, 2) := by decide +kernel
theorem dL_acts_807 : decode cL_acts 807 = .ok (.iload 9, 2) := by decide +kernel
theorem dL_acts_809 : decode cL_acts 809 = .ok (.invokestatic 138, 3) := by decide +kernel
theorem dL_acts_812 : decode cL_acts 812 = .ok (.goto 11, 3) := by decide +kernel
theorem dL_acts_815 : decode cL_acts 815 = .ok (.aload_n 0, 1) := by decide +kernel
theorem dL_acts_816 : decode cL_acts 816 = .ok (.iload 10, 2) := by decide +kernel
theorem dL_acts_818 : decode cL_acts 818 = .ok (.iload 9, 2) := by decide +kernel
theorem dL_acts_820 : decode cL_acts 820 = .ok (.invokestatic 153, 3) := by decide +kernel
theorem dL_acts_823 : decode cL_acts 823 = .ok (.ldc 21, 2) := by decide +kernel
theorem dL_acts_825 : decode cL_acts 825 = .ok (.if_icmp .ne 7, 3) := by decide +kernel
theorem dL_acts_828 : decode cL_acts 828 = .ok (.iconst 1, 1) := by decide +kernel
theorem dL_acts_829 : decode cL_acts 829 = .ok (.goto 4, 3) := by decide +kernel
theorem dL_acts_832 : decode cL_acts 832 = .ok (.iconst 0, 1) := by decide +kernel
theorem dL_acts_833 : decode cL_acts 833 = .ok (.istore 16, 2) := by decide +kernel
theorem dL_acts_835 : decode cL_acts 835 = .ok (.iload 13, 2) := by decide +kernel
theorem dL_acts_837 : decode cL_acts 837 = .ok (.ifCond .eq 32, 3) := by decide +kernel
theorem dL_acts_840 : decode cL_acts 840 = .ok (.aload 4, 2) := by decide +kernel
theorem dL_acts_842 : decode cL_acts 842 = .ok (.aload 5, 2) := by decide +kernel
theorem dL_acts_844 : decode cL_acts 844 = .ok (.iconst 2, 1) := by decide +kernel
theorem dL_acts_845 : decode cL_acts 845 = .ok (.iaload, 1) := by decide +kernel
theorem dL_acts_846 : decode cL_acts 846 = .ok (.iload 10, 2) := by decide +kernel
theorem dL_acts_848 : decode cL_acts 848 = .ok (.iload 12, 2) := by decide +kernel
theorem dL_acts_850 : decode cL_acts 850 = .ok (.ifCond .eq 8, 3) := by decide +kernel
theorem dL_acts_853 : decode cL_acts 853 = .ok (.bipush 32, 2) := by decide +kernel
theorem dL_acts_855 : decode cL_acts 855 = .ok (.goto 4, 3) := by decide +kernel
theorem dL_acts_858 : decode cL_acts 858 = .ok (.iconst 0, 1) := by decide +kernel
theorem dL_acts_859 : decode cL_acts 859 = .ok (.iadd, 1) := by decide +kernel
theorem dL_acts_860 : decode cL_acts 860 = .ok (.iastore, 1) := by decide +kernel
theorem dL_acts_861 : decode cL_acts 861 = .ok (.aload 5, 2) := by decide +kernel
theorem dL_acts_863 : decode cL_acts 863 = .ok (.iconst 2, 1) := by decide +kernel
theorem dL_acts_864 : decode cL_acts 864 = .ok (.dup2, 1) := by decide +kernel
theorem dL_acts_865 : decode cL_acts 865 = .ok (.iaload, 1) := by decide +kernel
theorem dL_acts_866 : decode cL_acts 866 = .ok (.iconst 1, 1) := by decide +kernel
theorem dL_acts_867 : decode cL_acts 867 = .ok (.iadd, 1) := by decide +kernel
theorem dL_acts_868 : decode cL_acts 868 = .ok (.iastore, 1) := by decide +kernel
theorem dL_acts_869 : decode cL_acts 869 = .ok (.iload 16, 2) := by decide +kernel
theorem dL_acts_871 : decode cL_acts 871 = .ok (.ifCond .eq 58, 3) := by decide +kernel
theorem dL_acts_874 : decode cL_acts 874 = .ok (.aload_n 0, 1) := by decide +kernel
theorem dL_acts_875 : decode cL_acts 875 = .ok (.aload 5, 2) := by decide +kernel
theorem dL_acts_877 : decode cL_acts 877 = .ok (.iconst 1, 1) := by decide +kernel
theorem dL_acts_878 : decode cL_acts 878 = .ok (.iaload, 1) := by decide +kernel
theorem dL_acts_879 : decode cL_acts 879 = .ok (.iload 9, 2) := by decide +kernel
theorem dL_acts_881 : decode cL_acts 881 = .ok (.invokestatic 136, 3) := by decide +kernel
theorem dL_acts_884 : decode cL_acts 884 = .ok (.ldc 28, 2) := by decide +kernel
theorem dL_acts_886 : decode cL_acts 886 = .ok (.if_icmp .ne 43, 3) := by decide +kernel
theorem dL_acts_889 : decode cL_acts 889 = .ok (.iload 13, 2) := by decide +kernel
theorem dL_acts_891 : decode cL_acts 891 = .ok (.ifCond .eq 34, 3) := by decide +kernel
theorem dL_acts_894 : decode cL_acts 894 = .ok (.aload_n 0, 1) := by decide +kernel
theorem dL_acts_895 : decode cL_acts 895 = .ok (.iload 14, 2) := by decide +kernel
theorem dL_acts_897 : decode cL_acts 897 = .ok (.invokestatic 93, 3) := by decide +kernel
theorem dL_acts_900 : decode cL_acts 900 = .ok (.ifCond .ne 29, 3) := by decide +kernel
theorem dL_acts_903 : decode cL_acts 903 = .ok (.aload_n 0, 1) := by decide +kernel
theorem dL_acts_904 : decode cL_acts 904 = .ok (.iload 14, 2) := by decide +kernel
theorem dL_acts_906 : decode cL_acts 906 = .ok (.invokestatic 102, 3) := by decide +kernel
theorem dL_acts_909 : decode cL_acts 909 = .ok (.iload 9, 2) := by decide +kernel
theorem dL_acts_911 : decode cL_acts 911 = .ok (.if_icmp .ne 18, 3) := by decide +kernel
theorem dL_acts_914 : decode cL_acts 914 = .ok (.aload_n 0, 1) := by decide +kernel
theorem dL_acts_915 : decode cL_acts 915 = .ok (.iload 10, 2) := by decide +kernel
theorem dL_acts_917 : decode cL_acts 917 = .ok (.iload 9, 2) := by decide +kernel
theorem dL_acts_919 : decode cL_acts 919 = .ok (.invokestatic 136, 3) := by decide +kernel
theorem dL_acts_922 : decode cL_acts 922 = .ok (.ifCond .le 7, 3) := by decide +kernel
theorem dL_acts_925 : decode cL_acts 925 = .ok (.iconst 1, 1) := by decide +kernel
theorem dL_acts_926 : decode cL_acts 926 = .ok (.goto 4, 3) := by decide +kernel
theorem dL_acts_929 : decode cL_acts 929 = .ok (.iconst 0, 1) := by decide +kernel
theorem dL_acts_930 : decode cL_acts 930 = .ok (.ireturn, 1) := by decide +kernel
theorem dL_acts_931 : decode cL_acts 931 = .ok (.iload 8, 2) := by decide +kernel
theorem dL_acts_933 : decode cL_acts 933 = .ok (.bipush 17, 2) := by decide +kernel
theorem dL_acts_935 : decode cL_acts 935 = .ok (.if_icmp .ge 34, 3) := by decide +kernel
theorem dL_acts_938 : decode cL_acts 938 = .ok (.aload 5, 2) := by decide +kernel
theorem dL_acts_940 : decode cL_acts 940 = .ok (.iconst 2, 1) := by decide +kernel
theorem dL_acts_941 : decode cL_acts 941 = .ok (.iaload, 1) := by decide +kernel
theorem dL_acts_942 : decode cL_acts 942 = .ok (.bipush 40, 2) := by decide +kernel
theorem dL_acts_944 : decode cL_acts 944 = .ok (.if_icmp .ge 25, 3) := by decide +kernel
theorem dL_acts_947 : decode cL_acts 947 = .ok (.aload_n 0, 1) := by decide +kernel
theorem dL_acts_948 : decode cL_acts 948 = .ok (.aload_n 1, 1) := by decide +kernel
theorem dL_acts_949 : decode cL_acts 949 = .ok (.aload_n 2, 1) := by decide +kernel
theorem dL_acts_950 : decode cL_acts 950 = .ok (.aload 4, 2) := by decide +kernel
theorem dL_acts_952 : decode cL_acts 952 = .ok (.aload 5, 2) := by decide +kernel
theorem dL_acts_954 : decode cL_acts 954 = .ok (.iload 10, 2) := by decide +kernel
theorem dL_acts_956 : decode cL_acts 956 = .ok (.iconst 1, 1) := by decide +kernel
theorem dL_acts_957 : decode cL_acts 957 = .ok (.iload 7, 2) := by decide +kernel
theorem dL_acts_959 : decode cL_acts 959 = .ok (.bipush 20, 2) := by decide +kernel
theorem dL_acts_961 : decode cL_acts 961 = .ok (.invokestatic 140, 3) := by decide +kernel
theorem dL_acts_964 : decode cL_acts 964 = .ok (.iadd, 1) := by decide +kernel
theorem dL_acts_965 : decode cL_acts 965 = .ok (.invokestatic 155, 3) := by decide +kernel
theorem dL_acts_968 : decode cL_acts 968 = .ok (.ireturn, 1) := by decide +kernel
theorem dL_acts_969 : decode cL_acts 969 = .ok (.iload 8, 2) := by decide +kernel
theorem dL_acts_971 : decode cL_acts 971 = .ok (.bipush 20, 2) := by decide +kernel
theorem dL_acts_973 : decode cL_acts 973 = .ok (.if_icmp .ge 149, 3) := by decide +kernel
theorem dL_acts_976 : decode cL_acts 976 = .ok (.iload 11, 2) := by decide +kernel
theorem dL_acts_978 : decode cL_acts 978 = .ok (.aload 5, 2) := by decide +kernel
theorem dL_acts_980 : decode cL_acts 980 = .ok (.iconst 2, 1) := by decide +kernel
theorem dL_acts_981 : decode cL_acts 981 = .ok (.iaload, 1) := by decide +kernel
theorem dL_acts_982 : decode cL_acts 982 = .ok (.if_icmp .ge 12, 3) := by decide +kernel
theorem dL_acts_985 : decode cL_acts 985 = .ok (.aload_n 0, 1) := by decide +kernel
theorem dL_acts_986 : decode cL_acts 986 = .ok (.iload 11, 2) := by decide +kernel
theorem dL_acts_988 : decode cL_acts 988 = .ok (.invokestatic 102, 3) := by decide +kernel
theorem dL_acts_991 : decode cL_acts 991 = .ok (.goto 4, 3) := by decide +kernel
theorem dL_acts_994 : decode cL_acts 994 = .ok (.iconst (-1), 1) := by decide +kernel
theorem dL_acts_995 : decode cL_acts 995 = .ok (.istore 12, 2) := by decide +kernel
theorem dL_acts_997 : decode cL_acts 997 = .ok (.aload_n 0, 1) := by decide +kernel
theorem dL_acts_998 : decode cL_acts 998 = .ok (.iload 11, 2) := by decide +kernel
theorem dL_acts_1000 : decode cL_acts 1000 = .ok (.iload 9, 2) := by decide +kernel
theorem dL_acts_1002 : decode cL_acts 1002 = .ok (.invokestatic 159, 3) := by decide +kernel
theorem dL_acts_1005 : decode cL_acts 1005 = .ok (.istore 13, 2) := by decide +kernel
theorem dL_acts_1007 : decode cL_acts 1007 = .ok (.aload_n 1, 1) := by decide +kernel
theorem dL_acts_1008 : decode cL_acts 1008 = .ok (.iload 11, 2) := by decide +kernel
theorem dL_acts_1010 : decode cL_acts 1010 = .ok (.iload 9, 2) := by decide +kernel
theorem dL_acts_1012 : decode cL_acts 1012 = .ok (.invokestatic 159, 3) := by decide +kernel
theorem dL_acts_1015 : decode cL_acts 1015 = .ok (.iload 13, 2) := by decide +kernel
theorem dL_acts_1017 : decode cL_acts 1017 = .ok (.if_icmp .ne 7, 3) := by decide +kernel
theorem dL_acts_1020 : decode cL_acts 1020 = .ok (.iconst 1, 1) := by decide +kernel
theorem dL_acts_1021 : decode cL_acts 1021 = .ok (.goto 4, 3) := by decide +kernel
theorem dL_acts_1024 : decode cL_acts 1024 = .ok (.iconst 0, 1) := by decide +kernel
theorem dL_acts_1025 : decode cL_acts 1025 = .ok (.istore 14, 2) := by decide +kernel
theorem dL_acts_1027 : decode cL_acts 1027 = .ok (.iload 14, 2) := by decide +kernel
theorem dL_acts_1029 : decode cL_acts 1029 = .ok (.ifCond .eq 91, 3) := by decide +kernel
theorem dL_acts_1032 : decode cL_acts 1032 = .ok (.iload 11, 2) := by decide +kernel
theorem dL_acts_1034 : decode cL_acts 1034 = .ok (.aload 5, 2) := by decide +kernel
theorem dL_acts_1036 : decode cL_acts 1036 = .ok (.iconst 2, 1) := by decide +kernel
theorem dL_acts_1037 : decode cL_acts 1037 = .ok (.iaload, 1) := by decide +kernel
theorem dL_acts_1038 : decode cL_acts 1038 = .ok (.if_icmp .ne 13, 3) := by decide +kernel
theorem dL_acts_1041 : decode cL_acts 1041 = .ok (.iload 13, 2) := by decide +kernel
theorem dL_acts_1043 : decode cL_acts 1043 = .ok (.ldc 28, 2) := by decide +kernel
theorem dL_acts_1045 : decode cL_acts 1045 = .ok (.if_icmp .ne 75, 3) := by decide +kernel
theorem dL_acts_1048 : decode cL_acts 1048 = .ok (.goto 68, 3) := by decide +kernel
theorem dL_acts_1051 : decode cL_acts 1051 = .ok (.aload_n 0, 1) := by decide +kernel
theorem dL_acts_1052 : decode cL_acts 1052 = .ok (.iload 11, 2) := by decide +kernel
theorem dL_acts_1054 : decode cL_acts 1054 = .ok (.invokestatic 93, 3) := by decide +kernel
theorem dL_acts_1057 : decode cL_acts 1057 = .ok (.ifCond .le 13, 3) := by decide +kernel
theorem dL_acts_1060 : decode cL_acts 1060 = .ok (.iload 13, 2) := by decide +kernel
theorem dL_acts_1062 : decode cL_acts 1062 = .ok (.ldc 21, 2) := by decide +kernel
theorem dL_acts_1064 : decode cL_acts 1064 = .ok (.if_icmp .ne 56, 3) := by decide +kernel
theorem dL_acts_1067 : decode cL_acts 1067 = .ok (.goto 49, 3) := by decide +kernel
theorem dL_acts_1070 : decode cL_acts 1070 = .ok (.iload 13, 2) := by decide +kernel
theorem dL_acts_1072 : decode cL_acts 1072 = .ok (.ldc 21, 2) := by decide +kernel
theorem dL_acts_1074 : decode cL_acts 1074 = .ok (.if_icmp .ne 24, 3) := by decide +kernel
theorem dL_acts_1077 : decode cL_acts 1077 = .ok (.aload_n 0, 1) := by decide +kernel
theorem dL_acts_1078 : decode cL_acts 1078 = .ok (.iload 11, 2) := by decide +kernel
theorem dL_acts_1080 : decode cL_acts 1080 = .ok (.invokestatic 102, 3) := by decide +kernel
theorem dL_acts_1083 : decode cL_acts 1083 = .ok (.iload 12, 2) := by decide +kernel
theorem dL_acts_1085 : decode cL_acts 1085 = .ok (.if_icmp .ne 35, 3) := by decide +kernel
theorem dL_acts_1088 : decode cL_acts 1088 = .ok (.iload 12, 2) := by decide +kernel
theorem dL_acts_1090 : decode cL_acts 1090 = .ok (.iload 9, 2) := by decide +kernel
theorem dL_acts_1092 : decode cL_acts 1092 = .ok (.if_icmp .eq 28, 3) := by decide +kernel
theorem dL_acts_1095 : decode cL_acts 1095 = .ok (.goto 21, 3) := by decide +kernel
theorem dL_acts_1098 : decode cL_acts 1098 = .ok (.iload 13, 2) := by decide +kernel
theorem dL_acts_1100 : decode cL_acts 1100 = .ok (.iload 12, 2) := by decide +kernel
theorem dL_acts_1102 : decode cL_acts 1102 = .ok (.if_icmp .ne 18, 3) := by decide +kernel
theorem dL_acts_1105 : decode cL_acts 1105 = .ok (.aload_n 0, 1) := by decide +kernel
theorem dL_acts_1106 : decode cL_acts 1106 = .ok (.iload 11, 2) := by decide +kernel
theorem dL_acts_1108 : decode cL_acts 1108 = .ok (.invokestatic 102, 3) := by decide +kernel
theorem dL_acts_1111 : decode cL_acts 1111 = .ok (.iload 9, 2) := by decide +kernel
theorem dL_acts_1113 : decode cL_acts 1113 = .ok (.if_icmp .ne 7, 3) := by decide +kernel
theorem dL_acts_1116 : decode cL_acts 1116 = .ok (.iconst 1, 1) := by decide +kernel
theorem dL_acts_1117 : decode cL_acts 1117 = .ok (.goto 4, 3) := by decide +kernel
theorem dL_acts_1120 : decode cL_acts 1120 = .ok (.iconst 0, 1) := by decide +kernel
theorem dL_acts_1121 : decode cL_acts 1121 = .ok (.ireturn, 1) := by decide +kernel
theorem dL_acts_1122 : decode cL_acts 1122 = .ok (.iload 8, 2) := by decide +kernel
theorem dL_acts_1124 : decode cL_acts 1124 = .ok (.bipush 22, 2) := by decide +kernel
theorem dL_acts_1126 : decode cL_acts 1126 = .ok (.if_icmp .ge 103, 3) := by decide +kernel
theorem dL_acts_1129 : decode cL_acts 1129 = .ok (.iload 11, 2) := by decide +kernel
theorem dL_acts_1131 : decode cL_acts 1131 = .ok (.aload 5, 2) := by decide +kernel
theorem dL_acts_1133 : decode cL_acts 1133 = .ok (.iconst 2, 1) := by decide +kernel
theorem dL_acts_1134 : decode cL_acts 1134 = .ok (.iaload, 1) := by decide +kernel
theorem dL_acts_1135 : decode cL_acts 1135 = .ok (.if_icmp .ge 12, 3) := by decide +kernel
theorem dL_acts_1138 : decode cL_acts 1138 = .ok (.aload_n 0, 1) := by decide +kernel
theorem dL_acts_1139 : decode cL_acts 1139 = .ok (.iload 11, 2) := by decide +kernel
theorem dL_acts_1141 : decode cL_acts 1141 = .ok (.invokestatic 93, 3) := by decide +kernel
theorem dL_acts_1144 : decode cL_acts 1144 = .ok (.goto 4, 3) := by decide +kernel
theorem dL_acts_1147 : decode cL_acts 1147 = .ok (.iconst (-1), 1) := by decide +kernel
theorem dL_acts_1148 : decode cL_acts 1148 = .ok (.istore 12, 2) := by decide +kernel
theorem dL_acts_1150 : decode cL_acts 1150 = .ok (.iload 12, 2) := by decide +kernel
theorem dL_acts_1152 : decode cL_acts 1152 = .ok (.ifCond .ge 8, 3) := by decide +kernel
theorem dL_acts_1155 : decode cL_acts 1155 = .ok (.ldc 28, 2) := by decide +kernel
theorem dL_acts_1157 : decode cL_acts 1157 = .ok (.goto 16, 3) := by decide +kernel
theorem dL_acts_1160 : decode cL_acts 1160 = .ok (.iload 12, 2) := by decide +kernel
theorem dL_acts_1162 : decode cL_acts 1162 = .ok (.iconst 1, 1) := by decide +kernel
theorem dL_acts_1163 : decode cL_acts 1163 = .ok (.if_icmp .le 8, 3) := by decide +kernel
theorem dL_acts_1166 : decode cL_acts 1166 = .ok (.ldc 21, 2) := by decide +kernel
theorem dL_acts_1168 : decode cL_acts 1168 = .ok (.goto 5, 3) := by decide +kernel
theorem dL_acts_1171 : decode cL_acts 1171 = .ok (.iload 12, 2) := by decide +kernel
theorem dL_acts_1173 : decode cL_acts 1173 = .ok (.istore 13, 2) := by decide +kernel
theorem dL_acts_1175 : decode cL_acts 1175 = .ok (.aload_n 0, 1) := by decide +kernel
theorem dL_acts_1176 : decode cL_acts 1176 = .ok (.iload 11, 2) := by decide +kernel
theorem dL_acts_1178 : decode cL_acts 1178 = .ok (.invokestatic 161, 3) := by decide +kernel
theorem dL_acts_1181 : decode cL_acts 1181 = .ok (.iload 13, 2) := by decide +kernel
theorem dL_acts_1183 : decode cL_acts 1183 = .ok (.if_icmp .ne 44, 3) := by decide +kernel
theorem dL_acts_1186 : decode cL_acts 1186 = .ok (.aload_n 1, 1) := by decide +kernel
theorem dL_acts_1187 : decode cL_acts 1187 = .ok (.iload 11, 2) := by decide +kernel
theorem dL_acts_1189 : decode cL_acts 1189 = .ok (.invokestatic 161, 3) := by decide +kernel
theorem dL_acts_1192 : decode cL_acts 1192 = .ok (.iload 13, 2) := by decide +kernel
theorem dL_acts_1194 : decode cL_acts 1194 = .ok (.if_icmp .ne 33, 3) := by decide +kernel
theorem dL_acts_1197 : decode cL_acts 1197 = .ok (.iload 13, 2) := by decide +kernel
theorem dL_acts_1199 : decode cL_acts 1199 = .ok (.ifCond .lt 24, 3) := by decide +kernel
theorem dL_acts_1202 : decode cL_acts 1202 = .ok (.aload_n 0, 1) := by decide +kernel
theorem dL_acts_1203 : decode cL_acts 1203 = .ok (.iload 11, 2) := by decide +kernel
theorem dL_acts_1205 : decode cL_acts 1205 = .ok (.invokestatic 93, 3) := by decide +kernel
theorem dL_acts_1208 : decode cL_acts 1208 = .ok (.iconst 2, 1) := by decide +kernel
theorem dL_acts_1209 : decode cL_acts 1209 = .ok (.if_icmp .ne 18, 3) := by decide +kernel
theorem dL_acts_1212 : decode cL_acts 1212 = .ok (.aload_n 0, 1) := by decide +kernel
theorem dL_acts_1213 : decode cL_acts 1213 = .ok (.iload 11, 2) := by decide +kernel
theorem dL_acts_1215 : decode cL_acts 1215 = .ok (.invokestatic 161, 3) := by decide +kernel
theorem dL_acts_1218 : decode cL_acts 1218 = .ok (.ldc 21, 2) := by decide +kernel
theorem dL_acts_1220 : decode cL_acts 1220 = .ok (.if_icmp .ne 7, 3) := by decide +kernel
theorem dL_acts_1223 : decode cL_acts 1223 = .ok (.iconst 1, 1) := by decide +kernel
theorem dL_acts_1224 : decode cL_acts 1224 = .ok (.goto 4, 3) := by decide +kernel
theorem dL_acts_1227 : decode cL_acts 1227 = .ok (.iconst 0, 1) := by decide +kernel
theorem dL_acts_1228 : decode cL_acts 1228 = .ok (.ireturn, 1) := by decide +kernel
theorem dL_acts_1229 : decode cL_acts 1229 = .ok (.iload 8, 2) := by decide +kernel
theorem dL_acts_1231 : decode cL_acts 1231 = .ok (.bipush 22, 2) := by decide +kernel
theorem dL_acts_1233 : decode cL_acts 1233 = .ok (.if_icmp .ne 90, 3) := by decide +kernel
theorem dL_acts_1236 : decode cL_acts 1236 = .ok (.iload 11, 2) := by decide +kernel
theorem dL_acts_1238 : decode cL_acts 1238 = .ok (.aload 5, 2) := by decide +kernel
theorem dL_acts_1240 : decode cL_acts 1240 = .ok (.iconst 2, 1) := by decide +kernel
theorem dL_acts_1241 : decode cL_acts 1241 = .ok (.iaload, 1) := by decide +kernel
theorem dL_acts_1242 : decode cL_acts 1242 = .ok (.if_icmp .ge 12, 3) := by decide +kernel
theorem dL_acts_1245 : decode cL_acts 1245 = .ok (.aload_n 0, 1) := by decide +kernel
theorem dL_acts_1246 : decode cL_acts 1246 = .ok (.iload 11, 2) := by decide +kernel
theorem dL_acts_1248 : decode cL_acts 1248 = .ok (.invokestatic 93, 3) := by decide +kernel
theorem dL_acts_1251 : decode cL_acts 1251 = .ok (.goto 4, 3) := by decide +kernel
theorem dL_acts_1254 : decode cL_acts 1254 = .ok (.iconst (-1), 1) := by decide +kernel
theorem dL_acts_1255 : decode cL_acts 1255 = .ok (.istore 12, 2) := by decide +kernel
theorem dL_acts_1257 : decode cL_acts 1257 = .ok (.iload 12, 2) := by decide +kernel
theorem dL_acts_1259 : decode cL_acts 1259 = .ok (.ifCond .ge 8, 3) := by decide +kernel
theorem dL_acts_1262 : decode cL_acts 1262 = .ok (.ldc 28, 2) := by decide +kernel
theorem dL_acts_1264 : decode cL_acts 1264 = .ok (.goto 14, 3) := by decide +kernel
theorem dL_acts_1267 : decode cL_acts 1267 = .ok (.iload 12, 2) := by decide +kernel
theorem dL_acts_1269 : decode cL_acts 1269 = .ok (.ifCond .le 8, 3) := by decide +kernel
theorem dL_acts_1272 : decode cL_acts 1272 = .ok (.ldc 21, 2) := by decide +kernel
theorem dL_acts_1274 : decode cL_acts 1274 = .ok (.goto 4, 3) := by decide +kernel
theorem dL_acts_1277 : decode cL_acts 1277 = .ok (.iconst 0, 1) := by decide +kernel
theorem dL_acts_1278 : decode cL_acts 1278 = .ok (.istore 13, 2) := by decide +kernel
theorem dL_acts_1280 : decode cL_acts 1280 = .ok (.aload_n 0, 1) := by decide +kernel
theorem dL_acts_1281 : decode cL_acts 1281 = .ok (.iload 11, 2) := by decide +kernel
theorem dL_acts_1283 : decode cL_acts 1283 = .ok (.invokestatic 163, 3) := by decide +kernel
theorem dL_acts_1286 : decode cL_acts 1286 = .ok (.iload 13, 2) := by decide +kernel
theorem dL_acts_1288 : decode cL_acts 1288 = .ok (.if_icmp .ne 33, 3) := by decide +kernel
theorem dL_acts_1291 : decode cL_acts 1291 = .ok (.aload_n 1, 1) := by decide +kernel
theorem dL_acts_1292 : decode cL_acts 1292 = .ok (.iload 11, 2) := by decide +kernel
theorem dL_acts_1294 : decode cL_acts 1294 = .ok (.invokestatic 163, 3) := by decide +kernel
theorem dL_acts_1297 : decode cL_acts 1297 = .ok (.iload 13, 2) := by decide +kernel
theorem dL_acts_1299 : decode cL_acts 1299 = .ok (.if_icmp .ne 22, 3) := by decide +kernel
theorem dL_acts_1302 : decode cL_acts 1302 = .ok (.iload 13, 2) := by decide +kernel
theorem dL_acts_1304 : decode cL_acts 1304 = .ok (.ifCond .lt 13, 3) := by decide +kernel
theorem dL_acts_1307 : decode cL_acts 1307 = .ok (.aload_n 0, 1) := by decide +kernel
theorem dL_acts_1308 : decode cL_acts 1308 = .ok (.iload 11, 2) := by decide +kernel
theorem dL_acts_1310 : decode cL_acts 1310 = .ok (.invokestatic 93, 3) := by decide +kernel
theorem dL_acts_1313 : decode cL_acts 1313 = .ok (.iconst 3, 1) := by decide +kernel
theorem dL_acts_1314 : decode cL_acts 1314 = .ok (.if_icmp .ne 7, 3) := by decide +kernel
theorem dL_acts_1317 : decode cL_acts 1317 = .ok (.iconst 1, 1) := by decide +kernel
theorem dL_acts_1318 : decode cL_acts 1318 = .ok (.goto 4, 3) := by decide +kernel
theorem dL_acts_1321 : decode cL_acts 1321 = .ok (.iconst 0, 1) := by decide +kernel
theorem dL_acts_1322 : decode cL_acts 1322 = .ok (.ireturn, 1) := by decide +kernel
theorem dL_acts_1323 : decode cL_acts 1323 = .ok (.iload 8, 2) := by decide +kernel
theorem dL_acts_1325 : decode cL_acts 1325 = .ok (.bipush 25, 2) := by decide +kernel
theorem dL_acts_1327 : decode cL_acts 1327 = .ok (.if_icmp .ge 136, 3) := by decide +kernel
theorem dL_acts_1330 : decode cL_acts 1330 = .ok (.iconst 0, 1) := by decide +kernel
theorem dL_acts_1331 : decode cL_acts 1331 = .ok (.istore 12, 2) := by decide +kernel
theorem dL_acts_1333 : decode cL_acts 1333 = .ok (.iconst 0, 1) := by decide +kernel
theorem dL_acts_1334 : decode cL_acts 1334 = .ok (.istore 13, 2) := by decide +kernel
theorem dL_acts_1336 : decode cL_acts 1336 = .ok (.iload 13, 2) := by decide +kernel
theorem dL_acts_1338 : decode cL_acts 1338 = .ok (.aload 5, 2) := by decide +kernel
theorem dL_acts_1340 : decode cL_acts 1340 = .ok (.iconst 2, 1) := by decide +kernel
theorem dL_acts_1341 : decode cL_acts 1341 = .ok (.iaload, 1) := by decide +kernel
theorem dL_acts_1342 : decode cL_acts 1342 = .ok (.if_icmp .ge 39, 3) := by decide +kernel
theorem dL_acts_1345 : decode cL_acts 1345 = .ok (.iload 12, 2) := by decide +kernel
theorem dL_acts_1347 : decode cL_acts 1347 = .ok (.aload_n 0, 1) := by decide +kernel
theorem dL_acts_1348 : decode cL_acts 1348 = .ok (.iload 13, 2) := by decide +kernel
theorem dL_acts_1350 : decode cL_acts 1350 = .ok (.invokestatic 102, 3) := by decide +kernel
theorem dL_acts_1353 : decode cL_acts 1353 = .ok (.iload 9, 2) := by decide +kernel
theorem dL_acts_1355 : decode cL_acts 1355 = .ok (.if_icmp .ne 16, 3) := by decide +kernel
theorem dL_acts_1358 : decode cL_acts 1358 = .ok (.aload_n 0, 1) := by decide +kernel
theorem dL_acts_1359 : decode cL_acts 1359 = .ok (.iload 13, 2) := by decide +kernel
theorem dL_acts_1361 : decode cL_acts 1361 = .ok (.invokestatic 93, 3) := by decide +kernel
theorem dL_acts_1364 : decode cL_acts 1364 = .ok (.ifCond .ne 7, 3) := by decide +kernel
theorem dL_acts_1367 : decode cL_acts 1367 = .ok (.iconst 1, 1) := by decide +kernel
theorem dL_acts_1368 : decode cL_acts 1368 = .ok (.goto 4, 3) := by decide +kernel
theorem dL_acts_1371 : decode cL_acts 1371 = .ok (.iconst 0, 1) := by decide +kernel
theorem dL_acts_1372 : decode cL_acts 1372 = .ok (.iadd, 1) := by decide +kernel
theorem dL_acts_1373 : decode cL_acts 1373 = .ok (.istore 12, 2) := by decide +kernel
theorem dL_acts_1375 : decode cL_acts 1375 = .ok (.iinc 13 1, 3) := by decide +kernel
theorem dL_acts_1378 : decode cL_acts 1378 = .ok (.goto (-42), 3) := by decide +kernel
theorem dL_acts_1381 : decode cL_acts 1381 = .ok (.aload_n 0, 1) := by decide +kernel
theorem dL_acts_1382 : decode cL_acts 1382 = .ok (.iload 9, 2) := by decide +kernel
theorem dL_acts_1384 : decode cL_acts 1384 = .ok (.invokestatic 106, 3) := by decide +kernel
theorem dL_acts_1387 : decode cL_acts 1387 = .ok (.iconst 1, 1) := by decide +kernel
theorem dL_acts_1388 : decode cL_acts 1388 = .ok (.if_icmp .ne 8, 3) := by decide +kernel
theorem dL_acts_1391 : decode cL_acts 1391 = .ok (.ldc 21, 2) := by decide +kernel
theorem dL_acts_1393 : decode cL_acts 1393 = .ok (.goto 5, 3) := by decide +kernel
theorem dL_acts_1396 : decode cL_acts 1396 = .ok (.iload 12, 2) := by decide +kernel
theorem dL_acts_1398 : decode cL_acts 1398 = .ok (.istore 13, 2) := by decide +kernel
theorem dL_acts_1400 : decode cL_acts 1400 = .ok (.aload_n 0, 1) := by decide +kernel
theorem dL_acts_1401 : decode cL_acts 1401 = .ok (.iload 9, 2) := by decide +kernel
theorem dL_acts_1403 : decode cL_acts 1403 = .ok (.invokestatic 165, 3) := by decide +kernel
theorem dL_acts_1406 : decode cL_acts 1406 = .ok (.iload 13, 2) := by decide +kernel
theorem dL_acts_1408 : decode cL_acts 1408 = .ok (.if_icmp .ne 53, 3) := by decide +kernel
theorem dL_acts_1411 : decode cL_acts 1411 = .ok (.aload_n 1, 1) := by decide +kernel
theorem dL_acts_1412 : decode cL_acts 1412 = .ok (.iload 9, 2) := by decide +kernel
theorem dL_acts_1414 : decode cL_acts 1414 = .ok (.invokestatic 165, 3) := by decide +kernel
theorem dL_acts_1417 : decode cL_acts 1417 = .ok (.iload 13, 2) := by decide +kernel
theorem dL_acts_1419 : decode cL_acts 1419 = .ok (.if_icmp .ne 42, 3) := by decide +kernel
theorem dL_acts_1422 : decode cL_acts 1422 = .ok (.aload_n 0, 1) := by decide +kernel
theorem dL_acts_1423 : decode cL_acts 1423 = .ok (.iload 9, 2) := by decide +kernel
theorem dL_acts_1425 : decode cL_acts 1425 = .ok (.invokestatic 106, 3) := by decide +kernel
theorem dL_acts_1428 : decode cL_acts 1428 = .ok (.iconst 1, 1) := by decide +kernel
theorem dL_acts_1429 : decode cL_acts 1429 = .ok (.if_icmp .ne 32, 3) := by decide +kernel
theorem dL_acts_1432 : decode cL_acts 1432 = .ok (.aload_n 0, 1) := by decide +kernel
theorem dL_acts_1433 : decode cL_acts 1433 = .ok (.iload 10, 2) := by decide +kernel
theorem dL_acts_1435 : decode cL_acts 1435 = .ok (.iload 9, 2) := by decide +kernel
theorem dL_acts_1437 : decode cL_acts 1437 = .ok (.invokestatic 136, 3) := by decide +kernel
theorem dL_acts_1440 : decode cL_acts 1440 = .ok (.iconst 1, 1) := by decide +kernel
theorem dL_acts_1441 : decode cL_acts 1441 = .ok (.if_icmp .ne 20, 3) := by decide +kernel
theorem dL_acts_1444 : decode cL_acts 1444 = .ok (.aload_n 0, 1) := by decide +kernel
theorem dL_acts_1445 : decode cL_acts 1445 = .ok (.aload 5, 2) := by decide +kernel
theorem dL_acts_1447 : decode cL_acts 1447 = .ok (.iconst 0, 1) := by decide +kernel
theorem dL_acts_1448 : decode cL_acts 1448 = .ok (.iaload, 1) := by decide +kernel
theorem dL_acts_1449 : decode cL_acts 1449 = .ok (.invokestatic 165, 3) := by decide +kernel
theorem dL_acts_1452 : decode cL_acts 1452 = .ok (.ldc 28, 2) := by decide +kernel
theorem dL_acts_1454 : decode cL_acts 1454 = .ok (.if_icmp .ne 7, 3) := by decide +kernel
theorem dL_acts_1457 : decode cL_acts 1457 = .ok (.iconst 1, 1) := by decide +kernel
theorem dL_acts_1458 : decode cL_acts 1458 = .ok (.goto 4, 3) := by decide +kernel
theorem dL_acts_1461 : decode cL_acts 1461 = .ok (.iconst 0, 1) := by decide +kernel
theorem dL_acts_1462 : decode cL_acts 1462 = .ok (.ireturn, 1) := by decide +kernel
theorem dL_acts_1463 : decode cL_acts 1463 = .ok (.aload_n 2, 1) := by decide +kernel
theorem dL_acts_1464 : decode cL_acts 1464 = .ok (.bipush 7, 2) := by decide +kernel
theorem dL_acts_1466 : decode cL_acts 1466 = .ok (.iload 10, 2) := by decide +kernel
theorem dL_acts_1468 : decode cL_acts 1468 = .ok (.imul, 1) := by decide +kernel
theorem dL_acts_1469 : decode cL_acts 1469 = .ok (.bipush 6, 2) := by decide +kernel
theorem dL_acts_1471 : decode cL_acts 1471 = .ok (.iadd, 1) := by decide +kernel
theorem dL_acts_1472 : decode cL_acts 1472 = .ok (.iaload, 1) := by decide +kernel
theorem dL_acts_1473 : decode cL_acts 1473 = .ok (.istore 12, 2) := by decide +kernel
theorem dL_acts_1475 : decode cL_acts 1475 = .ok (.aload_n 2, 1) := by decide +kernel
theorem dL_acts_1476 : decode cL_acts 1476 = .ok (.bipush 7, 2) := by decide +kernel
theorem dL_acts_1478 : decode cL_acts 1478 = .ok (.iload 10, 2) := by decide +kernel
theorem dL_acts_1480 : decode cL_acts 1480 = .ok (.imul, 1) := by decide +kernel
theorem dL_acts_1481 : decode cL_acts 1481 = .ok (.bipush 6, 2) := by decide +kernel
theorem dL_acts_1483 : decode cL_acts 1483 = .ok (.iadd, 1) := by decide +kernel
theorem dL_acts_1484 : decode cL_acts 1484 = .ok (.iload 6, 2) := by decide +kernel
theorem dL_acts_1486 : decode cL_acts 1486 = .ok (.bipush 7, 2) := by decide +kernel
theorem dL_acts_1488 : decode cL_acts 1488 = .ok (.ishr, 1) := by decide +kernel
theorem dL_acts_1489 : decode cL_acts 1489 = .ok (.iconst 2, 1) := by decide +kernel
theorem dL_acts_1490 : decode cL_acts 1490 = .ok (.invokestatic 140, 3) := by decide +kernel
theorem dL_acts_1493 : decode cL_acts 1493 = .ok (.ifCond .ne 7, 3) := by decide +kernel
theorem dL_acts_1496 : decode cL_acts 1496 = .ok (.iconst 1, 1) := by decide +kernel
theorem dL_acts_1497 : decode cL_acts 1497 = .ok (.goto 5, 3) := by decide +kernel
theorem dL_acts_1500 : decode cL_acts 1500 = .ok (.iload 12, 2) := by decide +kernel
theorem dL_acts_1502 : decode cL_acts 1502 = .ok (.iastore, 1) := by decide +kernel
theorem dL_acts_1503 : decode cL_acts 1503 = .ok (.iload 6, 2) := by decide +kernel
theorem dL_acts_1505 : decode cL_acts 1505 = .ok (.bipush 7, 2) := by decide +kernel
theorem dL_acts_1507 : decode cL_acts 1507 = .ok (.ishr, 1) := by decide +kernel
theorem dL_acts_1508 : decode cL_acts 1508 = .ok (.iconst 2, 1) := by decide +kernel
theorem dL_acts_1509 : decode cL_acts 1509 = .ok (.invokestatic 140, 3) := by decide +kernel
theorem dL_acts_1512 : decode cL_acts 1512 = .ok (.ifCond .le 5, 3) := by decide +kernel
theorem dL_acts_1515 : decode cL_acts 1515 = .ok (.iconst 1, 1) := by decide +kernel
theorem dL_acts_1516 : decode cL_acts 1516 = .ok (.ireturn, 1) := by decide +kernel
theorem dL_acts_1517 : decode cL_acts 1517 = .ok (.aload_n 0, 1) := by decide +kernel
theorem dL_acts_1518 : decode cL_acts 1518 = .ok (.iload 10, 2) := by decide +kernel
theorem dL_acts_1520 : decode cL_acts 1520 = .ok (.invokestatic 167, 3) := by decide +kernel
theorem dL_acts_1523 : decode cL_acts 1523 = .ok (.istore 13, 2) := by decide +kernel
theorem dL_acts_1525 : decode cL_acts 1525 = .ok (.aload_n 1, 1) := by decide +kernel
theorem dL_acts_1526 : decode cL_acts 1526 = .ok (.iload 10, 2) := by decide +kernel
theorem dL_acts_1528 : decode cL_acts 1528 = .ok (.invokestatic 167, 3) := by decide +kernel
theorem dL_acts_1531 : decode cL_acts 1531 = .ok (.iload 13, 2) := by decide +kernel
theorem dL_acts_1533 : decode cL_acts 1533 = .ok (.if_icmp .ne 50, 3) := by decide +kernel
theorem dL_acts_1536 : decode cL_acts 1536 = .ok (.iload 13, 2) := by decide +kernel
theorem dL_acts_1538 : decode cL_acts 1538 = .ok (.iload 12, 2) := by decide +kernel
theorem dL_acts_1540 : decode cL_acts 1540 = .ok (.iconst 1, 1) := by decide +kernel
theorem dL_acts_1541 : decode cL_acts 1541 = .ok (.if_icmp .ne 8, 3) := by decide +kernel
theorem dL_acts_1544 : decode cL_acts 1544 = .ok (.ldc 21, 2) := by decide +kernel
theorem dL_acts_1546 : decode cL_acts 1546 = .ok (.goto 9, 3) := by decide +kernel
theorem dL_acts_1549 : decode cL_acts 1549 = .ok (.aload_n 0, 1) := by decide +kernel
theorem dL_acts_1550 : decode cL_acts 1550 = .ok (.iload 10, 2) := by decide +kernel
theorem dL_acts_1552 : decode cL_acts 1552 = .ok (.invokestatic 123, 3) := by decide +kernel
theorem dL_acts_1555 : decode cL_acts 1555 = .ok (.if_icmp .ne 28, 3) := by decide +kernel
theorem dL_acts_1558 : decode cL_acts 1558 = .ok (.aload_n 0, 1) := by decide +kernel
theorem dL_acts_1559 : decode cL_acts 1559 = .ok (.iload 10, 2) := by decide +kernel
theorem dL_acts_1561 : decode cL_acts 1561 = .ok (.invokestatic 167, 3) := by decide +kernel
theorem dL_acts_1564 : decode cL_acts 1564 = .ok (.ldc 21, 2) := by decide +kernel
theorem dL_acts_1566 : decode cL_acts 1566 = .ok (.if_icmp .ne 17, 3) := by decide +kernel
theorem dL_acts_1569 : decode cL_acts 1569 = .ok (.aload_n 0, 1) := by decide +kernel
theorem dL_acts_1570 : decode cL_acts 1570 = .ok (.iconst (-1), 1) := by decide +kernel
theorem dL_acts_1571 : decode cL_acts 1571 = .ok (.invokestatic 167, 3) := by decide +kernel
theorem dL_acts_1574 : decode cL_acts 1574 = .ok (.ldc 28, 2) := by decide +kernel
theorem dL_acts_1576 : decode cL_acts 1576 = .ok (.if_icmp .ne 7, 3) := by decide +kernel
theorem dL_acts_1579 : decode cL_acts 1579 = .ok (.iconst 1, 1) := by decide +kernel
theorem dL_acts_1580 : decode cL_acts 1580 = .ok (.goto 4, 3) := by decide +kernel
theorem dL_acts_1583 : decode cL_acts 1583 = .ok (.iconst 0, 1) := by decide +kernel
theorem dL_acts_1584 : decode cL_acts 1584 = .ok (.ireturn, 1) := by decide +kernel
set_option maxRecDepth 20000 in
theorem ggL_law_X0_init : GoodIn wsL_law wsX0_init := goodIn_r _ [6, 7, 8, 9, 3, 10, 11, 12, 13, 14, 15, 16, 17, 18, 19, 20, 21, 22, 23, 24, 25, 336, 337, 338, 339, 340, 341, 342, 343, 344, 345, 346, 347, 348, 349, 350, 351, 352, 353] (by decide +kernel) (by decide +kernel)
set_option maxRecDepth 20000 in
theorem gL_law_X0_init : GoodIn wsL_law (wsX0_init) := ggL_law_X0_init
set_option maxRecDepth 20000 in
theorem ggL_law_X0_breaks : GoodIn wsL_law wsX0_breaks := goodIn_r _ [29, 30, 336, 337, 338, 339, 340, 341, 342, 343, 344, 345, 346, 347, 348, 349, 350, 351, 352, 353] (by decide +kernel) (by decide +kernel)
set_option maxRecDepth 20000 in
theorem gL_law_X0_breaks : GoodIn wsL_law (wsV RL 108 RX0 yX0_breaks wsX0_breaks) := goodIn_app (goodIn_of _ (by decide +kernel)) ggL_law_X0_breaks
set_option maxRecDepth 20000 in
theorem ggL_law_X0_orders : GoodIn wsL_law wsX0_orders := goodIn_r _ [34, 35, 336, 337, 338, 339, 340, 341, 342, 343, 344, 345, 346, 347, 348, 349, 350, 351, 352, 353] (by decide +kernel) (by decide +kernel)
set_option maxRecDepth 20000 in
theorem gL_law_X0_orders : GoodIn wsL_law (wsV RL 112 RX0 yX0_orders wsX0_orders) := goodIn_app (goodIn_of _ (by decide +kernel)) ggL_law_X0_orders
set_option maxRecDepth 20000 in
theorem ggL_law_X0_spots : GoodIn wsL_law wsX0_spots := goodIn_r _ [39, 40, 336, 337, 338, 339, 340, 341, 342, 343, 344, 345, 346, 347, 348, 349, 350, 351, 352, 353] (by decide +kernel) (by decide +kernel)
set_option maxRecDepth 20000 in
theorem gL_law_X0_spots : GoodIn wsL_law (wsV RL 115 RX0 yX0_spots wsX0_spots) := goodIn_app (goodIn_of _ (by decide +kernel)) ggL_law_X0_spots
set_option maxRecDepth 20000 in
theorem ggL_law_X0_mostOwed : GoodIn wsL_law wsX0_mostOwed := goodIn_r _ [44, 35, 45, 46, 47, 2, 48, 40, 22, 25, 24, 23, 49, 50, 51, 52, 53, 54, 55, 56, 21, 19, 57, 58, 59, 60, 61, 62, 63, 64, 13, 16, 65, 66, 67, 336, 337, 338, 339, 340, 341, 342, 343, 344, 345, 346, 347, 348, 349, 350, 351, 352, 353] (by decide +kernel) (by decide +kernel)
set_option maxRecDepth 20000 in
theorem gL_law_X0_mostOwed : GoodIn wsL_law (wsV RL 131 RX0 yX0_mostOwed wsX0_mostOwed) := goodIn_app (goodIn_of _ (by decide +kernel)) ggL_law_X0_mostOwed
set_option maxRecDepth 20000 in
theorem ggL_law_L_billTo : GoodIn wsL_law wsL_billTo := goodIn_ca (goodIn_r _ [71, 72, 73, 74, 75, 76, 2, 77, 35, 14, 78, 79, 80, 81, 82, 83, 84, 85, 86, 87, 88, 89, 90, 91, 92, 40, 22, 25, 24, 18, 336, 337, 338, 339, 340, 341, 342, 343, 344, 345, 346, 347, 348, 349, 350, 351, 352, 353] (by decide +kernel) (by decide +kernel)) (goodIn_sub (fun _ h => List.mem_append_left _ (List.mem_append_left _ (List.mem_append_right _ h))) (by decide +kernel))
set_option maxRecDepth 20000 in
theorem gL_law_L_billTo : GoodIn wsL_law (va_wsS RL 129 yL_billTo wsL_billTo) := goodIn_app (goodIn_of _ (by decide +kernel)) ggL_law_L_billTo
set_option maxRecDepth 20000 in
theorem ggL_law_L_at : GoodIn wsL_law wsL_at := goodIn_r _ [95, 96, 97] (by decide +kernel) (by decide +kernel)
set_option maxRecDepth 20000 in
theorem gL_law_L_at : GoodIn wsL_law (va_wsS RL 170 yL_at wsL_at) := goodIn_app (goodIn_of _ (by decide +kernel)) ggL_law_L_at
set_option maxRecDepth 20000 in
theorem ggL_law_L_acts : GoodIn wsL_law wsL_acts := goodIn_ca (goodIn_ca (goodIn_ca (goodIn_r _ [100, 101, 73, 102, 103, 104, 105, 106, 70, 107, 108, 109, 110, 111, 72, 112, 113, 114, 115, 2, 116, 30, 10, 81, 82, 83, 84, 85, 86, 87, 88, 117, 118, 119, 120, 121, 122, 123, 124, 125, 126, 127, 128, 129, 130, 35, 14, 15, 16, 17, 18, 19, 20, 78, 79, 80, 131, 132, 133, 134, 135, 136, 137, 138, 139, 140, 141, 142, 143, 144, 13, 145, 146, 147, 148, 149, 150, 151, 152, 153, 65, 66, 67, 154, 155, 156, 157, 158, 159, 160, 161, 162, 163, 164, 165, 166, 167, 168, 169, 170, 171, 172, 173, 174, 175, 12, 176, 177, 178, 179, 40, 23, 22, 180, 181, 182, 183, 24, 61, 62, 63, 64, 184, 185, 186, 187, 188, 189, 190, 191, 192, 193, 194, 195, 196, 197, 198, 199, 200, 201, 202, 45, 46, 47, 48, 25, 49, 50, 51, 52, 53, 54, 55, 56, 21, 57, 58, 59, 60, 203, 204, 205, 206, 207, 208, 209, 210, 211, 212, 213, 214, 215, 216, 217, 218, 219, 220, 221, 222, 223, 224, 225, 226, 227, 228, 229, 230, 231, 232, 233, 234, 235, 236, 237, 238, 239, 240, 241, 242, 243, 244, 245, 246, 247, 248, 249, 250, 251, 252, 253, 254, 255, 256, 257, 258, 259, 260, 261, 262, 263, 264, 265, 266, 267, 268, 269, 270, 271, 272, 273, 274, 275, 276, 277, 278, 279, 280, 281, 282, 283, 284, 285, 286, 287, 288, 289, 290, 291, 292, 293, 294, 295, 296, 297, 298, 299, 300, 301, 302, 303, 304, 305, 306, 307, 308, 336, 337, 338, 339, 340, 341, 342, 343, 344, 345, 346, 347, 348, 349, 350, 351, 352, 353] rfl (by decide +kernel)) (goodIn_sub (fun _ h => List.mem_append_left _ (List.mem_append_left _ (List.mem_append_right _ h))) (by decide +kernel))) (goodIn_sub (fun _ h => List.mem_append_left _ (List.mem_append_right _ h)) (by decide +kernel))) (goodIn_sub (fun _ h => List.mem_append_right _ h) (by decide +kernel))
set_option maxRecDepth 20000 in
theorem gL_law_L_acts : GoodIn wsL_law (va_wsS RL 174 yL_acts wsL_acts) := goodIn_app (goodIn_of _ (by decide +kernel)) ggL_law_L_acts
set_option maxRecDepth 20000 in
theorem ggL_law_L_breaks : GoodIn wsL_law wsL_breaks := goodIn_ca (goodIn_r _ [311, 104, 257, 258, 70, 259, 221, 222, 223, 140, 224, 225, 226, 2, 227, 24, 228, 229, 230, 231, 40, 149, 150, 151, 152, 153, 232, 233, 234, 235, 236, 237, 238, 23, 312, 313, 314, 315, 316, 317, 318, 145, 146, 147, 148, 30, 176, 177, 178, 179, 10, 17, 22, 180, 181, 182, 183, 281, 282, 283, 284, 285, 286, 287, 12, 26, 27, 28, 29, 31, 32, 33, 34, 35, 36, 37, 38, 39, 336, 337, 338, 339, 340, 341, 342, 343, 344, 345, 346, 347, 348, 349, 350, 351, 352, 353] rfl (by decide +kernel)) (goodIn_sub (fun _ h => List.mem_append_right _ h) (by decide +kernel))
set_option maxRecDepth 20000 in
theorem gL_law_L_breaks : GoodIn wsL_law (va_wsS RL 178 yL_breaks wsL_breaks) := goodIn_app (goodIn_of _ (by decide +kernel)) ggL_law_L_breaks
set_option maxRecDepth 20000 in
theorem ggL_law_L_orders : GoodIn wsL_law wsL_orders := goodIn_ca (goodIn_ca (goodIn_r _ [321, 73, 104, 232, 233, 70, 234, 140, 235, 236, 237, 2, 238, 23, 228, 229, 230, 231, 40, 149, 150, 151, 152, 153, 137, 138, 139, 72, 141, 142, 143, 144, 13, 145, 146, 147, 148, 30, 131, 132, 133, 81, 82, 83, 84, 85, 86, 87, 88, 65, 66, 67, 221, 222, 223, 224, 225, 226, 227, 24, 322, 323, 324, 325, 326, 327, 328, 168, 169, 170, 171, 35, 57, 58, 59, 60, 22, 61, 62, 63, 64, 16, 302, 303, 304, 305, 306, 307, 308, 53, 54, 55, 56, 21, 19, 49, 50, 51, 52, 196, 197, 198, 199, 200, 201, 202, 45, 46, 47, 48, 25, 329, 330, 331, 332, 333, 334, 335, 89, 90, 91, 92, 18, 68, 69, 71, 74, 75, 76, 77, 14, 78, 79, 80, 41, 42, 43, 44, 336, 337, 338, 339, 340, 341, 342, 343, 344, 345, 346, 347, 348, 349, 350, 351, 352, 353] rfl (by decide +kernel)) (goodIn_sub (fun _ h => List.mem_append_right _ h) (by decide +kernel))) (goodIn_sub (fun _ h => List.mem_append_left _ (List.mem_append_left _ (List.mem_append_right _ h))) (by decide +kernel))
set_option maxRecDepth 20000 in
theorem gL_law_L_orders : GoodIn wsL_law (va_wsS RL 181 yL_orders wsL_orders) := goodIn_app (goodIn_of _ (by decide +kernel)) ggL_law_L_orders
theorem dL_law_0 : decode cL_law 0 = .ok (.new 11, 3) := by decide +kernel
theorem dL_law_3 : decode cL_law 3 = .ok (.dup, 1) := by decide +kernel
theorem dL_law_4 : decode cL_law 4 = .ok (.invokespecial 169, 3) := by decide +kernel
theorem dL_law_7 : decode cL_law 7 = .ok (.astore_n 1, 1) := by decide +kernel
theorem dL_law_8 : decode cL_law 8 = .ok (.new 11, 3) := by decide +kernel
theorem dL_law_11 : decode cL_law 11 = .ok (.dup, 1) := by decide +kernel
theorem dL_law_12 : decode cL_law 12 = .ok (.invokespecial 169, 3) := by decide +kernel
theorem dL_law_15 : decode cL_law 15 = .ok (.astore_n 2, 1) := by decide +kernel
theorem dL_law_16 : decode cL_law 16 = .ok (.bipush 63, 2) := by decide +kernel
theorem dL_law_18 : decode cL_law 18 = .ok (.newarray .int, 2) := by decide +kernel
theorem dL_law_20 : decode cL_law 20 = .ok (.astore_n 3, 1) := by decide +kernel
theorem dL_law_21 : decode cL_law 21 = .ok (.bipush 24, 2) := by decide +kernel
theorem dL_law_23 : decode cL_law 23 = .ok (.newarray .int, 2) := by decide +kernel
theorem dL_law_25 : decode cL_law 25 = .ok (.astore 4, 2) := by decide +kernel
theorem dL_law_27 : decode cL_law 27 = .ok (.bipush 64, 2) := by decide +kernel
theorem dL_law_29 : decode cL_law 29 = .ok (.newarray .int, 2) := by decide +kernel
theorem dL_law_31 : decode cL_law 31 = .ok (.astore 5, 2) := by decide +kernel
theorem dL_law_33 : decode cL_law 33 = .ok (.iconst 3, 1) := by decide +kernel
theorem dL_law_34 : decode cL_law 34 = .ok (.newarray .int, 2) := by decide +kernel
theorem dL_law_36 : decode cL_law 36 = .ok (.astore 6, 2) := by decide +kernel
theorem dL_law_38 : decode cL_law 38 = .ok (.aload_n 1, 1) := by decide +kernel
theorem dL_law_39 : decode cL_law 39 = .ok (.invokevirtual 108, 3) := by decide +kernel
theorem dL_law_42 : decode cL_law 42 = .ok (.ifCond .ne 38, 3) := by decide +kernel
theorem dL_law_45 : decode cL_law 45 = .ok (.aload_n 1, 1) := by decide +kernel
theorem dL_law_46 : decode cL_law 46 = .ok (.invokevirtual 112, 3) := by decide +kernel
theorem dL_law_49 : decode cL_law 49 = .ok (.ifCond .ne 31, 3) := by decide +kernel
theorem dL_law_52 : decode cL_law 52 = .ok (.aload_n 1, 1) := by decide +kernel
theorem dL_law_53 : decode cL_law 53 = .ok (.invokevirtual 115, 3) := by decide +kernel
theorem dL_law_56 : decode cL_law 56 = .ok (.ifCond .ne 24, 3) := by decide +kernel
theorem dL_law_59 : decode cL_law 59 = .ok (.aload_n 1, 1) := by decide +kernel
theorem dL_law_60 : decode cL_law 60 = .ok (.invokevirtual 131, 3) := by decide +kernel
theorem dL_law_63 : decode cL_law 63 = .ok (.iconst (-1), 1) := by decide +kernel
theorem dL_law_64 : decode cL_law 64 = .ok (.if_icmp .ne 16, 3) := by decide +kernel
theorem dL_law_67 : decode cL_law 67 = .ok (.aload_n 1, 1) := by decide +kernel
theorem dL_law_68 : decode cL_law 68 = .ok (.bipush 9, 2) := by decide +kernel
theorem dL_law_70 : decode cL_law 70 = .ok (.invokestatic 129, 3) := by decide +kernel
theorem dL_law_73 : decode cL_law 73 = .ok (.ifCond .ne 7, 3) := by decide +kernel
theorem dL_law_76 : decode cL_law 76 = .ok (.iconst 1, 1) := by decide +kernel
theorem dL_law_77 : decode cL_law 77 = .ok (.goto 4, 3) := by decide +kernel
theorem dL_law_80 : decode cL_law 80 = .ok (.iconst 0, 1) := by decide +kernel
theorem dL_law_81 : decode cL_law 81 = .ok (.istore 7, 2) := by decide +kernel
theorem dL_law_83 : decode cL_law 83 = .ok (.iconst 0, 1) := by decide +kernel
theorem dL_law_84 : decode cL_law 84 = .ok (.istore 8, 2) := by decide +kernel
theorem dL_law_86 : decode cL_law 86 = .ok (.iload 8, 2) := by decide +kernel
theorem dL_law_88 : decode cL_law 88 = .ok (.bipush 90, 2) := by decide +kernel
theorem dL_law_90 : decode cL_law 90 = .ok (.if_icmp .ge 118, 3) := by decide +kernel
theorem dL_law_93 : decode cL_law 93 = .ok (.iload 7, 2) := by decide +kernel
theorem dL_law_95 : decode cL_law 95 = .ok (.ifCond .eq 113, 3) := by decide +kernel
theorem dL_law_98 : decode cL_law 98 = .ok (.aload_n 1, 1) := by decide +kernel
theorem dL_law_99 : decode cL_law 99 = .ok (.aload_n 2, 1) := by decide +kernel
theorem dL_law_100 : decode cL_law 100 = .ok (.aload_n 3, 1) := by decide +kernel
theorem dL_law_101 : decode cL_law 101 = .ok (.aload 4, 2) := by decide +kernel
theorem dL_law_103 : decode cL_law 103 = .ok (.aload 5, 2) := by decide +kernel
theorem dL_law_105 : decode cL_law 105 = .ok (.aload 6, 2) := by decide +kernel
theorem dL_law_107 : decode cL_law 107 = .ok (.aload_n 0, 1) := by decide +kernel
theorem dL_law_108 : decode cL_law 108 = .ok (.iconst 2, 1) := by decide +kernel
theorem dL_law_109 : decode cL_law 109 = .ok (.iload 8, 2) := by decide +kernel
theorem dL_law_111 : decode cL_law 111 = .ok (.imul, 1) := by decide +kernel
theorem dL_law_112 : decode cL_law 112 = .ok (.invokestatic 170, 3) := by decide +kernel
theorem dL_law_115 : decode cL_law 115 = .ok (.aload_n 0, 1) := by decide +kernel
theorem dL_law_116 : decode cL_law 116 = .ok (.iconst 2, 1) := by decide +kernel
theorem dL_law_117 : decode cL_law 117 = .ok (.iload 8, 2) := by decide +kernel
theorem dL_law_119 : decode cL_law 119 = .ok (.imul, 1) := by decide +kernel
theorem dL_law_120 : decode cL_law 120 = .ok (.iconst 1, 1) := by decide +kernel
theorem dL_law_121 : decode cL_law 121 = .ok (.iadd, 1) := by decide +kernel
theorem dL_law_122 : decode cL_law 122 = .ok (.invokestatic 170, 3) := by decide +kernel
theorem dL_law_125 : decode cL_law 125 = .ok (.invokestatic 174, 3) := by decide +kernel
theorem dL_law_128 : decode cL_law 128 = .ok (.istore 7, 2) := by decide +kernel
theorem dL_law_130 : decode cL_law 130 = .ok (.iload 7, 2) := by decide +kernel
theorem dL_law_132 : decode cL_law 132 = .ok (.ifCond .eq 70, 3) := by decide +kernel
theorem dL_law_135 : decode cL_law 135 = .ok (.iload 8, 2) := by decide +kernel
theorem dL_law_137 : decode cL_law 137 = .ok (.iconst 4, 1) := by decide +kernel
theorem dL_law_138 : decode cL_law 138 = .ok (.irem, 1) := by decide +kernel
theorem dL_law_139 : decode cL_law 139 = .ok (.iconst 3, 1) := by decide +kernel
theorem dL_law_140 : decode cL_law 140 = .ok (.if_icmp .ne 62, 3) := by decide +kernel
theorem dL_law_143 : decode cL_law 143 = .ok (.aload_n 1, 1) := by decide +kernel
theorem dL_law_144 : decode cL_law 144 = .ok (.aload_n 3, 1) := by decide +kernel
theorem dL_law_145 : decode cL_law 145 = .ok (.aload 4, 2) := by decide +kernel
theorem dL_law_147 : decode cL_law 147 = .ok (.aload 5, 2) := by decide +kernel
theorem dL_law_149 : decode cL_law 149 = .ok (.aload 6, 2) := by decide +kernel
theorem dL_law_151 : decode cL_law 151 = .ok (.invokestatic 178, 3) := by decide +kernel
theorem dL_law_154 : decode cL_law 154 = .ok (.ifCond .eq 45, 3) := by decide +kernel
theorem dL_law_157 : decode cL_law 157 = .ok (.aload_n 1, 1) := by decide +kernel
theorem dL_law_158 : decode cL_law 158 = .ok (.aload_n 3, 1) := by decide +kernel
theorem dL_law_159 : decode cL_law 159 = .ok (.aload 5, 2) := by decide +kernel
theorem dL_law_161 : decode cL_law 161 = .ok (.aload 6, 2) := by decide +kernel
theorem dL_law_163 : decode cL_law 163 = .ok (.invokestatic 181, 3) := by decide +kernel
theorem dL_law_166 : decode cL_law 166 = .ok (.ifCond .eq 33, 3) := by decide +kernel
theorem dL_law_169 : decode cL_law 169 = .ok (.aload_n 2, 1) := by decide +kernel
theorem dL_law_170 : decode cL_law 170 = .ok (.aload_n 3, 1) := by decide +kernel
theorem dL_law_171 : decode cL_law 171 = .ok (.aload 4, 2) := by decide +kernel
theorem dL_law_173 : decode cL_law 173 = .ok (.aload 5, 2) := by decide +kernel
theorem dL_law_175 : decode cL_law 175 = .ok (.aload 6, 2) := by decide +kernel
theorem dL_law_177 : decode cL_law 177 = .ok (.invokestatic 178, 3) := by decide +kernel
theorem dL_law_180 : decode cL_law 180 = .ok (.ifCond .eq 19, 3) := by decide +kernel
theorem dL_law_183 : decode cL_law 183 = .ok (.aload_n 2, 1) := by decide +kernel
theorem dL_law_184 : decode cL_law 184 = .ok (.aload_n 3, 1) := by decide +kernel
theorem dL_law_185 : decode cL_law 185 = .ok (.aload 5, 2) := by decide +kernel
theorem dL_law_187 : decode cL_law 187 = .ok (.aload 6, 2) := by decide +kernel
theorem dL_law_189 : decode cL_law 189 = .ok (.invokestatic 181, 3) := by decide +kernel
theorem dL_law_192 : decode cL_law 192 = .ok (.ifCond .eq 7, 3) := by decide +kernel
theorem dL_law_195 : decode cL_law 195 = .ok (.iconst 1, 1) := by decide +kernel
theorem dL_law_196 : decode cL_law 196 = .ok (.goto 4, 3) := by decide +kernel
theorem dL_law_199 : decode cL_law 199 = .ok (.iconst 0, 1) := by decide +kernel
theorem dL_law_200 : decode cL_law 200 = .ok (.istore 7, 2) := by decide +kernel
theorem dL_law_202 : decode cL_law 202 = .ok (.iinc 8 1, 3) := by decide +kernel
theorem dL_law_205 : decode cL_law 205 = .ok (.goto (-119), 3) := by decide +kernel
theorem dL_law_208 : decode cL_law 208 = .ok (.iload 7, 2) := by decide +kernel
theorem dL_law_210 : decode cL_law 210 = .ok (.ireturn, 1) := by decide +kernel
abbrev vwCl : List vw_C := [(RX0, TX0, 18)]
end
section
/-! The account as a mathematical value: counts (0 breaks, 1 orders, 2 spots) and columns
(1 seconds of a break, 2 aired, 3 ratings, 4 advertiser, 5 category, 6 group, 7 seconds, 8 price, 9 promise, 10 floor, 11 closed, 12 order, 13 break, 14 state, 15 free), and what each call answers. -/
abbrev sa_St : Type := (Nat → Nat) × (Nat → Nat → Int32)
abbrev sa_R : Type := Nat × Int32 × sa_St
def sa_n (σ : sa_St) (j v : Nat) : sa_St := (va_up σ.1 j v, σ.2)
def sa_f (σ : sa_St) (j : Nat) (g : Nat → Int32) : sa_St := (σ.1, va_up σ.2 j g)
def sa_0 : sa_St := (fun _ => 0, fun _ _ => 0)
def sa_b (P : Prop) [Decidable P] : Int32 := if P then 1 else 0
theorem sa_b0 {P : Prop} [Decidable P] (h : sa_b P = 0) : ¬ P := by
  intro hp; unfold sa_b at h; rw [if_pos hp] at h; exact absurd h (by decide)
theorem sa_b1 {P : Prop} [Decidable P] (h : ¬ sa_b P = 0) : P := by
  unfold sa_b at h
  by_cases hp : P
  · exact hp
  · rw [if_neg hp] at h; exact absurd rfl h
theorem sa_bt {P : Prop} [Decidable P] (h : P) : sa_b P = 1 := if_pos h
theorem sa_bf {P : Prop} [Decidable P] (h : ¬ P) : sa_b P = 0 := if_neg h
theorem sa_b_or {P : Prop} [Decidable P] : sa_b P = 0 ∨ sa_b P = 1 := by
  by_cases h : P
  · exact Or.inr (sa_bt h)
  · exact Or.inl (sa_bf h)
/-- a spot stands in a break -/
abbrev sa_sd (σ : sa_St) (k : Nat) (at' : Int32) : Prop := σ.2 13 k = at' ∧ (σ.2 14 k = 0 ∨ σ.2 14 k = 1)
abbrev sa_sec (σ : sa_St) (k : Nat) : Int32 := σ.2 7 (σ.2 12 k).toNatClampNeg
def sa_room (σ : sa_St) (at' w : Int32) : Nat → Int32
  | 0 => σ.2 1 at'.toNatClampNeg
  | k + 1 => sa_room σ at' w k - (if ¬ nI k = w ∧ sa_sd σ k at' then sa_sec σ k else 0)
abbrev sa_rat (σ : sa_St) (o at' : Int32) : Int32 := σ.2 3 (at' * 3 + σ.2 6 o.toNatClampNeg).toNatClampNeg
/-- the same advertiser (rv = 0), or a rival -/
abbrev sa_adv (σ : sa_St) (k : Nat) (o : Int32) : Prop := σ.2 4 (σ.2 12 k).toNatClampNeg = σ.2 4 o.toNatClampNeg
abbrev sa_cat (σ : sa_St) (k : Nat) (o : Int32) : Prop := σ.2 5 (σ.2 12 k).toNatClampNeg = σ.2 5 o.toNatClampNeg
abbrev sa_cnt (σ : sa_St) (k : Nat) (o rv : Int32) : Prop := (rv = 0 ∧ sa_adv σ k o) ∨ (¬ rv = 0 ∧ ¬ sa_adv σ k o ∧ sa_cat σ k o)
def sa_th (σ : sa_St) (o at' w rv : Int32) : Nat → Bool
  | 0 => false
  | k + 1 => sa_th σ o at' w rv k || decide (¬ nI k = w ∧ sa_sd σ k at' ∧ sa_cnt σ k o rv)
abbrev sa_nx (σ : sa_St) (o at' w : Int32) : Prop :=
  (0 < at' ∧ sa_th σ o (at' - 1) w 1 (σ.1 2) = true) ∨ (at' + 1 < nI (σ.1 0) ∧ sa_th σ o (at' + 1) w 1 (σ.1 2) = true)
def sa_why (σ : sa_St) (o at' w : Int32) : Int32 :=
  if ¬ σ.2 2 at'.toNatClampNeg = 0 then 1
  else if sa_room σ at' w (σ.1 2) < σ.2 7 o.toNatClampNeg then 2
  else if sa_rat σ o at' < σ.2 10 o.toNatClampNeg then 3
  else if sa_th σ o at' w 0 (σ.1 2) = true then 4
  else if sa_th σ o at' w 1 (σ.1 2) = true then 5
  else if sa_nx σ o at' w then 6 else 0
def sa_sum (σ : sa_St) (o st fr : Int32) : Nat → Int32
  | 0 => 0
  | k + 1 => sa_sum σ o st fr k + (if σ.2 12 k = o ∧ σ.2 14 k = st ∧ (¬ σ.2 15 k = 0 ∨ fr = 0) then sa_rat σ o (σ.2 13 k) else 0)
abbrev sa_aud (σ : sa_St) (o st : Int32) : Int32 := sa_sum σ o st 0 (σ.1 2)
abbrev sa_less (σ : sa_St) (o : Int32) : Int32 := σ.2 9 o.toNatClampNeg - sa_aud σ o 1
def sa_owes (σ : sa_St) (o : Int32) : Int32 := if ¬ σ.2 11 o.toNatClampNeg = 0 ∧ 0 < sa_less σ o then sa_less σ o else 0
def sa_left (σ : sa_St) (o : Int32) : Int32 :=
  if 0 < sa_owes σ o - sa_sum σ o 0 1 (σ.1 2) then sa_owes σ o - sa_sum σ o 0 1 (σ.1 2) else 0
def sa_bil (σ : sa_St) (o : Int32) : Nat → Int32
  | 0 => 0
  | k + 1 => sa_bil σ o k + (if σ.2 12 k = o ∧ σ.2 14 k = 1 ∧ σ.2 15 k = 0 then σ.2 8 o.toNatClampNeg else 0)
def sa_bito (σ : sa_St) (by' : Int32) : Nat → Int32
  | 0 => 0
  | k + 1 => sa_bito σ by' k + (if σ.2 4 k = by' then sa_bil σ (nI k) (σ.1 2) else 0)
def sa_mo (σ : sa_St) : Nat → Int32 × Int32
  | 0 => (-1, 0)
  | k + 1 => if (sa_mo σ k).2 < sa_left σ (nI k) then (nI k, sa_left σ (nI k)) else sa_mo σ k
def sa_best (σ : sa_St) (o : Int32) : Nat → Int32
  | 0 => -1
  | k + 1 => if sa_why σ o (nI k) (-1) = 0 ∧ (sa_best σ o k = -1 ∨ sa_rat σ o (sa_best σ o k) < sa_rat σ o (nI k)) then nI k else sa_best σ o k
/-- a spot more -/
def sa_add (σ : sa_St) (o at' fr : Int32) : sa_St :=
  sa_n (sa_f (sa_f (sa_f (sa_f σ 12 (upd (σ.2 12) (σ.1 2) o)) 13 (upd (σ.2 13) (σ.1 2) at')) 14 (upd (σ.2 14) (σ.1 2) 0)) 15 (upd (σ.2 15) (σ.1 2) fr)) 2 (σ.1 2 + 1)
abbrev sa_more (σ : sa_St) (o : Int32) : Prop := σ.1 2 < 150 ∧ sa_aud σ o 1 + sa_aud σ o 0 < σ.2 9 o.toNatClampNeg ∧ ¬ sa_best σ o (σ.1 0) = -1
def sa_fill (o : Int32) : Nat → Nat → sa_St → Int32 × sa_St
  | 0, i, σ => (nI i, σ)
  | n + 1, i, σ => if sa_more σ o then sa_fill o n (i + 1) (sa_add σ o (sa_best σ o (σ.1 0)) 0) else (nI i, σ)
def sa_air (σ : sa_St) (at' : Int32) : Nat → (Nat → Int32) × Int32
  | 0 => (σ.2 14, 0)
  | k + 1 => if σ.2 13 k = at' ∧ (sa_air σ at' k).1 k = 0 then (upd (sa_air σ at' k).1 k 1, (sa_air σ at' k).2 + 1) else sa_air σ at' k
def sa_cls (σ : sa_St) (o : Int32) : Nat → Nat → Int32
  | 0 => σ.2 14
  | k + 1 => if σ.2 12 k = o ∧ sa_cls σ o k k = 0 then upd (sa_cls σ o k) k 3 else sa_cls σ o k
/-- what is so of every account -/
def sa_I (σ : sa_St) : Prop :=
  σ.1 0 ≤ 24 ∧ σ.1 1 ≤ 20 ∧ σ.1 2 ≤ 150 ∧ (∀ k, k < σ.1 1 → vp_in (σ.2 6 k) 3) ∧ (∀ k, k < σ.1 2 → vp_in (σ.2 12 k) (σ.1 1)) ∧ (∀ k, k < σ.1 2 → vp_in (σ.2 13 k) (σ.1 0)) ∧ (∀ k, σ.2 2 k = 0 ∨ σ.2 2 k = 1)
/-! the calls: which exception (0: none), the answer, the account behind it -/
abbrev sa_in (x : Int32) (n : Nat) : Prop := ¬ x < 0 ∧ x < nI n
abbrev sa_iB (σ : sa_St) (x : Int32) : Prop := sa_in x (σ.1 0)
abbrev sa_iO (σ : sa_St) (x : Int32) : Prop := sa_in x (σ.1 1)
abbrev sa_iS (σ : sa_St) (x : Int32) : Prop := sa_in x (σ.1 2)
abbrev sa_w (v a b : Int32) : Prop := a ≤ v ∧ v ≤ b
/-- three conditions in their order -/
def sa_go (P1 P2 P3 : Prop) [Decidable P1] [Decidable P2] [Decidable P3] (σ : sa_St) (ok : Int32 × sa_St) : sa_R :=
  if ¬ P1 then (1, 0, σ) else if ¬ P2 then (2, 0, σ) else if ¬ P3 then (3, 0, σ) else (0, ok)
theorem sa_go0 {P1 P2 P3 : Prop} [Decidable P1] [Decidable P2] [Decidable P3] {σ : sa_St} {ok : Int32 × sa_St} (h1 : P1) (h2 : P2) (h3 : P3) : sa_go P1 P2 P3 σ ok = (0, ok) := by unfold sa_go; rw [if_neg (fun h => h h1), if_neg (fun h => h h2), if_neg (fun h => h h3)]
theorem sa_go1 {P1 P2 P3 : Prop} [Decidable P1] [Decidable P2] [Decidable P3] {σ : sa_St} {ok : Int32 × sa_St} (h1 : ¬ P1) : sa_go P1 P2 P3 σ ok = (1, 0, σ) := by unfold sa_go; rw [if_pos h1]
theorem sa_go2 {P1 P2 P3 : Prop} [Decidable P1] [Decidable P2] [Decidable P3] {σ : sa_St} {ok : Int32 × sa_St} (h1 : P1) (h2 : ¬ P2) : sa_go P1 P2 P3 σ ok = (2, 0, σ) := by unfold sa_go; rw [if_neg (fun h => h h1), if_pos h2]
theorem sa_go3 {P1 P2 P3 : Prop} [Decidable P1] [Decidable P2] [Decidable P3] {σ : sa_St} {ok : Int32 × sa_St} (h1 : P1) (h2 : P2) (h3 : ¬ P3) : sa_go P1 P2 P3 σ ok = (3, 0, σ) := by unfold sa_go; rw [if_neg (fun h => h h1), if_neg (fun h => h h2), if_pos h3]
def sp_addBreak (σ : sa_St) (x : Int32) : sa_R := sa_go (sa_w x 15 600) (nI (σ.1 0) < 24) True σ (nI (σ.1 0), sa_n (sa_f σ 1 (upd (σ.2 1) (σ.1 0) x)) 0 (σ.1 0 + 1))
def sp_rate (σ : sa_St) (at' g v : Int32) : sa_R := sa_go (sa_iB σ at') (sa_w g 0 2 ∧ sa_w v 0 100000) True σ (σ.2 3 (at' * 3 + g).toNatClampNeg, sa_f σ 3 (upd (σ.2 3) (at' * 3 + g).toNatClampNeg v))
def sp_air (σ : sa_St) (at' : Int32) : sa_R := sa_go (sa_iB σ at') (σ.2 2 at'.toNatClampNeg = 0) True σ ((sa_air σ at' (σ.1 2)).2, sa_f (sa_f σ 2 (upd (σ.2 2) at'.toNatClampNeg 1)) 14 (sa_air σ at' (σ.1 2)).1)
def sp_isAired (σ : sa_St) (at' : Int32) : sa_R := sa_go (sa_iB σ at') True True σ (σ.2 2 at'.toNatClampNeg, σ)
def sp_room (σ : sa_St) (at' : Int32) : sa_R := sa_go (sa_iB σ at') True True σ (sa_room σ at' (-1) (σ.1 2), σ)
def sp_rating (σ : sa_St) (at' g : Int32) : sa_R := sa_go (sa_iB σ at') (sa_w g 0 2) True σ (σ.2 3 (at' * 3 + g).toNatClampNeg, σ)
def sa_ord (σ : sa_St) (x1 x2 x3 x4 x5 x6 x7 : Int32) : sa_St :=
  sa_n (sa_f (sa_f (sa_f (sa_f (sa_f (sa_f (sa_f σ 4 (upd (σ.2 4) (σ.1 1) x1)) 5 (upd (σ.2 5) (σ.1 1) x2)) 6 (upd (σ.2 6) (σ.1 1) x3)) 7 (upd (σ.2 7) (σ.1 1) x4)) 8 (upd (σ.2 8) (σ.1 1) x5)) 9 (upd (σ.2 9) (σ.1 1) x6)) 10 (upd (σ.2 10) (σ.1 1) x7)) 1 (σ.1 1 + 1)
def sp_addOrder (σ : sa_St) (x1 x2 x3 x4 x5 x6 x7 : Int32) : sa_R :=
  sa_go (sa_w x1 0 9 ∧ sa_w x2 0 7 ∧ sa_w x3 0 2 ∧ (x4 = 15 ∨ x4 = 30 ∨ x4 = 60) ∧ sa_w x5 0 1000000 ∧ sa_w x6 0 1000000 ∧ sa_w x7 0 100000) (nI (σ.1 1) < 20) True σ (nI (σ.1 1), sa_ord σ x1 x2 x3 x4 x5 x6 x7)
def sa_clo (σ : sa_St) (o : Int32) : sa_St := sa_f (sa_f σ 11 (upd (σ.2 11) o.toNatClampNeg 1)) 14 (sa_cls σ o (σ.1 2))
def sp_close (σ : sa_St) (o : Int32) : sa_R := sa_go (sa_iO σ o) (σ.2 11 o.toNatClampNeg = 0) True σ (sa_owes (sa_clo σ o) o, sa_clo σ o)
def sp_whyNot (σ : sa_St) (o at' : Int32) : sa_R := sa_go (sa_iO σ o ∧ sa_iB σ at') True True σ (sa_why σ o at' (-1), σ)
def sp_place (σ : sa_St) (o at' : Int32) : sa_R := sa_go (sa_iO σ o ∧ sa_iB σ at') (σ.2 11 o.toNatClampNeg = 0 ∧ nI (σ.1 2) < 150 ∧ sa_why σ o at' (-1) = 0) True σ (nI (σ.1 2), sa_add σ o at' 0)
def sp_give (σ : sa_St) (o at' : Int32) : sa_R := sa_go (sa_iO σ o ∧ sa_iB σ at') (0 < sa_left σ o ∧ nI (σ.1 2) < 150 ∧ sa_why σ o at' (-1) = 0) True σ (nI (σ.1 2), sa_add σ o at' 1)
def sp_fill (σ : sa_St) (o most : Int32) : sa_R := sa_go (sa_iO σ o) (sa_w most 1 24) (σ.2 11 o.toNatClampNeg = 0) σ (sa_fill o most.toNatClampNeg 0 σ)
def sp_move (σ : sa_St) (x at' : Int32) : sa_R := sa_go (sa_iS σ x ∧ sa_iB σ at') (σ.2 14 x.toNatClampNeg = 0 ∧ (σ.2 13 x.toNatClampNeg = at' ∨ sa_why σ (σ.2 12 x.toNatClampNeg) at' x = 0)) True σ (σ.2 13 x.toNatClampNeg, sa_f σ 13 (upd (σ.2 13) x.toNatClampNeg at'))
def sp_miss (σ : sa_St) (x : Int32) : sa_R := sa_go (sa_iS σ x) (σ.2 14 x.toNatClampNeg = 0 ∨ σ.2 14 x.toNatClampNeg = 1) True σ (sa_b (σ.2 14 x.toNatClampNeg = 1), sa_f σ 14 (upd (σ.2 14) x.toNatClampNeg 2))
def sp_drop (σ : sa_St) (x : Int32) : sa_R := sa_go (sa_iS σ x) (σ.2 14 x.toNatClampNeg = 0) True σ (0, sa_f σ 14 (upd (σ.2 14) x.toNatClampNeg 3))
def sp_stateOf (σ : sa_St) (x : Int32) : sa_R := sa_go (sa_iS σ x) True True σ (σ.2 14 x.toNatClampNeg, σ)
def sp_breakOf (σ : sa_St) (x : Int32) : sa_R := sa_go (sa_iS σ x) True True σ (σ.2 13 x.toNatClampNeg, σ)
def sp_delivered (σ : sa_St) (o : Int32) : sa_R := sa_go (sa_iO σ o) True True σ (sa_aud σ o 1, σ)
def sp_owed (σ : sa_St) (o : Int32) : sa_R := sa_go (sa_iO σ o) True True σ (sa_owes σ o, σ)
def sp_rest (σ : sa_St) (o : Int32) : sa_R := sa_go (sa_iO σ o) True True σ (sa_left σ o, σ)
def sp_bill (σ : sa_St) (o : Int32) : sa_R := sa_go (sa_iO σ o) True True σ (sa_bil σ o (σ.1 2), σ)
def sp_billTo (σ : sa_St) (x : Int32) : sa_R := sa_go (sa_w x 0 9) True True σ (sa_bito σ x (σ.1 1), σ)
end
section
/-! the cells of the class's object and of the reference's, and a row a field -/
def sa_W0 (cI cZ : ClassId) (a : Nat → Nat) (σ : sa_St) : va_W := [(a 0, .inr (0, [.int (nI (σ.1 0)), .ref (a 1), .ref (a 2), .ref (a 3), .int (nI (σ.1 1)), .ref (a 4), .ref (a 5), .ref (a 6), .ref (a 7), .ref (a 8), .ref (a 9), .ref (a 10), .ref (a 11), .int (nI (σ.1 2)), .ref (a 12), .ref (a 13), .ref (a 14), .ref (a 15)])), (a 1, .inl (cI, 24, .inl (σ.2 1))), (a 2, .inl (cZ, 24, .inl (σ.2 2))), (a 3, .inl (cI, 72, .inl (σ.2 3))), (a 4, .inl (cI, 20, .inl (σ.2 4))), (a 5, .inl (cI, 20, .inl (σ.2 5))), (a 6, .inl (cI, 20, .inl (σ.2 6))), (a 7, .inl (cI, 20, .inl (σ.2 7))), (a 8, .inl (cI, 20, .inl (σ.2 8))), (a 9, .inl (cI, 20, .inl (σ.2 9))), (a 10, .inl (cI, 20, .inl (σ.2 10))), (a 11, .inl (cZ, 20, .inl (σ.2 11))), (a 12, .inl (cI, 150, .inl (σ.2 12))), (a 13, .inl (cI, 150, .inl (σ.2 13))), (a 14, .inl (cI, 150, .inl (σ.2 14))), (a 15, .inl (cZ, 150, .inl (σ.2 15)))]
abbrev sa_ty (cI cZ cL : ClassId) : List (ClassId × FieldType) := [(cI, .int), (cZ, .boolean)]
abbrev sa_K (G : va_G) (cI cZ cL : ClassId) (U : State) : Prop := va_K G vwCl (sa_ty cI cZ cL) U
def sa_A (a : Nat → Nat) : Nat → Prop := fun q => ∃ j, j < 16 ∧ q = a j
def sa_J (a : Nat → Nat) : Prop := ∀ i j, i < 16 → j < 16 → a i = a j → i = j
theorem sa_W0_at {cI cZ : ClassId} {a : Nat → Nat} {σ : sa_St} {i : Nat} {q : Nat × va_E} (h : (sa_W0 cI cZ a σ)[i]? = some q) : i < 16 ∧ q.1 = a i := by
  have hl : i < 16 := (List.getElem?_eq_some_iff.mp h).1
  refine ⟨hl, ?_⟩
  have h2 : ((sa_W0 cI cZ a σ).map (fun z => z.1))[i]? = some q.1 := by rw [List.getElem?_map, h]; rfl
  rw [show (sa_W0 cI cZ a σ).map (fun z => z.1) = (List.range 16).map a from rfl, List.getElem?_map, List.getElem?_range hl] at h2
  exact (Option.some.inj h2).symm
theorem sa_D0 {cI cZ : ClassId} {a : Nat → Nat} {σ : sa_St} (hJ : sa_J a) : va_D (sa_A a) (sa_W0 cI cZ a σ) :=
  ⟨fun i j p q h1 h2 h => hJ i j (sa_W0_at h1).1 (sa_W0_at h2).1 ((sa_W0_at h1).2.symm.trans (h.trans (sa_W0_at h2).2)), fun k q h => ⟨k, sa_W0_at h⟩⟩
section
variable {p : Program} {l : Launch} {e : Env} {R : Room} {s : State} {m : MethodId} {args : Array Value} {below : List Frame} {meth : Method} {c : Code} {H H0 : Heap} {locs : List Loc} {cells slots : Nat} {Q : State → Prop}
variable {cc : ByteArray} {pc nL : Nat} {ls : Array Slot} {rest : List Value} {Ts : List Cond} {G : va_G} {cI cZ cL : ClassId} {a : Nat → Nat} {σ : sa_St} {th : Int32} {A : Nat → Prop}
theorem sa_g0_breakCount (S : CallFix p m c cc nL s args Ts RX0) (hin : ∀ w ∈ wsX00, w ∈ Ts) (hK : sa_K G cI cZ cL s) (hP : va_P G vwCl (sa_W0 cI cZ a σ) H) (hl : Cond.fieldLink RX0 64 "SpotAccount" "breakCount" "I" ∈ Ts) (hdg : decode cc pc = .ok (.getfield 64, 3)) (kk : W p l e R s m args below meth c H locs cells slots Q (F0 m (pc + 3) ls (.int (nI (σ.1 0)) :: rest))) : W p l e R s m args below meth c H locs cells slots Q (F0 m pc ls (.ref (a 0) :: rest)) := va_get (D := G) (ci := 0) (v := .int (nI (σ.1 0))) (C := RX0) (T := TX0) (N := 18) S.1 S.2.1 S.2.2.2.2 hin S.2.2.2.1 hK hP 0 rfl rfl 0 (by decide) (S.2.2.2.2 _ hl) (fun _ h9 => h9) rfl hdg kk
theorem sa_p0_breakCount {x : Int32} {v : Nat} (hx : x = nI v) (S : CallFix p m c cc nL s args Ts RX0) (hin : ∀ w ∈ wsX00, w ∈ Ts) (hK : sa_K G cI cZ cL s) (hP : va_P G vwCl (sa_W0 cI cZ a σ) H) (hD : va_D A (sa_W0 cI cZ a σ)) (hS : va_S A H0 H locs) (hl : Cond.fieldLink RX0 64 "SpotAccount" "breakCount" "I" ∈ Ts) (hdg : decode cc pc = .ok (.putfield 64, 3)) (kk : ∀ (H1 : Heap) (locs1 : List Loc), va_P G vwCl (sa_W0 cI cZ a (sa_n σ 0 v)) H1 → va_S A H0 H1 locs1 → W p l e R s m args below meth c H1 locs1 cells slots Q (F0 m (pc + 3) ls (rest))) : W p l e R s m args below meth c H locs cells slots Q (F0 m pc ls (.int x :: .ref (a 0) :: rest)) := by
  subst hx
  exact va_put (D := G) (ci := 0) (v := .int (nI v)) (ty := .int) (C := RX0) (T := TX0) (N := 18) S.1 S.2.1 S.2.2.2.2 hin tyX0 tyX0_ok nmX0 S.2.2.2.1 hK hP hD hS 0 rfl rfl 0 (by decide) (S.2.2.2.2 _ hl) (fun _ h9 => h9) rfl (by decide +kernel) rfl rfl (Nat.le_of_ble_eq_true rfl) hdg (fun H1 locs1 h1 _ h3 => kk H1 locs1 h1 h3)
theorem sa_g0_breakSeconds (S : CallFix p m c cc nL s args Ts RX0) (hin : ∀ w ∈ wsX00, w ∈ Ts) (hK : sa_K G cI cZ cL s) (hP : va_P G vwCl (sa_W0 cI cZ a σ) H) (hl : Cond.fieldLink RX0 9 "SpotAccount" "breakSeconds" "[I" ∈ Ts) (hdg : decode cc pc = .ok (.getfield 9, 3)) (kk : W p l e R s m args below meth c H locs cells slots Q (F0 m (pc + 3) ls (.ref (a 1) :: rest))) : W p l e R s m args below meth c H locs cells slots Q (F0 m pc ls (.ref (a 0) :: rest)) := va_get (D := G) (ci := 0) (v := .ref (a 1)) (C := RX0) (T := TX0) (N := 18) S.1 S.2.1 S.2.2.2.2 hin S.2.2.2.1 hK hP 0 rfl rfl 1 (by decide) (S.2.2.2.2 _ hl) (fun _ h9 => h9) rfl hdg kk
theorem sa_g0_breakAired (S : CallFix p m c cc nL s args Ts RX0) (hin : ∀ w ∈ wsX00, w ∈ Ts) (hK : sa_K G cI cZ cL s) (hP : va_P G vwCl (sa_W0 cI cZ a σ) H) (hl : Cond.fieldLink RX0 13 "SpotAccount" "breakAired" "[Z" ∈ Ts) (hdg : decode cc pc = .ok (.getfield 13, 3)) (kk : W p l e R s m args below meth c H locs cells slots Q (F0 m (pc + 3) ls (.ref (a 2) :: rest))) : W p l e R s m args below meth c H locs cells slots Q (F0 m pc ls (.ref (a 0) :: rest)) := va_get (D := G) (ci := 0) (v := .ref (a 2)) (C := RX0) (T := TX0) (N := 18) S.1 S.2.1 S.2.2.2.2 hin S.2.2.2.1 hK hP 0 rfl rfl 2 (by decide) (S.2.2.2.2 _ hl) (fun _ h9 => h9) rfl hdg kk
theorem sa_g0_ratings (S : CallFix p m c cc nL s args Ts RX0) (hin : ∀ w ∈ wsX00, w ∈ Ts) (hK : sa_K G cI cZ cL s) (hP : va_P G vwCl (sa_W0 cI cZ a σ) H) (hl : Cond.fieldLink RX0 17 "SpotAccount" "ratings" "[I" ∈ Ts) (hdg : decode cc pc = .ok (.getfield 17, 3)) (kk : W p l e R s m args below meth c H locs cells slots Q (F0 m (pc + 3) ls (.ref (a 3) :: rest))) : W p l e R s m args below meth c H locs cells slots Q (F0 m pc ls (.ref (a 0) :: rest)) := va_get (D := G) (ci := 0) (v := .ref (a 3)) (C := RX0) (T := TX0) (N := 18) S.1 S.2.1 S.2.2.2.2 hin S.2.2.2.1 hK hP 0 rfl rfl 3 (by decide) (S.2.2.2.2 _ hl) (fun _ h9 => h9) rfl hdg kk
theorem sa_g0_orderCount (S : CallFix p m c cc nL s args Ts RX0) (hin : ∀ w ∈ wsX00, w ∈ Ts) (hK : sa_K G cI cZ cL s) (hP : va_P G vwCl (sa_W0 cI cZ a σ) H) (hl : Cond.fieldLink RX0 98 "SpotAccount" "orderCount" "I" ∈ Ts) (hdg : decode cc pc = .ok (.getfield 98, 3)) (kk : W p l e R s m args below meth c H locs cells slots Q (F0 m (pc + 3) ls (.int (nI (σ.1 1)) :: rest))) : W p l e R s m args below meth c H locs cells slots Q (F0 m pc ls (.ref (a 0) :: rest)) := va_get (D := G) (ci := 0) (v := .int (nI (σ.1 1))) (C := RX0) (T := TX0) (N := 18) S.1 S.2.1 S.2.2.2.2 hin S.2.2.2.1 hK hP 0 rfl rfl 4 (by decide) (S.2.2.2.2 _ hl) (fun _ h9 => h9) rfl hdg kk
theorem sa_p0_orderCount {x : Int32} {v : Nat} (hx : x = nI v) (S : CallFix p m c cc nL s args Ts RX0) (hin : ∀ w ∈ wsX00, w ∈ Ts) (hK : sa_K G cI cZ cL s) (hP : va_P G vwCl (sa_W0 cI cZ a σ) H) (hD : va_D A (sa_W0 cI cZ a σ)) (hS : va_S A H0 H locs) (hl : Cond.fieldLink RX0 98 "SpotAccount" "orderCount" "I" ∈ Ts) (hdg : decode cc pc = .ok (.putfield 98, 3)) (kk : ∀ (H1 : Heap) (locs1 : List Loc), va_P G vwCl (sa_W0 cI cZ a (sa_n σ 1 v)) H1 → va_S A H0 H1 locs1 → W p l e R s m args below meth c H1 locs1 cells slots Q (F0 m (pc + 3) ls (rest))) : W p l e R s m args below meth c H locs cells slots Q (F0 m pc ls (.int x :: .ref (a 0) :: rest)) := by
  subst hx
  exact va_put (D := G) (ci := 0) (v := .int (nI v)) (ty := .int) (C := RX0) (T := TX0) (N := 18) S.1 S.2.1 S.2.2.2.2 hin tyX0 tyX0_ok nmX0 S.2.2.2.1 hK hP hD hS 0 rfl rfl 4 (by decide) (S.2.2.2.2 _ hl) (fun _ h9 => h9) rfl (by decide +kernel) rfl rfl (Nat.le_of_ble_eq_true rfl) hdg (fun H1 locs1 h1 _ h3 => kk H1 locs1 h1 h3)
theorem sa_g0_orderAdvertiser (S : CallFix p m c cc nL s args Ts RX0) (hin : ∀ w ∈ wsX00, w ∈ Ts) (hK : sa_K G cI cZ cL s) (hP : va_P G vwCl (sa_W0 cI cZ a σ) H) (hl : Cond.fieldLink RX0 20 "SpotAccount" "orderAdvertiser" "[I" ∈ Ts) (hdg : decode cc pc = .ok (.getfield 20, 3)) (kk : W p l e R s m args below meth c H locs cells slots Q (F0 m (pc + 3) ls (.ref (a 4) :: rest))) : W p l e R s m args below meth c H locs cells slots Q (F0 m pc ls (.ref (a 0) :: rest)) := va_get (D := G) (ci := 0) (v := .ref (a 4)) (C := RX0) (T := TX0) (N := 18) S.1 S.2.1 S.2.2.2.2 hin S.2.2.2.1 hK hP 0 rfl rfl 5 (by decide) (S.2.2.2.2 _ hl) (fun _ h9 => h9) rfl hdg kk
theorem sa_g0_orderCategory (S : CallFix p m c cc nL s args Ts RX0) (hin : ∀ w ∈ wsX00, w ∈ Ts) (hK : sa_K G cI cZ cL s) (hP : va_P G vwCl (sa_W0 cI cZ a σ) H) (hl : Cond.fieldLink RX0 23 "SpotAccount" "orderCategory" "[I" ∈ Ts) (hdg : decode cc pc = .ok (.getfield 23, 3)) (kk : W p l e R s m args below meth c H locs cells slots Q (F0 m (pc + 3) ls (.ref (a 5) :: rest))) : W p l e R s m args below meth c H locs cells slots Q (F0 m pc ls (.ref (a 0) :: rest)) := va_get (D := G) (ci := 0) (v := .ref (a 5)) (C := RX0) (T := TX0) (N := 18) S.1 S.2.1 S.2.2.2.2 hin S.2.2.2.1 hK hP 0 rfl rfl 6 (by decide) (S.2.2.2.2 _ hl) (fun _ h9 => h9) rfl hdg kk
theorem sa_g0_orderGroup (S : CallFix p m c cc nL s args Ts RX0) (hin : ∀ w ∈ wsX00, w ∈ Ts) (hK : sa_K G cI cZ cL s) (hP : va_P G vwCl (sa_W0 cI cZ a σ) H) (hl : Cond.fieldLink RX0 26 "SpotAccount" "orderGroup" "[I" ∈ Ts) (hdg : decode cc pc = .ok (.getfield 26, 3)) (kk : W p l e R s m args below meth c H locs cells slots Q (F0 m (pc + 3) ls (.ref (a 6) :: rest))) : W p l e R s m args below meth c H locs cells slots Q (F0 m pc ls (.ref (a 0) :: rest)) := va_get (D := G) (ci := 0) (v := .ref (a 6)) (C := RX0) (T := TX0) (N := 18) S.1 S.2.1 S.2.2.2.2 hin S.2.2.2.1 hK hP 0 rfl rfl 7 (by decide) (S.2.2.2.2 _ hl) (fun _ h9 => h9) rfl hdg kk
theorem sa_g0_orderSeconds (S : CallFix p m c cc nL s args Ts RX0) (hin : ∀ w ∈ wsX00, w ∈ Ts) (hK : sa_K G cI cZ cL s) (hP : va_P G vwCl (sa_W0 cI cZ a σ) H) (hl : Cond.fieldLink RX0 29 "SpotAccount" "orderSeconds" "[I" ∈ Ts) (hdg : decode cc pc = .ok (.getfield 29, 3)) (kk : W p l e R s m args below meth c H locs cells slots Q (F0 m (pc + 3) ls (.ref (a 7) :: rest))) : W p l e R s m args below meth c H locs cells slots Q (F0 m pc ls (.ref (a 0) :: rest)) := va_get (D := G) (ci := 0) (v := .ref (a 7)) (C := RX0) (T := TX0) (N := 18) S.1 S.2.1 S.2.2.2.2 hin S.2.2.2.1 hK hP 0 rfl rfl 8 (by decide) (S.2.2.2.2 _ hl) (fun _ h9 => h9) rfl hdg kk
theorem sa_g0_orderPrice (S : CallFix p m c cc nL s args Ts RX0) (hin : ∀ w ∈ wsX00, w ∈ Ts) (hK : sa_K G cI cZ cL s) (hP : va_P G vwCl (sa_W0 cI cZ a σ) H) (hl : Cond.fieldLink RX0 32 "SpotAccount" "orderPrice" "[I" ∈ Ts) (hdg : decode cc pc = .ok (.getfield 32, 3)) (kk : W p l e R s m args below meth c H locs cells slots Q (F0 m (pc + 3) ls (.ref (a 8) :: rest))) : W p l e R s m args below meth c H locs cells slots Q (F0 m pc ls (.ref (a 0) :: rest)) := va_get (D := G) (ci := 0) (v := .ref (a 8)) (C := RX0) (T := TX0) (N := 18) S.1 S.2.1 S.2.2.2.2 hin S.2.2.2.1 hK hP 0 rfl rfl 9 (by decide) (S.2.2.2.2 _ hl) (fun _ h9 => h9) rfl hdg kk
theorem sa_g0_orderPromise (S : CallFix p m c cc nL s args Ts RX0) (hin : ∀ w ∈ wsX00, w ∈ Ts) (hK : sa_K G cI cZ cL s) (hP : va_P G vwCl (sa_W0 cI cZ a σ) H) (hl : Cond.fieldLink RX0 35 "SpotAccount" "orderPromise" "[I" ∈ Ts) (hdg : decode cc pc = .ok (.getfield 35, 3)) (kk : W p l e R s m args below meth c H locs cells slots Q (F0 m (pc + 3) ls (.ref (a 9) :: rest))) : W p l e R s m args below meth c H locs cells slots Q (F0 m pc ls (.ref (a 0) :: rest)) := va_get (D := G) (ci := 0) (v := .ref (a 9)) (C := RX0) (T := TX0) (N := 18) S.1 S.2.1 S.2.2.2.2 hin S.2.2.2.1 hK hP 0 rfl rfl 10 (by decide) (S.2.2.2.2 _ hl) (fun _ h9 => h9) rfl hdg kk
theorem sa_g0_orderFloor (S : CallFix p m c cc nL s args Ts RX0) (hin : ∀ w ∈ wsX00, w ∈ Ts) (hK : sa_K G cI cZ cL s) (hP : va_P G vwCl (sa_W0 cI cZ a σ) H) (hl : Cond.fieldLink RX0 38 "SpotAccount" "orderFloor" "[I" ∈ Ts) (hdg : decode cc pc = .ok (.getfield 38, 3)) (kk : W p l e R s m args below meth c H locs cells slots Q (F0 m (pc + 3) ls (.ref (a 10) :: rest))) : W p l e R s m args below meth c H locs cells slots Q (F0 m pc ls (.ref (a 0) :: rest)) := va_get (D := G) (ci := 0) (v := .ref (a 10)) (C := RX0) (T := TX0) (N := 18) S.1 S.2.1 S.2.2.2.2 hin S.2.2.2.1 hK hP 0 rfl rfl 11 (by decide) (S.2.2.2.2 _ hl) (fun _ h9 => h9) rfl hdg kk
theorem sa_g0_orderClosed (S : CallFix p m c cc nL s args Ts RX0) (hin : ∀ w ∈ wsX00, w ∈ Ts) (hK : sa_K G cI cZ cL s) (hP : va_P G vwCl (sa_W0 cI cZ a σ) H) (hl : Cond.fieldLink RX0 41 "SpotAccount" "orderClosed" "[Z" ∈ Ts) (hdg : decode cc pc = .ok (.getfield 41, 3)) (kk : W p l e R s m args below meth c H locs cells slots Q (F0 m (pc + 3) ls (.ref (a 11) :: rest))) : W p l e R s m args below meth c H locs cells slots Q (F0 m pc ls (.ref (a 0) :: rest)) := va_get (D := G) (ci := 0) (v := .ref (a 11)) (C := RX0) (T := TX0) (N := 18) S.1 S.2.1 S.2.2.2.2 hin S.2.2.2.1 hK hP 0 rfl rfl 12 (by decide) (S.2.2.2.2 _ hl) (fun _ h9 => h9) rfl hdg kk
theorem sa_g0_spotCount (S : CallFix p m c cc nL s args Ts RX0) (hin : ∀ w ∈ wsX00, w ∈ Ts) (hK : sa_K G cI cZ cL s) (hP : va_P G vwCl (sa_W0 cI cZ a σ) H) (hl : Cond.fieldLink RX0 84 "SpotAccount" "spotCount" "I" ∈ Ts) (hdg : decode cc pc = .ok (.getfield 84, 3)) (kk : W p l e R s m args below meth c H locs cells slots Q (F0 m (pc + 3) ls (.int (nI (σ.1 2)) :: rest))) : W p l e R s m args below meth c H locs cells slots Q (F0 m pc ls (.ref (a 0) :: rest)) := va_get (D := G) (ci := 0) (v := .int (nI (σ.1 2))) (C := RX0) (T := TX0) (N := 18) S.1 S.2.1 S.2.2.2.2 hin S.2.2.2.1 hK hP 0 rfl rfl 13 (by decide) (S.2.2.2.2 _ hl) (fun _ h9 => h9) rfl hdg kk
theorem sa_p0_spotCount {x : Int32} {v : Nat} (hx : x = nI v) (S : CallFix p m c cc nL s args Ts RX0) (hin : ∀ w ∈ wsX00, w ∈ Ts) (hK : sa_K G cI cZ cL s) (hP : va_P G vwCl (sa_W0 cI cZ a σ) H) (hD : va_D A (sa_W0 cI cZ a σ)) (hS : va_S A H0 H locs) (hl : Cond.fieldLink RX0 84 "SpotAccount" "spotCount" "I" ∈ Ts) (hdg : decode cc pc = .ok (.putfield 84, 3)) (kk : ∀ (H1 : Heap) (locs1 : List Loc), va_P G vwCl (sa_W0 cI cZ a (sa_n σ 2 v)) H1 → va_S A H0 H1 locs1 → W p l e R s m args below meth c H1 locs1 cells slots Q (F0 m (pc + 3) ls (rest))) : W p l e R s m args below meth c H locs cells slots Q (F0 m pc ls (.int x :: .ref (a 0) :: rest)) := by
  subst hx
  exact va_put (D := G) (ci := 0) (v := .int (nI v)) (ty := .int) (C := RX0) (T := TX0) (N := 18) S.1 S.2.1 S.2.2.2.2 hin tyX0 tyX0_ok nmX0 S.2.2.2.1 hK hP hD hS 0 rfl rfl 13 (by decide) (S.2.2.2.2 _ hl) (fun _ h9 => h9) rfl (by decide +kernel) rfl rfl (Nat.le_of_ble_eq_true rfl) hdg (fun H1 locs1 h1 _ h3 => kk H1 locs1 h1 h3)
theorem sa_g0_spotOrder (S : CallFix p m c cc nL s args Ts RX0) (hin : ∀ w ∈ wsX00, w ∈ Ts) (hK : sa_K G cI cZ cL s) (hP : va_P G vwCl (sa_W0 cI cZ a σ) H) (hl : Cond.fieldLink RX0 44 "SpotAccount" "spotOrder" "[I" ∈ Ts) (hdg : decode cc pc = .ok (.getfield 44, 3)) (kk : W p l e R s m args below meth c H locs cells slots Q (F0 m (pc + 3) ls (.ref (a 12) :: rest))) : W p l e R s m args below meth c H locs cells slots Q (F0 m pc ls (.ref (a 0) :: rest)) := va_get (D := G) (ci := 0) (v := .ref (a 12)) (C := RX0) (T := TX0) (N := 18) S.1 S.2.1 S.2.2.2.2 hin S.2.2.2.1 hK hP 0 rfl rfl 14 (by decide) (S.2.2.2.2 _ hl) (fun _ h9 => h9) rfl hdg kk
theorem sa_g0_spotBreak (S : CallFix p m c cc nL s args Ts RX0) (hin : ∀ w ∈ wsX00, w ∈ Ts) (hK : sa_K G cI cZ cL s) (hP : va_P G vwCl (sa_W0 cI cZ a σ) H) (hl : Cond.fieldLink RX0 47 "SpotAccount" "spotBreak" "[I" ∈ Ts) (hdg : decode cc pc = .ok (.getfield 47, 3)) (kk : W p l e R s m args below meth c H locs cells slots Q (F0 m (pc + 3) ls (.ref (a 13) :: rest))) : W p l e R s m args below meth c H locs cells slots Q (F0 m pc ls (.ref (a 0) :: rest)) := va_get (D := G) (ci := 0) (v := .ref (a 13)) (C := RX0) (T := TX0) (N := 18) S.1 S.2.1 S.2.2.2.2 hin S.2.2.2.1 hK hP 0 rfl rfl 15 (by decide) (S.2.2.2.2 _ hl) (fun _ h9 => h9) rfl hdg kk
theorem sa_g0_spotState (S : CallFix p m c cc nL s args Ts RX0) (hin : ∀ w ∈ wsX00, w ∈ Ts) (hK : sa_K G cI cZ cL s) (hP : va_P G vwCl (sa_W0 cI cZ a σ) H) (hl : Cond.fieldLink RX0 50 "SpotAccount" "spotState" "[I" ∈ Ts) (hdg : decode cc pc = .ok (.getfield 50, 3)) (kk : W p l e R s m args below meth c H locs cells slots Q (F0 m (pc + 3) ls (.ref (a 14) :: rest))) : W p l e R s m args below meth c H locs cells slots Q (F0 m pc ls (.ref (a 0) :: rest)) := va_get (D := G) (ci := 0) (v := .ref (a 14)) (C := RX0) (T := TX0) (N := 18) S.1 S.2.1 S.2.2.2.2 hin S.2.2.2.1 hK hP 0 rfl rfl 16 (by decide) (S.2.2.2.2 _ hl) (fun _ h9 => h9) rfl hdg kk
theorem sa_g0_spotFree (S : CallFix p m c cc nL s args Ts RX0) (hin : ∀ w ∈ wsX00, w ∈ Ts) (hK : sa_K G cI cZ cL s) (hP : va_P G vwCl (sa_W0 cI cZ a σ) H) (hl : Cond.fieldLink RX0 53 "SpotAccount" "spotFree" "[Z" ∈ Ts) (hdg : decode cc pc = .ok (.getfield 53, 3)) (kk : W p l e R s m args below meth c H locs cells slots Q (F0 m (pc + 3) ls (.ref (a 15) :: rest))) : W p l e R s m args below meth c H locs cells slots Q (F0 m pc ls (.ref (a 0) :: rest)) := va_get (D := G) (ci := 0) (v := .ref (a 15)) (C := RX0) (T := TX0) (N := 18) S.1 S.2.1 S.2.2.2.2 hin S.2.2.2.1 hK hP 0 rfl rfl 17 (by decide) (S.2.2.2.2 _ hl) (fun _ h9 => h9) rfl hdg kk
/-- array rows over any world; an index by its number, or as it is -/
theorem sa_ld {ws : va_W} {b n : Nat} {f : Nat → Int32} {i : Int32} {own' : String} (q0 : Nat) (S : CallFix p m c cc nL s args Ts own') (hK : sa_K G cI cZ cL s) (hP : va_P G vwCl ws H) (ha : ws[q0]? = some (b, .inl (cI, n, .inl f))) (hin : vp_in i n) (hdg : decode cc pc = .ok (.iaload, 1)) (kk : W p l e R s m args below meth c H locs cells slots Q (F0 m (pc + 1) ls (.int (f i.toNatClampNeg) :: rest))) : W p l e R s m args below meth c H locs cells slots Q (F0 m pc ls (.int i :: .ref b :: rest)) := va_iald S.1 S.2.1 hK hP q0 0 ha rfl hin hdg kk
theorem sa_ldk {ws : va_W} {b n k : Nat} {f : Nat → Int32} {own' : String} (q0 : Nat) (S : CallFix p m c cc nL s args Ts own') (hK : sa_K G cI cZ cL s) (hP : va_P G vwCl ws H) (ha : ws[q0]? = some (b, .inl (cI, n, .inl f))) (hk : k < n) (hn : n < 2 ^ 31) (hdg : decode cc pc = .ok (.iaload, 1)) (kk : W p l e R s m args below meth c H locs cells slots Q (F0 m (pc + 1) ls (.int (f k) :: rest))) : W p l e R s m args below meth c H locs cells slots Q (F0 m pc ls (.int (nI k) :: .ref b :: rest)) := sa_ld q0 S hK hP ha (vp_in_nI hk hn) hdg (by rw [nI_clamp (by omega)]; exact kk)
theorem sa_ldz {ws : va_W} {b n : Nat} {f : Nat → Int32} {i : Int32} {own' : String} (q0 : Nat) (S : CallFix p m c cc nL s args Ts own') (hK : sa_K G cI cZ cL s) (hP : va_P G vwCl ws H) (ha : ws[q0]? = some (b, .inl (cZ, n, .inl f))) (hin : vp_in i n) (hdg : decode cc pc = .ok (.baload, 1)) (kk : W p l e R s m args below meth c H locs cells slots Q (F0 m (pc + 1) ls (.int (f i.toNatClampNeg) :: rest))) : W p l e R s m args below meth c H locs cells slots Q (F0 m pc ls (.int i :: .ref b :: rest)) := va_zald S.1 S.2.1 hK hP q0 1 ha rfl hin hdg kk
theorem sa_ldzk {ws : va_W} {b n k : Nat} {f : Nat → Int32} {own' : String} (q0 : Nat) (S : CallFix p m c cc nL s args Ts own') (hK : sa_K G cI cZ cL s) (hP : va_P G vwCl ws H) (ha : ws[q0]? = some (b, .inl (cZ, n, .inl f))) (hk : k < n) (hn : n < 2 ^ 31) (hdg : decode cc pc = .ok (.baload, 1)) (kk : W p l e R s m args below meth c H locs cells slots Q (F0 m (pc + 1) ls (.int (f k) :: rest))) : W p l e R s m args below meth c H locs cells slots Q (F0 m pc ls (.int (nI k) :: .ref b :: rest)) := sa_ldz q0 S hK hP ha (vp_in_nI hk hn) hdg (by rw [nI_clamp (by omega)]; exact kk)
theorem sa_st {ws ws' : va_W} {b n : Nat} {f : Nat → Int32} {i x : Int32} {own' : String} (q0 : Nat) (S : CallFix p m c cc nL s args Ts own') (hK : sa_K G cI cZ cL s) (hP : va_P G vwCl ws H) (hD : va_D A ws) (hS : va_S A H0 H locs) (ha : ws[q0]? = some (b, .inl (cI, n, .inl f))) (hin : vp_in i n) (hw : ws.set q0 (b, .inl (cI, n, .inl (upd f i.toNatClampNeg x))) = ws') (hdg : decode cc pc = .ok (.iastore, 1)) (kk : ∀ (H1 : Heap) (locs1 : List Loc), va_P G vwCl ws' H1 → va_S A H0 H1 locs1 → W p l e R s m args below meth c H1 locs1 cells slots Q (F0 m (pc + 1) ls (rest))) : W p l e R s m args below meth c H locs cells slots Q (F0 m pc ls (.int x :: .int i :: .ref b :: rest)) := by
  subst hw
  exact va_iast S.1 S.2.1 hK hP hD hS q0 0 ha rfl hin hdg (fun H1 locs1 h1 _ h3 => kk H1 locs1 h1 h3)
theorem sa_stk {ws ws' : va_W} {b n k : Nat} {f : Nat → Int32} {x : Int32} {own' : String} (q0 : Nat) (S : CallFix p m c cc nL s args Ts own') (hK : sa_K G cI cZ cL s) (hP : va_P G vwCl ws H) (hD : va_D A ws) (hS : va_S A H0 H locs) (ha : ws[q0]? = some (b, .inl (cI, n, .inl f))) (hk : k < n) (hn : n < 2 ^ 31) (hw : ws.set q0 (b, .inl (cI, n, .inl (upd f k x))) = ws') (hdg : decode cc pc = .ok (.iastore, 1)) (kk : ∀ (H1 : Heap) (locs1 : List Loc), va_P G vwCl ws' H1 → va_S A H0 H1 locs1 → W p l e R s m args below meth c H1 locs1 cells slots Q (F0 m (pc + 1) ls (rest))) : W p l e R s m args below meth c H locs cells slots Q (F0 m pc ls (.int x :: .int (nI k) :: .ref b :: rest)) :=
  sa_st q0 S hK hP hD hS ha (vp_in_nI hk hn) (by rw [nI_clamp (by omega)]; exact hw) hdg kk
theorem sa_stz {ws ws' : va_W} {b n : Nat} {f : Nat → Int32} {i x : Int32} {own' : String} (q0 : Nat) (S : CallFix p m c cc nL s args Ts own') (hK : sa_K G cI cZ cL s) (hP : va_P G vwCl ws H) (hD : va_D A ws) (hS : va_S A H0 H locs) (ha : ws[q0]? = some (b, .inl (cZ, n, .inl f))) (hin : vp_in i n) (hx : vp_nar .boolean x = x) (hw : ws.set q0 (b, .inl (cZ, n, .inl (upd f i.toNatClampNeg x))) = ws') (hdg : decode cc pc = .ok (.bastore, 1)) (kk : ∀ (H1 : Heap) (locs1 : List Loc), va_P G vwCl ws' H1 → va_S A H0 H1 locs1 → W p l e R s m args below meth c H1 locs1 cells slots Q (F0 m (pc + 1) ls (rest))) : W p l e R s m args below meth c H locs cells slots Q (F0 m pc ls (.int x :: .int i :: .ref b :: rest)) := by
  subst hw
  exact va_zast S.1 S.2.1 hK hP hD hS q0 1 ha rfl hin hdg (fun H1 locs1 h1 _ h3 => kk H1 locs1 (by rw [hx] at h1; exact h1) h3)
theorem sa_stzk {ws ws' : va_W} {b n k : Nat} {f : Nat → Int32} {x : Int32} {own' : String} (q0 : Nat) (S : CallFix p m c cc nL s args Ts own') (hK : sa_K G cI cZ cL s) (hP : va_P G vwCl ws H) (hD : va_D A ws) (hS : va_S A H0 H locs) (ha : ws[q0]? = some (b, .inl (cZ, n, .inl f))) (hk : k < n) (hn : n < 2 ^ 31) (hx : vp_nar .boolean x = x) (hw : ws.set q0 (b, .inl (cZ, n, .inl (upd f k x))) = ws') (hdg : decode cc pc = .ok (.bastore, 1)) (kk : ∀ (H1 : Heap) (locs1 : List Loc), va_P G vwCl ws' H1 → va_S A H0 H1 locs1 → W p l e R s m args below meth c H1 locs1 cells slots Q (F0 m (pc + 1) ls (rest))) : W p l e R s m args below meth c H locs cells slots Q (F0 m pc ls (.int x :: .int (nI k) :: .ref b :: rest)) :=
  sa_stz q0 S hK hP hD hS ha (vp_in_nI hk hn) hx (by rw [nI_clamp (by omega)]; exact hw) hdg kk
end
end
section
/-! contracts of four kinds, and a row for a call of each -/
abbrev sa_Pw (G : va_G) (cI cZ cL : ClassId) (wd : va_W) : State → Prop := fun U => va_P G vwCl wd U.heap ∧ sa_K G cI cZ cL U
/-- reads a world, answers r -/
abbrev sa_Rd (l : Launch) (y : MethodName) (ws : List Cond) (rm : Room) (G : va_G) (cI cZ cL : ClassId) (wd : va_W) (av : List Value) (r : Int32) : Prop :=
  Met l y ws rm (va_Pc av (sa_Pw G cI cZ cL wd)) (vp_Si (fun z => z = r)) 0 0 (fun _ => False)
/-- reads no world -/
abbrev sa_Rs (l : Launch) (y : MethodName) (ws : List Cond) (rm : Room) (av : List Value) (r : Int32) : Prop :=
  Met l y ws rm (va_Pc av (fun _ => True)) (vp_Si (fun z => z = r)) 0 0 (fun _ => False)
/-- a check that passes -/
abbrev sa_Ok (l : Launch) (y : MethodName) (ws : List Cond) (rm : Room) (B : State → Prop) (av : List Value) : Prop :=
  Met l y ws rm (va_Pc av B) (va_Sv (fun _ => True)) 0 0 (fun _ => False)
/-- changes a world, answers r -/
abbrev sa_Wr (l : Launch) (y : MethodName) (ws : List Cond) (rm : Room) (G : va_G) (cI cZ cL : ClassId) (wd wd' : va_W) (A : Nat → Prop) (av : List Value) (r : Int32) : Prop :=
  Met l y ws rm (va_Pc av (sa_Pw G cI cZ cL wd)) (va_Qi (fun z (_ : Unit) => z = r) (fun _ t => va_P G vwCl wd' t.heap) A) 0 0 A
abbrev sa_Wv (l : Launch) (y : MethodName) (ws : List Cond) (rm : Room) (G : va_G) (cI cZ cL : ClassId) (wd wd' : va_W) (A : Nat → Prop) (av : List Value) : Prop :=
  Met l y ws rm (va_Pc av (sa_Pw G cI cZ cL wd)) (va_Qv (fun (_ : Unit) => True) (fun _ t => va_P G vwCl wd' t.heap) A) 0 0 A
def sa_XC (PE : String → Prop) : String → State → State → Prop := fun E st t => PE E ∧ st.heap.size < t.heap.size ∧ ∀ q : Nat, q < st.heap.size → t.heap[q]? = st.heap[q]?
/-- always throws one of the exceptions PE -/
abbrev sa_Ex (l : Launch) (y : MethodName) (ws : List Cond) (rm : Room) (B : State → Prop) (av : List Value) (PE : String → Prop) : Prop :=
  vx_Met l y ws rm (va_Pc av B) (fun _ _ _ _ => False) (sa_XC PE) 1 6 (fun _ => False)
/-- what a throw takes from the machine -/
abbrev sa_E1 : String := "java/lang/IndexOutOfBoundsException"
abbrev sa_E2 : String := "java/lang/IllegalArgumentException"
abbrev sa_E3 : String := "java/lang/IllegalStateException"
abbrev sa_T1 : String := "there is no such break, order or spot"
abbrev sa_T2 : String := "an argument is out of its range"
abbrev sa_T3 : String := "the account does not allow this now"
def sa_T (lo : Nat) (U : State) (H : Heap) : Prop :=
  vx_Zq Bundle.tN "UNASSIGNED_STACK" Bundle.steD (fun q => lo ≤ q) U H ∧ vx_Zq Bundle.tN "SUPPRESSED_SENTINEL" Bundle.listD (fun q => lo ≤ q) U H ∧
  (∃ b, vk_R RX0 141 sa_T1 b U) ∧ (∃ b, vk_R RX0 148 sa_T2 b U) ∧ (∃ b, vk_R RX0 153 sa_T3 b U) ∧
  va_Nw (.castable sa_E1 sa_E1) U ∧ va_Nw (.castable sa_E2 sa_E2) U ∧ va_Nw (.castable sa_E3 sa_E3) U ∧
  va_Nw (.declares (Bundle.initS "java/lang/RuntimeException")) U ∧ va_Nw (.declares (Bundle.initS "java/lang/Exception")) U ∧ va_Nw (.declares (Bundle.initS Bundle.tN)) U
theorem sa_T.warm {lo : Nat} {s U : State} {H : Heap} (hW : s.WarmedH U.vm) (h : sa_T lo s H) : sa_T lo U H := by
  obtain ⟨h1, h2, ⟨b3, h3⟩, ⟨b4, h4⟩, ⟨b5, h5⟩, h6, h7, h8, h9, h10, h11⟩ := h
  exact ⟨h1.moved hW.alike, h2.moved hW.alike, ⟨b3, h3.warm hW⟩, ⟨b4, h4.warm hW⟩, ⟨b5, h5.warm hW⟩, h6.warmC hW, h7.warmC hW, h8.warmC hW, h9.warmD hW, h10.warmD hW, h11.warmD hW⟩
theorem sa_T.same {lo : Nat} {u U : State} {H : Heap} (hv : U.vm = u.vm) (h : sa_T lo u H) : sa_T lo U H := by
  obtain ⟨h1, h2, ⟨b3, h3⟩, ⟨b4, h4⟩, ⟨b5, h5⟩, h6, h7, h8, h9, h10, h11⟩ := h
  have ha : u.vm.Alike U.vm := by rw [hv]; exact Vm.Alike.refl _
  exact ⟨h1.moved ha, h2.moved ha, ⟨b3, h3.same hv⟩, ⟨b4, h4.same hv⟩, ⟨b5, h5.same hv⟩, h6.same rfl hv.symm, h7.same rfl hv.symm, h8.same rfl hv.symm, h9.same rfl hv.symm, h10.same rfl hv.symm, h11.same rfl hv.symm⟩
theorem sa_T.kept {lo : Nat} {U : State} {H H1 : Heap} (h : sa_T lo U H) (hq : ∀ q : Nat, q < H.size → ¬ lo ≤ q → H1[q]? = H[q]?) : sa_T lo U H1 :=
  ⟨h.1.kept hq, h.2.1.kept hq, h.2.2⟩
abbrev sa_Pt (lo : Nat) : State → Prop := fun U => sa_T lo U U.heap
abbrev sa_Px (lo : Nat) (G : va_G) (cI cZ cL : ClassId) (wd : va_W) : State → Prop := fun U => (va_P G vwCl wd U.heap ∧ sa_K G cI cZ cL U) ∧ sa_T lo U U.heap
section
variable {G : va_G} {cI cZ cL : ClassId} {wd : va_W} {av : List Value} {lo : Nat}
theorem sa_bPw : FrameBlind (va_Pc av (sa_Pw G cI cZ cL wd)) := fun a U g mk h => ⟨h.1, h.2.1, va_K.moved (u := U) (U := U.calling g mk a) (Vm.Alike.refl U.vm) h.2.2⟩
theorem sa_bPt : FrameBlind (va_Pc av (sa_Pt lo)) := fun a U g mk h => ⟨h.1, sa_T.same (u := U) (U := U.calling g mk a) rfl h.2⟩
theorem sa_bPx : FrameBlind (va_Pc av (sa_Px lo G cI cZ cL wd)) := fun a U g mk h => ⟨h.1, ⟨h.2.1.1, va_K.moved (u := U) (U := U.calling g mk a) (Vm.Alike.refl U.vm) h.2.1.2⟩, sa_T.same (u := U) (U := U.calling g mk a) rfl h.2.2⟩
theorem sa_bTr : FrameBlind (va_Pc av (fun _ => True)) := fun _ _ _ _ h => h
end
section
variable {p : Program} {l : Launch} {e : Env} {R : Room} {s : State} {m : MethodId} {args : Array Value} {below : List Frame} {meth : Method} {c : Code} {H H0 : Heap} {locs : List Loc} {cells slots : Nat} {Q : State → Prop}
variable {cc bytes : ByteArray} {pc nL maxL n index : Nat} {ls : Array Slot} {rest st0 As : List Value} {Ts ws ws' : List Cond} {G : va_G} {cI cZ cL : ClassId} {wd wd' : va_W} {A A0 : Nat → Prop}
variable {own C : String} {y : MethodName} {ret : Option FieldType} {rm : Room} {T : u_T} {N ci b lo : Nat} {fs : List Value} {r : Int32} {PE PE' : String → Prop}
theorem sa_kRd (S : CallFix p m c cc nL s args Ts own) (hM : sa_Rd l y ws rm G cI cZ cL wd (.ref b :: As) r) (cw : CallW R s args own C index y bytes maxL ret ws rm 0 0 n) (hP : va_P G vwCl wd H) (hK : sa_K G cI cZ cL s) (hc : vwCl[ci]? = some (C, T, N)) (he : wd[0]? = some (b, .inr (ci, fs)))
    (hn : As.length = n) (hls : ls.size = nL) (hst : (rest.map fun v => v.category).sum ≤ 8) (h0 : st0 = As.reverse ++ .ref b :: rest) (hdg : decode cc pc = .ok (.invokevirtual index, 3)) (hf : cells ≤ R.cells ∧ slots ≤ R.slots)
    (kk : W p l e R s m args below meth c H locs cells slots Q (F0 m (pc + 3) ls (.int r :: rest))) : W p l e R s m args below meth c H locs cells slots Q (F0 m pc ls st0) :=
  vp_callSi (W.runV S hM cw ⟨sa_bPw, va_recv hK hP hc he, fun U hU hW => ⟨rfl, by rw [hU]; exact hP, va_K.moved hW.alike hK⟩⟩ rfl hn hls h0 (lv_room hst) hdg hf) (fun z hz => by rw [hz]; exact kk)
theorem sa_kRs (S : CallFix p m c cc nL s args Ts own) (hM : sa_Rs l y ws rm As r) (cw : CallB R s args own index y bytes maxL ret ws rm 0 0 n ∧ (Cond.static y).before args s = true)
    (hn : As.length = n) (hls : ls.size = nL) (hst : (rest.map fun v => v.category).sum ≤ 8) (h0 : st0 = As.reverse ++ rest) (hdg : decode cc pc = .ok (.invokestatic index, 3)) (hf : cells ≤ R.cells ∧ slots ≤ R.slots)
    (kk : W p l e R s m args below meth c H locs cells slots Q (F0 m (pc + 3) ls (.int r :: rest))) : W p l e R s m args below meth c H locs cells slots Q (F0 m pc ls st0) :=
  vp_callSi (W.runS S hM cw ⟨sa_bTr, fun _ _ _ => ⟨rfl, trivial⟩⟩ rfl hn hls h0 (lv_room hst) hdg hf) (fun z hz => by rw [hz]; exact kk)
/-- checks that pass: static, of the object -/
theorem sa_kOkS (S : CallFix p m c cc nL s args Ts own) (hM : sa_Ok l y ws rm (fun _ => True) As) (cw : CallB R s args own index y bytes maxL ret ws rm 0 0 n ∧ (Cond.static y).before args s = true)
    (hn : As.length = n) (hls : ls.size = nL) (hst : (rest.map fun v => v.category).sum ≤ 8) (h0 : st0 = As.reverse ++ rest) (hdg : decode cc pc = .ok (.invokestatic index, 3)) (hf : cells ≤ R.cells ∧ slots ≤ R.slots)
    (kk : W p l e R s m args below meth c H locs cells slots Q (F0 m (pc + 3) ls rest)) : W p l e R s m args below meth c H locs cells slots Q (F0 m pc ls st0) :=
  va_csv (W.runS S hM cw ⟨sa_bTr, fun _ _ _ => ⟨rfl, trivial⟩⟩ rfl hn hls h0 (lv_room hst) hdg hf) (fun _ => kk)
theorem sa_kOkV (S : CallFix p m c cc nL s args Ts own) (hM : sa_Ok l y ws rm (sa_Pw G cI cZ cL wd) (.ref b :: As)) (cw : CallW R s args own C index y bytes maxL ret ws rm 0 0 n) (hP : va_P G vwCl wd H) (hK : sa_K G cI cZ cL s) (hc : vwCl[ci]? = some (C, T, N)) (he : wd[0]? = some (b, .inr (ci, fs)))
    (hn : As.length = n) (hls : ls.size = nL) (hst : (rest.map fun v => v.category).sum ≤ 8) (h0 : st0 = As.reverse ++ .ref b :: rest) (hdg : decode cc pc = .ok (.invokevirtual index, 3)) (hf : cells ≤ R.cells ∧ slots ≤ R.slots)
    (kk : W p l e R s m args below meth c H locs cells slots Q (F0 m (pc + 3) ls rest)) : W p l e R s m args below meth c H locs cells slots Q (F0 m pc ls st0) :=
  va_csv (W.runV S hM cw ⟨sa_bPw, va_recv hK hP hc he, fun U hU hW => ⟨rfl, by rw [hU]; exact hP, va_K.moved hW.alike hK⟩⟩ rfl hn hls h0 (lv_room hst) hdg hf) (fun _ => kk)
/-- calls that change the world -/
theorem sa_kWr (S : CallFix p m c cc nL s args Ts own) (hM : sa_Wr l y ws rm G cI cZ cL wd wd' A (.ref b :: As) r) (cw : CallW R s args own C index y bytes maxL ret ws rm 0 0 n) (hP : va_P G vwCl wd H) (hK : sa_K G cI cZ cL s) (hS : va_S A0 H0 H locs) (hA : ∀ q, A q → A0 q) (hc : vwCl[ci]? = some (C, T, N)) (he : wd[0]? = some (b, .inr (ci, fs)))
    (hn : As.length = n) (hls : ls.size = nL) (hst : (rest.map fun v => v.category).sum ≤ 8) (h0 : st0 = As.reverse ++ .ref b :: rest) (hdg : decode cc pc = .ok (.invokevirtual index, 3)) (hf : cells ≤ R.cells ∧ slots ≤ R.slots)
    (kk : ∀ (H1 : Heap) (locs1 : List Loc), va_P G vwCl wd' H1 → va_S A0 H0 H1 locs1 → H.size ≤ H1.size → (∀ q : Nat, q < H.size → ¬ A q → H1[q]? = H[q]?) → W p l e R s m args below meth c H1 locs1 cells slots Q (F0 m (pc + 3) ls (.int r :: rest))) : W p l e R s m args below meth c H locs cells slots Q (F0 m pc ls st0) :=
  va_calli (va_runV S hM cw ⟨sa_bPw, va_recv hK hP hc he, fun U hU hW => ⟨rfl, by rw [hU]; exact hP, va_K.moved hW.alike hK⟩⟩ rfl hn hls h0 (lv_room hst) hdg hf) hS (fun q _ h => hA q h) hA (fun z u t H1 locs1 ht _ hz hB h1 h2 h3 => by subst hz; exact kk H1 locs1 (by rw [← ht]; exact hB) h3 h1 h2)
theorem sa_kWv (S : CallFix p m c cc nL s args Ts own) (hM : sa_Wv l y ws rm G cI cZ cL wd wd' A (.ref b :: As)) (cw : CallW R s args own C index y bytes maxL ret ws rm 0 0 n) (hP : va_P G vwCl wd H) (hK : sa_K G cI cZ cL s) (hS : va_S A0 H0 H locs) (hA : ∀ q, A q → A0 q) (hc : vwCl[ci]? = some (C, T, N)) (he : wd[0]? = some (b, .inr (ci, fs)))
    (hn : As.length = n) (hls : ls.size = nL) (hst : (rest.map fun v => v.category).sum ≤ 8) (h0 : st0 = As.reverse ++ .ref b :: rest) (hdg : decode cc pc = .ok (.invokevirtual index, 3)) (hf : cells ≤ R.cells ∧ slots ≤ R.slots)
    (kk : ∀ (H1 : Heap) (locs1 : List Loc), va_P G vwCl wd' H1 → va_S A0 H0 H1 locs1 → H.size ≤ H1.size → (∀ q : Nat, q < H.size → ¬ A q → H1[q]? = H[q]?) → W p l e R s m args below meth c H1 locs1 cells slots Q (F0 m (pc + 3) ls rest)) : W p l e R s m args below meth c H locs cells slots Q (F0 m pc ls st0) :=
  va_callv (va_runV S hM cw ⟨sa_bPw, va_recv hK hP hc he, fun U hU hW => ⟨rfl, by rw [hU]; exact hP, va_K.moved hW.alike hK⟩⟩ rfl hn hls h0 (lv_room hst) hdg hf) hS (fun q _ h => hA q h) hA (fun u t H1 locs1 ht _ _ hB h1 h2 h3 => kk H1 locs1 (by rw [← ht]; exact hB) h3 h1 h2)
variable {Qc : Array Value → State → Outcome → State → Prop}
theorem sa_thrown (hr : vx_Run p l e R s m args below meth c s.heap [] 0 0 1 6 (F0 m pc ls st0) rest (fun _ _ _ => False) (sa_XC PE) (fun _ => False)) (htab : ∀ x ∈ c.exceptionTable.toList, False) (hlocks : meth.locks = false) (hPE : ∀ E, PE E → PE' E) :
    W p l e R s m args below meth c s.heap [] 0 0 (vx_MQ below Qc (sa_XC PE') args s 1 6 (fun _ => False)) (F0 m pc ls st0) := by
  intro T hT X
  rcases hr T hT X with ⟨v, st₀, t, T', L, h0, X', hL, e1, e2, hq, st⟩ | ⟨q, st₀, t, T', L, E, ce, h0, X', hL, e1, e2, hx, hce, hcv, hcl, st⟩
  · exact hq.elim
  · obtain ⟨t2, a1, b1⟩ := vx_out (mc := 1) (ms := 6) (free := fun _ => False) (Qc := Qc) (XC := sa_XC PE') (rest := rest) (pc := pc) (ls := ls) (fun x hx => (htab x hx).elim) hlocks (H := T'.heap) (by rw [e1]; exact hce) hcv hcl
      (fun z hz _ => ⟨hPE E hx.1, by rw [hz, e1, ← h0]; exact hx.2.1, fun q9 h9 => by rw [hz, e1, ← h0]; exact hx.2.2 q9 (by rw [h0]; exact h9)⟩) (fun z hz => (hL z (by simpa using hz)).elim) (Nat.le_refl _) (Nat.le_refl _) T' rfl X'
    exact ⟨t2, st.trans a1, b1⟩
theorem sa_kExS (S : CallFix p m c cc nL s args Ts own) (hM : sa_Ex l y ws rm (sa_Pt lo) As PE) (cw : CallB R s args own index y bytes maxL ret ws rm 1 6 n ∧ (Cond.static y).before args s = true) (hT : sa_T lo s s.heap)
    (htab : ∀ x ∈ c.exceptionTable.toList, False) (hlocks : meth.locks = false) (hPE : ∀ E, PE E → PE' E)
    (hn : As.length = n) (hls : ls.size = nL) (hst : (rest.map fun v => v.category).sum ≤ 8) (h0 : st0 = As.reverse ++ rest) (hdg : decode cc pc = .ok (.invokestatic index, 3)) (hf : 1 ≤ R.cells ∧ 6 ≤ R.slots) :
    W p l e R s m args below meth c s.heap [] 0 0 (vx_MQ below Qc (sa_XC PE') args s 1 6 (fun _ => False)) (F0 m pc ls st0) :=
  sa_thrown (vx_runS S hM cw ⟨sa_bPt, fun U hU hW => ⟨rfl, by show sa_T lo U U.heap; rw [hU]; exact hT.warm hW⟩⟩ rfl hn hls h0 (lv_room hst) hdg (by simpa using hf)) htab hlocks hPE
theorem sa_kExV (S : CallFix p m c cc nL s args Ts own) (hM : sa_Ex l y ws rm (sa_Px lo G cI cZ cL wd) (.ref b :: As) PE) (cw : CallW R s args own C index y bytes maxL ret ws rm 1 6 n) (hP : va_P G vwCl wd s.heap) (hK : sa_K G cI cZ cL s) (hT : sa_T lo s s.heap) (hc : vwCl[ci]? = some (C, T, N)) (he : wd[0]? = some (b, .inr (ci, fs)))
    (htab : ∀ x ∈ c.exceptionTable.toList, False) (hlocks : meth.locks = false) (hPE : ∀ E, PE E → PE' E)
    (hn : As.length = n) (hls : ls.size = nL) (hst : (rest.map fun v => v.category).sum ≤ 8) (h0 : st0 = As.reverse ++ .ref b :: rest) (hdg : decode cc pc = .ok (.invokevirtual index, 3)) (hf : 1 ≤ R.cells ∧ 6 ≤ R.slots) :
    W p l e R s m args below meth c s.heap [] 0 0 (vx_MQ below Qc (sa_XC PE') args s 1 6 (fun _ => False)) (F0 m pc ls st0) :=
  sa_thrown (vx_runV S hM cw ⟨sa_bPx, va_recv hK hP hc he, fun U hU hW => ⟨rfl, ⟨by rw [hU]; exact hP, va_K.moved hW.alike hK⟩, by rw [hU]; exact hT.warm hW⟩⟩ rfl hn hls h0 (lv_room hst) hdg (by simpa using hf)) htab hlocks hPE
end
/-! a throw of a new exception, its cell counted from below (after the kit's vx_throwS) -/
section
variable {p : Program} {l : Launch} {e : Env} {R : Room} {s : State} {m : MethodId} {args : Array Value} {below : List Frame} {meth : Method} {c : Code} {H : Heap} {locs : List Loc} {cells slots : Nat} {Q : State → Prop}
variable {mc ms : Nat} {free : Addr → Prop} {A0 A1 : Nat → Prop} {H0 : Heap} {a : Array Value} {ls : Array Slot} {st0 rest : List Value}
variable {Qc : Array Value → State → Outcome → State → Prop} {XC : String → State → State → Prop}
set_option maxHeartbeats 4000000 in
theorem sa_throwS {cc : ByteArray} {pc : Nat} (hexec : p.tables.exec = Jvm.exec) (hb : c.code = cc) (hl : l.stackTraces = false) {own cls text : String} {names : List String} {ik is ic mc ms sa : Nat} {A : Nat → Prop}
    (hown : s.vm.findClass own = some m.cls) (hcls : Bundle.fit cls = true) (hnames : ∀ n ∈ names, Bundle.fit n = true)
    (hk : (Cond.classLink own ik cls).before args s = true) (hini : (Cond.initialized cls).before args s = true) (hstr : vk_R own is text sa s) (hat : ∀ w ∈ vx_atS own ic cls names, w.before args s = true)
    (hgood : ∀ w ∈ Cond.classLink own ik cls :: Cond.initialized cls :: vx_atS own ic cls names, vx_ot w = true)
    (hU : vx_Zq Bundle.tN "UNASSIGNED_STACK" Bundle.steD A s s.heap) (hN : vx_Zq Bundle.tN "SUPPRESSED_SENTINEL" Bundle.listD A s s.heap) (hS : va_S A s.heap H locs) (hsize : ls.size = c.maxLocals)
    (d0 : decode cc pc = .ok (.new ik, 3)) (d3 : decode cc (pc + 3) = .ok (.dup, 1)) (d4 : decode cc (pc + 4) = .ok (.ldc is, 2)) (d6 : decode cc (pc + 6) = .ok (.invokespecial ic, 3)) (d9 : decode cc (pc + 9) = .ok (.athrow, 1))
    (hout : ∀ x ∈ c.exceptionTable.toList, covers x (pc + 9) = false)
    (hRframes : names.length + 3 < R.frames) (hRlocals : (rest.map fun v => v.category).sum + (13 * (names.length + 1) + 43) ≤ R.locals) (hRcells : cells + 1 ≤ R.cells) (hRslots : slots + 6 ≤ R.slots) (hlocks : meth.locks = false)
    (hx : ∀ t : State, s.vm.Alike t.vm → H.size < t.heap.size → (∀ q : Nat, q < H.size → t.heap[q]? = H[q]?) → XC cls s t)
    (hf : ∀ z ∈ locs, free z.base) (hc : cells + 1 ≤ mc) (hs : slots + 6 ≤ ms) :
    W p l e R s m args below meth c H locs cells slots (vx_MQ below Qc XC args s mc ms free) (F0 m pc ls rest) := by
  intro T hT X
  have htr : e.platform.stackTraces = false := (show e.platform.stackTraces = l.stackTraces by rw [X.admits.platform]).trans hl
  have Y := vx_rebase X (R' := { frames := R.frames, locals := R.locals, cells := 1, slots := 6 }) (Nat.le_refl _) (Nat.le_refl _) hRcells hRslots
  obtain ⟨s', hA⟩ : ∃ z, z = (T.setVm s.vm).setFrames (.invoking m args :: below) := ⟨_, rfl⟩
  rw [← hA] at Y
  have hvm : s'.vm = s.vm := by rw [hA]; rfl
  have hhp : s'.heap = H := by rw [hA]; exact hT
  have hW0 : s.WarmedH s'.vm := by rw [hvm]; exact State.WarmedH.refl s
  have hat' : ∀ w ∈ vx_atS own ic cls names, w.before args s' = true := fun w hw => vx_ot_at hW0 hvm.symm (hgood w (List.mem_cons_of_mem _ (List.mem_cons_of_mem _ hw))) (hat w hw)
  have hk' : (Cond.classLink own ik cls).before args s' = true := vx_ot_at hW0 hvm.symm (hgood _ List.mem_cons_self) hk
  have hini' : (Cond.initialized cls).before args s' = true := vx_ot_at hW0 hvm.symm (hgood _ (List.mem_cons_of_mem _ List.mem_cons_self)) hini
  have hU' : vx_Zq Bundle.tN "UNASSIGNED_STACK" Bundle.steD A s' s'.heap := by rw [hhp]; exact vx_Zq.moved hW0.alike (hU.kept hS.2.1)
  have hN' : vx_Zq Bundle.tN "SUPPRESSED_SENTINEL" Bundle.listD A s' s'.heap := by rw [hhp]; exact vx_Zq.moved hW0.alike (hN.kept hS.2.1)
  have h : ∀ w ∈ Bundle.ownAtoms own ic cls names, w.before args s' = true := vx_own hat' (vx_isRefq hU'.1) (vx_isRefq hN'.1) hU'.2.word hN'.2.word
  have hown' : s'.vm.findClass own = some m.cls := by rw [hvm]; exact hown
  have hins : (Cond.instantiable cls 6).before args s' = true := h _ (by simp [Bundle.ownAtoms])
  obtain ⟨vm₁, cX, kX, hfX, hkX, -, -, X₁, st1⟩ := Y.newCold hexec (own := own) (C := cls) (index := ik) (n := 6) hown' hk' hins hini'
    (g := F0 m pc ls rest) rfl (by rw [hb]; exact d0) (Nat.le_refl _) (Nat.le_refl _)
  generalize hT1 : (T.setVm vm₁).pushCell { cls := cX, slots := kX.instanceTypes.map defaultValue, vm := .none } = T1 at X₁ st1
  have hcat : (Value.ref T.heap.size).category = 1 := rfl
  have hcellA : T1.heap[T.heap.size]? = some (freshCell cX kX) := by rw [← hT1]; exact State.heap_pushCell_size _ _
  have d3' : decode c.code (pc + 3) = .ok (.dup, 1) := by rw [hb]; exact d3
  have d4' : decode c.code (pc + 4) = .ok (.ldc is, 2) := by rw [hb]; exact d4
  have hstr' : vk_R own is text sa s' := vk_R.warm hW0 hstr
  obtain ⟨U, hsteps, hrun, hend, hW, hsame, ce, hce, hO⟩ := X₁.ctorThrowS hexec htr (own := own) (cls := cls) (names := names) (ic := ic) hown' hcls hnames h (fun x hx => nomatch hx) hfX hkX hcellA (by rw [hhp, hT]; exact Nat.le_refl _) (msg := .ref sa) rfl
    (g := { method := m, pc := pc + 6, locals := ls, stack := .ref sa :: .ref T.heap.size :: .ref T.heap.size :: rest, locked := none }) rfl hsize rfl rfl (rest := rest) rfl
    (by rw [hb]; exact d6) (by rw [hb]; exact d9) hout hRframes (by simp only [List.map_cons, List.sum_cons, hcat]; omega) hlocks
  obtain ⟨f1, f2⟩ := vx_frame hsame
  rw [hhp] at f1 f2
  have f0 : H.size < U.heap.size := by
    have h8 : T.heap.size < T1.heap.size := (Array.getElem?_eq_some_iff.mp hcellA).1
    have h9 := Steps.heap_le hsteps
    rw [hT] at h8
    exact Nat.lt_of_lt_of_le h8 h9
  have hWs : s.WarmedH U.vm := State.WarmedH.trans hW0 hW
  have hcl : s.vm.findClass cls = some ce.cls := by
    have h9 := hO.cls
    rw [hvm] at h9
    exact h9
  have hall : s.sameButNew ({ U with vm := s.vm } : State) locs mc ms := by
    subst hA
    obtain ⟨e1, e2⟩ := hsame
    rw [State.setFrames_setFrames] at e1
    have h2 : (T.setVm s.vm).sameButNew ({ U with vm := s.vm } : State) [] (0 + 1) (0 + 6) := ⟨e1, e2⟩
    have h3 := X.same.trans h2
    rw [List.append_nil] at h3
    exact h3.mono hc hs
  refine ⟨U, ?_, .threw T.heap.size, hrun, hend, Or.inr ⟨T.heap.size, rfl, cls, ce, locs, hx U hWs.alike f0 (fun q hq => f2 q hq (fun z hz => nomatch hz)), hce, hO.vm, hcl, hWs, hall, hf⟩⟩
  refine st1 _ ?_
  show Steps p.tables e below (T1.setTop { method := m, pc := pc + 3, locals := ls, stack := .ref T.heap.size :: rest, locked := none }) _
  jvm_step X₁.here [X₁.here.top, hexec, d3', Value.category]
  exact X₁.ldcString hexec (own := own) (text := text) (index := is) (a := sa) hown' hstr'.1 hstr'.2
    (g := { method := m, pc := pc + 4, locals := ls, stack := .ref T.heap.size :: .ref T.heap.size :: rest, locked := none }) rfl d4' _ hsteps
end
end
section
/-! plain facts -/
theorem sa_vm {x : Int32} {m n : Nat} (h : vp_in x m) (hmn : m ≤ n) : vp_in x n := fun q => h (q.elim Or.inl (fun z => Or.inr (Nat.le_trans hmn z)))
theorem sa_lt {x : Int32} {m : Nat} (h : vp_in x m) : x.toNatClampNeg < m := Nat.not_le.mp fun q => h (Or.inr q)
theorem sa_inv {x : Int32} {n : Nat} (hn : n < 2 ^ 31) (h : sa_in x n) : vp_in x n := by
  obtain ⟨h1, h2⟩ := h
  obtain ⟨j, hj, rfl⟩ := nI_of h1
  exact vp_in_nI ((nI_ltI hj hn).mp h2) hn
theorem sa_vin {x : Int32} {n : Nat} (hn : n < 2 ^ 31) (h : vp_in x n) : sa_in x n := by
  obtain ⟨j, hj, rfl⟩ := vp_in_of h hn
  exact ⟨nI_pos (by omega), nI_lt hj hn⟩
theorem sa_nI {x : Int32} {n : Nat} (hn : n < 2 ^ 31) (h : vp_in x n) : x = nI x.toNatClampNeg := by
  obtain ⟨j, hj, rfl⟩ := vp_in_of h hn
  rw [nI_clamp (by omega)]
theorem sa_grp {σ : sa_St} (hI : sa_I σ) {o : Int32} (ho : vp_in o (σ.1 1)) : vp_in (σ.2 6 o.toNatClampNeg) 3 := hI.2.2.2.1 _ (sa_lt ho)
theorem sa_cell {x g : Int32} (hx : vp_in x 24) (hg : vp_in g 3) : vp_in (x * 3 + g) 72 := by
  obtain ⟨i, hi, rfl⟩ := vp_in_of hx (by decide)
  obtain ⟨j, hj, rfl⟩ := vp_in_of hg (by decide)
  rw [show (3 : Int32) = nI 3 from rfl, pk_mul, nI_add]
  exact vp_in_nI (by omega) (by decide)
theorem sa_ne1 {k : Nat} (hk : k < 2 ^ 31) : ¬ nI k = -1 := by
  intro h
  have h1 := nI_toInt hk
  rw [h] at h1
  have h2 : ((-1 : Int32)).toInt = -1 := by decide
  omega
theorem sa_th_up {σ : sa_St} {o x w rv : Int32} {k : Nat} (h : sa_th σ o x w rv k = true) : ∀ d, sa_th σ o x w rv (k + d) = true := by
  intro d
  induction d with
  | zero => exact h
  | succ d ih => show (sa_th σ o x w rv (k + d) || _) = true; rw [ih]; rfl
theorem sa_th_mono {σ : sa_St} {o x w rv : Int32} {k n : Nat} (h : sa_th σ o x w rv k = true) (hk : k ≤ n) : sa_th σ o x w rv n = true := by
  obtain ⟨d, rfl⟩ := Nat.exists_eq_add_of_le hk
  exact sa_th_up h d
theorem sa_th_f {σ : sa_St} {o x w rv : Int32} {n : Nat} (h : ∀ k, k < n → ¬ (¬ nI k = w ∧ sa_sd σ k x ∧ sa_cnt σ k o rv)) : sa_th σ o x w rv n = false := by
  induction n with
  | zero => rfl
  | succ n ih => show (sa_th σ o x w rv n || _) = false; rw [ih (fun k hk => h k (by omega)), decide_eq_false (h n (by omega))]; rfl
/-- no spot is in a break that isn't there -/
theorem sa_th_out {σ : sa_St} (hI : sa_I σ) {o x w rv : Int32} (hx : ¬ vp_in x (σ.1 0)) : sa_th σ o x w rv (σ.1 2) = false :=
  sa_th_f fun k hk h => hx (by rw [← h.2.1.1]; exact hI.2.2.2.2.2.1 k hk)
theorem sa_narb {P : Prop} [Decidable P] : narrow .boolean (.int (sa_b P)) = .int (sa_b P) := by
  rcases sa_b_or (P := P) with h | h <;> rw [h] <;> rfl
theorem sa_max0 (x : Int32) : (if x < 0 then 0 else x) = if 0 < x then x else 0 := by
  by_cases h : x < 0
  · rw [if_pos h, if_neg (Int32.not_lt.mpr (Int32.le_of_lt h))]
  · rw [if_neg h]
    by_cases h2 : 0 < x
    · rw [if_pos h2]
    · rw [if_neg h2]; exact Int32.le_antisymm (Int32.not_lt.mp h2) (Int32.not_lt.mp h)
theorem sa_subadd (x y z : Int32) : x - y - z = x - (y + z) := by grind
theorem sa_sub0 (x : Int32) : x = x - 0 := by simp
theorem sa_nx_l {σ : sa_St} (hI : sa_I σ) {o x w rv : Int32} (hx : vp_in x (σ.1 0)) (h : sa_th σ o (x - 1) w rv (σ.1 2) = true) : 0 < x := by
  obtain ⟨j, hj, rfl⟩ := vp_in_of hx (by have := hI.1; omega)
  rcases Nat.eq_zero_or_pos j with rfl | h0
  · rw [sa_th_out hI (by rw [show nI 0 - 1 = (-1 : Int32) from by decide]; intro q; exact q (Or.inl (by decide)))] at h
    exact absurd h (by decide)
  · have := hI.1
    exact nI_lt h0 (by omega)
theorem sa_nx_r {σ : sa_St} (hI : sa_I σ) {o x w rv : Int32} (hx : vp_in x (σ.1 0)) (h : sa_th σ o (x + 1) w rv (σ.1 2) = true) : x + 1 < nI (σ.1 0) := by
  obtain ⟨j, hj, rfl⟩ := vp_in_of hx (by have := hI.1; omega)
  rw [nI_1] at h ⊢
  have := hI.1
  by_cases h0 : j + 1 < σ.1 0
  · exact nI_lt h0 (by omega)
  · rw [sa_th_out hI (by intro q; exact q (Or.inr (by rw [nI_clamp (by omega)]; omega)))] at h
    exact absurd h (by decide)
theorem sa_go_ok {P1 P2 P3 : Prop} [Decidable P1] [Decidable P2] [Decidable P3] {σ : sa_St} {ok : Int32 × sa_St} (h : (sa_go P1 P2 P3 σ ok).1 = 0) : P1 ∧ P2 ∧ P3 := by
  unfold sa_go at h
  by_cases h1 : P1
  · by_cases h2 : P2
    · by_cases h3 : P3
      · exact ⟨h1, h2, h3⟩
      · simp [h1, h2, h3] at h
    · simp [h1, h2] at h
  · simp [h1] at h
theorem sa_ltN {n c : Nat} (hn : n < 2 ^ 31) (hc : c < 2 ^ 31) (h : nI n < nI c) : n < c := (nI_ltI hn hc).mp h
theorem sa_nar01 {x : Int32} (h : x = 0 ∨ x = 1) : narrow .boolean (.int x) = .int x := by rcases h with h | h <;> rw [h] <;> rfl
theorem sa_nrb {x : Int32} (h : x = 0 ∨ x = 1) : vp_nar .boolean x = x := by rcases h with h | h <;> rw [h] <;> rfl
section
variable {p : Program} {l : Launch} {e : Env} {R : Room} {s : State} {m : MethodId} {args : Array Value} {below : List Frame} {meth : Method} {c : Code} {H : Heap} {locs : List Loc} {cells slots : Nat} {Q : State → Prop} {pc : Nat} {ls : Array Slot} {rest : List Value}
/-- a truth value on the stack: one, or nought -/
theorem sa_spl {P : Prop} [Decidable P] (ht : P → W p l e R s m args below meth c H locs cells slots Q (F0 m pc ls (.int 1 :: rest))) (hf : ¬ P → W p l e R s m args below meth c H locs cells slots Q (F0 m pc ls (.int 0 :: rest))) : W p l e R s m args below meth c H locs cells slots Q (F0 m pc ls (.int (sa_b P) :: rest)) := by
  by_cases h : P
  · rw [sa_bt h]; exact ht h
  · rw [sa_bf h]; exact hf h
theorem sa_iadd1 {cc : ByteArray} {k : Nat} (hx : p.tables.exec = Jvm.exec) (hb : c.code = cc) (hdg : decode cc pc = .ok (.iadd, 1)) (kk : W p l e R s m args below meth c H locs cells slots Q (F0 m (pc + 1) ls (.int (nI (k + 1)) :: rest))) : W p l e R s m args below meth c H locs cells slots Q (F0 m pc ls (.int 1 :: .int (nI k) :: rest)) :=
  lv_iadd hx hb hdg (by rw [nI_1]; exact kk)
theorem sa_isub1 {cc : ByteArray} {k : Nat} (hx : p.tables.exec = Jvm.exec) (hb : c.code = cc) (hdg : decode cc pc = .ok (.isub, 1)) (kk : W p l e R s m args below meth c H locs cells slots Q (F0 m (pc + 1) ls (.int (nI k) :: rest))) : W p l e R s m args below meth c H locs cells slots Q (F0 m pc ls (.int 1 :: .int (nI (k + 1)) :: rest)) :=
  lv_isub hx hb hdg (by rw [nI_pred]; exact kk)
end
/-! what is so stays so -/
theorem sa_I_f {σ : sa_St} {j : Nat} {g : Nat → Int32} (hI : sa_I σ) (h2 : ¬ j = 2) (h6 : ¬ j = 6) (h12 : ¬ j = 12) (h13 : ¬ j = 13) : sa_I (sa_f σ j g) := by
  obtain ⟨a1, a2, a3, a4, a5, a6, a7⟩ := hI
  have e : ∀ i, ¬ i = j → (sa_f σ j g).2 i = σ.2 i := fun i hi => by show va_up σ.2 j g i = _; unfold va_up; rw [if_neg hi]
  refine ⟨a1, a2, a3, ?_, ?_, ?_, ?_⟩
  · rw [e 6 (fun h => h6 h.symm)]; exact a4
  · rw [e 12 (fun h => h12 h.symm)]; exact a5
  · rw [e 13 (fun h => h13 h.symm)]; exact a6
  · rw [e 2 (fun h => h2 h.symm)]; exact a7
theorem sa_I_add {σ : sa_St} {o x fr : Int32} (hI : sa_I σ) (hs : σ.1 2 < 150) (ho : vp_in o (σ.1 1)) (hat : vp_in x (σ.1 0)) : sa_I (sa_add σ o x fr) := by
  obtain ⟨a1, a2, a3, a4, a5, a6, a7⟩ := hI
  refine ⟨a1, a2, ?_, a4, ?_, ?_, a7⟩
  · show σ.1 2 + 1 ≤ 150; omega
  · intro k hk
    have hk : k < σ.1 2 + 1 := hk
    show vp_in (upd (σ.2 12) (σ.1 2) o k) (σ.1 1)
    unfold upd
    by_cases h : k = σ.1 2
    · rw [if_pos h]; exact ho
    · rw [if_neg h]; exact a5 k (by omega)
  · intro k hk
    have hk : k < σ.1 2 + 1 := hk
    show vp_in (upd (σ.2 13) (σ.1 2) x k) (σ.1 0)
    unfold upd
    by_cases h : k = σ.1 2
    · rw [if_pos h]; exact hat
    · rw [if_neg h]; exact a6 k (by omega)
theorem sa_I_clo {σ : sa_St} {o : Int32} (hI : sa_I σ) : sa_I (sa_clo σ o) := sa_I_f (sa_I_f hI (by decide) (by decide) (by decide) (by decide)) (by decide) (by decide) (by decide) (by decide)
theorem sa_I_addBreak {σ : sa_St} {x : Int32} (hI : sa_I σ) (h : nI (σ.1 0) < 24) : sa_I (sa_n (sa_f σ 1 (upd (σ.2 1) (σ.1 0) x)) 0 (σ.1 0 + 1)) := by
  obtain ⟨a1, a2, a3, a4, a5, a6, a7⟩ := hI
  have h24 : σ.1 0 < 24 := sa_ltN (by omega) (by decide) h
  refine ⟨?_, a2, a3, a4, a5, fun k hk => sa_vm (a6 k hk) ?_, a7⟩
  · show σ.1 0 + 1 ≤ 24; omega
  · show σ.1 0 ≤ σ.1 0 + 1; omega
theorem sa_I_ord {σ : sa_St} {x1 x2 x3 x4 x5 x6 x7 : Int32} (hI : sa_I σ) (h : nI (σ.1 1) < 20) (h3 : sa_w x3 0 2) : sa_I (sa_ord σ x1 x2 x3 x4 x5 x6 x7) := by
  obtain ⟨a1, a2, a3, a4, a5, a6, a7⟩ := hI
  have h20 : σ.1 1 < 20 := sa_ltN (by omega) (by decide) h
  refine ⟨a1, ?_, a3, ?_, fun k hk => sa_vm (a5 k hk) ?_, a6, a7⟩
  · show σ.1 1 + 1 ≤ 20; omega
  · intro k hk
    have hk : k < σ.1 1 + 1 := hk
    show vp_in (upd (σ.2 6) (σ.1 1) x3 k) 3
    unfold upd
    by_cases h9 : k = σ.1 1
    · rw [if_pos h9]
      exact sa_inv (by decide) ⟨Int32.not_lt.mpr h3.1, by have := h3.2; show x3 < 3; exact Int32.lt_of_le_of_lt this (by decide)⟩
    · rw [if_neg h9]; exact a4 k (by omega)
  · show σ.1 1 ≤ σ.1 1 + 1; omega
theorem sa_I_air {σ : sa_St} {x : Int32} {g : Nat → Int32} (hI : sa_I σ) : sa_I (sa_f (sa_f σ 2 (upd (σ.2 2) x.toNatClampNeg 1)) 14 g) := by
  refine sa_I_f ?_ (by decide) (by decide) (by decide) (by decide)
  obtain ⟨a1, a2, a3, a4, a5, a6, a7⟩ := hI
  refine ⟨a1, a2, a3, a4, a5, a6, fun k => ?_⟩
  show upd (σ.2 2) x.toNatClampNeg 1 k = 0 ∨ upd (σ.2 2) x.toNatClampNeg 1 k = 1
  unfold upd
  by_cases h : k = x.toNatClampNeg
  · rw [if_pos h]; exact Or.inr rfl
  · rw [if_neg h]; exact a7 k
theorem sa_I_mv {σ : sa_St} {x y : Int32} (hI : sa_I σ) (hy : vp_in y (σ.1 0)) : sa_I (sa_f σ 13 (upd (σ.2 13) x.toNatClampNeg y)) := by
  obtain ⟨a1, a2, a3, a4, a5, a6, a7⟩ := hI
  refine ⟨a1, a2, a3, a4, a5, fun k hk => ?_, a7⟩
  show vp_in (upd (σ.2 13) x.toNatClampNeg y k) (σ.1 0)
  unfold upd
  by_cases h : k = x.toNatClampNeg
  · rw [if_pos h]; exact hy
  · rw [if_neg h]; exact a6 k hk
/-! a spot that is moved doesn't stand in its own way -/
theorem sa_k_of {x : Int32} {k : Nat} (hk : k < 2 ^ 31) (h : nI k = x) : k = x.toNatClampNeg := by rw [← h, nI_clamp hk]
theorem sa_room_mv {σ : sa_St} {x y : Int32} (hne : ¬ σ.2 13 x.toNatClampNeg = y) : ∀ n, n ≤ 150 → sa_room σ y (-1) n = sa_room σ y x n := by
  intro n
  induction n with
  | zero => intro _; rfl
  | succ k ih =>
    intro hn
    show sa_room σ y (-1) k - _ = sa_room σ y x k - _
    rw [ih (by omega)]
    congr 1
    by_cases h : sa_sd σ k y
    · have h1 : ¬ nI k = x := fun q => hne (by rw [← sa_k_of (by omega) q]; exact h.1)
      rw [if_pos ⟨sa_ne1 (by omega), h⟩, if_pos ⟨h1, h⟩]
    · rw [if_neg (fun q => h q.2), if_neg (fun q => h q.2)]
theorem sa_th_mv {σ : sa_St} {o x y rv : Int32} (hne : ∀ k, nI k = x → k < 2 ^ 31 → ¬ (sa_sd σ k y ∧ sa_cnt σ k o rv)) : ∀ n, n ≤ 150 → sa_th σ o y (-1) rv n = sa_th σ o y x rv n := by
  intro n
  induction n with
  | zero => intro _; rfl
  | succ k ih =>
    intro hn
    show (sa_th σ o y (-1) rv k || _) = (sa_th σ o y x rv k || _)
    rw [ih (by omega)]
    congr 1
    by_cases h : sa_sd σ k y ∧ sa_cnt σ k o rv
    · have h1 : ¬ nI k = x := fun q => hne k q (by omega) h
      rw [decide_eq_true ⟨sa_ne1 (by omega), h⟩, decide_eq_true ⟨h1, h⟩]
    · rw [decide_eq_false (fun q => h q.2), decide_eq_false (fun q => h q.2)]
theorem sa_why_mv {σ : sa_St} {x y : Int32} (hI : sa_I σ) (hne : ¬ σ.2 13 x.toNatClampNeg = y) : sa_why σ (σ.2 12 x.toNatClampNeg) y (-1) = sa_why σ (σ.2 12 x.toNatClampNeg) y x := by
  have hn := hI.2.2.1
  have e0 : sa_th σ (σ.2 12 x.toNatClampNeg) y (-1) 0 (σ.1 2) = sa_th σ (σ.2 12 x.toNatClampNeg) y x 0 (σ.1 2) := sa_th_mv (fun k q hk h => hne (by rw [← sa_k_of hk q]; exact h.1.1)) _ hn
  have e1 : ∀ z, sa_th σ (σ.2 12 x.toNatClampNeg) z (-1) 1 (σ.1 2) = sa_th σ (σ.2 12 x.toNatClampNeg) z x 1 (σ.1 2) := fun z => sa_th_mv (fun k q hk h => by
    have hk2 := sa_k_of hk q
    rcases h.2 with h3 | h3
    · exact absurd h3.1 (by decide)
    · exact h3.2.1 (by show σ.2 4 (σ.2 12 k).toNatClampNeg = _; rw [hk2])) _ hn
  unfold sa_why
  rw [sa_room_mv hne _ hn, e0, e1 y]
  unfold sa_nx
  rw [e1 (y - 1), e1 (y + 1)]
theorem sa_best_in {σ : sa_St} {o : Int32} : ∀ n, n < 2 ^ 31 → ¬ sa_best σ o n = -1 → vp_in (sa_best σ o n) n := by
  intro n
  induction n with
  | zero => intro _ h; exact absurd rfl h
  | succ k ih =>
    intro hk h
    by_cases hc : sa_why σ o (nI k) (-1) = 0 ∧ (sa_best σ o k = -1 ∨ sa_rat σ o (sa_best σ o k) < sa_rat σ o (nI k))
    · rw [show sa_best σ o (k + 1) = nI k from if_pos hc]; exact vp_in_nI (by omega) hk
    · rw [show sa_best σ o (k + 1) = sa_best σ o k from if_neg hc] at h ⊢; exact sa_vm (ih (by omega) h) (by omega)
theorem sa_fill_y {o : Int32} {n i : Nat} {σ : sa_St} (h : sa_more σ o) : sa_fill o (n + 1) i σ = sa_fill o n (i + 1) (sa_add σ o (sa_best σ o (σ.1 0)) 0) := if_pos h
theorem sa_fill_n {o : Int32} {n i : Nat} {σ : sa_St} (h : ¬ sa_more σ o) : sa_fill o (n + 1) i σ = (nI i, σ) := if_neg h
theorem sa_in_iff {x : Int32} {n : Nat} (hn : n < 2 ^ 31) : sa_w x 0 (nI n - 1) ↔ sa_in x n := by
  constructor
  · intro h
    refine ⟨Int32.not_lt.mpr h.1, ?_⟩
    rcases Nat.eq_zero_or_pos n with rfl | h0
    · exfalso
      have h2 := Int32.le_trans h.1 h.2
      exact absurd h2 (by decide)
    · obtain ⟨m, rfl⟩ : ∃ m, n = m + 1 := ⟨n - 1, by omega⟩
      have h2 := h.2
      rw [nI_pred] at h2
      exact Int32.lt_of_le_of_lt h2 (nI_lt (by omega) hn)
  · intro h
    obtain ⟨j, hj, rfl⟩ := vp_in_of (sa_inv hn h) hn
    refine ⟨nI_pos' (by omega), ?_⟩
    obtain ⟨m, rfl⟩ : ∃ m, n = m + 1 := ⟨n - 1, by omega⟩
    rw [nI_pred]
    exact nI_le (by omega) (by omega)
theorem sa_in_b {x : Int32} {n : Nat} (hn : n < 2 ^ 31) : sa_b (sa_w x 0 (nI n - 1)) = sa_b (sa_in x n) := by
  by_cases h : sa_in x n
  · rw [sa_bt h, sa_bt ((sa_in_iff hn).mpr h)]
  · rw [sa_bf h, sa_bf (fun q => h ((sa_in_iff hn).mp q))]
def sa_gc (x1 x2 x3 : Int32) : Int32 := if x1 = 0 then 1 else if x2 = 0 then 2 else if x3 = 0 then 3 else 0
theorem sa_upd_self (f : Nat → Int32) (k : Nat) : upd f k (f k) = f := by
  funext j; unfold upd
  by_cases h : j = k
  · rw [if_pos h, h]
  · rw [if_neg h]
theorem sa_most {x : Int32} (h : sa_w x 1 24) : ∃ M : Nat, 1 ≤ M ∧ M ≤ 24 ∧ x = nI M := by
  have h0 : ¬ x < 0 := fun q => absurd (Int32.lt_of_le_of_lt h.1 q) (by decide)
  obtain ⟨M, hM, rfl⟩ := nI_of h0
  exact ⟨M, (nI_leI (a := 1) (by decide) hM).mp h.1, (nI_leI (b := 24) hM (by decide)).mp h.2, rfl⟩
end
