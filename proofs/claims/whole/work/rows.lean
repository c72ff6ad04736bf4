section
-- ===== PART A: goes FIRST, ahead of the names: the tables' words, and 'selects' of the private methods out of them =====
/-- a private method of a class that the tables say can be made, by its rows of tables_1 -/
def lw_okq (q : MethodName × Nat) : Prop := (q.1.cls ≠ "java/lang/invoke/MethodHandle" ∧ q.1.cls ≠ "java/lang/invoke/VarHandle") ∧ Cond.instantiable q.1.cls q.2 ∈ tables_1 ∧ Cond.privateMethod q.1 ∈ tables_1 ∧ Cond.instanceMethod q.1 ∈ tables_1
theorem lw_p0 : lw_okq (⟨"SpotAccount", "restOf", "(I)I"⟩, 18) := ⟨⟨by decide +kernel, by decide +kernel⟩, List.mem_of_getElem? (i := 11) (by decide +kernel), List.mem_of_getElem? (i := 92) (by decide +kernel), List.mem_of_getElem? (i := 93) (by decide +kernel)⟩
theorem lw_p1 : lw_okq (⟨"SpotAccount", "owedTo", "(I)I"⟩, 18) := ⟨⟨by decide +kernel, by decide +kernel⟩, List.mem_of_getElem? (i := 11) (by decide +kernel), List.mem_of_getElem? (i := 96) (by decide +kernel), List.mem_of_getElem? (i := 97) (by decide +kernel)⟩
theorem lw_p2 : lw_okq (⟨"SpotAccount", "audience", "(II)I"⟩, 18) := ⟨⟨by decide +kernel, by decide +kernel⟩, List.mem_of_getElem? (i := 11) (by decide +kernel), List.mem_of_getElem? (i := 100) (by decide +kernel), List.mem_of_getElem? (i := 101) (by decide +kernel)⟩
theorem lw_p3 : lw_okq (⟨"SpotAccount", "ratingFor", "(II)I"⟩, 18) := ⟨⟨by decide +kernel, by decide +kernel⟩, List.mem_of_getElem? (i := 11) (by decide +kernel), List.mem_of_getElem? (i := 104) (by decide +kernel), List.mem_of_getElem? (i := 105) (by decide +kernel)⟩
theorem lw_p4 : lw_okq (⟨"java/lang/Throwable", "fillInStackTrace", "(I)Ljava/lang/Throwable;"⟩, 6) := ⟨⟨by decide +kernel, by decide +kernel⟩, List.mem_of_getElem? (i := 167) (by decide +kernel), List.mem_of_getElem? (i := 165) (by decide +kernel), List.mem_of_getElem? (i := 166) (by decide +kernel)⟩
theorem lw_p5 : lw_okq (⟨"SpotAccount", "checkBreak", "(I)V"⟩, 18) := ⟨⟨by decide +kernel, by decide +kernel⟩, List.mem_of_getElem? (i := 11) (by decide +kernel), List.mem_of_getElem? (i := 224) (by decide +kernel), List.mem_of_getElem? (i := 225) (by decide +kernel)⟩
theorem lw_p6 : lw_okq (⟨"SpotAccount", "secondsLeft", "(I)I"⟩, 18) := ⟨⟨by decide +kernel, by decide +kernel⟩, List.mem_of_getElem? (i := 11) (by decide +kernel), List.mem_of_getElem? (i := 272) (by decide +kernel), List.mem_of_getElem? (i := 273) (by decide +kernel)⟩
theorem lw_p7 : lw_okq (⟨"SpotAccount", "isInBreak", "(I)Z"⟩, 18) := ⟨⟨by decide +kernel, by decide +kernel⟩, List.mem_of_getElem? (i := 11) (by decide +kernel), List.mem_of_getElem? (i := 276) (by decide +kernel), List.mem_of_getElem? (i := 277) (by decide +kernel)⟩
theorem lw_p8 : lw_okq (⟨"SpotAccount", "checkOrder", "(I)V"⟩, 18) := ⟨⟨by decide +kernel, by decide +kernel⟩, List.mem_of_getElem? (i := 11) (by decide +kernel), List.mem_of_getElem? (i := 308) (by decide +kernel), List.mem_of_getElem? (i := 309) (by decide +kernel)⟩
theorem lw_p9 : lw_okq (⟨"SpotAccount", "obstacle", "(II)I"⟩, 18) := ⟨⟨by decide +kernel, by decide +kernel⟩, List.mem_of_getElem? (i := 11) (by decide +kernel), List.mem_of_getElem? (i := 319) (by decide +kernel), List.mem_of_getElem? (i := 320) (by decide +kernel)⟩
theorem lw_p10 : lw_okq (⟨"SpotAccount", "holdsAdvertiser", "(II)Z"⟩, 18) := ⟨⟨by decide +kernel, by decide +kernel⟩, List.mem_of_getElem? (i := 11) (by decide +kernel), List.mem_of_getElem? (i := 323) (by decide +kernel), List.mem_of_getElem? (i := 324) (by decide +kernel)⟩
theorem lw_p11 : lw_okq (⟨"SpotAccount", "holdsRival", "(II)Z"⟩, 18) := ⟨⟨by decide +kernel, by decide +kernel⟩, List.mem_of_getElem? (i := 11) (by decide +kernel), List.mem_of_getElem? (i := 327) (by decide +kernel), List.mem_of_getElem? (i := 328) (by decide +kernel)⟩
theorem lw_p12 : lw_okq (⟨"SpotAccount", "areRivals", "(II)Z"⟩, 18) := ⟨⟨by decide +kernel, by decide +kernel⟩, List.mem_of_getElem? (i := 11) (by decide +kernel), List.mem_of_getElem? (i := 331) (by decide +kernel), List.mem_of_getElem? (i := 332) (by decide +kernel)⟩
theorem lw_p13 : lw_okq (⟨"SpotAccount", "addSpot", "(IIZ)I"⟩, 18) := ⟨⟨by decide +kernel, by decide +kernel⟩, List.mem_of_getElem? (i := 11) (by decide +kernel), List.mem_of_getElem? (i := 342) (by decide +kernel), List.mem_of_getElem? (i := 343) (by decide +kernel)⟩
theorem lw_p14 : lw_okq (⟨"SpotAccount", "isShortOfPromise", "(I)Z"⟩, 18) := ⟨⟨by decide +kernel, by decide +kernel⟩, List.mem_of_getElem? (i := 11) (by decide +kernel), List.mem_of_getElem? (i := 360) (by decide +kernel), List.mem_of_getElem? (i := 361) (by decide +kernel)⟩
theorem lw_p15 : lw_okq (⟨"SpotAccount", "bestBreak", "(I)I"⟩, 18) := ⟨⟨by decide +kernel, by decide +kernel⟩, List.mem_of_getElem? (i := 11) (by decide +kernel), List.mem_of_getElem? (i := 364) (by decide +kernel), List.mem_of_getElem? (i := 365) (by decide +kernel)⟩
def lw_privs_1 : List (MethodName × Nat) := [(⟨"SpotAccount", "restOf", "(I)I"⟩, 18), (⟨"SpotAccount", "owedTo", "(I)I"⟩, 18), (⟨"SpotAccount", "audience", "(II)I"⟩, 18), (⟨"SpotAccount", "ratingFor", "(II)I"⟩, 18), (⟨"java/lang/Throwable", "fillInStackTrace", "(I)Ljava/lang/Throwable;"⟩, 6), (⟨"SpotAccount", "checkBreak", "(I)V"⟩, 18), (⟨"SpotAccount", "secondsLeft", "(I)I"⟩, 18), (⟨"SpotAccount", "isInBreak", "(I)Z"⟩, 18), (⟨"SpotAccount", "checkOrder", "(I)V"⟩, 18), (⟨"SpotAccount", "obstacle", "(II)I"⟩, 18), (⟨"SpotAccount", "holdsAdvertiser", "(II)Z"⟩, 18), (⟨"SpotAccount", "holdsRival", "(II)Z"⟩, 18), (⟨"SpotAccount", "areRivals", "(II)Z"⟩, 18), (⟨"SpotAccount", "addSpot", "(IIZ)I"⟩, 18), (⟨"SpotAccount", "isShortOfPromise", "(I)Z"⟩, 18), (⟨"SpotAccount", "bestBreak", "(I)I"⟩, 18)]
theorem lw_r1 : ∀ q ∈ lw_privs_1, lw_okq q := List.forall_mem_cons.mpr ⟨lw_p0, List.forall_mem_cons.mpr ⟨lw_p1, List.forall_mem_cons.mpr ⟨lw_p2, List.forall_mem_cons.mpr ⟨lw_p3, List.forall_mem_cons.mpr ⟨lw_p4, List.forall_mem_cons.mpr ⟨lw_p5, List.forall_mem_cons.mpr ⟨lw_p6, List.forall_mem_cons.mpr ⟨lw_p7, List.forall_mem_cons.mpr ⟨lw_p8, List.forall_mem_cons.mpr ⟨lw_p9, List.forall_mem_cons.mpr ⟨lw_p10, List.forall_mem_cons.mpr ⟨lw_p11, List.forall_mem_cons.mpr ⟨lw_p12, List.forall_mem_cons.mpr ⟨lw_p13, List.forall_mem_cons.mpr ⟨lw_p14, List.forall_mem_cons.mpr ⟨lw_p15, fun _ h => absurd h List.not_mem_nil⟩⟩⟩⟩⟩⟩⟩⟩⟩⟩⟩⟩⟩⟩⟩⟩
theorem lw_p16 : lw_okq (⟨"SpotAccount", "checkSpot", "(I)V"⟩, 18) := ⟨⟨by decide +kernel, by decide +kernel⟩, List.mem_of_getElem? (i := 11) (by decide +kernel), List.mem_of_getElem? (i := 375) (by decide +kernel), List.mem_of_getElem? (i := 376) (by decide +kernel)⟩
theorem lw_p17 : lw_okq (⟨"SpotAccount", "billOf", "(I)I"⟩, 18) := ⟨⟨by decide +kernel, by decide +kernel⟩, List.mem_of_getElem? (i := 11) (by decide +kernel), List.mem_of_getElem? (i := 435) (by decide +kernel), List.mem_of_getElem? (i := 436) (by decide +kernel)⟩
theorem lw_p18 : lw_okq (⟨"SpotAccountModel", "goes", "(ZZZ)Z"⟩, 19) := ⟨⟨by decide +kernel, by decide +kernel⟩, List.mem_of_getElem? (i := 446) (by decide +kernel), List.mem_of_getElem? (i := 521) (by decide +kernel), List.mem_of_getElem? (i := 522) (by decide +kernel)⟩
theorem lw_p19 : lw_okq (⟨"SpotAccountModel", "isBreak", "(I)Z"⟩, 19) := ⟨⟨by decide +kernel, by decide +kernel⟩, List.mem_of_getElem? (i := 446) (by decide +kernel), List.mem_of_getElem? (i := 529) (by decide +kernel), List.mem_of_getElem? (i := 530) (by decide +kernel)⟩
theorem lw_p20 : lw_okq (⟨"SpotAccountModel", "told", "(I)I"⟩, 19) := ⟨⟨by decide +kernel, by decide +kernel⟩, List.mem_of_getElem? (i := 446) (by decide +kernel), List.mem_of_getElem? (i := 542) (by decide +kernel), List.mem_of_getElem? (i := 543) (by decide +kernel)⟩
theorem lw_p21 : lw_okq (⟨"SpotAccountModel", "roomWithout", "(II)I"⟩, 19) := ⟨⟨by decide +kernel, by decide +kernel⟩, List.mem_of_getElem? (i := 446) (by decide +kernel), List.mem_of_getElem? (i := 554) (by decide +kernel), List.mem_of_getElem? (i := 555) (by decide +kernel)⟩
theorem lw_p22 : lw_okq (⟨"SpotAccountModel", "stands", "(II)Z"⟩, 19) := ⟨⟨by decide +kernel, by decide +kernel⟩, List.mem_of_getElem? (i := 446) (by decide +kernel), List.mem_of_getElem? (i := 558) (by decide +kernel), List.mem_of_getElem? (i := 559) (by decide +kernel)⟩
theorem lw_p23 : lw_okq (⟨"SpotAccountModel", "isOrder", "(I)Z"⟩, 19) := ⟨⟨by decide +kernel, by decide +kernel⟩, List.mem_of_getElem? (i := 446) (by decide +kernel), List.mem_of_getElem? (i := 575) (by decide +kernel), List.mem_of_getElem? (i := 576) (by decide +kernel)⟩
theorem lw_p24 : lw_okq (⟨"SpotAccountModel", "owes", "(I)I"⟩, 19) := ⟨⟨by decide +kernel, by decide +kernel⟩, List.mem_of_getElem? (i := 446) (by decide +kernel), List.mem_of_getElem? (i := 579) (by decide +kernel), List.mem_of_getElem? (i := 580) (by decide +kernel)⟩
theorem lw_p25 : lw_okq (⟨"SpotAccountModel", "sums", "(IIZ)I"⟩, 19) := ⟨⟨by decide +kernel, by decide +kernel⟩, List.mem_of_getElem? (i := 446) (by decide +kernel), List.mem_of_getElem? (i := 583) (by decide +kernel), List.mem_of_getElem? (i := 584) (by decide +kernel)⟩
theorem lw_p26 : lw_okq (⟨"SpotAccountModel", "ratingFor", "(II)I"⟩, 19) := ⟨⟨by decide +kernel, by decide +kernel⟩, List.mem_of_getElem? (i := 446) (by decide +kernel), List.mem_of_getElem? (i := 587) (by decide +kernel), List.mem_of_getElem? (i := 588) (by decide +kernel)⟩
theorem lw_p27 : lw_okq (⟨"SpotAccountModel", "why", "(III)I"⟩, 19) := ⟨⟨by decide +kernel, by decide +kernel⟩, List.mem_of_getElem? (i := 446) (by decide +kernel), List.mem_of_getElem? (i := 599) (by decide +kernel), List.mem_of_getElem? (i := 600) (by decide +kernel)⟩
theorem lw_p28 : lw_okq (⟨"SpotAccountModel", "isThere", "(IIIZ)Z"⟩, 19) := ⟨⟨by decide +kernel, by decide +kernel⟩, List.mem_of_getElem? (i := 446) (by decide +kernel), List.mem_of_getElem? (i := 603) (by decide +kernel), List.mem_of_getElem? (i := 604) (by decide +kernel)⟩
theorem lw_p29 : lw_okq (⟨"SpotAccountModel", "adds", "(IIZ)I"⟩, 19) := ⟨⟨by decide +kernel, by decide +kernel⟩, List.mem_of_getElem? (i := 446) (by decide +kernel), List.mem_of_getElem? (i := 611) (by decide +kernel), List.mem_of_getElem? (i := 612) (by decide +kernel)⟩
theorem lw_p30 : lw_okq (⟨"SpotAccountModel", "left", "(I)I"⟩, 19) := ⟨⟨by decide +kernel, by decide +kernel⟩, List.mem_of_getElem? (i := 446) (by decide +kernel), List.mem_of_getElem? (i := 619) (by decide +kernel), List.mem_of_getElem? (i := 620) (by decide +kernel)⟩
theorem lw_p31 : lw_okq (⟨"SpotAccountModel", "best", "(I)I"⟩, 19) := ⟨⟨by decide +kernel, by decide +kernel⟩, List.mem_of_getElem? (i := 446) (by decide +kernel), List.mem_of_getElem? (i := 627) (by decide +kernel), List.mem_of_getElem? (i := 628) (by decide +kernel)⟩
def lw_privs_2 : List (MethodName × Nat) := [(⟨"SpotAccount", "checkSpot", "(I)V"⟩, 18), (⟨"SpotAccount", "billOf", "(I)I"⟩, 18), (⟨"SpotAccountModel", "goes", "(ZZZ)Z"⟩, 19), (⟨"SpotAccountModel", "isBreak", "(I)Z"⟩, 19), (⟨"SpotAccountModel", "told", "(I)I"⟩, 19), (⟨"SpotAccountModel", "roomWithout", "(II)I"⟩, 19), (⟨"SpotAccountModel", "stands", "(II)Z"⟩, 19), (⟨"SpotAccountModel", "isOrder", "(I)Z"⟩, 19), (⟨"SpotAccountModel", "owes", "(I)I"⟩, 19), (⟨"SpotAccountModel", "sums", "(IIZ)I"⟩, 19), (⟨"SpotAccountModel", "ratingFor", "(II)I"⟩, 19), (⟨"SpotAccountModel", "why", "(III)I"⟩, 19), (⟨"SpotAccountModel", "isThere", "(IIIZ)Z"⟩, 19), (⟨"SpotAccountModel", "adds", "(IIZ)I"⟩, 19), (⟨"SpotAccountModel", "left", "(I)I"⟩, 19), (⟨"SpotAccountModel", "best", "(I)I"⟩, 19)]
theorem lw_r2 : ∀ q ∈ lw_privs_2, lw_okq q := List.forall_mem_cons.mpr ⟨lw_p16, List.forall_mem_cons.mpr ⟨lw_p17, List.forall_mem_cons.mpr ⟨lw_p18, List.forall_mem_cons.mpr ⟨lw_p19, List.forall_mem_cons.mpr ⟨lw_p20, List.forall_mem_cons.mpr ⟨lw_p21, List.forall_mem_cons.mpr ⟨lw_p22, List.forall_mem_cons.mpr ⟨lw_p23, List.forall_mem_cons.mpr ⟨lw_p24, List.forall_mem_cons.mpr ⟨lw_p25, List.forall_mem_cons.mpr ⟨lw_p26, List.forall_mem_cons.mpr ⟨lw_p27, List.forall_mem_cons.mpr ⟨lw_p28, List.forall_mem_cons.mpr ⟨lw_p29, List.forall_mem_cons.mpr ⟨lw_p30, List.forall_mem_cons.mpr ⟨lw_p31, fun _ h => absurd h List.not_mem_nil⟩⟩⟩⟩⟩⟩⟩⟩⟩⟩⟩⟩⟩⟩⟩⟩
theorem lw_p32 : lw_okq (⟨"SpotAccountModel", "isSpot", "(I)Z"⟩, 19) := ⟨⟨by decide +kernel, by decide +kernel⟩, List.mem_of_getElem? (i := 446) (by decide +kernel), List.mem_of_getElem? (i := 635) (by decide +kernel), List.mem_of_getElem? (i := 636) (by decide +kernel)⟩
theorem lw_p33 : lw_okq (⟨"SpotAccountModel", "billOf", "(I)I"⟩, 19) := ⟨⟨by decide +kernel, by decide +kernel⟩, List.mem_of_getElem? (i := 446) (by decide +kernel), List.mem_of_getElem? (i := 675) (by decide +kernel), List.mem_of_getElem? (i := 676) (by decide +kernel)⟩
def lw_privs_3 : List (MethodName × Nat) := [(⟨"SpotAccountModel", "isSpot", "(I)Z"⟩, 19), (⟨"SpotAccountModel", "billOf", "(I)I"⟩, 19)]
theorem lw_r3 : ∀ q ∈ lw_privs_3, lw_okq q := List.forall_mem_cons.mpr ⟨lw_p32, List.forall_mem_cons.mpr ⟨lw_p33, fun _ h => absurd h List.not_mem_nil⟩⟩
def lw_privs : List (MethodName × Nat) := lw_privs_1 ++ (lw_privs_2 ++ (lw_privs_3))
def lw_tbl : List Cond := k2_sels lw_privs ++ tables_1
theorem lw_privs_ok : ∀ q ∈ lw_privs, lw_okq q := by
  show ∀ q ∈ lw_privs_1 ++ (lw_privs_2 ++ (lw_privs_3)), lw_okq q
  exact List.forall_mem_append.mpr ⟨lw_r1, List.forall_mem_append.mpr ⟨lw_r2, lw_r3⟩⟩
end
section
/-! ===== BEGIN words of one list among another's, by their places ===== -/
theorem goodIn_r {big : List Cond} (ws : List Cond) (ps : List Nat) (hp : ws = ps.filterMap (fun i => big[i]?)) (h : ws.all goodWord = true) : GoodIn big ws := by
  intro w hw
  have h1 := List.all_eq_true.mp h w hw
  rw [hp] at hw
  obtain ⟨i, -, hi⟩ := List.mem_filterMap.mp hw
  have hm : w ∈ big := by first | exact List.mem_of_getElem? hi | exact List.getElem?_mem hi
  exact ⟨hm, good_of_word h1⟩
theorem goodIn_app {big a b : List Cond} (ha : GoodIn big a) (hb : GoodIn big b) : GoodIn big (a ++ b) := fun w h => (List.mem_append.mp h).elim (ha w) (hb w)
theorem goodIn_ca {big a b : List Cond} {c : Cond} (ha : GoodIn big (c :: a)) (hb : GoodIn big b) : GoodIn big (c :: (a ++ b)) := fun w h => (List.mem_cons.mp h).elim (fun e => ha w (List.mem_cons.mpr (Or.inl e))) (fun h => (List.mem_append.mp h).elim (fun h => ha w (List.mem_cons.mpr (Or.inr h))) (hb w))
theorem goodIn_sub {big ws : List Cond} (hm : ∀ w ∈ ws, w ∈ big) (h : ws.all goodWord = true) : GoodIn big ws := fun w hw => ⟨hm w hw, good_of_word (List.all_eq_true.mp h w hw)⟩
/-! ===== END ===== -/

/-! ===== BEGIN exceptions that leave a method, and their catching by the caller (launches without stack traces) ===== -/
section VXA
/-! The laws vx_back, vx_callV, vx_callS, vx_callSW, vx_throw0, vx_throwS follow proofs of the library, with one case more: JvmDerived/Free/Laws.lean (Back.of_free), Shelf42/LK1.lean (callV, callS), Shelf/KitTraced.lean (throwNew0V, throwNewS). -/
/-- where a method has thrown q: the class by its name, the cell, what was written, the world -/
def vx_T (XC : String → State → State → Prop) (st : State) (q : Addr) (t : State) (mc ms : Nat) (free : Addr → Prop) : Prop :=
  ∃ (E : String) (ce : Cell) (L : List Loc), XC E st t ∧ t.heap[q]? = some ce ∧ ce.vm = .none ∧ st.vm.findClass E = some ce.cls ∧ st.WarmedH t.vm ∧ st.sameButNew ({ t with vm := st.vm } : State) L mc ms ∧ ∀ z ∈ L, free z.base
def vx_Q (Qc : Array Value → State → Outcome → State → Prop) (XC : String → State → State → Prop) (mc ms : Nat) (free : Addr → Prop) : Array Value → State → Outcome → State → Prop := fun a st o t =>
  (Qc a st o t ∧ ∃ L, FrameEnd st o t L mc ms ∧ ∀ q ∈ L, free q.base) ∨ ∃ q, o = .threw q ∧ vx_T XC st q t mc ms free
/-- a callee that returns or throws -/
def vx_Met (l : Launch) (y : MethodName) (ws : List Cond) (rm : Room) (Pc : Array Value → State → Prop) (Qc : Array Value → State → Outcome → State → Prop) (XC : String → State → State → Prop) (mc ms : Nat) (free : Addr → Prop) : Prop :=
  MetFree l y (headSpec ws rm) Pc (fun _ _ _ _ _ => True) (vx_Q Qc XC mc ms free)
def vx_Post (XC : String → State → State → Prop) (mc ms : Nat) (free : Addr → Prop) : Pt → Array Value → Addr → Pt → Prop := fun A a q B =>
  ∃ (g : JFrame) (mk : MethodId) (t : State) (L : List Loc) (E : String) (ce : Cell), B.U.heap = t.heap ∧ B.U.vm = t.vm ∧ XC E (A.U.calling g mk a) t ∧ t.heap[q]? = some ce ∧ ce.vm = .none ∧ A.U.vm.findClass E = some ce.cls ∧ B.locs = A.locs ++ L ∧ (∀ z ∈ L, free z.base) ∧ B.cells = A.cells + mc ∧ B.slots = A.slots + ms
def vx_Back (l : Launch) (R : Room) (p : Program) (e : Env) (below : List Frame) (s : State) (sargs : Array Value) (y : MethodName) (len W9 : Nat)
    (Pre : Pt → Array Value → Prop) (Post : Pt → Array Value → Option Value → Pt → Prop) (PostX : Pt → Array Value → Addr → Pt → Prop) : Prop :=
  ∀ (m : MethodId) (meth : Method) (c : Code) (A : Pt) (g : JFrame) (ig : Instr) (mk : MethodId) (a : Array Value),
    Stand p l e R s m sargs below meth c A.U A.locs A.cells A.slots → g.method = m → g.locals.size = c.maxLocals → decode c.code g.pc = .ok (ig, len) →
    2 * g.monitorRoom + (g.stack.map fun v => v.category).sum ≤ W9 → A.U.methodNamed? y = some mk → Pre A a →
    (∃ (v : Option Value) (B : Pt), Stand p l e R s m sargs below meth c B.U B.locs B.cells B.slots ∧ Post A a v B ∧
      Steps p.tables e below (doInvoke e (A.U.setTop g) [] mk a).1 (B.U.setTop { g with pc := g.pc + len, stack := v.toList ++ g.stack })) ∨
    (∃ (q : Addr) (B : Pt), Stand p l e R s m sargs below meth c B.U B.locs B.cells B.slots ∧ PostX A a q B ∧
      Steps p.tables e below (doInvoke e (A.U.setTop g) [] mk a).1 ((B.U.setTop g).pushFrame (.throwing q)))
section Payer
variable {l : Launch} {R : Room} {p : Program} {e : Env} {below : List Frame} {s : State} {sargs : Array Value} {y : MethodName} {len W9 : Nat}
theorem vx_back {ws : List Cond} {rm : Room} {Pc : Array Value → State → Prop} {Qc : Array Value → State → Outcome → State → Prop} {XC : String → State → State → Prop} {mc ms : Nat} {free : Addr → Prop} {bytes : ByteArray} {maxL : Nat} {ret : Option FieldType}
    (hM : vx_Met l y ws rm Pc Qc XC mc ms free) (hblind : FrameBlind Pc) (hrc : rm.cells = mc) (hrs : rm.slots = ms)
    (hframes : rm.frames + 1 ≤ R.frames) (hlocals : W9 + (maxL + 11) + rm.locals ≤ R.locals)
    (hws : ∀ w ∈ ws, ∀ a' U, s.WarmedH U.vm → w.before a' U = true) (hcode : Cond.code y bytes maxL ret ∈ ws) (hinit : ∀ a' U, s.WarmedH U.vm → (Cond.initialized y.cls).before a' U = true) :
    vx_Back l R p e below s sargs y len W9 (PreOf R mc ms Pc) (PostOf Qc mc ms free) (vx_Post XC mc ms free) := by
  intro m meth c A g ig mk a X hg hsize hdg hW hn hp
  have h1 : (headSpec ws rm).pre.before a A.U = true := atoms_intro fun w hw => hws w hw _ _ X.warmed
  have h2 : (Cond.code y bytes maxL ret).before a A.U = true := hws _ hcode _ _ X.warmed
  have h3 : (Cond.initialized y.cls).before a A.U = true := hinit _ _ X.warmed
  have h4 : A.cells + (headSpec ws rm).room.cells ≤ R.cells := by rw [show (headSpec ws rm).room.cells = mc from hrc]; exact hp.1
  have h5 : A.slots + (headSpec ws rm).room.slots ≤ R.slots := by rw [show (headSpec ws rm).room.slots = ms from hrs]; exact hp.2.1
  have hPc : Pc a (A.U.calling g mk a) := hblind _ _ _ _ hp.2.2
  obtain ⟨U, Ls, c0, s0⟩ := A
  dsimp only [Pt.U, Pt.locs, Pt.cells, Pt.slots] at h1 h2 h3 h4 h5 X hn hPc ⊢
  obtain ⟨methY, cY, hmY, hcY, -, hlY, -, -, -, -⟩ := Cond.code_spec hn h2
  obtain ⟨kY, hkY, -⟩ := className_of_methodNamed hn
  have hinitY : kY.init = .initialized := Cond.initialized_spec (findClass_of_methodNamed hn) hkY h3
  have h : At U g.method c below := by rw [hg]; exact X.here
  have hlocals9 : W9 + (maxL + 11) + (headSpec ws rm).room.locals ≤ R.locals := hlocals
  have happ : (headSpec ws rm).appliesLoose y e.platform (U.calling g mk a) = true :=
    Spec.appliesLoose_calling (g := g) h hdg hn hkY hinitY
      (X.room_calling (g := g) (R' := (headSpec ws rm).room) hsize hmY hcY hframes (by rw [hlY]; omega) h4 h5) h1
  obtain ⟨mid, hmid⟩ := h.above
  have hfr : (U.setTop g).frames = (.java g :: mid) ++ below := by rw [State.frames_setTop' g h.top, hmid]; rfl
  obtain ⟨o, s₂, hsteps, -, hend, hq⟩ := Steps.callFree hM p X.admits X.cas X.clock (acts := []) hfr happ hPc trivial
  have hq' : vx_Q Qc XC mc ms free a (U.calling g mk a) o s₂ := hq
  rw [State.frames_setTop' g h.top] at hend
  obtain ⟨g₀, hg0⟩ := Option.isSome_iff_exists.mp h.top
  obtain ⟨r, hr⟩ := State.topJava?_eq_some.mp hg0
  have hr' : (({ U with heap := s₂.heap, slotsUsed := s₂.slotsUsed } : State).setVm s₂.vm).frames = .java g₀ :: r := hr
  rcases hq' with ⟨hqc, L, hfe, hL⟩ | ⟨q, rfl, E, ce, L, hx, hce, hcv, hcl, hW₂, hsm, hL⟩
  · obtain ⟨⟨v, rfl⟩, hW₂, e2, q2, q3, q4, q5, q6⟩ := id hfe
    have e3 : s₂ = ({ (U.calling g mk a).setFrames s₂.frames with heap := s₂.heap, slotsUsed := s₂.slotsUsed } : State).setVm s₂.vm := by
      have : s₂ = ({ s₂ with vm := (U.calling g mk a).vm } : State).setVm s₂.vm := rfl
      rw [e2] at this
      exact this
    obtain ⟨c₂, i₂, len₂, hc₂, hd₂, hf₂⟩ := hend
    have hW' : U.WarmedH s₂.vm := hW₂
    have hcc : c₂ = c := by
      have h1 : s₂.code? g.method = U.code? g.method := by
        rw [State.code?_eq, State.code?_eq, hW'.alike.method?]
      exact Option.some.inj (hc₂.symm.trans (h1.trans h.code))
    subst hcc
    have hlen : len₂ = len := by rw [hdg] at hd₂; cases hd₂; rfl
    subst hlen
    have hs₂ : s₂ = (({ U with heap := s₂.heap, slotsUsed := s₂.slotsUsed } : State).setVm s₂.vm).setTop { g with pc := g.pc + len₂, stack := v.toList ++ g.stack } := by
      refine e3.trans ?_
      rw [hf₂, State.calling_eq h.top, State.setFrames_setFrames, State.setTop_of_frames _ hr', hr]
      rfl
    have hsame : U.sameButNew ({ U with heap := s₂.heap, slotsUsed := s₂.slotsUsed } : State) L mc ms := by
      refine ⟨?_, q2, q3, q4, q5, q6⟩
      obtain ⟨t, ht, -⟩ := State.frames_cons hr
      show ({ U with heap := s₂.heap, slotsUsed := s₂.slotsUsed } : State) = { U.setFrames U.frames with heap := s₂.heap, slotsUsed := s₂.slotsUsed }
      rw [State.setFrames_self ht]
    subst hg
    refine Or.inl ⟨v, ⟨(({ U with heap := s₂.heap, slotsUsed := s₂.slotsUsed } : State).setVm s₂.vm), Ls ++ L, c0 + mc, s0 + ms⟩,
      ⟨X.admits, X.cas, X.clock, X.frames, X.room, X.hears, X.method, X.code, (X.here.setHeapUsed s₂.heap s₂.slotsUsed).setVm hW'.alike, X.tail, State.WarmedH.trans X.warmed hW', X.limits, X.bytes, X.same.trans (hsame.setVm s.vm)⟩,
      ⟨g, mk, s₂, L, rfl, rfl, hqc, rfl, hL, rfl, rfl⟩, ?_⟩
    show Steps p.tables e below _ ((({ U with heap := s₂.heap, slotsUsed := s₂.slotsUsed } : State).setVm s₂.vm).setTop { g with pc := g.pc + len₂, stack := v.toList ++ g.stack })
    rw [← hs₂]
    exact hsteps
  · obtain ⟨e2, q2, q3, q4, q5, q6⟩ := id hsm
    have e3 : s₂ = ({ (U.calling g mk a).setFrames s₂.frames with heap := s₂.heap, slotsUsed := s₂.slotsUsed } : State).setVm s₂.vm := by
      have : s₂ = ({ s₂ with vm := (U.calling g mk a).vm } : State).setVm s₂.vm := rfl
      rw [e2] at this
      exact this
    have hf₂ : s₂.frames = .throwing q :: .java g :: U.frames.tail := hend
    have hW' : U.WarmedH s₂.vm := hW₂
    have hs₂ : s₂ = ((({ U with heap := s₂.heap, slotsUsed := s₂.slotsUsed } : State).setVm s₂.vm).setTop g).pushFrame (.throwing q) := by
      refine e3.trans ?_
      rw [hf₂, State.calling_eq h.top, State.setFrames_setFrames, State.pushFrame, State.frames_setTop _ hr', State.setTop_of_frames _ hr', State.setFrames_setFrames, hr]
      rfl
    have hsame : U.sameButNew ({ U with heap := s₂.heap, slotsUsed := s₂.slotsUsed } : State) L mc ms := by
      refine ⟨?_, q2, q3, q4, q5, q6⟩
      obtain ⟨t, ht, -⟩ := State.frames_cons hr
      show ({ U with heap := s₂.heap, slotsUsed := s₂.slotsUsed } : State) = { U.setFrames U.frames with heap := s₂.heap, slotsUsed := s₂.slotsUsed }
      rw [State.setFrames_self ht]
    subst hg
    refine Or.inr ⟨q, ⟨(({ U with heap := s₂.heap, slotsUsed := s₂.slotsUsed } : State).setVm s₂.vm), Ls ++ L, c0 + mc, s0 + ms⟩,
      ⟨X.admits, X.cas, X.clock, X.frames, X.room, X.hears, X.method, X.code, (X.here.setHeapUsed s₂.heap s₂.slotsUsed).setVm hW'.alike, X.tail, State.WarmedH.trans X.warmed hW', X.limits, X.bytes, X.same.trans (hsame.setVm s.vm)⟩,
      ⟨g, mk, s₂, L, E, ce, rfl, rfl, hx, hce, hcv, hcl, rfl, hL, rfl, rfl⟩, ?_⟩
    show Steps p.tables e below _ (((({ U with heap := s₂.heap, slotsUsed := s₂.slotsUsed } : State).setVm s₂.vm).setTop g).pushFrame (.throwing q))
    rw [← hs₂]
    exact hsteps
end Payer
section Calls
variable {p : Program} {l : Launch} {e : Env} {R : Room} {s : State} {m : MethodId} {args : Array Value} {below : List Frame} {meth : Method} {c : Code} {T : State} {locs : List Loc} {cells slots : Nat}
theorem vx_callV (X : Stand p l e R s m args below meth c T locs cells slots) (hexec : p.tables.exec = Jvm.exec) {own C : String} {index : Nat} {y : MethodName} {bytes : ByteArray} {maxL : Nat} {ret : Option FieldType}
    (hown : s.vm.findClass own = some m.cls) (hlink : (Cond.methodLink own index y).before args s = true) (hinst : (Cond.instanceMethod y).before args s = true) (hsel : (Cond.selects C y y).before args s = true)
    (hcode : (Cond.code y bytes maxL ret).before args s = true) (hy : y.cls ≠ "java/lang/invoke/MethodHandle" ∧ y.cls ≠ "java/lang/invoke/VarHandle")
    {W9 : Nat} {Pre : Pt → Array Value → Prop} {Post : Pt → Array Value → Option Value → Pt → Prop} {PostX : Pt → Array Value → Addr → Pt → Prop} (hK : vx_Back l R p e below s args y 3 W9 Pre Post PostX)
    {b : Addr} {cellB : Cell} (hcell : T.heap[b]? = some cellB) (hobj : cellB.vm.isStatics = false) (hcls : s.vm.findClass C = some cellB.cls)
    {g : JFrame} (hg : g.method = m) (hsize : g.locals.size = c.maxLocals) {argsL rest : List Value} (hlen : ∀ sig, parseMethodDescriptor y.desc = some sig → argsL.length = sig.parameters.length)
    (hstack : g.stack = argsL.reverse ++ .ref b :: rest) (hW : 2 * g.monitorRoom + (rest.map fun v => v.category).sum ≤ W9) (hdg : decode c.code g.pc = .ok (.invokevirtual index, 3))
    (hpre : ∀ vm₁, s.WarmedH vm₁ → Pre ⟨T.setVm vm₁, locs, cells, slots⟩ (Value.ref b :: argsL).toArray) :
    (∃ (v : Option Value) (vm₁ : Vm) (B : Pt), s.WarmedH vm₁ ∧ Stand p l e R s m args below meth c B.U B.locs B.cells B.slots ∧ Post ⟨T.setVm vm₁, locs, cells, slots⟩ (Value.ref b :: argsL).toArray v B ∧
      ∀ target, Steps p.tables e below (B.U.setTop { g with pc := g.pc + 3, stack := v.toList ++ rest }) target → Steps p.tables e below (T.setTop g) target) ∨
    (∃ (q : Addr) (vm₁ : Vm) (B : Pt), s.WarmedH vm₁ ∧ Stand p l e R s m args below meth c B.U B.locs B.cells B.slots ∧ PostX ⟨T.setVm vm₁, locs, cells, slots⟩ (Value.ref b :: argsL).toArray q B ∧
      Steps p.tables e below (T.setTop g) ((B.U.setTop { g with stack := rest }).pushFrame (.throwing q))) := by
  obtain ⟨mk, methM, hnamed, hmethM, hstM, habM⟩ := Cond.instanceMethod_spec hinst
  obtain ⟨methM', cM, hmethM', -, -, -, -, -, -, hsigM⟩ := Cond.code_spec hnamed hcode
  cases hmethM.symm.trans hmethM'
  obtain ⟨c2, r2, m2, q1, q2, q3, q4, kP, hkP, hkPi⟩ := Cond.selects_spec hsel
  cases hcls.symm.trans q1
  cases (State.methodFound?_of_named hnamed hy).symm.trans q2
  cases hnamed.symm.trans q3
  have hselP : selectMethod e.platform s.vm cellB.cls mk = .method mk := by rw [Launch.admits_selectMethod X.admits]; exact q4
  obtain ⟨vm₁, X₁, hstep₁⟩ := X.invokevirtual hexec hown hlink hnamed hmethM hstM hkP hkPi hy (a := b) (cell := cellB) hcell
    (fun z h => by rw [h] at hobj; cases hobj) hselP hmethM habM hkP hkPi (g := g) hg (argsL := argsL) (rest := rest) (hlen _ hsigM) hstack hdg
  rcases hK m meth c ⟨T.setVm vm₁, locs, cells, slots⟩ { g with stack := rest } (.invokevirtual index) mk (Value.ref b :: argsL).toArray X₁ hg hsize hdg hW (X₁.named hnamed) (hpre vm₁ X₁.warmed) with ⟨v, B, X', hpost, hsteps⟩ | ⟨q, B, X', hpost, hsteps⟩
  · exact Or.inl ⟨v, vm₁, B, X₁.warmed, X', hpost, fun target h => hstep₁ _ fun acts => by rw [doInvoke_state]; exact hsteps.trans h⟩
  · exact Or.inr ⟨q, vm₁, B, X₁.warmed, X', hpost, hstep₁ _ fun acts => by rw [doInvoke_state]; exact hsteps⟩
theorem vx_callS (X : Stand p l e R s m args below meth c T locs cells slots) (hexec : p.tables.exec = Jvm.exec) {own : String} {index : Nat} {y : MethodName} {bytes : ByteArray} {maxL : Nat} {ret : Option FieldType}
    (hown : s.vm.findClass own = some m.cls) (hlink : (Cond.methodLink own index y).before args s = true) (hstat : (Cond.static y).before args s = true) (hinit : (Cond.initialized y.cls).before args s = true)
    (hcode : (Cond.code y bytes maxL ret).before args s = true) (hy : y.cls ≠ "java/lang/invoke/MethodHandle" ∧ y.cls ≠ "java/lang/invoke/VarHandle")
    {W9 : Nat} {Pre : Pt → Array Value → Prop} {Post : Pt → Array Value → Option Value → Pt → Prop} {PostX : Pt → Array Value → Addr → Pt → Prop} (hK : vx_Back l R p e below s args y 3 W9 Pre Post PostX)
    {g : JFrame} (hg : g.method = m) (hsize : g.locals.size = c.maxLocals) {argsL rest : List Value} (hlen : ∀ sig, parseMethodDescriptor y.desc = some sig → argsL.length = sig.parameters.length)
    (hstack : g.stack = argsL.reverse ++ rest) (hW : 2 * g.monitorRoom + (rest.map fun v => v.category).sum ≤ W9) (hdg : decode c.code g.pc = .ok (.invokestatic index, 3))
    (hpre : ∀ vm₁, s.WarmedH vm₁ → Pre ⟨T.setVm vm₁, locs, cells, slots⟩ argsL.toArray) :
    (∃ (v : Option Value) (vm₁ : Vm) (B : Pt), s.WarmedH vm₁ ∧ Stand p l e R s m args below meth c B.U B.locs B.cells B.slots ∧ Post ⟨T.setVm vm₁, locs, cells, slots⟩ argsL.toArray v B ∧
      ∀ target, Steps p.tables e below (B.U.setTop { g with pc := g.pc + 3, stack := v.toList ++ rest }) target → Steps p.tables e below (T.setTop g) target) ∨
    (∃ (q : Addr) (vm₁ : Vm) (B : Pt), s.WarmedH vm₁ ∧ Stand p l e R s m args below meth c B.U B.locs B.cells B.slots ∧ PostX ⟨T.setVm vm₁, locs, cells, slots⟩ argsL.toArray q B ∧
      Steps p.tables e below (T.setTop g) ((B.U.setTop { g with stack := rest }).pushFrame (.throwing q))) := by
  obtain ⟨mk, hnamed⟩ := Cond.code_named hcode
  obtain ⟨methM, cM, hmethM, -, -, -, -, -, -, hsigM⟩ := Cond.code_spec hnamed hcode
  have hstatic : methM.isStatic = true := Cond.static_spec hnamed hmethM hstat
  obtain ⟨kP, hkP, -⟩ := className_of_methodNamed hnamed
  have hinitP : kP.init = .initialized := Cond.initialized_spec (findClass_of_methodNamed hnamed) hkP hinit
  obtain ⟨vm₁, X₁, hstep₁⟩ := X.invokestatic hexec hown hlink hnamed hmethM hstatic hkP hinitP hy (g := g) hg (argsL := argsL) (rest := rest) (hlen _ hsigM) hstack hdg
  rcases hK m meth c ⟨T.setVm vm₁, locs, cells, slots⟩ { g with stack := rest } (.invokestatic index) mk argsL.toArray X₁ hg hsize hdg hW (X₁.named hnamed) (hpre vm₁ X₁.warmed) with ⟨v, B, X', hpost, hsteps⟩ | ⟨q, B, X', hpost, hsteps⟩
  · exact Or.inl ⟨v, vm₁, B, X₁.warmed, X', hpost, fun target h => hstep₁ _ fun acts => by rw [doInvoke_state]; exact hsteps.trans h⟩
  · exact Or.inr ⟨q, vm₁, B, X₁.warmed, X', hpost, hstep₁ _ fun acts => by rw [doInvoke_state]; exact hsteps⟩
end Calls
theorem vx_cls {s : State} {T : State} {vm₁ : Vm} {E : String} {k : ClassId} (hW : s.WarmedH vm₁) (h : (T.setVm vm₁).vm.findClass E = some k) : s.vm.findClass E = some k := by
  have h1 : vm₁.findClass E = some k := h
  rw [hW.alike.findClass] at h1
  exact h1
/-- the method's frame g, with q thrown over it -/
def vx_W (p : Program) (l : Launch) (e : Env) (R : Room) (s : State) (m : MethodId) (args : Array Value) (below : List Frame) (meth : Method) (c : Code) (H : Heap) (locs : List Loc) (cells slots : Nat) (Q : State → Prop) (g : JFrame) (q : Addr) : Prop :=
  ∀ T : State, T.heap = H → Stand p l e R s m args below meth c T locs cells slots → ∃ t, Steps p.tables e below ((T.setTop g).pushFrame (.throwing q)) t ∧ Q t
def vx_Run (p : Program) (l : Launch) (e : Env) (R : Room) (s : State) (m : MethodId) (args : Array Value) (below : List Frame) (meth : Method) (c : Code) (H : Heap) (locs : List Loc) (cells slots mc ms : Nat) (g : JFrame) (rest : List Value) (Qa : State → Outcome → State → Prop) (XC : String → State → State → Prop) (free : Addr → Prop) : Prop :=
  ∀ T : State, T.heap = H → Stand p l e R s m args below meth c T locs cells slots →
    (∃ (v : Option Value) (st₀ t T' : State) (L : List Loc), st₀.heap = H ∧ Stand p l e R s m args below meth c T' (locs ++ L) (cells + mc) (slots + ms) ∧ (∀ q ∈ L, free q.base) ∧ T'.heap = t.heap ∧ T'.vm = t.vm ∧ Qa st₀ (.returned v) t ∧
      Goes p e below T g T' { g with pc := g.pc + 3, stack := v.toList ++ rest }) ∨
    (∃ (q : Addr) (st₀ t T' : State) (L : List Loc) (E : String) (ce : Cell), st₀.heap = H ∧ Stand p l e R s m args below meth c T' (locs ++ L) (cells + mc) (slots + ms) ∧ (∀ z ∈ L, free z.base) ∧ T'.heap = t.heap ∧ T'.vm = t.vm ∧ XC E st₀ t ∧ t.heap[q]? = some ce ∧ ce.vm = .none ∧ s.vm.findClass E = some ce.cls ∧
      Steps p.tables e below (T.setTop g) ((T'.setTop { g with stack := rest }).pushFrame (.throwing q)))
def vx_X {S : Type} (px : S → Prop) (B : String → S → State → Prop) (A : Nat → Prop) : String → State → State → Prop := fun E st t => ∃ u : S, px u ∧ B E u t ∧ va_F A st t
section Runs
variable {p : Program} {l : Launch} {e : Env} {R : Room} {s : State} {m : MethodId} {args : Array Value} {below : List Frame} {meth : Method} {c : Code} {H : Heap} {locs : List Loc} {cells slots : Nat}
variable {y : MethodName} {bytes cc : ByteArray} {maxL nL mc ms n index : Nat} {ret : Option FieldType} {ws : List Cond} {rm : Room} {Pc : Array Value → State → Prop} {Qc : Array Value → State → Outcome → State → Prop} {XC : String → State → State → Prop} {free : Addr → Prop} {Ts : List Cond} {own C : String} {b : Addr} {As rest : List Value} {g : JFrame}
theorem vx_callBack (cb : CallB R s args own index y bytes maxL ret ws rm mc ms n) (hM : vx_Met l y ws rm Pc Qc XC mc ms free) (hbl : FrameBlind Pc) : vx_Back l R p e below s args y 3 8 (PreOf R mc ms Pc) (PostOf Qc mc ms free) (vx_Post XC mc ms free) := by
  obtain ⟨hrc, hrs, hfr, hlo, hws, hcw, -, hini, -⟩ := cb
  exact vx_back (bytes := bytes) (maxL := maxL) (ret := ret) hM hbl hrc hrs hfr hlo hws hcw (fun a' U hW => word_at hW (Or.inl (by first | rfl | simp [Cond.onTables, Cond.keeps, Cond.steady])) hini)
theorem vx_runV (S : CallFix p m c cc nL s args Ts own) (hM : vx_Met l y ws rm Pc Qc XC mc ms free) (cw : CallW R s args own C index y bytes maxL ret ws rm mc ms n) (hp : PreV s H C b Pc As)
    (hg : g.method = m) (hn : As.length = n) (hsize : g.locals.size = nL) (hstack : g.stack = As.reverse ++ .ref b :: rest) (hW : 2 * g.monitorRoom + (rest.map fun v => v.category).sum ≤ 8) (hdg : decode cc g.pc = .ok (.invokevirtual index, 3)) (hf : cells + mc ≤ R.cells ∧ slots + ms ≤ R.slots) :
    vx_Run p l e R s m args below meth c H locs cells slots mc ms g rest (Qc (Value.ref b :: As).toArray) XC free := by
  have hK : vx_Back l R p e below s args y 3 8 (PreOf R mc ms Pc) (PostOf Qc mc ms free) (vx_Post XC mc ms free) := vx_callBack cw.1 hM hp.1
  obtain ⟨⟨-, -, -, -, -, -, hcode, -, hy, hlen, hl⟩, hin, hse⟩ := cw
  obtain ⟨hx, hb, hml, ho, -⟩ := S
  obtain ⟨-, ⟨cellB, hcB, hoB, hclB⟩, hPc⟩ := hp
  intro T hT X
  rcases vx_callV X hx (C := C) (bytes := bytes) (maxL := maxL) (ret := ret) ho hl hin hse hcode hy hK (by rw [hT]; exact hcB) hoB hclB hg (hsize.trans hml.symm) (argsL := As) (rest := rest) (fun sig h => hn.trans (hlen sig h)) hstack hW (by rw [hb]; exact hdg)
    (fun vm₁ hW₁ => ⟨hf.1, hf.2, hPc (T.setVm vm₁) hT hW₁⟩) with ⟨v, vm₁, ⟨U', l2, c2, s2⟩, hW₁, X', ⟨g', mk, t, L, e1, e2, hq, h1, hL, h2, h3⟩, st⟩ | ⟨q, vm₁, ⟨U', l2, c2, s2⟩, hW₁, X', ⟨g', mk, t, L, E, ce, e1, e2, hq, hce, hcv, hcl, h1, hL, h2, h3⟩, st⟩
  · dsimp only [Pt.U, Pt.locs, Pt.cells, Pt.slots] at X' e1 e2 h1 h2 h3 st
    subst h1; subst h2; subst h3
    exact Or.inl ⟨v, (T.setVm vm₁).calling g' mk (Value.ref b :: As).toArray, t, U', L, hT, X', hL, e1, e2, hq, st⟩
  · dsimp only [Pt.U, Pt.locs, Pt.cells, Pt.slots] at X' e1 e2 h1 h2 h3 st hcl
    subst h1; subst h2; subst h3
    exact Or.inr ⟨q, (T.setVm vm₁).calling g' mk (Value.ref b :: As).toArray, t, U', L, E, ce, hT, X', hL, e1, e2, hq, hce, hcv, vx_cls hW₁ hcl, st⟩
theorem vx_runS (S : CallFix p m c cc nL s args Ts own) (hM : vx_Met l y ws rm Pc Qc XC mc ms free) (cw : CallB R s args own index y bytes maxL ret ws rm mc ms n ∧ (Cond.static y).before args s = true) (hp : PreS s H Pc As)
    (hg : g.method = m) (hn : As.length = n) (hsize : g.locals.size = nL) (hstack : g.stack = As.reverse ++ rest) (hW : 2 * g.monitorRoom + (rest.map fun v => v.category).sum ≤ 8) (hdg : decode cc g.pc = .ok (.invokestatic index, 3)) (hf : cells + mc ≤ R.cells ∧ slots + ms ≤ R.slots) :
    vx_Run p l e R s m args below meth c H locs cells slots mc ms g rest (Qc As.toArray) XC free := by
  have hK : vx_Back l R p e below s args y 3 8 (PreOf R mc ms Pc) (PostOf Qc mc ms free) (vx_Post XC mc ms free) := vx_callBack cw.1 hM hp.1
  obtain ⟨⟨-, -, -, -, -, -, hcode, hini, hy, hlen, hl⟩, hstt⟩ := cw
  obtain ⟨hx, hb, hml, ho, -⟩ := S
  intro T hT X
  rcases vx_callS X hx (bytes := bytes) (maxL := maxL) (ret := ret) ho hl hstt hini hcode hy hK hg (hsize.trans hml.symm) (argsL := As) (rest := rest) (fun sig h => hn.trans (hlen sig h)) hstack hW (by rw [hb]; exact hdg)
    (fun vm₁ hW₁ => ⟨hf.1, hf.2, hp.2 (T.setVm vm₁) hT hW₁⟩) with ⟨v, vm₁, ⟨U', l2, c2, s2⟩, hW₁, X', ⟨g', mk, t, L, e1, e2, hq, h1, hL, h2, h3⟩, st⟩ | ⟨q, vm₁, ⟨U', l2, c2, s2⟩, hW₁, X', ⟨g', mk, t, L, E, ce, e1, e2, hq, hce, hcv, hcl, h1, hL, h2, h3⟩, st⟩
  · dsimp only [Pt.U, Pt.locs, Pt.cells, Pt.slots] at X' e1 e2 h1 h2 h3 st
    subst h1; subst h2; subst h3
    exact Or.inl ⟨v, (T.setVm vm₁).calling g' mk As.toArray, t, U', L, hT, X', hL, e1, e2, hq, st⟩
  · dsimp only [Pt.U, Pt.locs, Pt.cells, Pt.slots] at X' e1 e2 h1 h2 h3 st hcl
    subst h1; subst h2; subst h3
    exact Or.inr ⟨q, (T.setVm vm₁).calling g' mk As.toArray, t, U', L, E, ce, hT, X', hL, e1, e2, hq, hce, hcv, vx_cls hW₁ hcl, st⟩
end Runs
section Rows
variable {p : Program} {l : Launch} {e : Env} {R : Room} {s : State} {m : MethodId} {args : Array Value} {below : List Frame} {meth : Method} {c : Code} {H : Heap} {locs : List Loc} {cells slots : Nat} {Q : State → Prop}
variable {mc ms : Nat} {free : Addr → Prop} {A0 A1 : Nat → Prop} {H0 : Heap} {a : Array Value} {pc : Nat} {ls : Array Slot} {st0 rest : List Value}
theorem vx_keep {st₀ t T' : State} {L : List Loc} (h0 : st₀.heap = H) (e1 : T'.heap = t.heap) (hS : va_S A0 H0 H locs) (hA : ∀ q, q < H.size → A1 q → A0 q) (hf : ∀ q, free q → A0 q) (hL : ∀ q ∈ L, free q.base) (hF : va_F A1 st₀ t) :
    H.size ≤ T'.heap.size ∧ (∀ q : Nat, q < H.size → ¬ A1 q → T'.heap[q]? = H[q]?) ∧ va_S A0 H0 T'.heap (locs ++ L) := by
  obtain ⟨hz, hk⟩ := hF
  rw [h0] at hz hk
  exact ⟨by rw [e1]; exact hz, fun q h1 h2 => by rw [e1]; exact hk q h1 h2,
    ⟨Nat.le_trans hS.1 (by rw [e1]; exact hz), fun q h1 h2 => by rw [e1, hk q (Nat.lt_of_lt_of_le h1 hS.1) (fun z => h2 (hA q (Nat.lt_of_lt_of_le h1 hS.1) z))]; exact hS.2.1 q h1 h2, fun q hq => by
      rcases List.mem_append.mp hq with h | h
      · exact hS.2.2 q h
      · exact hf _ (hL q h)⟩⟩
theorem vx_calli {S SX : Type} {post : Int32 → S → Prop} {px : SX → Prop} {B : S → State → Prop} {BX : String → SX → State → Prop} {AX : Nat → Prop} (hr : vx_Run p l e R s m args below meth c H locs cells slots mc ms (F0 m pc ls st0) rest (va_Qi post B A1 a) (vx_X px BX AX) free) (hS : va_S A0 H0 H locs) (hA : ∀ q, q < H.size → A1 q → A0 q) (hf : ∀ q, free q → A0 q) (hAX : ∀ q, q < H.size → AX q → A0 q)
    (kx : ∀ (E : String) (ce : Cell) (q9 : Addr) (u : SX) (t : State) (H1 : Heap) (locs1 : List Loc), t.heap = H1 → s.vm.Alike t.vm → px u → BX E u t → H.size ≤ H1.size → (∀ q : Nat, q < H.size → ¬ AX q → H1[q]? = H[q]?) → va_S A0 H0 H1 locs1 → H1[q9]? = some ce → ce.vm = .none → s.vm.findClass E = some ce.cls → vx_W p l e R s m args below meth c H1 locs1 (cells + mc) (slots + ms) Q (F0 m pc ls rest) q9)
    (kk : ∀ (r : Int32) (u : S) (t : State) (H1 : Heap) (locs1 : List Loc), t.heap = H1 → s.vm.Alike t.vm → post r u → B u t → H.size ≤ H1.size → (∀ q : Nat, q < H.size → ¬ A1 q → H1[q]? = H[q]?) → va_S A0 H0 H1 locs1 → W p l e R s m args below meth c H1 locs1 (cells + mc) (slots + ms) Q (F0 m (pc + 3) ls (.int r :: rest))) : W p l e R s m args below meth c H locs cells slots Q (F0 m pc ls st0) := by
  intro T hT X
  rcases hr T hT X with ⟨v, st₀, t, T', L, h0, X', hL, e1, e2, ⟨⟨r, u, hv, hp, hb⟩, hF⟩, st⟩ | ⟨q, st₀, t, T', L, E, ce, h0, X', hL, e1, e2, ⟨u, hp, hb, hF⟩, hce, hcv, hcl, st⟩
  · cases hv
    obtain ⟨k1, k2, k3⟩ := vx_keep h0 e1 hS hA hf hL hF
    obtain ⟨t2, a1, b1⟩ := kk r u t T'.heap (locs ++ L) e1.symm (by rw [← e2]; exact X'.warmed.alike) hp hb k1 k2 k3 T' rfl X'
    exact ⟨t2, st t2 a1, b1⟩
  · obtain ⟨k1, k2, k3⟩ := vx_keep h0 e1 hS hAX hf hL hF
    obtain ⟨t2, a1, b1⟩ := kx E ce q u t T'.heap (locs ++ L) e1.symm (by rw [← e2]; exact X'.warmed.alike) hp hb k1 k2 k3 (by rw [e1]; exact hce) hcv hcl T' rfl X'
    exact ⟨t2, st.trans a1, b1⟩
theorem vx_calll {S SX : Type} {post : Int64 → S → Prop} {px : SX → Prop} {B : S → State → Prop} {BX : String → SX → State → Prop} {AX : Nat → Prop} (hr : vx_Run p l e R s m args below meth c H locs cells slots mc ms (F0 m pc ls st0) rest (va_Ql post B A1 a) (vx_X px BX AX) free) (hS : va_S A0 H0 H locs) (hA : ∀ q, q < H.size → A1 q → A0 q) (hf : ∀ q, free q → A0 q) (hAX : ∀ q, q < H.size → AX q → A0 q)
    (kx : ∀ (E : String) (ce : Cell) (q9 : Addr) (u : SX) (t : State) (H1 : Heap) (locs1 : List Loc), t.heap = H1 → s.vm.Alike t.vm → px u → BX E u t → H.size ≤ H1.size → (∀ q : Nat, q < H.size → ¬ AX q → H1[q]? = H[q]?) → va_S A0 H0 H1 locs1 → H1[q9]? = some ce → ce.vm = .none → s.vm.findClass E = some ce.cls → vx_W p l e R s m args below meth c H1 locs1 (cells + mc) (slots + ms) Q (F0 m pc ls rest) q9)
    (kk : ∀ (r : Int64) (u : S) (t : State) (H1 : Heap) (locs1 : List Loc), t.heap = H1 → s.vm.Alike t.vm → post r u → B u t → H.size ≤ H1.size → (∀ q : Nat, q < H.size → ¬ A1 q → H1[q]? = H[q]?) → va_S A0 H0 H1 locs1 → W p l e R s m args below meth c H1 locs1 (cells + mc) (slots + ms) Q (F0 m (pc + 3) ls (.long r :: rest))) : W p l e R s m args below meth c H locs cells slots Q (F0 m pc ls st0) := by
  intro T hT X
  rcases hr T hT X with ⟨v, st₀, t, T', L, h0, X', hL, e1, e2, ⟨⟨r, u, hv, hp, hb⟩, hF⟩, st⟩ | ⟨q, st₀, t, T', L, E, ce, h0, X', hL, e1, e2, ⟨u, hp, hb, hF⟩, hce, hcv, hcl, st⟩
  · cases hv
    obtain ⟨k1, k2, k3⟩ := vx_keep h0 e1 hS hA hf hL hF
    obtain ⟨t2, a1, b1⟩ := kk r u t T'.heap (locs ++ L) e1.symm (by rw [← e2]; exact X'.warmed.alike) hp hb k1 k2 k3 T' rfl X'
    exact ⟨t2, st t2 a1, b1⟩
  · obtain ⟨k1, k2, k3⟩ := vx_keep h0 e1 hS hAX hf hL hF
    obtain ⟨t2, a1, b1⟩ := kx E ce q u t T'.heap (locs ++ L) e1.symm (by rw [← e2]; exact X'.warmed.alike) hp hb k1 k2 k3 (by rw [e1]; exact hce) hcv hcl T' rfl X'
    exact ⟨t2, st.trans a1, b1⟩
theorem vx_callf {S SX : Type} {post : UInt32 → S → Prop} {px : SX → Prop} {B : S → State → Prop} {BX : String → SX → State → Prop} {AX : Nat → Prop} (hr : vx_Run p l e R s m args below meth c H locs cells slots mc ms (F0 m pc ls st0) rest (va_Qf post B A1 a) (vx_X px BX AX) free) (hS : va_S A0 H0 H locs) (hA : ∀ q, q < H.size → A1 q → A0 q) (hf : ∀ q, free q → A0 q) (hAX : ∀ q, q < H.size → AX q → A0 q)
    (kx : ∀ (E : String) (ce : Cell) (q9 : Addr) (u : SX) (t : State) (H1 : Heap) (locs1 : List Loc), t.heap = H1 → s.vm.Alike t.vm → px u → BX E u t → H.size ≤ H1.size → (∀ q : Nat, q < H.size → ¬ AX q → H1[q]? = H[q]?) → va_S A0 H0 H1 locs1 → H1[q9]? = some ce → ce.vm = .none → s.vm.findClass E = some ce.cls → vx_W p l e R s m args below meth c H1 locs1 (cells + mc) (slots + ms) Q (F0 m pc ls rest) q9)
    (kk : ∀ (r : UInt32) (u : S) (t : State) (H1 : Heap) (locs1 : List Loc), t.heap = H1 → s.vm.Alike t.vm → post r u → B u t → H.size ≤ H1.size → (∀ q : Nat, q < H.size → ¬ A1 q → H1[q]? = H[q]?) → va_S A0 H0 H1 locs1 → W p l e R s m args below meth c H1 locs1 (cells + mc) (slots + ms) Q (F0 m (pc + 3) ls (.float r :: rest))) : W p l e R s m args below meth c H locs cells slots Q (F0 m pc ls st0) := by
  intro T hT X
  rcases hr T hT X with ⟨v, st₀, t, T', L, h0, X', hL, e1, e2, ⟨⟨r, u, hv, hp, hb⟩, hF⟩, st⟩ | ⟨q, st₀, t, T', L, E, ce, h0, X', hL, e1, e2, ⟨u, hp, hb, hF⟩, hce, hcv, hcl, st⟩
  · cases hv
    obtain ⟨k1, k2, k3⟩ := vx_keep h0 e1 hS hA hf hL hF
    obtain ⟨t2, a1, b1⟩ := kk r u t T'.heap (locs ++ L) e1.symm (by rw [← e2]; exact X'.warmed.alike) hp hb k1 k2 k3 T' rfl X'
    exact ⟨t2, st t2 a1, b1⟩
  · obtain ⟨k1, k2, k3⟩ := vx_keep h0 e1 hS hAX hf hL hF
    obtain ⟨t2, a1, b1⟩ := kx E ce q u t T'.heap (locs ++ L) e1.symm (by rw [← e2]; exact X'.warmed.alike) hp hb k1 k2 k3 (by rw [e1]; exact hce) hcv hcl T' rfl X'
    exact ⟨t2, st.trans a1, b1⟩
theorem vx_calld {S SX : Type} {post : UInt64 → S → Prop} {px : SX → Prop} {B : S → State → Prop} {BX : String → SX → State → Prop} {AX : Nat → Prop} (hr : vx_Run p l e R s m args below meth c H locs cells slots mc ms (F0 m pc ls st0) rest (va_Qd post B A1 a) (vx_X px BX AX) free) (hS : va_S A0 H0 H locs) (hA : ∀ q, q < H.size → A1 q → A0 q) (hf : ∀ q, free q → A0 q) (hAX : ∀ q, q < H.size → AX q → A0 q)
    (kx : ∀ (E : String) (ce : Cell) (q9 : Addr) (u : SX) (t : State) (H1 : Heap) (locs1 : List Loc), t.heap = H1 → s.vm.Alike t.vm → px u → BX E u t → H.size ≤ H1.size → (∀ q : Nat, q < H.size → ¬ AX q → H1[q]? = H[q]?) → va_S A0 H0 H1 locs1 → H1[q9]? = some ce → ce.vm = .none → s.vm.findClass E = some ce.cls → vx_W p l e R s m args below meth c H1 locs1 (cells + mc) (slots + ms) Q (F0 m pc ls rest) q9)
    (kk : ∀ (r : UInt64) (u : S) (t : State) (H1 : Heap) (locs1 : List Loc), t.heap = H1 → s.vm.Alike t.vm → post r u → B u t → H.size ≤ H1.size → (∀ q : Nat, q < H.size → ¬ A1 q → H1[q]? = H[q]?) → va_S A0 H0 H1 locs1 → W p l e R s m args below meth c H1 locs1 (cells + mc) (slots + ms) Q (F0 m (pc + 3) ls (.double r :: rest))) : W p l e R s m args below meth c H locs cells slots Q (F0 m pc ls st0) := by
  intro T hT X
  rcases hr T hT X with ⟨v, st₀, t, T', L, h0, X', hL, e1, e2, ⟨⟨r, u, hv, hp, hb⟩, hF⟩, st⟩ | ⟨q, st₀, t, T', L, E, ce, h0, X', hL, e1, e2, ⟨u, hp, hb, hF⟩, hce, hcv, hcl, st⟩
  · cases hv
    obtain ⟨k1, k2, k3⟩ := vx_keep h0 e1 hS hA hf hL hF
    obtain ⟨t2, a1, b1⟩ := kk r u t T'.heap (locs ++ L) e1.symm (by rw [← e2]; exact X'.warmed.alike) hp hb k1 k2 k3 T' rfl X'
    exact ⟨t2, st t2 a1, b1⟩
  · obtain ⟨k1, k2, k3⟩ := vx_keep h0 e1 hS hAX hf hL hF
    obtain ⟨t2, a1, b1⟩ := kx E ce q u t T'.heap (locs ++ L) e1.symm (by rw [← e2]; exact X'.warmed.alike) hp hb k1 k2 k3 (by rw [e1]; exact hce) hcv hcl T' rfl X'
    exact ⟨t2, st.trans a1, b1⟩
theorem vx_callv {S SX : Type} {post : S → Prop} {px : SX → Prop} {B : S → State → Prop} {BX : String → SX → State → Prop} {AX : Nat → Prop} (hr : vx_Run p l e R s m args below meth c H locs cells slots mc ms (F0 m pc ls st0) rest (va_Qv post B A1 a) (vx_X px BX AX) free) (hS : va_S A0 H0 H locs) (hA : ∀ q, q < H.size → A1 q → A0 q) (hf : ∀ q, free q → A0 q) (hAX : ∀ q, q < H.size → AX q → A0 q)
    (kx : ∀ (E : String) (ce : Cell) (q9 : Addr) (u : SX) (t : State) (H1 : Heap) (locs1 : List Loc), t.heap = H1 → s.vm.Alike t.vm → px u → BX E u t → H.size ≤ H1.size → (∀ q : Nat, q < H.size → ¬ AX q → H1[q]? = H[q]?) → va_S A0 H0 H1 locs1 → H1[q9]? = some ce → ce.vm = .none → s.vm.findClass E = some ce.cls → vx_W p l e R s m args below meth c H1 locs1 (cells + mc) (slots + ms) Q (F0 m pc ls rest) q9)
    (kk : ∀ (u : S) (t : State) (H1 : Heap) (locs1 : List Loc), t.heap = H1 → s.vm.Alike t.vm → post u → B u t → H.size ≤ H1.size → (∀ q : Nat, q < H.size → ¬ A1 q → H1[q]? = H[q]?) → va_S A0 H0 H1 locs1 → W p l e R s m args below meth c H1 locs1 (cells + mc) (slots + ms) Q (F0 m (pc + 3) ls (rest))) : W p l e R s m args below meth c H locs cells slots Q (F0 m pc ls st0) := by
  intro T hT X
  rcases hr T hT X with ⟨v, st₀, t, T', L, h0, X', hL, e1, e2, ⟨⟨u, hv, hp, hb⟩, hF⟩, st⟩ | ⟨q, st₀, t, T', L, E, ce, h0, X', hL, e1, e2, ⟨u, hp, hb, hF⟩, hce, hcv, hcl, st⟩
  · cases hv
    obtain ⟨k1, k2, k3⟩ := vx_keep h0 e1 hS hA hf hL hF
    obtain ⟨t2, a1, b1⟩ := kk u t T'.heap (locs ++ L) e1.symm (by rw [← e2]; exact X'.warmed.alike) hp hb k1 k2 k3 T' rfl X'
    exact ⟨t2, st t2 a1, b1⟩
  · obtain ⟨k1, k2, k3⟩ := vx_keep h0 e1 hS hAX hf hL hF
    obtain ⟨t2, a1, b1⟩ := kx E ce q u t T'.heap (locs ++ L) e1.symm (by rw [← e2]; exact X'.warmed.alike) hp hb k1 k2 k3 (by rw [e1]; exact hce) hcv hcl T' rfl X'
    exact ⟨t2, st.trans a1, b1⟩
/-- caught by the row x of this method's table; the rows ahead don't take it -/
theorem vx_catch {own name : String} {E : String} {ce : Cell} {q : Addr} (hown : s.vm.findClass own = some m.cls) (pre : List ExceptionTableEntry) (x : ExceptionTableEntry) (suf : List ExceptionTableEntry) (hsplit : c.exceptionTable.toList = pre ++ x :: suf)
    (hpass : ∀ z ∈ pre, covers z pc = false ∨ (z.catchType ≠ 0 ∧ ∃ nm : String, (Cond.classLink own z.catchType nm).before args s = true ∧ va_Nc E nm s)) (hx : covers x pc = true) (h0 : x.catchType ≠ 0)
    (hlink : (Cond.classLink own x.catchType name).before args s = true) (hcast : (Cond.castable E name).before args s = true) (hcell : H[q]? = some ce) (hv : ce.vm = .none) (hcl : s.vm.findClass E = some ce.cls)
    (kk : W p l e R s m args below meth c H locs cells slots Q (F0 m x.handlerPc ls [.ref q])) : vx_W p l e R s m args below meth c H locs cells slots Q (F0 m pc ls rest) q := by
  intro T hT X
  have hpl : e.platform.magicAccessors = ({} : Platform).magicAccessors := by rw [X.admits.platform]
  obtain ⟨c3, c4, hc3, hc4, hasg⟩ := Cond.castable_spec hcast
  cases Option.some.inj (hc3.symm.trans hcl)
  obtain ⟨c5, hc5, hcl5⟩ := Cond.classLink_spec hown hlink e.platform hpl
  cases Option.some.inj (hc4.symm.trans hc5)
  obtain ⟨vm', X', st⟩ := X.thenCaughtThrough q (g := F0 m pc ls rest) rfl (Steps.refl _) (by rw [hT]; exact hcell) (by rw [hv]; rfl) (by obtain ⟨k9, h9, -⟩ := Vm.findClass_spec hcl; exact ⟨k9, h9⟩) pre x suf hsplit
    (fun z hz => by
      rcases hpass z hz with h | ⟨hz0, nm, hl1, hn1⟩
      · exact Or.inl h
      · obtain ⟨c6, hc6, hcl6⟩ := Cond.classLink_spec hown hl1 e.platform hpl
        obtain ⟨a8, b8, h1, h2, h3⟩ := hn1
        cases Option.some.inj (h1.symm.trans hcl)
        cases Option.some.inj (h2.symm.trans hc6)
        exact Or.inr ⟨hz0, _, hcl6, h3⟩) hx (Or.inr ⟨h0, c4, hcl5, hasg⟩)
  obtain ⟨t, a1, b1⟩ := kk (T.setVm vm') hT X'
  exact ⟨t, st.trans a1, b1⟩
end Rows
section Ends
variable {p : Program} {l : Launch} {e : Env} {R : Room} {s : State} {m : MethodId} {args : Array Value} {below : List Frame} {meth : Method} {c : Code} {H : Heap} {locs : List Loc} {cells slots : Nat} {Q : State → Prop}
variable {mc ms : Nat} {free : Addr → Prop} {A0 A1 : Nat → Prop} {H0 : Heap} {a : Array Value} {ls : Array Slot} {st0 rest : List Value}
variable {Qc : Array Value → State → Outcome → State → Prop} {XC : String → State → State → Prop}
/-- what a body that may throw owes at its end -/
def vx_MQ (below : List Frame) (Qc : Array Value → State → Outcome → State → Prop) (XC : String → State → State → Prop) (a : Array Value) (s : State) (mc ms : Nat) (free : Addr → Prop) : State → Prop := fun t =>
  ∃ o, t.status = .running ∧ Ended t below o ∧ vx_Q Qc XC mc ms free a s o t
theorem vx_ret {g : JFrame} {mc ms : Nat} (k : W p l e R s m args below meth c H locs cells slots (MQ below Qc args s mc ms free) g) : W p l e R s m args below meth c H locs cells slots (vx_MQ below Qc XC args s mc ms free) g := by
  intro T hT X
  obtain ⟨t, a1, o, b1, b2, b3, b4⟩ := k T hT X
  exact ⟨t, a1, o, b1, b2, Or.inl ⟨b3, b4⟩⟩
/-- not caught here: it goes on to the caller -/
theorem vx_widen {g : JFrame} {q : Addr} {k n : Nat} (h1 : cells ≤ k) (h2 : slots ≤ n) (kk : vx_W p l e R s m args below meth c H locs k n Q g q) : vx_W p l e R s m args below meth c H locs cells slots Q g q := fun T hT X => kk T hT (stand_widen X h1 h2)
theorem vx_out {pc : Nat} {E : String} {ce : Cell} {q : Addr} {mc ms : Nat} (hout : ∀ x ∈ c.exceptionTable.toList, covers x pc = false) (hlocks : meth.locks = false) (hcell : H[q]? = some ce) (hv : ce.vm = .none) (hcl : s.vm.findClass E = some ce.cls)
    (hx : ∀ t : State, t.heap = H → s.vm.Alike t.vm → XC E s t) (hf : ∀ z ∈ locs, free z.base) (hc : cells ≤ mc) (hs : slots ≤ ms) :
    vx_W p l e R s m args below meth c H locs cells slots (vx_MQ below Qc XC args s mc ms free) (F0 m pc ls rest) q := by
  intro T hT X
  obtain ⟨st1, hrun, hend, hW, hsm⟩ := X.leaveThrown q (g := F0 m pc ls rest) rfl rfl rfl hout hlocks
  have hcell9 : (T.setFrames (.throwing q :: below)).heap[q]? = some ce := by
    show T.heap[q]? = some ce
    rw [hT]; exact hcell
  exact ⟨_, st1, .threw q, hrun, hend, Or.inr ⟨q, rfl, E, ce, locs, hx _ hT hW.alike, hcell9, hv, hcl, hW, hsm.mono hc hs, hf⟩⟩
theorem vx_frame {U : State} {k n : Nat} (h : s.sameButNew ({ U with vm := s.vm } : State) locs k n) : s.heap.size ≤ U.heap.size ∧ ∀ q : Nat, q < s.heap.size → (∀ z ∈ locs, z.base ≠ q) → U.heap[q]? = s.heap[q]? := by
  obtain ⟨-, h2, -, -, -, h6⟩ := h
  refine ⟨h2, fun q hq hz => ?_⟩
  obtain ⟨c9, e1, e2, e3, e4⟩ := h6 q _ (Array.getElem?_eq_getElem hq)
  have hs : c9.slots = (s.heap[q]).slots := Array.ext_getElem? fun i => e4 i fun hm => hz _ hm rfl
  have h9 : c9 = s.heap[q] := by
    rw [hs] at e2
    exact e2
  have e5 : U.heap[q]? = some c9 := e1
  rw [e5, h9, Array.getElem?_eq_getElem hq]
/-- the words of a throw but the four that speak of the heap -/
def vx_no (w : Cond) : Bool := decide (w ≠ .isRef (.static Bundle.tN "UNASSIGNED_STACK" Bundle.steD)) && decide (w ≠ .isRef (.static Bundle.tN "SUPPRESSED_SENTINEL" Bundle.listD)) && decide (w ≠ .laysStatic Bundle.tN "UNASSIGNED_STACK" Bundle.steD) && decide (w ≠ .laysStatic Bundle.tN "SUPPRESSED_SENTINEL" Bundle.listD)
def vx_at0 (own : String) (ic : Nat) (X : String) (names : List String) : List Cond := (Bundle.ownAtoms0 own ic X names).filter vx_no
def vx_atS (own : String) (ic : Nat) (X : String) (names : List String) : List Cond := (Bundle.ownAtoms own ic X names).filter vx_no
/-- a word that the tables alone decide, or a good one -/
def vx_ot (w : Cond) : Bool := w.onTables || goodWord w
theorem vx_ot_at {args a' : Array Value} {s U : State} {w : Cond} (hW : s.WarmedH U.vm) (hvm : s.vm = U.vm) (hg : vx_ot w = true) (h : w.before args s = true) : w.before a' U = true := by
  simp only [vx_ot, Bool.or_eq_true] at hg
  rcases hg with hg | hg
  · exact va_tabs hg hvm h
  · exact word_at hW (good_of_word hg) h
/-- a list's words: the good ones out of the method's own list, the others by premises of their own -/
theorem vx_hat {args : Array Value} {s : State} {L B : List Cond} (h1 : ∀ w ∈ L.filter goodWord, w.before args s = true) (h2 : ∀ w ∈ L.filter (fun w => !goodWord w), w ∈ B) (h3 : ∀ w ∈ B, w.before args s = true) : ∀ w ∈ L, w.before args s = true := by
  intro w hw
  by_cases g : goodWord w = true
  · exact h1 w (List.mem_filter.mpr ⟨hw, g⟩)
  · refine h3 w (h2 w (List.mem_filter.mpr ⟨hw, ?_⟩))
    show (!goodWord w) = true
    cases hgw : goodWord w
    · rfl
    · exact absurd hgw g
theorem vx_c {args : Array Value} {s : State} {w : Cond} {B : List Cond} (h : w.before args s = true) (t : ∀ w ∈ B, w.before args s = true) : ∀ w' ∈ w :: B, w'.before args s = true := fun w' h' => (List.mem_cons.mp h').elim (fun e => by rw [e]; exact h) (t w')
theorem vx_n {args : Array Value} {s : State} : ∀ w ∈ ([] : List Cond), w.before args s = true := fun _ h => nomatch h
theorem vx_own {args : Array Value} {s : State} {L : List Cond} (h1 : ∀ w ∈ L.filter vx_no, w.before args s = true)
    (hU : (Cond.isRef (.static Bundle.tN "UNASSIGNED_STACK" Bundle.steD)).before args s = true) (hN : (Cond.isRef (.static Bundle.tN "SUPPRESSED_SENTINEL" Bundle.listD)).before args s = true)
    (lU : (Cond.laysStatic Bundle.tN "UNASSIGNED_STACK" Bundle.steD).before args s = true) (lN : (Cond.laysStatic Bundle.tN "SUPPRESSED_SENTINEL" Bundle.listD).before args s = true) : ∀ w ∈ L, w.before args s = true := by
  intro w hw
  by_cases e1 : w = .isRef (.static Bundle.tN "UNASSIGNED_STACK" Bundle.steD)
  · rw [e1]; exact hU
  · by_cases e2 : w = .isRef (.static Bundle.tN "SUPPRESSED_SENTINEL" Bundle.listD)
    · rw [e2]; exact hN
    · by_cases e3 : w = .laysStatic Bundle.tN "UNASSIGNED_STACK" Bundle.steD
      · rw [e3]; exact lU
      · by_cases e4 : w = .laysStatic Bundle.tN "SUPPRESSED_SENTINEL" Bundle.listD
        · rw [e4]; exact lN
        · exact h1 w (List.mem_filter.mpr ⟨hw, by unfold vx_no; rw [decide_eq_true e1, decide_eq_true e2, decide_eq_true e3, decide_eq_true e4]; rfl⟩)
/-- where a static field lies, its class's statics cell in H -/
def vx_L (C n d : String) (A : Nat → Prop) (U : State) (H : Heap) : Prop := ∃ (c : ClassId) (k : Class) (i : Nat) (f : Field) (a : Nat) (cell : Cell), U.vm.findClass C = some c ∧ U.fieldFound? C n d = some (c, k, i, f) ∧ f.isStatic = true ∧ k.statics = some a ∧ H[a]? = some cell ∧ cell.vm.isStatics = true ∧ cell.cls = c ∧ f.slot < cell.slots.size ∧ k.staticTypes[f.slot]? = some f.type ∧ ¬ A a
theorem vx_L.moved {C n d : String} {A : Nat → Prop} {u U : State} {H : Heap} (hvm : u.vm.Alike U.vm) (h : vx_L C n d A u H) : vx_L C n d A U H := by
  obtain ⟨c, k, i, f, a, cell, h1, h2, h3, h4, h5, h6, h7, h8, h9, h10⟩ := h
  obtain ⟨k', hi', he⟩ := State.fieldFound?_setVm hvm h2
  exact ⟨c, k', i, f, a, cell, by rw [hvm.findClass]; exact h1, hi', h3, by rw [he]; exact h4, h5, h6, h7, h8, by rw [he]; exact h9, h10⟩
theorem vx_L.kept {C n d : String} {A : Nat → Prop} {U : State} {H H1 : Heap} (h : vx_L C n d A U H) (hq : ∀ a : Nat, a < H.size → ¬ A a → H1[a]? = H[a]?) : vx_L C n d A U H1 := by
  obtain ⟨c, k, i, f, a, cell, h1, h2, h3, h4, h5, h6, h7, h8, h9, h10⟩ := h
  exact ⟨c, k, i, f, a, cell, h1, h2, h3, h4, by rw [hq a (Array.getElem?_eq_some_iff.mp h5).1 h10]; exact h5, h6, h7, h8, h9, h10⟩
theorem vx_L.narrow {C n d : String} {A B : Nat → Prop} {U : State} {H : Heap} (h : vx_L C n d A U H) (hAB : ∀ q, B q → A q) : vx_L C n d B U H := by
  obtain ⟨c, k, i, f, a, cell, h1, h2, h3, h4, h5, h6, h7, h8, h9, h10⟩ := h
  exact ⟨c, k, i, f, a, cell, h1, h2, h3, h4, h5, h6, h7, h8, h9, fun z => h10 (hAB _ z)⟩
theorem vx_L.word {C n d : String} {A : Nat → Prop} {s : State} {args : Array Value} (h : vx_L C n d A s s.heap) : (Cond.laysStatic C n d).before args s = true := by
  obtain ⟨c, k, i, f, a, cell, h1, h2, h3, h4, h5, h6, h7, h8, h9, -⟩ := h
  show (Cond.laysStatic C n d).holds args s none s [] = true
  exact Cond.laysStatic_of h1 h2 h3 h4 h5 h6 h7 h8 h9
/-- .. and what it holds: null or some reference -/
def vx_Zq (C n d : String) (A : Nat → Prop) (U : State) (H : Heap) : Prop := va_Zq C n d A U H ∧ vx_L C n d A U H
theorem vx_Zq.moved {C n d : String} {A : Nat → Prop} {u U : State} {H : Heap} (hvm : u.vm.Alike U.vm) (h : vx_Zq C n d A u H) : vx_Zq C n d A U H := ⟨va_Zq.moved hvm h.1, vx_L.moved hvm h.2⟩
theorem vx_Zq.kept {C n d : String} {A : Nat → Prop} {U : State} {H H1 : Heap} (h : vx_Zq C n d A U H) (hq : ∀ a : Nat, a < H.size → ¬ A a → H1[a]? = H[a]?) : vx_Zq C n d A U H1 := ⟨va_Zq.kept h.1 hq, vx_L.kept h.2 hq⟩
theorem vx_Zq.narrow {C n d : String} {A B : Nat → Prop} {U : State} {H : Heap} (h : vx_Zq C n d A U H) (hAB : ∀ q, B q → A q) : vx_Zq C n d B U H := ⟨va_Zq.narrow h.1 hAB, vx_L.narrow h.2 hAB⟩
theorem vx_Zqof {args : Array Value} {s : State} {C n d : String} {A : Nat → Prop} (hl : (Cond.laysStatic C n d).before args s = true) (hini : (Cond.initialized C).before args s = true) (h : (Cond.isRef (.static C n d)).before args s = true) (hA : ∀ a : Nat, a < s.heap.size → ¬ A a) : vx_Zq C n d A s s.heap := by
  refine ⟨va_Zqof hl hini h hA, ?_⟩
  obtain ⟨c, k, i, f, a, cell, h1, h2, h3, h4, h5, h6, h7, h8, h9⟩ := Cond.laysStatic_spec hl
  exact ⟨c, k, i, f, a, cell, h1, h2, h3, h4, h5, h6, h7, h8, h9, hA a (Array.getElem?_eq_some_iff.mp h5).1⟩
theorem vx_isRef {C n d : String} {v : Value} {A : Nat → Prop} {s : State} {args : Array Value} (h : va_Z C n d v A s s.heap) (hv : v.isRef = true) : (Cond.isRef (.static C n d)).before args s = true := by
  obtain ⟨cf, kf, fi, f, a, cell, h1, h2, h3, h4, h5, h6, h7, -⟩ := h
  have he : (Term.static C n d).eval args s none [] s = some v := by
    simp [Term.eval, State.fieldNamed?, h1, h2, h4, h5, h6, h7]
  simp only [Cond.before, Cond.holds, Cond.value, he]
  cases v <;> simp_all [Value.isRef]
theorem vx_isRefq {C n d : String} {A : Nat → Prop} {s : State} {args : Array Value} (h : va_Zq C n d A s s.heap) : (Cond.isRef (.static C n d)).before args s = true := by
  rcases h with h | ⟨t, h⟩
  · exact vx_isRef h rfl
  · exact vx_isRef h rfl
/-- the same frame, seen from here: as if the method were called anew in this heap -/
theorem vx_rebase {T : State} (X : Stand p l e R s m args below meth c T locs cells slots) {R' : Room} (hf : R'.frames ≤ R.frames) (hl : R'.locals ≤ R.locals) (hc : cells + R'.cells ≤ R.cells) (hs : slots + R'.slots ≤ R.slots) :
    Stand p l e R' ((T.setVm s.vm).setFrames (.invoking m args :: below)) m args below meth c T [] 0 0 := by
  have htop : (T.setVm s.vm).topJava?.isSome := X.here.top
  have hF : ((T.setVm s.vm).setFrames (.invoking m args :: below)).frames = .invoking m args :: below := State.frames_setFrames _ (State.cur_lt_of_top htop)
  obtain ⟨g₀, hg0⟩ := Option.isSome_iff_exists.mp htop
  obtain ⟨r, hr⟩ := State.topJava?_eq_some.mp hg0
  have hl9 : e.platform.stackLimits (T.setVm s.vm).me = e.platform.stackLimits s.me := X.limits
  have hb9 : (T.setVm s.vm).me.stackBytes = s.me.stackBytes := X.bytes
  refine ⟨X.admits, X.cas, X.clock, hF, ?_, X.hears, X.method, X.code, X.here, X.tail, X.warmed, ?_, ?_, ?_⟩
  · have h := X.room
    have hU : ((T.setVm s.vm).setFrames (.invoking m args :: below)).localsInUse = s.localsInUse := by
      rw [State.localsInUse_invoking hF (meth := meth) (c := c) X.method X.code, State.localsInUse_invoking X.frames X.method X.code]
    simp only [State.hasRoom, Bool.and_eq_true, decide_eq_true_eq] at h ⊢
    obtain ⟨⟨⟨⟨h1, h2, h3, h4, h5, h6⟩, h7⟩, h8⟩, h9⟩ := h
    rw [X.frames, List.length_cons] at h2 h3
    have q1 := X.heapSize
    have q2 := X.used
    simp only [hF, hU, List.length_cons, State.stackLimits_setFrames, State.stackBytes_setFrames, hl9, hb9]
    refine ⟨⟨⟨⟨by omega, by omega, by omega, by omega, by omega, h6⟩, ?_⟩, ?_⟩, X.book⟩
    · show T.heap.size + R'.cells ≤ e.platform.maxCells
      omega
    · show T.slotsUsed + R'.slots ≤ e.platform.maxSlots
      omega
  · rw [State.stackLimits_setFrames]; rfl
  · rw [State.stackBytes_setFrames]; rfl
  · refine ⟨?_, Nat.le_refl _, Nat.le_refl _, ?_, ?_, fun a c9 h9 => ⟨c9, h9, rfl, rfl, fun _ _ => rfl⟩⟩
    · obtain ⟨t, ht, -⟩ := State.frames_cons hr
      show T.setVm s.vm = { ((T.setVm s.vm).setFrames (.invoking m args :: below)).setFrames (T.setVm s.vm).frames with heap := T.heap, slotsUsed := T.slotsUsed }
      rw [State.setFrames_setFrames, State.setFrames_self ht]
      rfl
    · show T.slotsUsed = T.slotsUsed + ((T.heap.toList.drop T.heap.size).map (·.slots.size)).sum
      rw [List.drop_eq_nil_of_le (Nat.le_of_eq Array.length_toList)]
      rfl
    · show ((T.heap.toList.drop T.heap.size).map (·.slots.size)).sum ≤ 0
      rw [List.drop_eq_nil_of_le (Nat.le_of_eq Array.length_toList)]
      exact Nat.le_refl _
/-- 'throw new E()': new; dup; invokespecial; athrow -/
theorem vx_throw0 {cc : ByteArray} {pc : Nat} (hexec : p.tables.exec = Jvm.exec) (hb : c.code = cc) (hl : l.stackTraces = false) {own cls : String} {names : List String} {ik ic mc ms : Nat} {A : Nat → Prop}
    (hown : s.vm.findClass own = some m.cls) (hcls : Bundle.fit cls = true) (hnames : ∀ n ∈ names, Bundle.fit n = true)
    (hk : (Cond.classLink own ik cls).before args s = true) (hini : (Cond.initialized cls).before args s = true) (hat : ∀ w ∈ vx_at0 own ic cls names, w.before args s = true)
    (hgood : ∀ w ∈ Cond.classLink own ik cls :: Cond.initialized cls :: vx_at0 own ic cls names, vx_ot w = true)
    (hU : vx_Zq Bundle.tN "UNASSIGNED_STACK" Bundle.steD A s s.heap) (hN : vx_Zq Bundle.tN "SUPPRESSED_SENTINEL" Bundle.listD A s s.heap) (hS : va_S A s.heap H locs) (hsize : ls.size = c.maxLocals)
    (d0 : decode cc pc = .ok (.new ik, 3)) (d3 : decode cc (pc + 3) = .ok (.dup, 1)) (d4 : decode cc (pc + 4) = .ok (.invokespecial ic, 3)) (d7 : decode cc (pc + 7) = .ok (.athrow, 1))
    (hout : ∀ x ∈ c.exceptionTable.toList, covers x (pc + 7) = false)
    (hRframes : names.length + 3 < R.frames) (hRlocals : (rest.map fun v => v.category).sum + (13 * (names.length + 1) + 42) ≤ R.locals) (hRcells : cells + 1 ≤ R.cells) (hRslots : slots + 6 ≤ R.slots) (hlocks : meth.locks = false)
    (hx : ∀ t : State, s.vm.Alike t.vm → H.size ≤ t.heap.size → (∀ q : Nat, q < H.size → t.heap[q]? = H[q]?) → XC cls s t)
    (hf : ∀ z ∈ locs, free z.base) (hc : cells + 1 ≤ mc) (hs : slots + 6 ≤ ms) :
    W p l e R s m args below meth c H locs cells slots (vx_MQ below Qc XC args s mc ms free) (F0 m pc ls rest) := by
  intro T hT X
  have htr : e.platform.stackTraces = false := (show e.platform.stackTraces = l.stackTraces by rw [X.admits.platform]).trans hl
  have Y := vx_rebase X (R' := { frames := R.frames, locals := R.locals, cells := 1, slots := 6 }) (Nat.le_refl _) (Nat.le_refl _) hRcells hRslots
  obtain ⟨s', hA⟩ : ∃ z, z = (T.setVm s.vm).setFrames (.invoking m args :: below) := ⟨_, rfl⟩
  rw [← hA] at Y
  have hvm : s'.vm = s.vm := by rw [hA]; rfl
  have hhp : s'.heap = H := by rw [hA]; exact hT
  have hW0 : s.WarmedH s'.vm := by rw [hvm]; exact State.WarmedH.refl s
  have hat' : ∀ w ∈ vx_at0 own ic cls names, w.before args s' = true := fun w hw => vx_ot_at hW0 hvm.symm (hgood w (List.mem_cons_of_mem _ (List.mem_cons_of_mem _ hw))) (hat w hw)
  have hk' : (Cond.classLink own ik cls).before args s' = true := vx_ot_at hW0 hvm.symm (hgood _ List.mem_cons_self) hk
  have hini' : (Cond.initialized cls).before args s' = true := vx_ot_at hW0 hvm.symm (hgood _ (List.mem_cons_of_mem _ List.mem_cons_self)) hini
  have hU' : vx_Zq Bundle.tN "UNASSIGNED_STACK" Bundle.steD A s' s'.heap := by rw [hhp]; exact vx_Zq.moved hW0.alike (hU.kept hS.2.1)
  have hN' : vx_Zq Bundle.tN "SUPPRESSED_SENTINEL" Bundle.listD A s' s'.heap := by rw [hhp]; exact vx_Zq.moved hW0.alike (hN.kept hS.2.1)
  have h : ∀ w ∈ Bundle.ownAtoms0 own ic cls names, w.before args s' = true := vx_own hat' (vx_isRefq hU'.1) (vx_isRefq hN'.1) hU'.2.word hN'.2.word
  have hown' : s'.vm.findClass own = some m.cls := by rw [hvm]; exact hown
  have hins : (Cond.instantiable cls 6).before args s' = true := h _ (by simp [Bundle.ownAtoms0])
  obtain ⟨vm₁, cX, kX, hfX, hkX, -, -, X₁, st1⟩ := Y.newCold hexec (own := own) (C := cls) (index := ik) (n := 6) hown' hk' hins hini'
    (g := F0 m pc ls rest) rfl (by rw [hb]; exact d0) (Nat.le_refl _) (Nat.le_refl _)
  generalize hT1 : (T.setVm vm₁).pushCell { cls := cX, slots := kX.instanceTypes.map defaultValue, vm := .none } = T1 at X₁ st1
  have hcat : (Value.ref T.heap.size).category = 1 := rfl
  have hcellA : T1.heap[T.heap.size]? = some (freshCell cX kX) := by rw [← hT1]; exact State.heap_pushCell_size _ _
  have d3' : decode c.code (pc + 3) = .ok (.dup, 1) := by rw [hb]; exact d3
  obtain ⟨U, hsteps, hrun, hend, hW, hsame, ce, hce, hO⟩ := X₁.ctorThrow0 hexec htr (own := own) (cls := cls) (names := names) (ic := ic) hown' hcls hnames h (fun x hx => nomatch hx) hfX hkX hcellA (by rw [hhp, hT]; exact Nat.le_refl _)
    (g := { method := m, pc := pc + 4, locals := ls, stack := .ref T.heap.size :: .ref T.heap.size :: rest, locked := none }) rfl hsize rfl rfl (rest := rest) rfl
    (by rw [hb]; exact d4) (by rw [hb]; exact d7) hout hRframes (by simp only [List.map_cons, List.sum_cons, hcat]; omega) hlocks
  obtain ⟨f1, f2⟩ := vx_frame hsame
  rw [hhp] at f1 f2
  have hWs : s.WarmedH U.vm := State.WarmedH.trans hW0 hW
  have hcl : s.vm.findClass cls = some ce.cls := by
    have h9 := hO.cls
    rw [hvm] at h9
    exact h9
  have hall : s.sameButNew ({ U with vm := s.vm } : State) locs mc ms := by
    subst hA
    obtain ⟨e1, e2⟩ := hsame
    rw [State.setFrames_setFrames] at e1
    have h2 : (T.setVm s.vm).sameButNew ({ U with vm := s.vm } : State) [] (0 + 1) (0 + 6) := ⟨e1, e2⟩
    have h3 := X.same.trans h2
    rw [List.append_nil] at h3
    exact h3.mono hc hs
  refine ⟨U, ?_, .threw T.heap.size, hrun, hend, Or.inr ⟨T.heap.size, rfl, cls, ce, locs, hx U hWs.alike f1 (fun q hq => f2 q hq (fun z hz => nomatch hz)), hce, hO.vm, hcl, hWs, hall, hf⟩⟩
  refine st1 _ ?_
  show Steps p.tables e below (T1.setTop { method := m, pc := pc + 3, locals := ls, stack := .ref T.heap.size :: rest, locked := none }) _
  jvm_step X₁.here [X₁.here.top, hexec, d3', Value.category]
  exact hsteps
/-- 'throw new E("text")': new; dup; ldc; invokespecial; athrow -/
theorem vx_throwS {cc : ByteArray} {pc : Nat} (hexec : p.tables.exec = Jvm.exec) (hb : c.code = cc) (hl : l.stackTraces = false) {own cls text : String} {names : List String} {ik is ic mc ms sa : Nat} {A : Nat → Prop}
    (hown : s.vm.findClass own = some m.cls) (hcls : Bundle.fit cls = true) (hnames : ∀ n ∈ names, Bundle.fit n = true)
    (hk : (Cond.classLink own ik cls).before args s = true) (hini : (Cond.initialized cls).before args s = true) (hstr : vk_R own is text sa s) (hat : ∀ w ∈ vx_atS own ic cls names, w.before args s = true)
    (hgood : ∀ w ∈ Cond.classLink own ik cls :: Cond.initialized cls :: vx_atS own ic cls names, vx_ot w = true)
    (hU : vx_Zq Bundle.tN "UNASSIGNED_STACK" Bundle.steD A s s.heap) (hN : vx_Zq Bundle.tN "SUPPRESSED_SENTINEL" Bundle.listD A s s.heap) (hS : va_S A s.heap H locs) (hsize : ls.size = c.maxLocals)
    (d0 : decode cc pc = .ok (.new ik, 3)) (d3 : decode cc (pc + 3) = .ok (.dup, 1)) (d4 : decode cc (pc + 4) = .ok (.ldc is, 2)) (d6 : decode cc (pc + 6) = .ok (.invokespecial ic, 3)) (d9 : decode cc (pc + 9) = .ok (.athrow, 1))
    (hout : ∀ x ∈ c.exceptionTable.toList, covers x (pc + 9) = false)
    (hRframes : names.length + 3 < R.frames) (hRlocals : (rest.map fun v => v.category).sum + (13 * (names.length + 1) + 43) ≤ R.locals) (hRcells : cells + 1 ≤ R.cells) (hRslots : slots + 6 ≤ R.slots) (hlocks : meth.locks = false)
    (hx : ∀ t : State, s.vm.Alike t.vm → H.size ≤ t.heap.size → (∀ q : Nat, q < H.size → t.heap[q]? = H[q]?) → XC cls s t)
    (hf : ∀ z ∈ locs, free z.base) (hc : cells + 1 ≤ mc) (hs : slots + 6 ≤ ms) :
    W p l e R s m args below meth c H locs cells slots (vx_MQ below Qc XC args s mc ms free) (F0 m pc ls rest) := by
  intro T hT X
  have htr : e.platform.stackTraces = false := (show e.platform.stackTraces = l.stackTraces by rw [X.admits.platform]).trans hl
  have Y := vx_rebase X (R' := { frames := R.frames, locals := R.locals, cells := 1, slots := 6 }) (Nat.le_refl _) (Nat.le_refl _) hRcells hRslots
  obtain ⟨s', hA⟩ : ∃ z, z = (T.setVm s.vm).setFrames (.invoking m args :: below) := ⟨_, rfl⟩
  rw [← hA] at Y
  have hvm : s'.vm = s.vm := by rw [hA]; rfl
  have hhp : s'.heap = H := by rw [hA]; exact hT
  have hW0 : s.WarmedH s'.vm := by rw [hvm]; exact State.WarmedH.refl s
  have hat' : ∀ w ∈ vx_atS own ic cls names, w.before args s' = true := fun w hw => vx_ot_at hW0 hvm.symm (hgood w (List.mem_cons_of_mem _ (List.mem_cons_of_mem _ hw))) (hat w hw)
  have hk' : (Cond.classLink own ik cls).before args s' = true := vx_ot_at hW0 hvm.symm (hgood _ List.mem_cons_self) hk
  have hini' : (Cond.initialized cls).before args s' = true := vx_ot_at hW0 hvm.symm (hgood _ (List.mem_cons_of_mem _ List.mem_cons_self)) hini
  have hU' : vx_Zq Bundle.tN "UNASSIGNED_STACK" Bundle.steD A s' s'.heap := by rw [hhp]; exact vx_Zq.moved hW0.alike (hU.kept hS.2.1)
  have hN' : vx_Zq Bundle.tN "SUPPRESSED_SENTINEL" Bundle.listD A s' s'.heap := by rw [hhp]; exact vx_Zq.moved hW0.alike (hN.kept hS.2.1)
  have h : ∀ w ∈ Bundle.ownAtoms own ic cls names, w.before args s' = true := vx_own hat' (vx_isRefq hU'.1) (vx_isRefq hN'.1) hU'.2.word hN'.2.word
  have hown' : s'.vm.findClass own = some m.cls := by rw [hvm]; exact hown
  have hins : (Cond.instantiable cls 6).before args s' = true := h _ (by simp [Bundle.ownAtoms])
  obtain ⟨vm₁, cX, kX, hfX, hkX, -, -, X₁, st1⟩ := Y.newCold hexec (own := own) (C := cls) (index := ik) (n := 6) hown' hk' hins hini'
    (g := F0 m pc ls rest) rfl (by rw [hb]; exact d0) (Nat.le_refl _) (Nat.le_refl _)
  generalize hT1 : (T.setVm vm₁).pushCell { cls := cX, slots := kX.instanceTypes.map defaultValue, vm := .none } = T1 at X₁ st1
  have hcat : (Value.ref T.heap.size).category = 1 := rfl
  have hcellA : T1.heap[T.heap.size]? = some (freshCell cX kX) := by rw [← hT1]; exact State.heap_pushCell_size _ _
  have d3' : decode c.code (pc + 3) = .ok (.dup, 1) := by rw [hb]; exact d3
  have d4' : decode c.code (pc + 4) = .ok (.ldc is, 2) := by rw [hb]; exact d4
  have hstr' : vk_R own is text sa s' := vk_R.warm hW0 hstr
  obtain ⟨U, hsteps, hrun, hend, hW, hsame, ce, hce, hO⟩ := X₁.ctorThrowS hexec htr (own := own) (cls := cls) (names := names) (ic := ic) hown' hcls hnames h (fun x hx => nomatch hx) hfX hkX hcellA (by rw [hhp, hT]; exact Nat.le_refl _) (msg := .ref sa) rfl
    (g := { method := m, pc := pc + 6, locals := ls, stack := .ref sa :: .ref T.heap.size :: .ref T.heap.size :: rest, locked := none }) rfl hsize rfl rfl (rest := rest) rfl
    (by rw [hb]; exact d6) (by rw [hb]; exact d9) hout hRframes (by simp only [List.map_cons, List.sum_cons, hcat]; omega) hlocks
  obtain ⟨f1, f2⟩ := vx_frame hsame
  rw [hhp] at f1 f2
  have hWs : s.WarmedH U.vm := State.WarmedH.trans hW0 hW
  have hcl : s.vm.findClass cls = some ce.cls := by
    have h9 := hO.cls
    rw [hvm] at h9
    exact h9
  have hall : s.sameButNew ({ U with vm := s.vm } : State) locs mc ms := by
    subst hA
    obtain ⟨e1, e2⟩ := hsame
    rw [State.setFrames_setFrames] at e1
    have h2 : (T.setVm s.vm).sameButNew ({ U with vm := s.vm } : State) [] (0 + 1) (0 + 6) := ⟨e1, e2⟩
    have h3 := X.same.trans h2
    rw [List.append_nil] at h3
    exact h3.mono hc hs
  refine ⟨U, ?_, .threw T.heap.size, hrun, hend, Or.inr ⟨T.heap.size, rfl, cls, ce, locs, hx U hWs.alike f1 (fun q hq => f2 q hq (fun z hz => nomatch hz)), hce, hO.vm, hcl, hWs, hall, hf⟩⟩
  refine st1 _ ?_
  show Steps p.tables e below (T1.setTop { method := m, pc := pc + 3, locals := ls, stack := .ref T.heap.size :: rest, locked := none }) _
  jvm_step X₁.here [X₁.here.top, hexec, d3', Value.category]
  exact X₁.ldcString hexec (own := own) (text := text) (index := is) (a := sa) hown' hstr'.1 hstr'.2
    (g := { method := m, pc := pc + 4, locals := ls, stack := .ref T.heap.size :: .ref T.heap.size :: rest, locked := none }) rfl d4' _ hsteps
/-- 'throw new E("text")', the text by a wide index -/
theorem vx_throwSW {cc : ByteArray} {pc : Nat} (hexec : p.tables.exec = Jvm.exec) (hb : c.code = cc) (hl : l.stackTraces = false) {own cls text : String} {names : List String} {ik is ic mc ms sa : Nat} {A : Nat → Prop}
    (hown : s.vm.findClass own = some m.cls) (hcls : Bundle.fit cls = true) (hnames : ∀ n ∈ names, Bundle.fit n = true)
    (hk : (Cond.classLink own ik cls).before args s = true) (hini : (Cond.initialized cls).before args s = true) (hstr : vk_R own is text sa s) (hat : ∀ w ∈ vx_atS own ic cls names, w.before args s = true)
    (hgood : ∀ w ∈ Cond.classLink own ik cls :: Cond.initialized cls :: vx_atS own ic cls names, vx_ot w = true)
    (hU : vx_Zq Bundle.tN "UNASSIGNED_STACK" Bundle.steD A s s.heap) (hN : vx_Zq Bundle.tN "SUPPRESSED_SENTINEL" Bundle.listD A s s.heap) (hS : va_S A s.heap H locs) (hsize : ls.size = c.maxLocals)
    (d0 : decode cc pc = .ok (.new ik, 3)) (d3 : decode cc (pc + 3) = .ok (.dup, 1)) (d4 : decode cc (pc + 4) = .ok (.ldc_w is, 3)) (d7 : decode cc (pc + 7) = .ok (.invokespecial ic, 3)) (d10 : decode cc (pc + 10) = .ok (.athrow, 1))
    (hout : ∀ x ∈ c.exceptionTable.toList, covers x (pc + 10) = false)
    (hRframes : names.length + 3 < R.frames) (hRlocals : (rest.map fun v => v.category).sum + (13 * (names.length + 1) + 43) ≤ R.locals) (hRcells : cells + 1 ≤ R.cells) (hRslots : slots + 6 ≤ R.slots) (hlocks : meth.locks = false)
    (hx : ∀ t : State, s.vm.Alike t.vm → H.size ≤ t.heap.size → (∀ q : Nat, q < H.size → t.heap[q]? = H[q]?) → XC cls s t)
    (hf : ∀ z ∈ locs, free z.base) (hc : cells + 1 ≤ mc) (hs : slots + 6 ≤ ms) :
    W p l e R s m args below meth c H locs cells slots (vx_MQ below Qc XC args s mc ms free) (F0 m pc ls rest) := by
  intro T hT X
  have htr : e.platform.stackTraces = false := (show e.platform.stackTraces = l.stackTraces by rw [X.admits.platform]).trans hl
  have Y := vx_rebase X (R' := { frames := R.frames, locals := R.locals, cells := 1, slots := 6 }) (Nat.le_refl _) (Nat.le_refl _) hRcells hRslots
  obtain ⟨s', hA⟩ : ∃ z, z = (T.setVm s.vm).setFrames (.invoking m args :: below) := ⟨_, rfl⟩
  rw [← hA] at Y
  have hvm : s'.vm = s.vm := by rw [hA]; rfl
  have hhp : s'.heap = H := by rw [hA]; exact hT
  have hW0 : s.WarmedH s'.vm := by rw [hvm]; exact State.WarmedH.refl s
  have hat' : ∀ w ∈ vx_atS own ic cls names, w.before args s' = true := fun w hw => vx_ot_at hW0 hvm.symm (hgood w (List.mem_cons_of_mem _ (List.mem_cons_of_mem _ hw))) (hat w hw)
  have hk' : (Cond.classLink own ik cls).before args s' = true := vx_ot_at hW0 hvm.symm (hgood _ List.mem_cons_self) hk
  have hini' : (Cond.initialized cls).before args s' = true := vx_ot_at hW0 hvm.symm (hgood _ (List.mem_cons_of_mem _ List.mem_cons_self)) hini
  have hU' : vx_Zq Bundle.tN "UNASSIGNED_STACK" Bundle.steD A s' s'.heap := by rw [hhp]; exact vx_Zq.moved hW0.alike (hU.kept hS.2.1)
  have hN' : vx_Zq Bundle.tN "SUPPRESSED_SENTINEL" Bundle.listD A s' s'.heap := by rw [hhp]; exact vx_Zq.moved hW0.alike (hN.kept hS.2.1)
  have h : ∀ w ∈ Bundle.ownAtoms own ic cls names, w.before args s' = true := vx_own hat' (vx_isRefq hU'.1) (vx_isRefq hN'.1) hU'.2.word hN'.2.word
  have hown' : s'.vm.findClass own = some m.cls := by rw [hvm]; exact hown
  have hins : (Cond.instantiable cls 6).before args s' = true := h _ (by simp [Bundle.ownAtoms])
  obtain ⟨vm₁, cX, kX, hfX, hkX, -, -, X₁, st1⟩ := Y.newCold hexec (own := own) (C := cls) (index := ik) (n := 6) hown' hk' hins hini'
    (g := F0 m pc ls rest) rfl (by rw [hb]; exact d0) (Nat.le_refl _) (Nat.le_refl _)
  generalize hT1 : (T.setVm vm₁).pushCell { cls := cX, slots := kX.instanceTypes.map defaultValue, vm := .none } = T1 at X₁ st1
  have hcat : (Value.ref T.heap.size).category = 1 := rfl
  have hcellA : T1.heap[T.heap.size]? = some (freshCell cX kX) := by rw [← hT1]; exact State.heap_pushCell_size _ _
  have d3' : decode c.code (pc + 3) = .ok (.dup, 1) := by rw [hb]; exact d3
  have d4' : decode c.code (pc + 4) = .ok (.ldc_w is, 3) := by rw [hb]; exact d4
  have hstr' : vk_R own is text sa s' := vk_R.warm hW0 hstr
  obtain ⟨U, hsteps, hrun, hend, hW, hsame, ce, hce, hO⟩ := X₁.ctorThrowS hexec htr (own := own) (cls := cls) (names := names) (ic := ic) hown' hcls hnames h (fun x hx => nomatch hx) hfX hkX hcellA (by rw [hhp, hT]; exact Nat.le_refl _) (msg := .ref sa) rfl
    (g := { method := m, pc := pc + 7, locals := ls, stack := .ref sa :: .ref T.heap.size :: .ref T.heap.size :: rest, locked := none }) rfl hsize rfl rfl (rest := rest) rfl
    (by rw [hb]; exact d7) (by rw [hb]; exact d10) hout hRframes (by simp only [List.map_cons, List.sum_cons, hcat]; omega) hlocks
  obtain ⟨f1, f2⟩ := vx_frame hsame
  rw [hhp] at f1 f2
  have hWs : s.WarmedH U.vm := State.WarmedH.trans hW0 hW
  have hcl : s.vm.findClass cls = some ce.cls := by
    have h9 := hO.cls
    rw [hvm] at h9
    exact h9
  have hall : s.sameButNew ({ U with vm := s.vm } : State) locs mc ms := by
    subst hA
    obtain ⟨e1, e2⟩ := hsame
    rw [State.setFrames_setFrames] at e1
    have h2 : (T.setVm s.vm).sameButNew ({ U with vm := s.vm } : State) [] (0 + 1) (0 + 6) := ⟨e1, e2⟩
    have h3 := X.same.trans h2
    rw [List.append_nil] at h3
    exact h3.mono hc hs
  refine ⟨U, ?_, .threw T.heap.size, hrun, hend, Or.inr ⟨T.heap.size, rfl, cls, ce, locs, hx U hWs.alike f1 (fun q hq => f2 q hq (fun z hz => nomatch hz)), hce, hO.vm, hcl, hWs, hall, hf⟩⟩
  refine st1 _ ?_
  show Steps p.tables e below (T1.setTop { method := m, pc := pc + 3, locals := ls, stack := .ref T.heap.size :: rest, locked := none }) _
  jvm_step X₁.here [X₁.here.top, hexec, d3', Value.category]
  exact X₁.ldcStringW hexec (own := own) (text := text) (index := is) (a := sa) hown' hstr'.1 hstr'.2
    (g := { method := m, pc := pc + 4, locals := ls, stack := .ref T.heap.size :: .ref T.heap.size :: rest, locked := none }) rfl d4' _ hsteps
end Ends
section Bodies
variable {l : Launch}
theorem vx_ofW {y : MethodName} {ws ws' : List Cond} {rm : Room} {Pc : Array Value → State → Prop} {Qc : Array Value → State → Outcome → State → Prop} {XC : String → State → State → Prop} {mc ms : Nat} {free : Addr → Prop} {cc : ByteArray} {maxL : Nat} {ret : Option FieldType}
    (hy : plainName y.cls = true) (hw : ws = Cond.code y cc maxL ret :: ws')
    (body : ∀ p e s m args below meth c s₁, BodyLoose p l y (headSpec ws rm) cc maxL ret e s m args below meth c s₁ → c.maxLocals = maxL → (∀ x ∈ c.exceptionTable.toList, False) → Pc args s →
      W p l e (headSpec ws rm).room s m args below meth c s.heap [] 0 0 (vx_MQ below Qc XC args s mc ms free) (entryFrame m args maxL)) : vx_Met l y ws rm Pc Qc XC mc ms free := by
  refine MetFree.of_bodyS (code := cc) (maxLocals := maxL) (ret := ret) hy ?_ ?_
  · intro args s m h hn
    obtain ⟨meth, c, h1, h2, h3, h4, h5, h6, -, -⟩ := Cond.code_spec hn (atoms_spec (ws := ws) h _ (by rw [hw]; exact List.mem_cons_self))
    exact ⟨meth, c, h1, h2, h3, h4, h5, h6⟩
  · intro p e s m args below meth c s₁ B hml hP _
    have hh0 : s₁.heap = s.heap := by rw [B.state]; rfl
    have ht : ∀ x ∈ c.exceptionTable.toList, False := by
      obtain ⟨meth9, c9, h1, h2, -, -, -, -, h7, -⟩ := Cond.code_spec B.named (atoms_spec (ws := ws) B.pre _ (by rw [hw]; exact List.mem_cons_self))
      cases Option.some.inj (h1.symm.trans B.method)
      cases Option.some.inj (h2.symm.trans (Stand.of_body B).code)
      intro x hx
      rw [Array.isEmpty_iff.mp h7] at hx
      cases hx
    obtain ⟨t, a1, o, b1, b2, b3⟩ := body p e s m args below meth c s₁ B hml ht hP s₁ hh0 (Stand.of_body B)
    exact ⟨t, o, a1, b1, b2, b3⟩
/-- the table of a body with handlers -/
theorem vx_table {p : Program} {x y : MethodName} {S : Spec} {cc bytes : ByteArray} {maxL maxL' : Nat} {ret ret' : Option FieldType} {e : Env} {s s₁ : State} {m : MethodId} {args : Array Value} {below : List Frame} {meth : Method} {c : Code} {hh : List (Nat × Nat × Nat × Nat)}
    (B : BodyLoose p l y S cc maxL ret e s m args below meth c s₁) (h : (Cond.codeWith y bytes maxL' ret' hh).before args s = true) : c.exceptionTable.toList = tableOf hh := by
  obtain ⟨m9, meth9, c9, hn9, h1, h2, -, -, h6, -⟩ := Cond.codeWith_spec h
  cases Option.some.inj (hn9.symm.trans B.named)
  cases Option.some.inj (h1.symm.trans B.method)
  cases Option.some.inj (h2.symm.trans (Stand.of_body B).code)
  rw [← h6, table_eq]
end Bodies
end VXA
/-! ===== END ===== -/
/-! ===== BEGIN a static call of a method with an exception table ===== -/
section VXS
variable {p : Program} {l : Launch} {e : Env} {R : Room} {s : State} {m : MethodId} {args : Array Value} {below : List Frame} {meth : Method} {c : Code} {T : State} {H : Heap} {locs : List Loc} {cells slots : Nat}
abbrev vx_CSW (R : Room) (s : State) (args : Array Value) (own : String) (index : Nat) (y : MethodName) (bytes : ByteArray) (maxL : Nat) (ret : Option FieldType) (hh : List (Nat × Nat × Nat × Nat)) (ws : List Cond) (rm : Room) (mc ms n : Nat) : Prop :=
  (rm.cells = mc ∧ rm.slots = ms ∧ rm.frames + 1 ≤ R.frames ∧ 8 + (maxL + 11) + rm.locals ≤ R.locals ∧ (∀ w ∈ ws, ∀ (a' : Array Value) (U : State), s.WarmedH U.vm → w.before a' U = true) ∧ Cond.codeWith y bytes maxL ret hh ∈ ws) ∧
  (Cond.codeWith y bytes maxL ret hh).before args s = true ∧ (Cond.initialized y.cls).before args s = true ∧ (y.cls ≠ "java/lang/invoke/MethodHandle" ∧ y.cls ≠ "java/lang/invoke/VarHandle") ∧
  (∀ sig, parseMethodDescriptor y.desc = some sig → n = sig.parameters.length) ∧ (Cond.methodLink own index y).before args s = true ∧ (Cond.static y).before args s = true
theorem vx_cwSW {own : String} {index maxL mc ms : Nat} {y : MethodName} {bytes : ByteArray} {ret : Option FieldType} {hh : List (Nat × Nat × Nat × Nat)} {Ts ws ws' : List Cond} {rm : Room} (n : Nat) (ht : ∀ w ∈ Ts, w.before args s = true) (hT : GoodIn Ts (va_wsS own index y ws)) (hw : ws = Cond.codeWith y bytes maxL ret hh :: ws') (hrc : rm.cells = mc) (hrs : rm.slots = ms)
    (hd : y.cls ≠ "java/lang/invoke/MethodHandle" ∧ y.cls ≠ "java/lang/invoke/VarHandle" ∧ (parseMethodDescriptor y.desc).map (fun d => d.parameters.length) = some n) (hR : rm.frames + 1 ≤ R.frames ∧ 8 + (maxL + 11) + rm.locals ≤ R.locals) :
    vx_CSW R s args own index y bytes maxL ret hh ws rm mc ms n := by
  have ok : ∀ w ∈ va_wsS own index y ws, w.before args s = true := fun w h => ht w (hT w h).1
  have hG : GoodIn Ts ws := fun w h => hT w (by unfold va_wsS; exact List.mem_append_right _ h)
  have hc : Cond.codeWith y bytes maxL ret hh ∈ ws := by rw [hw]; exact List.mem_cons_self
  refine ⟨⟨hrc, hrs, hR.1, hR.2, pay_in ht hG, hc⟩, ht _ (hG _ hc).1, ok _ (by simp [va_wsS]), ⟨hd.1, hd.2.1⟩, fun sig h => ?_, ok _ (by simp [va_wsS]), ok _ (by simp [va_wsS])⟩
  have h2 := hd.2.2
  rw [h] at h2
  exact (Option.some.inj h2).symm
theorem vx_callSW (X : Stand p l e R s m args below meth c T locs cells slots) (hexec : p.tables.exec = Jvm.exec) {own : String} {index : Nat} {y : MethodName} {bytes : ByteArray} {maxL : Nat} {ret : Option FieldType} {hh : List (Nat × Nat × Nat × Nat)}
    (hown : s.vm.findClass own = some m.cls) (hlink : (Cond.methodLink own index y).before args s = true) (hstat : (Cond.static y).before args s = true) (hinit : (Cond.initialized y.cls).before args s = true)
    (hcode : (Cond.codeWith y bytes maxL ret hh).before args s = true) (hy : y.cls ≠ "java/lang/invoke/MethodHandle" ∧ y.cls ≠ "java/lang/invoke/VarHandle")
    {W9 : Nat} {Pre : Pt → Array Value → Prop} {Post : Pt → Array Value → Option Value → Pt → Prop} (hK : Back l R p e below s args y 3 W9 Pre Post)
    {g : JFrame} (hg : g.method = m) (hsize : g.locals.size = c.maxLocals) {argsL rest : List Value} (hlen : ∀ sig, parseMethodDescriptor y.desc = some sig → argsL.length = sig.parameters.length)
    (hstack : g.stack = argsL.reverse ++ rest) (hW : 2 * g.monitorRoom + (rest.map fun v => v.category).sum ≤ W9) (hdg : decode c.code g.pc = .ok (.invokestatic index, 3))
    (hpre : ∀ vm₁, s.WarmedH vm₁ → Pre ⟨T.setVm vm₁, locs, cells, slots⟩ argsL.toArray) :
    ∃ (v : Option Value) (vm₁ : Vm) (B : Pt), s.WarmedH vm₁ ∧ Stand p l e R s m args below meth c B.U B.locs B.cells B.slots ∧ Post ⟨T.setVm vm₁, locs, cells, slots⟩ argsL.toArray v B ∧
      ∀ target, Steps p.tables e below (B.U.setTop { g with pc := g.pc + 3, stack := v.toList ++ rest }) target → Steps p.tables e below (T.setTop g) target := by
  obtain ⟨mk, methM, cM, hnamed, hmethM, -, -, -, -, -, -, hsigM⟩ := Cond.codeWith_spec hcode
  have hstatic : methM.isStatic = true := Cond.static_spec hnamed hmethM hstat
  obtain ⟨kP, hkP, -⟩ := className_of_methodNamed hnamed
  have hinitP : kP.init = .initialized := Cond.initialized_spec (findClass_of_methodNamed hnamed) hkP hinit
  obtain ⟨vm₁, X₁, hstep₁⟩ := X.invokestatic hexec hown hlink hnamed hmethM hstatic hkP hinitP hy (g := g) hg (argsL := argsL) (rest := rest) (hlen _ hsigM) hstack hdg
  obtain ⟨v, B, X', hpost, hsteps⟩ := hK m meth c ⟨T.setVm vm₁, locs, cells, slots⟩ { g with stack := rest } (.invokestatic index) mk argsL.toArray X₁ hg hsize hdg hW (X₁.named hnamed) (hpre vm₁ X₁.warmed)
  exact ⟨v, vm₁, B, X₁.warmed, X', hpost, fun target h => hstep₁ _ fun acts => by rw [doInvoke_state]; exact hsteps.trans h⟩
theorem vx_runSW {y : MethodName} {bytes cc : ByteArray} {maxL nL mc ms n index : Nat} {ret : Option FieldType} {hh : List (Nat × Nat × Nat × Nat)} {ws : List Cond} {rm : Room} {Pc : Array Value → State → Prop} {Qc : Array Value → State → Outcome → State → Prop} {free : Addr → Prop} {Ts : List Cond} {own : String} {As rest : List Value} {g : JFrame}
    (S : CallFix p m c cc nL s args Ts own) (hM : Met l y ws rm Pc Qc mc ms free) (cw : vx_CSW R s args own index y bytes maxL ret hh ws rm mc ms n) (hp : PreS s H Pc As)
    (hg : g.method = m) (hn : As.length = n) (hsize : g.locals.size = nL) (hstack : g.stack = As.reverse ++ rest) (hW : 2 * g.monitorRoom + (rest.map fun v => v.category).sum ≤ 8) (hdg : decode cc g.pc = .ok (.invokestatic index, 3)) (hf : cells + mc ≤ R.cells ∧ slots + ms ≤ R.slots) :
    va_Run p l e R s m args below meth c H locs cells slots mc ms g rest (Qc As.toArray) (free) := by
  obtain ⟨⟨hrc, hrs, hfr, hlo, hws, hcw⟩, hcode, hini, hy, hlen, hl, hstt⟩ := cw
  have hK : Back l R p e below s args y 3 8 (PreOf R mc ms Pc) (PostOf Qc mc ms free) := va_backW (hh := hh) (bytes := bytes) (maxL := maxL) (ret := ret) hM hp.1 hrc hrs hfr hlo hws hcw (fun a' U hW => word_at hW (Or.inl (by first | rfl | simp [Cond.onTables, Cond.keeps, Cond.steady])) hini)
  obtain ⟨hx, hb, hml, ho, -⟩ := S
  intro T hT X
  obtain ⟨v, vm₁, ⟨U', l2, c2, s2⟩, hW₁, X', ⟨g', mk, t, L, e1, e2, hq, h1, hL, h2, h3⟩, st⟩ := vx_callSW X hx (hh := hh) (bytes := bytes) (maxL := maxL) (ret := ret) ho hl hstt hini hcode hy hK hg (hsize.trans hml.symm) (argsL := As) (rest := rest) (fun sig h => hn.trans (hlen sig h)) hstack hW (by rw [hb]; exact hdg)
    (fun vm₁ hW₁ => ⟨hf.1, hf.2, hp.2 (T.setVm vm₁) hT hW₁⟩)
  dsimp only [Pt.U, Pt.locs, Pt.cells, Pt.slots] at X' e1 e2 h1 h2 h3 st
  subst h1; subst h2; subst h3
  exact ⟨v, (T.setVm vm₁).calling g' mk As.toArray, t, U', L, hT, X', hL, e1, e2, hq, st⟩
/-- not caught here, past rows that name other classes: it goes on to the caller -/
theorem vx_outP {p : Program} {l : Launch} {e : Env} {R : Room} {s : State} {m : MethodId} {args : Array Value} {below : List Frame} {meth : Method} {c : Code} {H : Heap} {locs : List Loc} {cells slots : Nat} {free : Addr → Prop} {ls : Array Slot} {rest : List Value} {Qc : Array Value → State → Outcome → State → Prop} {XC : String → State → State → Prop}
    {pc : Nat} {own E : String} {ce : Cell} {q : Addr} {mc ms : Nat} (hown : s.vm.findClass own = some m.cls) (hlocks : meth.locks = false)
    (hpass : ∀ z ∈ c.exceptionTable.toList, covers z pc = false ∨ (z.catchType ≠ 0 ∧ ∃ nm : String, (Cond.classLink own z.catchType nm).before args s = true ∧ va_Nc E nm s)) (hcell : H[q]? = some ce) (hv : ce.vm = .none) (hcl : s.vm.findClass E = some ce.cls)
    (hx : ∀ t : State, t.heap = H → s.vm.Alike t.vm → XC E s t) (hf : ∀ z ∈ locs, free z.base) (hc : cells ≤ mc) (hs : slots ≤ ms) :
    vx_W p l e R s m args below meth c H locs cells slots (vx_MQ below Qc XC args s mc ms free) (F0 m pc ls rest) q := by
  intro T hT X
  have hpl : e.platform.magicAccessors = ({} : Platform).magicAccessors := by rw [X.admits.platform]
  obtain ⟨vm', hW', X', st⟩ := X.outThrough hlocks q (g := F0 m pc ls rest) rfl rfl rfl (cell := ce) (by rw [hT]; exact hcell) (by rw [hv]; rfl)
    (by obtain ⟨k9, h9, -⟩ := Vm.findClass_spec hcl; exact ⟨k9, h9⟩) (fun z hz => by
      rcases hpass z hz with h | ⟨hz0, nm, hl1, hn1⟩
      · exact Or.inl h
      · obtain ⟨c6, hc6, hcl6⟩ := Cond.classLink_spec hown hl1 e.platform hpl
        obtain ⟨a8, b8, h1, h2, h3⟩ := hn1
        cases Option.some.inj (h1.symm.trans hcl)
        cases Option.some.inj (h2.symm.trans hc6)
        exact Or.inr ⟨hz0, _, hcl6, h3⟩)
  obtain ⟨g₀, hfr⟩ := X'.frames_eq
  have hcell9 : ((T.setVm vm').setFrames (.throwing q :: below)).heap[q]? = some ce := by
    show T.heap[q]? = some ce
    rw [hT]; exact hcell
  have hend : Ended ((T.setVm vm').setFrames (.throwing q :: below)) below (.threw q) := State.frames_setFrames _ (State.cur_lt_of_frames hfr)
  refine ⟨(T.setVm vm').setFrames (.throwing q :: below), ?_, .threw q, X'.here.running, hend, Or.inr ⟨q, rfl, E, ce, locs, hx _ hT (X'.ends _).1.alike, hcell9, hv, hcl, (X'.ends _).1, (X'.ends _).2.mono hc hs, hf⟩⟩
  rw [X.pushThrowing_eq]
  exact st
/-- a thing of a world lies in the heap -/
theorem vx_lt {D : va_G} {cl : List vw_C} {ws : va_W} {H1 : Heap} (h : va_P D cl ws H1) {k : Nat} {q : Nat × va_E} (hk : ws[k]? = some q) : q.1 < H1.size := (h k q hk).lt
end VXS
/-! ===== END ===== -/
/-! ===== BEGIN methods with a table of their own: called by a name, returning or throwing ===== -/
section VXH
/-! vx_backW, vx_callVX, vx_callSX, vx_callVW, vx_runVW, vx_runVX, vx_runSX, vx_ofWH follow the same proofs as their sisters above (Free/Laws.lean, Shelf42/LK1.lean); vx_outP calls Shelf42/NT130.lean (outThrough). -/
section
variable {l : Launch} {R : Room} {p : Program} {e : Env} {below : List Frame} {s : State} {sargs : Array Value} {y : MethodName} {len W9 : Nat}
theorem vx_backW {ws : List Cond} {rm : Room} {Pc : Array Value → State → Prop} {Qc : Array Value → State → Outcome → State → Prop} {XC : String → State → State → Prop} {mc ms : Nat} {free : Addr → Prop} {bytes : ByteArray} {maxL : Nat} {ret : Option FieldType} {hh : List (Nat × Nat × Nat × Nat)}
    (hM : vx_Met l y ws rm Pc Qc XC mc ms free) (hblind : FrameBlind Pc) (hrc : rm.cells = mc) (hrs : rm.slots = ms)
    (hframes : rm.frames + 1 ≤ R.frames) (hlocals : W9 + (maxL + 11) + rm.locals ≤ R.locals)
    (hws : ∀ w ∈ ws, ∀ a' U, s.WarmedH U.vm → w.before a' U = true) (hcode : Cond.codeWith y bytes maxL ret hh ∈ ws) (hinit : ∀ a' U, s.WarmedH U.vm → (Cond.initialized y.cls).before a' U = true) :
    vx_Back l R p e below s sargs y len W9 (PreOf R mc ms Pc) (PostOf Qc mc ms free) (vx_Post XC mc ms free) := by
  intro m meth c A g ig mk a X hg hsize hdg hW hn hp
  have h1 : (headSpec ws rm).pre.before a A.U = true := atoms_intro fun w hw => hws w hw _ _ X.warmed
  have h2 : (Cond.codeWith y bytes maxL ret hh).before a A.U = true := hws _ hcode _ _ X.warmed
  have h3 : (Cond.initialized y.cls).before a A.U = true := hinit _ _ X.warmed
  have h4 : A.cells + (headSpec ws rm).room.cells ≤ R.cells := by rw [show (headSpec ws rm).room.cells = mc from hrc]; exact hp.1
  have h5 : A.slots + (headSpec ws rm).room.slots ≤ R.slots := by rw [show (headSpec ws rm).room.slots = ms from hrs]; exact hp.2.1
  have hPc : Pc a (A.U.calling g mk a) := hblind _ _ _ _ hp.2.2
  obtain ⟨U, Ls, c0, s0⟩ := A
  dsimp only [Pt.U, Pt.locs, Pt.cells, Pt.slots] at h1 h2 h3 h4 h5 X hn hPc ⊢
  obtain ⟨m9, methY, cY, hn9, hmY, hcY, -, hlY, -⟩ := Cond.codeWith_spec h2
  cases Option.some.inj (hn9.symm.trans hn)
  obtain ⟨kY, hkY, -⟩ := className_of_methodNamed hn
  have hinitY : kY.init = .initialized := Cond.initialized_spec (findClass_of_methodNamed hn) hkY h3
  have h : At U g.method c below := by rw [hg]; exact X.here
  have hlocals9 : W9 + (maxL + 11) + (headSpec ws rm).room.locals ≤ R.locals := hlocals
  have happ : (headSpec ws rm).appliesLoose y e.platform (U.calling g mk a) = true :=
    Spec.appliesLoose_calling (g := g) h hdg hn hkY hinitY
      (X.room_calling (g := g) (R' := (headSpec ws rm).room) hsize hmY hcY hframes (by rw [hlY]; omega) h4 h5) h1
  obtain ⟨mid, hmid⟩ := h.above
  have hfr : (U.setTop g).frames = (.java g :: mid) ++ below := by rw [State.frames_setTop' g h.top, hmid]; rfl
  obtain ⟨o, s₂, hsteps, -, hend, hq⟩ := Steps.callFree hM p X.admits X.cas X.clock (acts := []) hfr happ hPc trivial
  have hq' : vx_Q Qc XC mc ms free a (U.calling g mk a) o s₂ := hq
  rw [State.frames_setTop' g h.top] at hend
  obtain ⟨g₀, hg0⟩ := Option.isSome_iff_exists.mp h.top
  obtain ⟨r, hr⟩ := State.topJava?_eq_some.mp hg0
  have hr' : (({ U with heap := s₂.heap, slotsUsed := s₂.slotsUsed } : State).setVm s₂.vm).frames = .java g₀ :: r := hr
  rcases hq' with ⟨hqc, L, hfe, hL⟩ | ⟨q, rfl, E, ce, L, hx, hce, hcv, hcl, hW₂, hsm, hL⟩
  · obtain ⟨⟨v, rfl⟩, hW₂, e2, q2, q3, q4, q5, q6⟩ := id hfe
    have e3 : s₂ = ({ (U.calling g mk a).setFrames s₂.frames with heap := s₂.heap, slotsUsed := s₂.slotsUsed } : State).setVm s₂.vm := by
      have : s₂ = ({ s₂ with vm := (U.calling g mk a).vm } : State).setVm s₂.vm := rfl
      rw [e2] at this
      exact this
    obtain ⟨c₂, i₂, len₂, hc₂, hd₂, hf₂⟩ := hend
    have hW' : U.WarmedH s₂.vm := hW₂
    have hcc : c₂ = c := by
      have h1 : s₂.code? g.method = U.code? g.method := by
        rw [State.code?_eq, State.code?_eq, hW'.alike.method?]
      exact Option.some.inj (hc₂.symm.trans (h1.trans h.code))
    subst hcc
    have hlen : len₂ = len := by rw [hdg] at hd₂; cases hd₂; rfl
    subst hlen
    have hs₂ : s₂ = (({ U with heap := s₂.heap, slotsUsed := s₂.slotsUsed } : State).setVm s₂.vm).setTop { g with pc := g.pc + len₂, stack := v.toList ++ g.stack } := by
      refine e3.trans ?_
      rw [hf₂, State.calling_eq h.top, State.setFrames_setFrames, State.setTop_of_frames _ hr', hr]
      rfl
    have hsame : U.sameButNew ({ U with heap := s₂.heap, slotsUsed := s₂.slotsUsed } : State) L mc ms := by
      refine ⟨?_, q2, q3, q4, q5, q6⟩
      obtain ⟨t, ht, -⟩ := State.frames_cons hr
      show ({ U with heap := s₂.heap, slotsUsed := s₂.slotsUsed } : State) = { U.setFrames U.frames with heap := s₂.heap, slotsUsed := s₂.slotsUsed }
      rw [State.setFrames_self ht]
    subst hg
    refine Or.inl ⟨v, ⟨(({ U with heap := s₂.heap, slotsUsed := s₂.slotsUsed } : State).setVm s₂.vm), Ls ++ L, c0 + mc, s0 + ms⟩,
      ⟨X.admits, X.cas, X.clock, X.frames, X.room, X.hears, X.method, X.code, (X.here.setHeapUsed s₂.heap s₂.slotsUsed).setVm hW'.alike, X.tail, State.WarmedH.trans X.warmed hW', X.limits, X.bytes, X.same.trans (hsame.setVm s.vm)⟩,
      ⟨g, mk, s₂, L, rfl, rfl, hqc, rfl, hL, rfl, rfl⟩, ?_⟩
    show Steps p.tables e below _ ((({ U with heap := s₂.heap, slotsUsed := s₂.slotsUsed } : State).setVm s₂.vm).setTop { g with pc := g.pc + len₂, stack := v.toList ++ g.stack })
    rw [← hs₂]
    exact hsteps
  · obtain ⟨e2, q2, q3, q4, q5, q6⟩ := id hsm
    have e3 : s₂ = ({ (U.calling g mk a).setFrames s₂.frames with heap := s₂.heap, slotsUsed := s₂.slotsUsed } : State).setVm s₂.vm := by
      have : s₂ = ({ s₂ with vm := (U.calling g mk a).vm } : State).setVm s₂.vm := rfl
      rw [e2] at this
      exact this
    have hf₂ : s₂.frames = .throwing q :: .java g :: U.frames.tail := hend
    have hW' : U.WarmedH s₂.vm := hW₂
    have hs₂ : s₂ = ((({ U with heap := s₂.heap, slotsUsed := s₂.slotsUsed } : State).setVm s₂.vm).setTop g).pushFrame (.throwing q) := by
      refine e3.trans ?_
      rw [hf₂, State.calling_eq h.top, State.setFrames_setFrames, State.pushFrame, State.frames_setTop _ hr', State.setTop_of_frames _ hr', State.setFrames_setFrames, hr]
      rfl
    have hsame : U.sameButNew ({ U with heap := s₂.heap, slotsUsed := s₂.slotsUsed } : State) L mc ms := by
      refine ⟨?_, q2, q3, q4, q5, q6⟩
      obtain ⟨t, ht, -⟩ := State.frames_cons hr
      show ({ U with heap := s₂.heap, slotsUsed := s₂.slotsUsed } : State) = { U.setFrames U.frames with heap := s₂.heap, slotsUsed := s₂.slotsUsed }
      rw [State.setFrames_self ht]
    subst hg
    refine Or.inr ⟨q, ⟨(({ U with heap := s₂.heap, slotsUsed := s₂.slotsUsed } : State).setVm s₂.vm), Ls ++ L, c0 + mc, s0 + ms⟩,
      ⟨X.admits, X.cas, X.clock, X.frames, X.room, X.hears, X.method, X.code, (X.here.setHeapUsed s₂.heap s₂.slotsUsed).setVm hW'.alike, X.tail, State.WarmedH.trans X.warmed hW', X.limits, X.bytes, X.same.trans (hsame.setVm s.vm)⟩,
      ⟨g, mk, s₂, L, E, ce, rfl, rfl, hx, hce, hcv, hcl, rfl, hL, rfl, rfl⟩, ?_⟩
    show Steps p.tables e below _ (((({ U with heap := s₂.heap, slotsUsed := s₂.slotsUsed } : State).setVm s₂.vm).setTop g).pushFrame (.throwing q))
    rw [← hs₂]
    exact hsteps
end
variable {p : Program} {l : Launch} {e : Env} {R : Room} {s : State} {m : MethodId} {args : Array Value} {below : List Frame} {meth : Method} {c : Code} {T : State} {H : Heap} {locs : List Loc} {cells slots : Nat}
theorem vx_callVX (X : Stand p l e R s m args below meth c T locs cells slots) (hexec : p.tables.exec = Jvm.exec) {own C : String} {index : Nat} {y : MethodName} {bytes : ByteArray} {maxL : Nat} {ret : Option FieldType} {hh : List (Nat × Nat × Nat × Nat)}
    (hown : s.vm.findClass own = some m.cls) (hlink : (Cond.methodLink own index y).before args s = true) (hinst : (Cond.instanceMethod y).before args s = true) (hsel : (Cond.selects C y y).before args s = true)
    (hcode : (Cond.codeWith y bytes maxL ret hh).before args s = true) (hy : y.cls ≠ "java/lang/invoke/MethodHandle" ∧ y.cls ≠ "java/lang/invoke/VarHandle")
    {W9 : Nat} {Pre : Pt → Array Value → Prop} {Post : Pt → Array Value → Option Value → Pt → Prop} {PostX : Pt → Array Value → Addr → Pt → Prop} (hK : vx_Back l R p e below s args y 3 W9 Pre Post PostX)
    {b : Addr} {cellB : Cell} (hcell : T.heap[b]? = some cellB) (hobj : cellB.vm.isStatics = false) (hcls : s.vm.findClass C = some cellB.cls)
    {g : JFrame} (hg : g.method = m) (hsize : g.locals.size = c.maxLocals) {argsL rest : List Value} (hlen : ∀ sig, parseMethodDescriptor y.desc = some sig → argsL.length = sig.parameters.length)
    (hstack : g.stack = argsL.reverse ++ .ref b :: rest) (hW : 2 * g.monitorRoom + (rest.map fun v => v.category).sum ≤ W9) (hdg : decode c.code g.pc = .ok (.invokevirtual index, 3))
    (hpre : ∀ vm₁, s.WarmedH vm₁ → Pre ⟨T.setVm vm₁, locs, cells, slots⟩ (Value.ref b :: argsL).toArray) :
    (∃ (v : Option Value) (vm₁ : Vm) (B : Pt), s.WarmedH vm₁ ∧ Stand p l e R s m args below meth c B.U B.locs B.cells B.slots ∧ Post ⟨T.setVm vm₁, locs, cells, slots⟩ (Value.ref b :: argsL).toArray v B ∧
      ∀ target, Steps p.tables e below (B.U.setTop { g with pc := g.pc + 3, stack := v.toList ++ rest }) target → Steps p.tables e below (T.setTop g) target) ∨
    (∃ (q : Addr) (vm₁ : Vm) (B : Pt), s.WarmedH vm₁ ∧ Stand p l e R s m args below meth c B.U B.locs B.cells B.slots ∧ PostX ⟨T.setVm vm₁, locs, cells, slots⟩ (Value.ref b :: argsL).toArray q B ∧
      Steps p.tables e below (T.setTop g) ((B.U.setTop { g with stack := rest }).pushFrame (.throwing q))) := by
  obtain ⟨mk, methM, hnamed, hmethM, hstM, habM⟩ := Cond.instanceMethod_spec hinst
  obtain ⟨m8, methM', cM, hn8, hmethM', -, -, -, -, -, -, hsigM⟩ := Cond.codeWith_spec hcode
  cases Option.some.inj (hn8.symm.trans hnamed)
  cases hmethM.symm.trans hmethM'
  obtain ⟨c2, r2, m2, q1, q2, q3, q4, kP, hkP, hkPi⟩ := Cond.selects_spec hsel
  cases hcls.symm.trans q1
  cases (State.methodFound?_of_named hnamed hy).symm.trans q2
  cases hnamed.symm.trans q3
  have hselP : selectMethod e.platform s.vm cellB.cls mk = .method mk := by rw [Launch.admits_selectMethod X.admits]; exact q4
  obtain ⟨vm₁, X₁, hstep₁⟩ := X.invokevirtual hexec hown hlink hnamed hmethM hstM hkP hkPi hy (a := b) (cell := cellB) hcell
    (fun z h => by rw [h] at hobj; cases hobj) hselP hmethM habM hkP hkPi (g := g) hg (argsL := argsL) (rest := rest) (hlen _ hsigM) hstack hdg
  rcases hK m meth c ⟨T.setVm vm₁, locs, cells, slots⟩ { g with stack := rest } (.invokevirtual index) mk (Value.ref b :: argsL).toArray X₁ hg hsize hdg hW (X₁.named hnamed) (hpre vm₁ X₁.warmed) with ⟨v, B, X', hpost, hsteps⟩ | ⟨q, B, X', hpost, hsteps⟩
  · exact Or.inl ⟨v, vm₁, B, X₁.warmed, X', hpost, fun target h => hstep₁ _ fun acts => by rw [doInvoke_state]; exact hsteps.trans h⟩
  · exact Or.inr ⟨q, vm₁, B, X₁.warmed, X', hpost, hstep₁ _ fun acts => by rw [doInvoke_state]; exact hsteps⟩
theorem vx_callSX (X : Stand p l e R s m args below meth c T locs cells slots) (hexec : p.tables.exec = Jvm.exec) {own : String} {index : Nat} {y : MethodName} {bytes : ByteArray} {maxL : Nat} {ret : Option FieldType} {hh : List (Nat × Nat × Nat × Nat)}
    (hown : s.vm.findClass own = some m.cls) (hlink : (Cond.methodLink own index y).before args s = true) (hstat : (Cond.static y).before args s = true) (hinit : (Cond.initialized y.cls).before args s = true)
    (hcode : (Cond.codeWith y bytes maxL ret hh).before args s = true) (hy : y.cls ≠ "java/lang/invoke/MethodHandle" ∧ y.cls ≠ "java/lang/invoke/VarHandle")
    {W9 : Nat} {Pre : Pt → Array Value → Prop} {Post : Pt → Array Value → Option Value → Pt → Prop} {PostX : Pt → Array Value → Addr → Pt → Prop} (hK : vx_Back l R p e below s args y 3 W9 Pre Post PostX)
    {g : JFrame} (hg : g.method = m) (hsize : g.locals.size = c.maxLocals) {argsL rest : List Value} (hlen : ∀ sig, parseMethodDescriptor y.desc = some sig → argsL.length = sig.parameters.length)
    (hstack : g.stack = argsL.reverse ++ rest) (hW : 2 * g.monitorRoom + (rest.map fun v => v.category).sum ≤ W9) (hdg : decode c.code g.pc = .ok (.invokestatic index, 3))
    (hpre : ∀ vm₁, s.WarmedH vm₁ → Pre ⟨T.setVm vm₁, locs, cells, slots⟩ argsL.toArray) :
    (∃ (v : Option Value) (vm₁ : Vm) (B : Pt), s.WarmedH vm₁ ∧ Stand p l e R s m args below meth c B.U B.locs B.cells B.slots ∧ Post ⟨T.setVm vm₁, locs, cells, slots⟩ argsL.toArray v B ∧
      ∀ target, Steps p.tables e below (B.U.setTop { g with pc := g.pc + 3, stack := v.toList ++ rest }) target → Steps p.tables e below (T.setTop g) target) ∨
    (∃ (q : Addr) (vm₁ : Vm) (B : Pt), s.WarmedH vm₁ ∧ Stand p l e R s m args below meth c B.U B.locs B.cells B.slots ∧ PostX ⟨T.setVm vm₁, locs, cells, slots⟩ argsL.toArray q B ∧
      Steps p.tables e below (T.setTop g) ((B.U.setTop { g with stack := rest }).pushFrame (.throwing q))) := by
  obtain ⟨mk, methM, cM, hnamed, hmethM, -, -, -, -, -, -, hsigM⟩ := Cond.codeWith_spec hcode
  have hstatic : methM.isStatic = true := Cond.static_spec hnamed hmethM hstat
  obtain ⟨kP, hkP, -⟩ := className_of_methodNamed hnamed
  have hinitP : kP.init = .initialized := Cond.initialized_spec (findClass_of_methodNamed hnamed) hkP hinit
  obtain ⟨vm₁, X₁, hstep₁⟩ := X.invokestatic hexec hown hlink hnamed hmethM hstatic hkP hinitP hy (g := g) hg (argsL := argsL) (rest := rest) (hlen _ hsigM) hstack hdg
  rcases hK m meth c ⟨T.setVm vm₁, locs, cells, slots⟩ { g with stack := rest } (.invokestatic index) mk argsL.toArray X₁ hg hsize hdg hW (X₁.named hnamed) (hpre vm₁ X₁.warmed) with ⟨v, B, X', hpost, hsteps⟩ | ⟨q, B, X', hpost, hsteps⟩
  · exact Or.inl ⟨v, vm₁, B, X₁.warmed, X', hpost, fun target h => hstep₁ _ fun acts => by rw [doInvoke_state]; exact hsteps.trans h⟩
  · exact Or.inr ⟨q, vm₁, B, X₁.warmed, X', hpost, hstep₁ _ fun acts => by rw [doInvoke_state]; exact hsteps⟩
theorem vx_callVW (X : Stand p l e R s m args below meth c T locs cells slots) (hexec : p.tables.exec = Jvm.exec) {own C : String} {index : Nat} {y : MethodName} {bytes : ByteArray} {maxL : Nat} {ret : Option FieldType} {hh : List (Nat × Nat × Nat × Nat)}
    (hown : s.vm.findClass own = some m.cls) (hlink : (Cond.methodLink own index y).before args s = true) (hinst : (Cond.instanceMethod y).before args s = true) (hsel : (Cond.selects C y y).before args s = true)
    (hcode : (Cond.codeWith y bytes maxL ret hh).before args s = true) (hy : y.cls ≠ "java/lang/invoke/MethodHandle" ∧ y.cls ≠ "java/lang/invoke/VarHandle")
    {W9 : Nat} {Pre : Pt → Array Value → Prop} {Post : Pt → Array Value → Option Value → Pt → Prop} (hK : Back l R p e below s args y 3 W9 Pre Post)
    {b : Addr} {cellB : Cell} (hcell : T.heap[b]? = some cellB) (hobj : cellB.vm.isStatics = false) (hcls : s.vm.findClass C = some cellB.cls)
    {g : JFrame} (hg : g.method = m) (hsize : g.locals.size = c.maxLocals) {argsL rest : List Value} (hlen : ∀ sig, parseMethodDescriptor y.desc = some sig → argsL.length = sig.parameters.length)
    (hstack : g.stack = argsL.reverse ++ .ref b :: rest) (hW : 2 * g.monitorRoom + (rest.map fun v => v.category).sum ≤ W9) (hdg : decode c.code g.pc = .ok (.invokevirtual index, 3))
    (hpre : ∀ vm₁, s.WarmedH vm₁ → Pre ⟨T.setVm vm₁, locs, cells, slots⟩ (Value.ref b :: argsL).toArray) :
    ∃ (v : Option Value) (vm₁ : Vm) (B : Pt), s.WarmedH vm₁ ∧ Stand p l e R s m args below meth c B.U B.locs B.cells B.slots ∧ Post ⟨T.setVm vm₁, locs, cells, slots⟩ (Value.ref b :: argsL).toArray v B ∧
      ∀ target, Steps p.tables e below (B.U.setTop { g with pc := g.pc + 3, stack := v.toList ++ rest }) target → Steps p.tables e below (T.setTop g) target := by
  obtain ⟨mk, methM, hnamed, hmethM, hstM, habM⟩ := Cond.instanceMethod_spec hinst
  obtain ⟨m8, methM', cM, hn8, hmethM', -, -, -, -, -, -, hsigM⟩ := Cond.codeWith_spec hcode
  cases Option.some.inj (hn8.symm.trans hnamed)
  cases hmethM.symm.trans hmethM'
  obtain ⟨c2, r2, m2, q1, q2, q3, q4, kP, hkP, hkPi⟩ := Cond.selects_spec hsel
  cases hcls.symm.trans q1
  cases (State.methodFound?_of_named hnamed hy).symm.trans q2
  cases hnamed.symm.trans q3
  have hselP : selectMethod e.platform s.vm cellB.cls mk = .method mk := by rw [Launch.admits_selectMethod X.admits]; exact q4
  obtain ⟨vm₁, X₁, hstep₁⟩ := X.invokevirtual hexec hown hlink hnamed hmethM hstM hkP hkPi hy (a := b) (cell := cellB) hcell
    (fun z h => by rw [h] at hobj; cases hobj) hselP hmethM habM hkP hkPi (g := g) hg (argsL := argsL) (rest := rest) (hlen _ hsigM) hstack hdg
  obtain ⟨v, B, X', hpost, hsteps⟩ := hK m meth c ⟨T.setVm vm₁, locs, cells, slots⟩ { g with stack := rest } (.invokevirtual index) mk (Value.ref b :: argsL).toArray X₁ hg hsize hdg hW (X₁.named hnamed) (hpre vm₁ X₁.warmed)
  exact ⟨v, vm₁, B, X₁.warmed, X', hpost, fun target h => hstep₁ _ fun acts => by rw [doInvoke_state]; exact hsteps.trans h⟩
abbrev vx_CVW (R : Room) (s : State) (args : Array Value) (own C : String) (index : Nat) (y : MethodName) (bytes : ByteArray) (maxL : Nat) (ret : Option FieldType) (hh : List (Nat × Nat × Nat × Nat)) (ws : List Cond) (rm : Room) (mc ms n : Nat) : Prop :=
  (rm.cells = mc ∧ rm.slots = ms ∧ rm.frames + 1 ≤ R.frames ∧ 8 + (maxL + 11) + rm.locals ≤ R.locals ∧ (∀ w ∈ ws, ∀ (a' : Array Value) (U : State), s.WarmedH U.vm → w.before a' U = true) ∧ Cond.codeWith y bytes maxL ret hh ∈ ws) ∧
  (Cond.codeWith y bytes maxL ret hh).before args s = true ∧ (Cond.initialized y.cls).before args s = true ∧ (y.cls ≠ "java/lang/invoke/MethodHandle" ∧ y.cls ≠ "java/lang/invoke/VarHandle") ∧
  (∀ sig, parseMethodDescriptor y.desc = some sig → n = sig.parameters.length) ∧ (Cond.methodLink own index y).before args s = true ∧ (Cond.instanceMethod y).before args s = true ∧ (Cond.selects C y y).before args s = true
theorem vx_cwVW {own C : String} {index maxL mc ms : Nat} {y : MethodName} {bytes : ByteArray} {ret : Option FieldType} {hh : List (Nat × Nat × Nat × Nat)} {Ts ws ws' : List Cond} {rm : Room} (n : Nat) (ht : ∀ w ∈ Ts, w.before args s = true) (hT : GoodIn Ts (wsV own index C y ws)) (hw : ws = Cond.codeWith y bytes maxL ret hh :: ws') (hrc : rm.cells = mc) (hrs : rm.slots = ms)
    (hd : y.cls = C ∧ y.cls ≠ "java/lang/invoke/MethodHandle" ∧ y.cls ≠ "java/lang/invoke/VarHandle" ∧ (parseMethodDescriptor y.desc).map (fun d => d.parameters.length) = some n) (hR : rm.frames + 1 ≤ R.frames ∧ 8 + (maxL + 11) + rm.locals ≤ R.locals) :
    vx_CVW R s args own C index y bytes maxL ret hh ws rm mc ms n := by
  obtain ⟨hC, hd⟩ := hd
  subst hC
  have ok : ∀ w ∈ wsV own index y.cls y ws, w.before args s = true := fun w h => ht w (hT w h).1
  have hG : GoodIn Ts ws := fun w h => hT w (by unfold wsV; exact List.mem_append_right _ h)
  have hc : Cond.codeWith y bytes maxL ret hh ∈ ws := by rw [hw]; exact List.mem_cons_self
  refine ⟨⟨hrc, hrs, hR.1, hR.2, pay_in ht hG, hc⟩, ht _ (hG _ hc).1, ok _ (by simp [wsV]), ⟨hd.1, hd.2.1⟩, fun sig h => ?_, ok _ (by simp [wsV]), ok _ (by simp [wsV]), ok _ (by simp [wsV])⟩
  have h2 := hd.2.2
  rw [h] at h2
  exact (Option.some.inj h2).symm
theorem vx_runVW {y : MethodName} {bytes cc : ByteArray} {maxL nL mc ms n index : Nat} {ret : Option FieldType} {hh : List (Nat × Nat × Nat × Nat)} {ws : List Cond} {rm : Room} {Pc : Array Value → State → Prop} {Qc : Array Value → State → Outcome → State → Prop} {free : Addr → Prop} {Ts : List Cond} {own C : String} {b : Addr} {As rest : List Value} {g : JFrame}
    (S : CallFix p m c cc nL s args Ts own) (hM : Met l y ws rm Pc Qc mc ms free) (cw : vx_CVW R s args own C index y bytes maxL ret hh ws rm mc ms n) (hp : PreV s H C b Pc As)
    (hg : g.method = m) (hn : As.length = n) (hsize : g.locals.size = nL) (hstack : g.stack = As.reverse ++ .ref b :: rest) (hW : 2 * g.monitorRoom + (rest.map fun v => v.category).sum ≤ 8) (hdg : decode cc g.pc = .ok (.invokevirtual index, 3)) (hf : cells + mc ≤ R.cells ∧ slots + ms ≤ R.slots) :
    va_Run p l e R s m args below meth c H locs cells slots mc ms g rest (Qc (Value.ref b :: As).toArray) free := by
  obtain ⟨⟨hrc, hrs, hfr, hlo, hws, hcw⟩, hcode, hini, hy, hlen, hl, hin, hse⟩ := cw
  have hK : Back l R p e below s args y 3 8 (PreOf R mc ms Pc) (PostOf Qc mc ms free) := va_backW (hh := hh) (bytes := bytes) (maxL := maxL) (ret := ret) hM hp.1 hrc hrs hfr hlo hws hcw (fun a' U hW => word_at hW (Or.inl (by first | rfl | simp [Cond.onTables, Cond.keeps, Cond.steady])) hini)
  obtain ⟨hx, hb, hml, ho, -⟩ := S
  obtain ⟨-, ⟨cellB, hcB, hoB, hclB⟩, hPc⟩ := hp
  intro T hT X
  obtain ⟨v, vm₁, ⟨U', l2, c2, s2⟩, hW₁, X', ⟨g', mk, t, L, e1, e2, hq, h1, hL, h2, h3⟩, st⟩ := vx_callVW X hx (C := C) (hh := hh) (bytes := bytes) (maxL := maxL) (ret := ret) ho hl hin hse hcode hy hK (by rw [hT]; exact hcB) hoB hclB hg (hsize.trans hml.symm) (argsL := As) (rest := rest) (fun sig h => hn.trans (hlen sig h)) hstack hW (by rw [hb]; exact hdg)
    (fun vm₁ hW₁ => ⟨hf.1, hf.2, hPc (T.setVm vm₁) hT hW₁⟩)
  dsimp only [Pt.U, Pt.locs, Pt.cells, Pt.slots] at X' e1 e2 h1 h2 h3 st
  subst h1; subst h2; subst h3
  exact ⟨v, (T.setVm vm₁).calling g' mk (Value.ref b :: As).toArray, t, U', L, hT, X', hL, e1, e2, hq, st⟩
section
variable {y : MethodName} {bytes cc : ByteArray} {maxL nL mc ms n index : Nat} {ret : Option FieldType} {ws : List Cond} {rm : Room} {Pc : Array Value → State → Prop} {Qc : Array Value → State → Outcome → State → Prop} {XC : String → State → State → Prop} {free : Addr → Prop} {Ts : List Cond} {own C : String} {b : Addr} {As rest : List Value} {g : JFrame}
theorem vx_runVX {hh : List (Nat × Nat × Nat × Nat)} (S : CallFix p m c cc nL s args Ts own) (hM : vx_Met l y ws rm Pc Qc XC mc ms free) (cw : vx_CVW R s args own C index y bytes maxL ret hh ws rm mc ms n) (hp : PreV s H C b Pc As)
    (hg : g.method = m) (hn : As.length = n) (hsize : g.locals.size = nL) (hstack : g.stack = As.reverse ++ .ref b :: rest) (hW : 2 * g.monitorRoom + (rest.map fun v => v.category).sum ≤ 8) (hdg : decode cc g.pc = .ok (.invokevirtual index, 3)) (hf : cells + mc ≤ R.cells ∧ slots + ms ≤ R.slots) :
    vx_Run p l e R s m args below meth c H locs cells slots mc ms g rest (Qc (Value.ref b :: As).toArray) XC free := by
  obtain ⟨⟨hrc, hrs, hfr, hlo, hws, hcw⟩, hcode, hini, hy, hlen, hl, hin, hse⟩ := cw
  have hK : vx_Back l R p e below s args y 3 8 (PreOf R mc ms Pc) (PostOf Qc mc ms free) (vx_Post XC mc ms free) := vx_backW (hh := hh) (bytes := bytes) (maxL := maxL) (ret := ret) hM hp.1 hrc hrs hfr hlo hws hcw (fun a' U hW => word_at hW (Or.inl (by first | rfl | simp [Cond.onTables, Cond.keeps, Cond.steady])) hini)
  obtain ⟨hx, hb, hml, ho, -⟩ := S
  obtain ⟨-, ⟨cellB, hcB, hoB, hclB⟩, hPc⟩ := hp
  intro T hT X
  rcases vx_callVX X hx (C := C) (hh := hh) (bytes := bytes) (maxL := maxL) (ret := ret) ho hl hin hse hcode hy hK (by rw [hT]; exact hcB) hoB hclB hg (hsize.trans hml.symm) (argsL := As) (rest := rest) (fun sig h => hn.trans (hlen sig h)) hstack hW (by rw [hb]; exact hdg)
    (fun vm₁ hW₁ => ⟨hf.1, hf.2, hPc (T.setVm vm₁) hT hW₁⟩) with ⟨v, vm₁, ⟨U', l2, c2, s2⟩, hW₁, X', ⟨g', mk, t, L, e1, e2, hq, h1, hL, h2, h3⟩, st⟩ | ⟨q, vm₁, ⟨U', l2, c2, s2⟩, hW₁, X', ⟨g', mk, t, L, E, ce, e1, e2, hq, hce, hcv, hcl, h1, hL, h2, h3⟩, st⟩
  · dsimp only [Pt.U, Pt.locs, Pt.cells, Pt.slots] at X' e1 e2 h1 h2 h3 st
    subst h1; subst h2; subst h3
    exact Or.inl ⟨v, (T.setVm vm₁).calling g' mk (Value.ref b :: As).toArray, t, U', L, hT, X', hL, e1, e2, hq, st⟩
  · dsimp only [Pt.U, Pt.locs, Pt.cells, Pt.slots] at X' e1 e2 h1 h2 h3 st hcl
    subst h1; subst h2; subst h3
    exact Or.inr ⟨q, (T.setVm vm₁).calling g' mk (Value.ref b :: As).toArray, t, U', L, E, ce, hT, X', hL, e1, e2, hq, hce, hcv, vx_cls hW₁ hcl, st⟩
theorem vx_runSX {hh : List (Nat × Nat × Nat × Nat)} (S : CallFix p m c cc nL s args Ts own) (hM : vx_Met l y ws rm Pc Qc XC mc ms free) (cw : vx_CSW R s args own index y bytes maxL ret hh ws rm mc ms n) (hp : PreS s H Pc As)
    (hg : g.method = m) (hn : As.length = n) (hsize : g.locals.size = nL) (hstack : g.stack = As.reverse ++ rest) (hW : 2 * g.monitorRoom + (rest.map fun v => v.category).sum ≤ 8) (hdg : decode cc g.pc = .ok (.invokestatic index, 3)) (hf : cells + mc ≤ R.cells ∧ slots + ms ≤ R.slots) :
    vx_Run p l e R s m args below meth c H locs cells slots mc ms g rest (Qc As.toArray) XC free := by
  obtain ⟨⟨hrc, hrs, hfr, hlo, hws, hcw⟩, hcode, hini, hy, hlen, hl, hstt⟩ := cw
  have hK : vx_Back l R p e below s args y 3 8 (PreOf R mc ms Pc) (PostOf Qc mc ms free) (vx_Post XC mc ms free) := vx_backW (hh := hh) (bytes := bytes) (maxL := maxL) (ret := ret) hM hp.1 hrc hrs hfr hlo hws hcw (fun a' U hW => word_at hW (Or.inl (by first | rfl | simp [Cond.onTables, Cond.keeps, Cond.steady])) hini)
  obtain ⟨hx, hb, hml, ho, -⟩ := S
  intro T hT X
  rcases vx_callSX X hx (hh := hh) (bytes := bytes) (maxL := maxL) (ret := ret) ho hl hstt hini hcode hy hK hg (hsize.trans hml.symm) (argsL := As) (rest := rest) (fun sig h => hn.trans (hlen sig h)) hstack hW (by rw [hb]; exact hdg)
    (fun vm₁ hW₁ => ⟨hf.1, hf.2, hp.2 (T.setVm vm₁) hT hW₁⟩) with ⟨v, vm₁, ⟨U', l2, c2, s2⟩, hW₁, X', ⟨g', mk, t, L, e1, e2, hq, h1, hL, h2, h3⟩, st⟩ | ⟨q, vm₁, ⟨U', l2, c2, s2⟩, hW₁, X', ⟨g', mk, t, L, E, ce, e1, e2, hq, hce, hcv, hcl, h1, hL, h2, h3⟩, st⟩
  · dsimp only [Pt.U, Pt.locs, Pt.cells, Pt.slots] at X' e1 e2 h1 h2 h3 st
    subst h1; subst h2; subst h3
    exact Or.inl ⟨v, (T.setVm vm₁).calling g' mk As.toArray, t, U', L, hT, X', hL, e1, e2, hq, st⟩
  · dsimp only [Pt.U, Pt.locs, Pt.cells, Pt.slots] at X' e1 e2 h1 h2 h3 st hcl
    subst h1; subst h2; subst h3
    exact Or.inr ⟨q, (T.setVm vm₁).calling g' mk As.toArray, t, U', L, E, ce, hT, X', hL, e1, e2, hq, hce, hcv, vx_cls hW₁ hcl, st⟩
end
end VXH
theorem vx_ofWH {l : Launch} {y : MethodName} {ws ws' : List Cond} {rm : Room} {Pc : Array Value → State → Prop} {Qc : Array Value → State → Outcome → State → Prop} {XC : String → State → State → Prop} {mc ms : Nat} {free : Addr → Prop} {cc : ByteArray} {maxL : Nat} {ret : Option FieldType} {hh : List (Nat × Nat × Nat × Nat)}
    (hy : plainName y.cls = true) (hw : ws = Cond.codeWith y cc maxL ret hh :: ws')
    (body : ∀ p e s m args below meth c s₁, BodyLoose p l y (headSpec ws rm) cc maxL ret e s m args below meth c s₁ → c.maxLocals = maxL → Pc args s →
      W p l e (headSpec ws rm).room s m args below meth c s.heap [] 0 0 (vx_MQ below Qc XC args s mc ms free) (entryFrame m args maxL)) : vx_Met l y ws rm Pc Qc XC mc ms free := by
  refine MetFree.of_bodyS (code := cc) (maxLocals := maxL) (ret := ret) hy ?_ ?_
  · intro args s m h hn
    obtain ⟨m9, meth, c, hn9, h1, h2, h3, h4, -, h5, h6, -⟩ := Cond.codeWith_spec (atoms_spec (ws := ws) h _ (by rw [hw]; exact List.mem_cons_self))
    cases hn.symm.trans hn9
    exact ⟨meth, c, h1, h2, h3, h4, h5, h6⟩
  · intro p e s m args below meth c s₁ B hml hP _
    have hh0 : s₁.heap = s.heap := by rw [B.state]; rfl
    obtain ⟨t, a1, o, b1, b2, b3⟩ := body p e s m args below meth c s₁ B hml hP s₁ hh0 (Stand.of_body B)
    exact ⟨t, o, a1, b1, b2, b3⟩
/-! ===== END ===== -/
end
section

/-! ===== BEGIN printed: names, fields, word lists, decode rows ===== -/
def RX0 : String := "SpotAccount"
def TX0 : u_T := fun k => match k with
  | 0 => ("SpotAccount", "breakCount", "I", false)
  | 1 => ("SpotAccount", "breakSeconds", "[I", true)
  | 2 => ("SpotAccount", "breakAired", "[Z", true)
  | 3 => ("SpotAccount", "ratings", "[I", true)
  | 4 => ("SpotAccount", "orderCount", "I", false)
  | 5 => ("SpotAccount", "orderAdvertiser", "[I", true)
  | 6 => ("SpotAccount", "orderCategory", "[I", true)
  | 7 => ("SpotAccount", "orderGroup", "[I", true)
  | 8 => ("SpotAccount", "orderSeconds", "[I", true)
  | 9 => ("SpotAccount", "orderPrice", "[I", true)
  | 10 => ("SpotAccount", "orderPromise", "[I", true)
  | 11 => ("SpotAccount", "orderFloor", "[I", true)
  | 12 => ("SpotAccount", "orderClosed", "[Z", true)
  | 13 => ("SpotAccount", "spotCount", "I", false)
  | 14 => ("SpotAccount", "spotOrder", "[I", true)
  | 15 => ("SpotAccount", "spotBreak", "[I", true)
  | 16 => ("SpotAccount", "spotState", "[I", true)
  | _ => ("SpotAccount", "spotFree", "[Z", true)
def tyX0 : Nat → FieldType := fun k => match k with
  | 0 => .int
  | 1 => .array .int
  | 2 => .array .boolean
  | 3 => .array .int
  | 4 => .int
  | 5 => .array .int
  | 6 => .array .int
  | 7 => .array .int
  | 8 => .array .int
  | 9 => .array .int
  | 10 => .array .int
  | 11 => .array .int
  | 12 => .array .boolean
  | 13 => .int
  | 14 => .array .int
  | 15 => .array .int
  | 16 => .array .int
  | _ => .array .boolean
abbrev wsX00 : List Cond := u_ws RX0 TX0 18
theorem nmX0 : ∀ a, a < 18 → ∀ b, b < 18 → a ≠ b → (TX0 a).2.1 ≠ (TX0 b).2.1 := by decide +kernel
theorem tyX0_ok : ∀ k, k < 18 → parseFieldDescriptor (TX0 k).2.2.1 = some (tyX0 k) := by decide +kernel
abbrev cX0_init : ByteArray := prog_1_method_1_code
def yX0_init : MethodName := ⟨RX0, "<init>", "()V"⟩
abbrev cX0_addBreak : ByteArray := prog_1_method_2_code
def yX0_addBreak : MethodName := ⟨RX0, "addBreak", "(I)I"⟩
abbrev cX0_rate : ByteArray := prog_1_method_3_code
def yX0_rate : MethodName := ⟨RX0, "rate", "(III)I"⟩
abbrev cX0_air : ByteArray := prog_1_method_4_code
def yX0_air : MethodName := ⟨RX0, "air", "(I)I"⟩
abbrev cX0_breaks : ByteArray := prog_1_method_5_code
def yX0_breaks : MethodName := ⟨RX0, "breaks", "()I"⟩
abbrev cX0_isAired : ByteArray := prog_1_method_6_code
def yX0_isAired : MethodName := ⟨RX0, "isAired", "(I)Z"⟩
abbrev cX0_room : ByteArray := prog_1_method_7_code
def yX0_room : MethodName := ⟨RX0, "room", "(I)I"⟩
abbrev cX0_rating : ByteArray := prog_1_method_8_code
def yX0_rating : MethodName := ⟨RX0, "rating", "(II)I"⟩
abbrev cX0_addOrder : ByteArray := prog_1_method_9_code
def yX0_addOrder : MethodName := ⟨RX0, "addOrder", "(IIIIIII)I"⟩
abbrev cX0_close : ByteArray := prog_1_method_10_code
def yX0_close : MethodName := ⟨RX0, "close", "(I)I"⟩
abbrev cX0_orders : ByteArray := prog_1_method_11_code
def yX0_orders : MethodName := ⟨RX0, "orders", "()I"⟩
abbrev cX0_whyNot : ByteArray := prog_1_method_12_code
def yX0_whyNot : MethodName := ⟨RX0, "whyNot", "(II)I"⟩
abbrev cX0_place : ByteArray := prog_1_method_13_code
def yX0_place : MethodName := ⟨RX0, "place", "(II)I"⟩
abbrev cX0_give : ByteArray := prog_1_method_14_code
def yX0_give : MethodName := ⟨RX0, "give", "(II)I"⟩
abbrev cX0_fill : ByteArray := prog_1_method_15_code
def yX0_fill : MethodName := ⟨RX0, "fill", "(II)I"⟩
abbrev cX0_move : ByteArray := prog_1_method_16_code
def yX0_move : MethodName := ⟨RX0, "move", "(II)I"⟩
abbrev cX0_miss : ByteArray := prog_1_method_17_code
def yX0_miss : MethodName := ⟨RX0, "miss", "(I)Z"⟩
abbrev cX0_drop : ByteArray := prog_1_method_18_code
def yX0_drop : MethodName := ⟨RX0, "drop", "(I)V"⟩
abbrev cX0_spots : ByteArray := prog_1_method_19_code
def yX0_spots : MethodName := ⟨RX0, "spots", "()I"⟩
abbrev cX0_stateOf : ByteArray := prog_1_method_20_code
def yX0_stateOf : MethodName := ⟨RX0, "stateOf", "(I)I"⟩
abbrev cX0_breakOf : ByteArray := prog_1_method_21_code
def yX0_breakOf : MethodName := ⟨RX0, "breakOf", "(I)I"⟩
abbrev cX0_delivered : ByteArray := prog_1_method_22_code
def yX0_delivered : MethodName := ⟨RX0, "delivered", "(I)I"⟩
abbrev cX0_owed : ByteArray := prog_1_method_23_code
def yX0_owed : MethodName := ⟨RX0, "owed", "(I)I"⟩
abbrev cX0_rest : ByteArray := prog_1_method_24_code
def yX0_rest : MethodName := ⟨RX0, "rest", "(I)I"⟩
abbrev cX0_bill : ByteArray := prog_1_method_25_code
def yX0_bill : MethodName := ⟨RX0, "bill", "(I)I"⟩
abbrev cX0_billTo : ByteArray := prog_1_method_26_code
def yX0_billTo : MethodName := ⟨RX0, "billTo", "(I)I"⟩
abbrev cX0_mostOwed : ByteArray := prog_1_method_27_code
def yX0_mostOwed : MethodName := ⟨RX0, "mostOwed", "()I"⟩
abbrev cX0_checkBreak : ByteArray := prog_1_method_28_code
def yX0_checkBreak : MethodName := ⟨RX0, "checkBreak", "(I)V"⟩
abbrev cX0_checkOrder : ByteArray := prog_1_method_29_code
def yX0_checkOrder : MethodName := ⟨RX0, "checkOrder", "(I)V"⟩
abbrev cX0_checkSpot : ByteArray := prog_1_method_30_code
def yX0_checkSpot : MethodName := ⟨RX0, "checkSpot", "(I)V"⟩
abbrev cX0_checkIndex : ByteArray := prog_1_method_31_code
def yX0_checkIndex : MethodName := ⟨RX0, "checkIndex", "(II)V"⟩
abbrev cX0_checkArgument : ByteArray := prog_1_method_32_code
def yX0_checkArgument : MethodName := ⟨RX0, "checkArgument", "(Z)V"⟩
abbrev cX0_checkState : ByteArray := prog_1_method_33_code
def yX0_checkState : MethodName := ⟨RX0, "checkState", "(Z)V"⟩
abbrev cX0_isWithin : ByteArray := prog_1_method_34_code
def yX0_isWithin : MethodName := ⟨RX0, "isWithin", "(III)Z"⟩
abbrev cX0_isGroup : ByteArray := prog_1_method_35_code
def yX0_isGroup : MethodName := ⟨RX0, "isGroup", "(I)Z"⟩
abbrev cX0_isAdvertiser : ByteArray := prog_1_method_36_code
def yX0_isAdvertiser : MethodName := ⟨RX0, "isAdvertiser", "(I)Z"⟩
abbrev cX0_isSpotLength : ByteArray := prog_1_method_37_code
def yX0_isSpotLength : MethodName := ⟨RX0, "isSpotLength", "(I)Z"⟩
abbrev cX0_obstacle : ByteArray := prog_1_method_38_code
def yX0_obstacle : MethodName := ⟨RX0, "obstacle", "(II)I"⟩
abbrev cX0_bestBreak : ByteArray := prog_1_method_39_code
def yX0_bestBreak : MethodName := ⟨RX0, "bestBreak", "(I)I"⟩
abbrev cX0_addSpot : ByteArray := prog_1_method_40_code
def yX0_addSpot : MethodName := ⟨RX0, "addSpot", "(IIZ)I"⟩
abbrev cX0_isInBreak : ByteArray := prog_1_method_41_code
def yX0_isInBreak : MethodName := ⟨RX0, "isInBreak", "(I)Z"⟩
abbrev cX0_secondsLeft : ByteArray := prog_1_method_42_code
def yX0_secondsLeft : MethodName := ⟨RX0, "secondsLeft", "(I)I"⟩
abbrev cX0_holdsAdvertiser : ByteArray := prog_1_method_43_code
def yX0_holdsAdvertiser : MethodName := ⟨RX0, "holdsAdvertiser", "(II)Z"⟩
abbrev cX0_holdsRival : ByteArray := prog_1_method_44_code
def yX0_holdsRival : MethodName := ⟨RX0, "holdsRival", "(II)Z"⟩
abbrev cX0_areRivals : ByteArray := prog_1_method_45_code
def yX0_areRivals : MethodName := ⟨RX0, "areRivals", "(II)Z"⟩
abbrev cX0_ratingCell : ByteArray := prog_1_method_46_code
def yX0_ratingCell : MethodName := ⟨RX0, "ratingCell", "(II)I"⟩
abbrev cX0_ratingFor : ByteArray := prog_1_method_47_code
def yX0_ratingFor : MethodName := ⟨RX0, "ratingFor", "(II)I"⟩
abbrev cX0_audience : ByteArray := prog_1_method_48_code
def yX0_audience : MethodName := ⟨RX0, "audience", "(II)I"⟩
abbrev cX0_isShortOfPromise : ByteArray := prog_1_method_49_code
def yX0_isShortOfPromise : MethodName := ⟨RX0, "isShortOfPromise", "(I)Z"⟩
abbrev cX0_owedTo : ByteArray := prog_1_method_50_code
def yX0_owedTo : MethodName := ⟨RX0, "owedTo", "(I)I"⟩
abbrev cX0_restOf : ByteArray := prog_1_method_51_code
def yX0_restOf : MethodName := ⟨RX0, "restOf", "(I)I"⟩
abbrev cX0_billOf : ByteArray := prog_1_method_52_code
def yX0_billOf : MethodName := ⟨RX0, "billOf", "(I)I"⟩
def RX1 : String := "SpotAccountModel"
def TX1 : u_T := fun k => match k with
  | 0 => ("SpotAccountModel", "breaks", "I", false)
  | 1 => ("SpotAccountModel", "orders", "I", false)
  | 2 => ("SpotAccountModel", "spots", "I", false)
  | 3 => ("SpotAccountModel", "length", "[I", true)
  | 4 => ("SpotAccountModel", "aired", "[Z", true)
  | 5 => ("SpotAccountModel", "rating", "[I", true)
  | 6 => ("SpotAccountModel", "advertiser", "[I", true)
  | 7 => ("SpotAccountModel", "category", "[I", true)
  | 8 => ("SpotAccountModel", "group", "[I", true)
  | 9 => ("SpotAccountModel", "seconds", "[I", true)
  | 10 => ("SpotAccountModel", "price", "[I", true)
  | 11 => ("SpotAccountModel", "promise", "[I", true)
  | 12 => ("SpotAccountModel", "floor", "[I", true)
  | 13 => ("SpotAccountModel", "closed", "[Z", true)
  | 14 => ("SpotAccountModel", "order", "[I", true)
  | 15 => ("SpotAccountModel", "where", "[I", true)
  | 16 => ("SpotAccountModel", "state", "[I", true)
  | 17 => ("SpotAccountModel", "free", "[Z", true)
  | _ => ("SpotAccountModel", "thrown", "I", false)
def tyX1 : Nat → FieldType := fun k => match k with
  | 0 => .int
  | 1 => .int
  | 2 => .int
  | 3 => .array .int
  | 4 => .array .boolean
  | 5 => .array .int
  | 6 => .array .int
  | 7 => .array .int
  | 8 => .array .int
  | 9 => .array .int
  | 10 => .array .int
  | 11 => .array .int
  | 12 => .array .int
  | 13 => .array .boolean
  | 14 => .array .int
  | 15 => .array .int
  | 16 => .array .int
  | 17 => .array .boolean
  | _ => .int
abbrev wsX10 : List Cond := u_ws RX1 TX1 19
theorem nmX1 : ∀ a, a < 19 → ∀ b, b < 19 → a ≠ b → (TX1 a).2.1 ≠ (TX1 b).2.1 := by decide +kernel
theorem tyX1_ok : ∀ k, k < 19 → parseFieldDescriptor (TX1 k).2.2.1 = some (tyX1 k) := by decide +kernel
abbrev cX1_init : ByteArray := prog_3_method_1_code
def yX1_init : MethodName := ⟨RX1, "<init>", "()V"⟩
abbrev cX1_thrown : ByteArray := prog_3_method_2_code
def yX1_thrown : MethodName := ⟨RX1, "thrown", "()I"⟩
abbrev cX1_in : ByteArray := prog_3_method_3_code
def yX1_in : MethodName := ⟨RX1, "in", "(III)Z"⟩
abbrev cX1_goes : ByteArray := prog_3_method_4_code
def yX1_goes : MethodName := ⟨RX1, "goes", "(ZZZ)Z"⟩
abbrev cX1_told : ByteArray := prog_3_method_5_code
def yX1_told : MethodName := ⟨RX1, "told", "(I)I"⟩
abbrev cX1_isBreak : ByteArray := prog_3_method_6_code
def yX1_isBreak : MethodName := ⟨RX1, "isBreak", "(I)Z"⟩
abbrev cX1_isOrder : ByteArray := prog_3_method_7_code
def yX1_isOrder : MethodName := ⟨RX1, "isOrder", "(I)Z"⟩
abbrev cX1_isSpot : ByteArray := prog_3_method_8_code
def yX1_isSpot : MethodName := ⟨RX1, "isSpot", "(I)Z"⟩
abbrev cX1_addBreak : ByteArray := prog_3_method_9_code
def yX1_addBreak : MethodName := ⟨RX1, "addBreak", "(I)I"⟩
abbrev cX1_rate : ByteArray := prog_3_method_10_code
def yX1_rate : MethodName := ⟨RX1, "rate", "(III)I"⟩
abbrev cX1_air : ByteArray := prog_3_method_11_code
def yX1_air : MethodName := ⟨RX1, "air", "(I)I"⟩
abbrev cX1_breaks : ByteArray := prog_3_method_12_code
def yX1_breaks : MethodName := ⟨RX1, "breaks", "()I"⟩
abbrev cX1_isAired : ByteArray := prog_3_method_13_code
def yX1_isAired : MethodName := ⟨RX1, "isAired", "(I)Z"⟩
abbrev cX1_stands : ByteArray := prog_3_method_14_code
def yX1_stands : MethodName := ⟨RX1, "stands", "(II)Z"⟩
abbrev cX1_roomWithout : ByteArray := prog_3_method_15_code
def yX1_roomWithout : MethodName := ⟨RX1, "roomWithout", "(II)I"⟩
abbrev cX1_room : ByteArray := prog_3_method_16_code
def yX1_room : MethodName := ⟨RX1, "room", "(I)I"⟩
abbrev cX1_rating : ByteArray := prog_3_method_17_code
def yX1_rating : MethodName := ⟨RX1, "rating", "(II)I"⟩
abbrev cX1_addOrder : ByteArray := prog_3_method_18_code
def yX1_addOrder : MethodName := ⟨RX1, "addOrder", "(IIIIIII)I"⟩
abbrev cX1_ratingFor : ByteArray := prog_3_method_19_code
def yX1_ratingFor : MethodName := ⟨RX1, "ratingFor", "(II)I"⟩
abbrev cX1_sums : ByteArray := prog_3_method_20_code
def yX1_sums : MethodName := ⟨RX1, "sums", "(IIZ)I"⟩
abbrev cX1_owes : ByteArray := prog_3_method_21_code
def yX1_owes : MethodName := ⟨RX1, "owes", "(I)I"⟩
abbrev cX1_left : ByteArray := prog_3_method_22_code
def yX1_left : MethodName := ⟨RX1, "left", "(I)I"⟩
abbrev cX1_close : ByteArray := prog_3_method_23_code
def yX1_close : MethodName := ⟨RX1, "close", "(I)I"⟩
abbrev cX1_orders : ByteArray := prog_3_method_24_code
def yX1_orders : MethodName := ⟨RX1, "orders", "()I"⟩
abbrev cX1_isThere : ByteArray := prog_3_method_25_code
def yX1_isThere : MethodName := ⟨RX1, "isThere", "(IIIZ)Z"⟩
abbrev cX1_why : ByteArray := prog_3_method_26_code
def yX1_why : MethodName := ⟨RX1, "why", "(III)I"⟩
abbrev cX1_whyNot : ByteArray := prog_3_method_27_code
def yX1_whyNot : MethodName := ⟨RX1, "whyNot", "(II)I"⟩
abbrev cX1_adds : ByteArray := prog_3_method_28_code
def yX1_adds : MethodName := ⟨RX1, "adds", "(IIZ)I"⟩
abbrev cX1_place : ByteArray := prog_3_method_29_code
def yX1_place : MethodName := ⟨RX1, "place", "(II)I"⟩
abbrev cX1_give : ByteArray := prog_3_method_30_code
def yX1_give : MethodName := ⟨RX1, "give", "(II)I"⟩
abbrev cX1_best : ByteArray := prog_3_method_31_code
def yX1_best : MethodName := ⟨RX1, "best", "(I)I"⟩
abbrev cX1_fill : ByteArray := prog_3_method_32_code
def yX1_fill : MethodName := ⟨RX1, "fill", "(II)I"⟩
abbrev cX1_move : ByteArray := prog_3_method_33_code
def yX1_move : MethodName := ⟨RX1, "move", "(II)I"⟩
abbrev cX1_miss : ByteArray := prog_3_method_34_code
def yX1_miss : MethodName := ⟨RX1, "miss", "(I)Z"⟩
abbrev cX1_drop : ByteArray := prog_3_method_35_code
def yX1_drop : MethodName := ⟨RX1, "drop", "(I)V"⟩
abbrev cX1_spots : ByteArray := prog_3_method_36_code
def yX1_spots : MethodName := ⟨RX1, "spots", "()I"⟩
abbrev cX1_stateOf : ByteArray := prog_3_method_37_code
def yX1_stateOf : MethodName := ⟨RX1, "stateOf", "(I)I"⟩
abbrev cX1_breakOf : ByteArray := prog_3_method_38_code
def yX1_breakOf : MethodName := ⟨RX1, "breakOf", "(I)I"⟩
abbrev cX1_delivered : ByteArray := prog_3_method_39_code
def yX1_delivered : MethodName := ⟨RX1, "delivered", "(I)I"⟩
abbrev cX1_owed : ByteArray := prog_3_method_40_code
def yX1_owed : MethodName := ⟨RX1, "owed", "(I)I"⟩
abbrev cX1_rest : ByteArray := prog_3_method_41_code
def yX1_rest : MethodName := ⟨RX1, "rest", "(I)I"⟩
abbrev cX1_billOf : ByteArray := prog_3_method_42_code
def yX1_billOf : MethodName := ⟨RX1, "billOf", "(I)I"⟩
abbrev cX1_bill : ByteArray := prog_3_method_43_code
def yX1_bill : MethodName := ⟨RX1, "bill", "(I)I"⟩
abbrev cX1_billTo : ByteArray := prog_3_method_44_code
def yX1_billTo : MethodName := ⟨RX1, "billTo", "(I)I"⟩
abbrev cX1_mostOwed : ByteArray := prog_3_method_45_code
def yX1_mostOwed : MethodName := ⟨RX1, "mostOwed", "()I"⟩
def RJ9 : String := "java/lang/Math"
def TJ9 : u_T := fun k => match k with
  | _ => ("", "", "", false)
def tyJ9 : Nat → FieldType := fun k => match k with
  | _ => .int
abbrev wsJ90 : List Cond := u_ws RJ9 TJ9 0
theorem nmJ9 : ∀ a, a < 0 → ∀ b, b < 0 → a ≠ b → (TJ9 a).2.1 ≠ (TJ9 b).2.1 := by decide +kernel
theorem tyJ9_ok : ∀ k, k < 0 → parseFieldDescriptor (TJ9 k).2.2.1 = some (tyJ9 k) := by decide +kernel
abbrev cJ9_max_7cf53 : ByteArray := prog_8_method_65_code
def yJ9_max_7cf53 : MethodName := ⟨RJ9, "max", "(II)I"⟩
def RJ0 : String := "java/lang/String"
def TJ0 : u_T := fun k => match k with
  | _ => ("", "", "", false)
def tyJ0 : Nat → FieldType := fun k => match k with
  | _ => .int
abbrev wsJ00 : List Cond := u_ws RJ0 TJ0 0
theorem nmJ0 : ∀ a, a < 0 → ∀ b, b < 0 → a ≠ b → (TJ0 a).2.1 ≠ (TJ0 b).2.1 := by decide +kernel
theorem tyJ0_ok : ∀ k, k < 0 → parseFieldDescriptor (TJ0 k).2.2.1 = some (tyJ0 k) := by decide +kernel
def RL : String := "SpotAccountLaw"
abbrev cL_addBreak : ByteArray := method_3_code
def yL_addBreak : MethodName := ⟨RL, "addBreak", "(LSpotAccount;I[J)I"⟩
abbrev cL_rate : ByteArray := method_4_code
def yL_rate : MethodName := ⟨RL, "rate", "(LSpotAccount;III[J)I"⟩
abbrev cL_air : ByteArray := method_5_code
def yL_air : MethodName := ⟨RL, "air", "(LSpotAccount;I[J)I"⟩
abbrev cL_isAired : ByteArray := method_6_code
def yL_isAired : MethodName := ⟨RL, "isAired", "(LSpotAccount;I[J)I"⟩
abbrev cL_room : ByteArray := method_7_code
def yL_room : MethodName := ⟨RL, "room", "(LSpotAccount;I[J)I"⟩
abbrev cL_rating : ByteArray := method_8_code
def yL_rating : MethodName := ⟨RL, "rating", "(LSpotAccount;II[J)I"⟩
abbrev cL_addOrder : ByteArray := method_9_code
def yL_addOrder : MethodName := ⟨RL, "addOrder", "(LSpotAccount;IIIIIII[J)I"⟩
abbrev cL_close : ByteArray := method_10_code
def yL_close : MethodName := ⟨RL, "close", "(LSpotAccount;I[J)I"⟩
abbrev cL_whyNot : ByteArray := method_11_code
def yL_whyNot : MethodName := ⟨RL, "whyNot", "(LSpotAccount;II[J)I"⟩
abbrev cL_place : ByteArray := method_12_code
def yL_place : MethodName := ⟨RL, "place", "(LSpotAccount;II[J)I"⟩
abbrev cL_give : ByteArray := method_13_code
def yL_give : MethodName := ⟨RL, "give", "(LSpotAccount;II[J)I"⟩
abbrev cL_fill : ByteArray := method_14_code
def yL_fill : MethodName := ⟨RL, "fill", "(LSpotAccount;II[J)I"⟩
abbrev cL_move : ByteArray := method_15_code
def yL_move : MethodName := ⟨RL, "move", "(LSpotAccount;II[J)I"⟩
abbrev cL_miss : ByteArray := method_16_code
def yL_miss : MethodName := ⟨RL, "miss", "(LSpotAccount;I[J)I"⟩
abbrev cL_drop : ByteArray := method_17_code
def yL_drop : MethodName := ⟨RL, "drop", "(LSpotAccount;I)I"⟩
abbrev cL_stateOf : ByteArray := method_18_code
def yL_stateOf : MethodName := ⟨RL, "stateOf", "(LSpotAccount;I[J)I"⟩
abbrev cL_breakOf : ByteArray := method_19_code
def yL_breakOf : MethodName := ⟨RL, "breakOf", "(LSpotAccount;I[J)I"⟩
abbrev cL_delivered : ByteArray := method_20_code
def yL_delivered : MethodName := ⟨RL, "delivered", "(LSpotAccount;I[J)I"⟩
abbrev cL_owed : ByteArray := method_21_code
def yL_owed : MethodName := ⟨RL, "owed", "(LSpotAccount;I[J)I"⟩
abbrev cL_rest : ByteArray := method_22_code
def yL_rest : MethodName := ⟨RL, "rest", "(LSpotAccount;I[J)I"⟩
abbrev cL_bill : ByteArray := method_23_code
def yL_bill : MethodName := ⟨RL, "bill", "(LSpotAccount;I[J)I"⟩
abbrev cL_billTo : ByteArray := method_24_code
def yL_billTo : MethodName := ⟨RL, "billTo", "(LSpotAccount;I[J)I"⟩
abbrev cL_law : ByteArray := code
def yL_law : MethodName := ⟨RL, "law", "([I)Z"⟩
def wsX0_init : List Cond := .code yX0_init cX0_init 1 none :: ([.methodLink RX0 1 objectInit, .instanceMethod objectInit, .code objectInit ⟨#[0xb1]⟩ 1 none, .arrayClass .int, .fieldLink RX0 9 "SpotAccount" "breakSeconds" "[I", .arrayClass .boolean, .fieldLink RX0 13 "SpotAccount" "breakAired" "[Z", .fieldLink RX0 17 "SpotAccount" "ratings" "[I", .fieldLink RX0 20 "SpotAccount" "orderAdvertiser" "[I", .fieldLink RX0 23 "SpotAccount" "orderCategory" "[I", .fieldLink RX0 26 "SpotAccount" "orderGroup" "[I", .fieldLink RX0 29 "SpotAccount" "orderSeconds" "[I", .fieldLink RX0 32 "SpotAccount" "orderPrice" "[I", .fieldLink RX0 35 "SpotAccount" "orderPromise" "[I", .fieldLink RX0 38 "SpotAccount" "orderFloor" "[I", .fieldLink RX0 41 "SpotAccount" "orderClosed" "[Z", .fieldLink RX0 44 "SpotAccount" "spotOrder" "[I", .fieldLink RX0 47 "SpotAccount" "spotBreak" "[I", .fieldLink RX0 50 "SpotAccount" "spotState" "[I", .fieldLink RX0 53 "SpotAccount" "spotFree" "[Z"] ++ wsX00)
def wsX0_isWithin : List Cond := .code yX0_isWithin cX0_isWithin 3 (some .boolean) :: ([])
def wsX0_checkArgument : List Cond := .code yX0_checkArgument cX0_checkArgument 1 none :: ([.classLink RX0 146 "java/lang/IllegalArgumentException", .initialized "java/lang/IllegalArgumentException"] ++ (vx_atS RX0 150 "java/lang/IllegalArgumentException" ["java/lang/RuntimeException", "java/lang/Exception"]).filter goodWord)
def wsX0_checkState : List Cond := .code yX0_checkState cX0_checkState 1 none :: ([.classLink RX0 151 "java/lang/IllegalStateException", .initialized "java/lang/IllegalStateException"] ++ (vx_atS RX0 155 "java/lang/IllegalStateException" ["java/lang/RuntimeException", "java/lang/Exception"]).filter goodWord)
def wsX0_addBreak : List Cond := .code yX0_addBreak cX0_addBreak 3 (some .int) :: ([.fieldLink RX0 64 "SpotAccount" "breakCount" "I", .fieldLink RX0 9 "SpotAccount" "breakSeconds" "[I", .methodLink RX0 56 yX0_isWithin, .static yX0_isWithin, .initialized RX0, .code yX0_isWithin cX0_isWithin 3 (some .boolean), .methodLink RX0 60 yX0_checkArgument, .static yX0_checkArgument, .code yX0_checkArgument cX0_checkArgument 1 none, .classLink RX0 146 "java/lang/IllegalArgumentException", .initialized "java/lang/IllegalArgumentException", .methodLink RX0 68 yX0_checkState, .static yX0_checkState, .code yX0_checkState cX0_checkState 1 none, .classLink RX0 151 "java/lang/IllegalStateException", .initialized "java/lang/IllegalStateException"] ++ wsX00 ++ (vx_atS RX0 150 "java/lang/IllegalArgumentException" ["java/lang/RuntimeException", "java/lang/Exception"]).filter goodWord ++ (vx_atS RX0 155 "java/lang/IllegalStateException" ["java/lang/RuntimeException", "java/lang/Exception"]).filter goodWord)
def wsX0_checkIndex : List Cond := .code yX0_checkIndex cX0_checkIndex 2 none :: ([.classLink RX0 139 "java/lang/IndexOutOfBoundsException", .initialized "java/lang/IndexOutOfBoundsException"] ++ (vx_atS RX0 143 "java/lang/IndexOutOfBoundsException" ["java/lang/RuntimeException", "java/lang/Exception"]).filter goodWord)
def wsX0_checkBreak : List Cond := .code yX0_checkBreak cX0_checkBreak 2 none :: ([.fieldLink RX0 64 "SpotAccount" "breakCount" "I", .methodLink RX0 135 yX0_checkIndex, .static yX0_checkIndex, .initialized RX0, .code yX0_checkIndex cX0_checkIndex 2 none, .classLink RX0 139 "java/lang/IndexOutOfBoundsException", .initialized "java/lang/IndexOutOfBoundsException"] ++ wsX00 ++ (vx_atS RX0 143 "java/lang/IndexOutOfBoundsException" ["java/lang/RuntimeException", "java/lang/Exception"]).filter goodWord)
def wsX0_isGroup : List Cond := .code yX0_isGroup cX0_isGroup 1 (some .boolean) :: ([.methodLink RX0 56 yX0_isWithin, .static yX0_isWithin, .initialized RX0, .code yX0_isWithin cX0_isWithin 3 (some .boolean)])
def wsX0_ratingCell : List Cond := .code yX0_ratingCell cX0_ratingCell 2 (some .int) :: ([])
def wsX0_rate_r1 : List Cond := [Cond.constant RX0 79 (100000), Cond.fieldLink RX0 17 "SpotAccount" "ratings" "[I", Cond.methodLink RX0 71 yX0_checkBreak, Cond.instanceMethod yX0_checkBreak, Cond.selects RX0 yX0_checkBreak yX0_checkBreak, Cond.initialized RX0, Cond.code yX0_checkBreak cX0_checkBreak 2 none, Cond.fieldLink RX0 64 "SpotAccount" "breakCount" "I", Cond.methodLink RX0 135 yX0_checkIndex, Cond.static yX0_checkIndex, Cond.code yX0_checkIndex cX0_checkIndex 2 none, Cond.classLink RX0 139 "java/lang/IndexOutOfBoundsException", Cond.initialized "java/lang/IndexOutOfBoundsException", Cond.methodLink RX0 75 yX0_isGroup, Cond.static yX0_isGroup, Cond.code yX0_isGroup cX0_isGroup 1 (some .boolean), Cond.methodLink RX0 56 yX0_isWithin, Cond.static yX0_isWithin, Cond.code yX0_isWithin cX0_isWithin 3 (some .boolean), Cond.methodLink RX0 60 yX0_checkArgument, Cond.static yX0_checkArgument, Cond.code yX0_checkArgument cX0_checkArgument 1 none, Cond.classLink RX0 146 "java/lang/IllegalArgumentException", Cond.initialized "java/lang/IllegalArgumentException"]
def wsX0_rate_r2 : List Cond := [Cond.methodLink RX0 80 yX0_ratingCell, Cond.static yX0_ratingCell, Cond.code yX0_ratingCell cX0_ratingCell 2 (some .int)]
def wsX0_rate : List Cond := .code yX0_rate cX0_rate 6 (some .int) :: ((wsX0_rate_r1 ++ wsX0_rate_r2) ++ wsX00 ++ (vx_atS RX0 143 "java/lang/IndexOutOfBoundsException" ["java/lang/RuntimeException", "java/lang/Exception"]).filter goodWord ++ (vx_atS RX0 150 "java/lang/IllegalArgumentException" ["java/lang/RuntimeException", "java/lang/Exception"]).filter goodWord)
def wsX0_air : List Cond := .code yX0_air cX0_air 4 (some .int) :: ([.fieldLink RX0 13 "SpotAccount" "breakAired" "[Z", .fieldLink RX0 84 "SpotAccount" "spotCount" "I", .fieldLink RX0 47 "SpotAccount" "spotBreak" "[I", .fieldLink RX0 50 "SpotAccount" "spotState" "[I", .methodLink RX0 71 yX0_checkBreak, .instanceMethod yX0_checkBreak, .selects RX0 yX0_checkBreak yX0_checkBreak, .initialized RX0, .code yX0_checkBreak cX0_checkBreak 2 none, .fieldLink RX0 64 "SpotAccount" "breakCount" "I", .methodLink RX0 135 yX0_checkIndex, .static yX0_checkIndex, .code yX0_checkIndex cX0_checkIndex 2 none, .classLink RX0 139 "java/lang/IndexOutOfBoundsException", .initialized "java/lang/IndexOutOfBoundsException", .methodLink RX0 68 yX0_checkState, .static yX0_checkState, .code yX0_checkState cX0_checkState 1 none, .classLink RX0 151 "java/lang/IllegalStateException", .initialized "java/lang/IllegalStateException"] ++ wsX00 ++ (vx_atS RX0 143 "java/lang/IndexOutOfBoundsException" ["java/lang/RuntimeException", "java/lang/Exception"]).filter goodWord ++ (vx_atS RX0 155 "java/lang/IllegalStateException" ["java/lang/RuntimeException", "java/lang/Exception"]).filter goodWord)
def wsX0_breaks : List Cond := .code yX0_breaks cX0_breaks 1 (some .int) :: ([.fieldLink RX0 64 "SpotAccount" "breakCount" "I"] ++ wsX00)
def wsX0_isAired : List Cond := .code yX0_isAired cX0_isAired 2 (some .boolean) :: ([.fieldLink RX0 13 "SpotAccount" "breakAired" "[Z", .methodLink RX0 71 yX0_checkBreak, .instanceMethod yX0_checkBreak, .selects RX0 yX0_checkBreak yX0_checkBreak, .initialized RX0, .code yX0_checkBreak cX0_checkBreak 2 none, .fieldLink RX0 64 "SpotAccount" "breakCount" "I", .methodLink RX0 135 yX0_checkIndex, .static yX0_checkIndex, .code yX0_checkIndex cX0_checkIndex 2 none, .classLink RX0 139 "java/lang/IndexOutOfBoundsException", .initialized "java/lang/IndexOutOfBoundsException"] ++ wsX00 ++ (vx_atS RX0 143 "java/lang/IndexOutOfBoundsException" ["java/lang/RuntimeException", "java/lang/Exception"]).filter goodWord)
def wsX0_isInBreak : List Cond := .code yX0_isInBreak cX0_isInBreak 2 (some .boolean) :: ([.fieldLink RX0 50 "SpotAccount" "spotState" "[I"] ++ wsX00)
def wsX0_secondsLeft : List Cond := .code yX0_secondsLeft cX0_secondsLeft 4 (some .int) :: ([.fieldLink RX0 9 "SpotAccount" "breakSeconds" "[I", .fieldLink RX0 84 "SpotAccount" "spotCount" "I", .fieldLink RX0 47 "SpotAccount" "spotBreak" "[I", .fieldLink RX0 29 "SpotAccount" "orderSeconds" "[I", .fieldLink RX0 44 "SpotAccount" "spotOrder" "[I", .methodLink RX0 126 yX0_isInBreak, .instanceMethod yX0_isInBreak, .selects RX0 yX0_isInBreak yX0_isInBreak, .initialized RX0, .code yX0_isInBreak cX0_isInBreak 2 (some .boolean), .fieldLink RX0 50 "SpotAccount" "spotState" "[I"] ++ wsX00)
def wsX0_room_r1 : List Cond := [Cond.methodLink RX0 71 yX0_checkBreak, Cond.instanceMethod yX0_checkBreak, Cond.selects RX0 yX0_checkBreak yX0_checkBreak, Cond.initialized RX0, Cond.code yX0_checkBreak cX0_checkBreak 2 none, Cond.fieldLink RX0 64 "SpotAccount" "breakCount" "I", Cond.methodLink RX0 135 yX0_checkIndex, Cond.static yX0_checkIndex, Cond.code yX0_checkIndex cX0_checkIndex 2 none, Cond.classLink RX0 139 "java/lang/IndexOutOfBoundsException", Cond.initialized "java/lang/IndexOutOfBoundsException", Cond.methodLink RX0 87 yX0_secondsLeft, Cond.instanceMethod yX0_secondsLeft, Cond.selects RX0 yX0_secondsLeft yX0_secondsLeft, Cond.code yX0_secondsLeft cX0_secondsLeft 4 (some .int), Cond.fieldLink RX0 9 "SpotAccount" "breakSeconds" "[I", Cond.fieldLink RX0 84 "SpotAccount" "spotCount" "I", Cond.fieldLink RX0 47 "SpotAccount" "spotBreak" "[I", Cond.fieldLink RX0 29 "SpotAccount" "orderSeconds" "[I", Cond.fieldLink RX0 44 "SpotAccount" "spotOrder" "[I", Cond.methodLink RX0 126 yX0_isInBreak, Cond.instanceMethod yX0_isInBreak, Cond.selects RX0 yX0_isInBreak yX0_isInBreak, Cond.code yX0_isInBreak cX0_isInBreak 2 (some .boolean)]
def wsX0_room_r2 : List Cond := [Cond.fieldLink RX0 50 "SpotAccount" "spotState" "[I"]
def wsX0_room : List Cond := .code yX0_room cX0_room 2 (some .int) :: ((wsX0_room_r1 ++ wsX0_room_r2) ++ wsX00 ++ (vx_atS RX0 143 "java/lang/IndexOutOfBoundsException" ["java/lang/RuntimeException", "java/lang/Exception"]).filter goodWord)
def wsX0_rating_r1 : List Cond := [Cond.fieldLink RX0 17 "SpotAccount" "ratings" "[I", Cond.methodLink RX0 71 yX0_checkBreak, Cond.instanceMethod yX0_checkBreak, Cond.selects RX0 yX0_checkBreak yX0_checkBreak, Cond.initialized RX0, Cond.code yX0_checkBreak cX0_checkBreak 2 none, Cond.fieldLink RX0 64 "SpotAccount" "breakCount" "I", Cond.methodLink RX0 135 yX0_checkIndex, Cond.static yX0_checkIndex, Cond.code yX0_checkIndex cX0_checkIndex 2 none, Cond.classLink RX0 139 "java/lang/IndexOutOfBoundsException", Cond.initialized "java/lang/IndexOutOfBoundsException", Cond.methodLink RX0 75 yX0_isGroup, Cond.static yX0_isGroup, Cond.code yX0_isGroup cX0_isGroup 1 (some .boolean), Cond.methodLink RX0 56 yX0_isWithin, Cond.static yX0_isWithin, Cond.code yX0_isWithin cX0_isWithin 3 (some .boolean), Cond.methodLink RX0 60 yX0_checkArgument, Cond.static yX0_checkArgument, Cond.code yX0_checkArgument cX0_checkArgument 1 none, Cond.classLink RX0 146 "java/lang/IllegalArgumentException", Cond.initialized "java/lang/IllegalArgumentException", Cond.methodLink RX0 80 yX0_ratingCell]
def wsX0_rating_r2 : List Cond := [Cond.static yX0_ratingCell, Cond.code yX0_ratingCell cX0_ratingCell 2 (some .int)]
def wsX0_rating : List Cond := .code yX0_rating cX0_rating 3 (some .int) :: ((wsX0_rating_r1 ++ wsX0_rating_r2) ++ wsX00 ++ (vx_atS RX0 143 "java/lang/IndexOutOfBoundsException" ["java/lang/RuntimeException", "java/lang/Exception"]).filter goodWord ++ (vx_atS RX0 150 "java/lang/IllegalArgumentException" ["java/lang/RuntimeException", "java/lang/Exception"]).filter goodWord)
def wsX0_isAdvertiser : List Cond := .code yX0_isAdvertiser cX0_isAdvertiser 1 (some .boolean) :: ([.methodLink RX0 56 yX0_isWithin, .static yX0_isWithin, .initialized RX0, .code yX0_isWithin cX0_isWithin 3 (some .boolean)])
def wsX0_isSpotLength : List Cond := .code yX0_isSpotLength cX0_isSpotLength 1 (some .boolean) :: ([])
def wsX0_addOrder_r1 : List Cond := [Cond.constant RX0 97 (1000000), Cond.constant RX0 79 (100000), Cond.fieldLink RX0 98 "SpotAccount" "orderCount" "I", Cond.fieldLink RX0 20 "SpotAccount" "orderAdvertiser" "[I", Cond.fieldLink RX0 23 "SpotAccount" "orderCategory" "[I", Cond.fieldLink RX0 26 "SpotAccount" "orderGroup" "[I", Cond.fieldLink RX0 29 "SpotAccount" "orderSeconds" "[I", Cond.fieldLink RX0 32 "SpotAccount" "orderPrice" "[I", Cond.fieldLink RX0 35 "SpotAccount" "orderPromise" "[I", Cond.fieldLink RX0 38 "SpotAccount" "orderFloor" "[I", Cond.methodLink RX0 91 yX0_isAdvertiser, Cond.static yX0_isAdvertiser, Cond.initialized RX0, Cond.code yX0_isAdvertiser cX0_isAdvertiser 1 (some .boolean), Cond.methodLink RX0 56 yX0_isWithin, Cond.static yX0_isWithin, Cond.code yX0_isWithin cX0_isWithin 3 (some .boolean), Cond.methodLink RX0 60 yX0_checkArgument, Cond.static yX0_checkArgument, Cond.code yX0_checkArgument cX0_checkArgument 1 none, Cond.classLink RX0 146 "java/lang/IllegalArgumentException", Cond.initialized "java/lang/IllegalArgumentException", Cond.methodLink RX0 75 yX0_isGroup, Cond.static yX0_isGroup]
def wsX0_addOrder_r2 : List Cond := [Cond.code yX0_isGroup cX0_isGroup 1 (some .boolean), Cond.methodLink RX0 94 yX0_isSpotLength, Cond.static yX0_isSpotLength, Cond.code yX0_isSpotLength cX0_isSpotLength 1 (some .boolean), Cond.methodLink RX0 68 yX0_checkState, Cond.static yX0_checkState, Cond.code yX0_checkState cX0_checkState 1 none, Cond.classLink RX0 151 "java/lang/IllegalStateException", Cond.initialized "java/lang/IllegalStateException"]
def wsX0_addOrder : List Cond := .code yX0_addOrder cX0_addOrder 9 (some .int) :: ((wsX0_addOrder_r1 ++ wsX0_addOrder_r2) ++ wsX00 ++ (vx_atS RX0 150 "java/lang/IllegalArgumentException" ["java/lang/RuntimeException", "java/lang/Exception"]).filter goodWord ++ (vx_atS RX0 155 "java/lang/IllegalStateException" ["java/lang/RuntimeException", "java/lang/Exception"]).filter goodWord)
def wsX0_checkOrder : List Cond := .code yX0_checkOrder cX0_checkOrder 2 none :: ([.fieldLink RX0 98 "SpotAccount" "orderCount" "I", .methodLink RX0 135 yX0_checkIndex, .static yX0_checkIndex, .initialized RX0, .code yX0_checkIndex cX0_checkIndex 2 none, .classLink RX0 139 "java/lang/IndexOutOfBoundsException", .initialized "java/lang/IndexOutOfBoundsException"] ++ wsX00 ++ (vx_atS RX0 143 "java/lang/IndexOutOfBoundsException" ["java/lang/RuntimeException", "java/lang/Exception"]).filter goodWord)
def wsX0_ratingFor : List Cond := .code yX0_ratingFor cX0_ratingFor 3 (some .int) :: ([.fieldLink RX0 17 "SpotAccount" "ratings" "[I", .fieldLink RX0 26 "SpotAccount" "orderGroup" "[I", .methodLink RX0 80 yX0_ratingCell, .static yX0_ratingCell, .initialized RX0, .code yX0_ratingCell cX0_ratingCell 2 (some .int)] ++ wsX00)
def wsX0_audience : List Cond := .code yX0_audience cX0_audience 5 (some .int) :: ([.fieldLink RX0 84 "SpotAccount" "spotCount" "I", .fieldLink RX0 44 "SpotAccount" "spotOrder" "[I", .fieldLink RX0 50 "SpotAccount" "spotState" "[I", .fieldLink RX0 47 "SpotAccount" "spotBreak" "[I", .methodLink RX0 156 yX0_ratingFor, .instanceMethod yX0_ratingFor, .selects RX0 yX0_ratingFor yX0_ratingFor, .initialized RX0, .code yX0_ratingFor cX0_ratingFor 3 (some .int), .fieldLink RX0 17 "SpotAccount" "ratings" "[I", .fieldLink RX0 26 "SpotAccount" "orderGroup" "[I", .methodLink RX0 80 yX0_ratingCell, .static yX0_ratingCell, .code yX0_ratingCell cX0_ratingCell 2 (some .int)] ++ wsX00)
def wsX0_owedTo : List Cond := .code yX0_owedTo cX0_owedTo 2 (some .int) :: ([.fieldLink RX0 41 "SpotAccount" "orderClosed" "[Z", .fieldLink RX0 35 "SpotAccount" "orderPromise" "[I", .methodLink RX0 169 Lib.Math.max.name, .static Lib.Math.max.name, .initialized "java/lang/Math", .code Lib.Math.max.name Lib.Math.max.code 2 (some .int), .methodLink RX0 129 yX0_audience, .instanceMethod yX0_audience, .selects RX0 yX0_audience yX0_audience, .initialized RX0, .code yX0_audience cX0_audience 5 (some .int), .fieldLink RX0 84 "SpotAccount" "spotCount" "I", .fieldLink RX0 44 "SpotAccount" "spotOrder" "[I", .fieldLink RX0 50 "SpotAccount" "spotState" "[I", .fieldLink RX0 47 "SpotAccount" "spotBreak" "[I", .methodLink RX0 156 yX0_ratingFor, .instanceMethod yX0_ratingFor, .selects RX0 yX0_ratingFor yX0_ratingFor, .code yX0_ratingFor cX0_ratingFor 3 (some .int), .fieldLink RX0 17 "SpotAccount" "ratings" "[I", .fieldLink RX0 26 "SpotAccount" "orderGroup" "[I", .methodLink RX0 80 yX0_ratingCell, .static yX0_ratingCell, .code yX0_ratingCell cX0_ratingCell 2 (some .int)] ++ wsX00)
def wsX0_close_r1 : List Cond := [Cond.fieldLink RX0 41 "SpotAccount" "orderClosed" "[Z", Cond.fieldLink RX0 84 "SpotAccount" "spotCount" "I", Cond.fieldLink RX0 44 "SpotAccount" "spotOrder" "[I", Cond.fieldLink RX0 50 "SpotAccount" "spotState" "[I", Cond.methodLink RX0 101 yX0_checkOrder, Cond.instanceMethod yX0_checkOrder, Cond.selects RX0 yX0_checkOrder yX0_checkOrder, Cond.initialized RX0, Cond.code yX0_checkOrder cX0_checkOrder 2 none, Cond.fieldLink RX0 98 "SpotAccount" "orderCount" "I", Cond.methodLink RX0 135 yX0_checkIndex, Cond.static yX0_checkIndex, Cond.code yX0_checkIndex cX0_checkIndex 2 none, Cond.classLink RX0 139 "java/lang/IndexOutOfBoundsException", Cond.initialized "java/lang/IndexOutOfBoundsException", Cond.methodLink RX0 68 yX0_checkState, Cond.static yX0_checkState, Cond.code yX0_checkState cX0_checkState 1 none, Cond.classLink RX0 151 "java/lang/IllegalStateException", Cond.initialized "java/lang/IllegalStateException", Cond.methodLink RX0 104 yX0_owedTo, Cond.instanceMethod yX0_owedTo, Cond.selects RX0 yX0_owedTo yX0_owedTo, Cond.code yX0_owedTo cX0_owedTo 2 (some .int)]
def wsX0_close_r2 : List Cond := [Cond.fieldLink RX0 35 "SpotAccount" "orderPromise" "[I", Cond.methodLink RX0 169 Lib.Math.max.name, Cond.static Lib.Math.max.name, Cond.initialized "java/lang/Math", Cond.code Lib.Math.max.name Lib.Math.max.code 2 (some .int), Cond.methodLink RX0 129 yX0_audience, Cond.instanceMethod yX0_audience, Cond.selects RX0 yX0_audience yX0_audience, Cond.code yX0_audience cX0_audience 5 (some .int), Cond.fieldLink RX0 47 "SpotAccount" "spotBreak" "[I", Cond.methodLink RX0 156 yX0_ratingFor, Cond.instanceMethod yX0_ratingFor, Cond.selects RX0 yX0_ratingFor yX0_ratingFor, Cond.code yX0_ratingFor cX0_ratingFor 3 (some .int), Cond.fieldLink RX0 17 "SpotAccount" "ratings" "[I", Cond.fieldLink RX0 26 "SpotAccount" "orderGroup" "[I", Cond.methodLink RX0 80 yX0_ratingCell, Cond.static yX0_ratingCell, Cond.code yX0_ratingCell cX0_ratingCell 2 (some .int)]
def wsX0_close : List Cond := .code yX0_close cX0_close 3 (some .int) :: ((wsX0_close_r1 ++ wsX0_close_r2) ++ wsX00 ++ (vx_atS RX0 143 "java/lang/IndexOutOfBoundsException" ["java/lang/RuntimeException", "java/lang/Exception"]).filter goodWord ++ (vx_atS RX0 155 "java/lang/IllegalStateException" ["java/lang/RuntimeException", "java/lang/Exception"]).filter goodWord)
def wsX0_orders : List Cond := .code yX0_orders cX0_orders 1 (some .int) :: ([.fieldLink RX0 98 "SpotAccount" "orderCount" "I"] ++ wsX00)
def wsX0_holdsAdvertiser : List Cond := .code yX0_holdsAdvertiser cX0_holdsAdvertiser 4 (some .boolean) :: ([.fieldLink RX0 84 "SpotAccount" "spotCount" "I", .fieldLink RX0 47 "SpotAccount" "spotBreak" "[I", .fieldLink RX0 20 "SpotAccount" "orderAdvertiser" "[I", .fieldLink RX0 44 "SpotAccount" "spotOrder" "[I", .methodLink RX0 126 yX0_isInBreak, .instanceMethod yX0_isInBreak, .selects RX0 yX0_isInBreak yX0_isInBreak, .initialized RX0, .code yX0_isInBreak cX0_isInBreak 2 (some .boolean), .fieldLink RX0 50 "SpotAccount" "spotState" "[I"] ++ wsX00)
def wsX0_areRivals : List Cond := .code yX0_areRivals cX0_areRivals 3 (some .boolean) :: ([.fieldLink RX0 23 "SpotAccount" "orderCategory" "[I", .fieldLink RX0 20 "SpotAccount" "orderAdvertiser" "[I"] ++ wsX00)
def wsX0_holdsRival : List Cond := .code yX0_holdsRival cX0_holdsRival 4 (some .boolean) :: ([.fieldLink RX0 84 "SpotAccount" "spotCount" "I", .fieldLink RX0 47 "SpotAccount" "spotBreak" "[I", .fieldLink RX0 44 "SpotAccount" "spotOrder" "[I", .methodLink RX0 126 yX0_isInBreak, .instanceMethod yX0_isInBreak, .selects RX0 yX0_isInBreak yX0_isInBreak, .initialized RX0, .code yX0_isInBreak cX0_isInBreak 2 (some .boolean), .fieldLink RX0 50 "SpotAccount" "spotState" "[I", .methodLink RX0 166 yX0_areRivals, .instanceMethod yX0_areRivals, .selects RX0 yX0_areRivals yX0_areRivals, .code yX0_areRivals cX0_areRivals 3 (some .boolean), .fieldLink RX0 23 "SpotAccount" "orderCategory" "[I", .fieldLink RX0 20 "SpotAccount" "orderAdvertiser" "[I"] ++ wsX00)
def wsX0_obstacle_r1 : List Cond := [Cond.fieldLink RX0 13 "SpotAccount" "breakAired" "[Z", Cond.fieldLink RX0 29 "SpotAccount" "orderSeconds" "[I", Cond.fieldLink RX0 38 "SpotAccount" "orderFloor" "[I", Cond.fieldLink RX0 20 "SpotAccount" "orderAdvertiser" "[I", Cond.methodLink RX0 87 yX0_secondsLeft, Cond.instanceMethod yX0_secondsLeft, Cond.selects RX0 yX0_secondsLeft yX0_secondsLeft, Cond.initialized RX0, Cond.code yX0_secondsLeft cX0_secondsLeft 4 (some .int), Cond.fieldLink RX0 9 "SpotAccount" "breakSeconds" "[I", Cond.fieldLink RX0 84 "SpotAccount" "spotCount" "I", Cond.fieldLink RX0 47 "SpotAccount" "spotBreak" "[I", Cond.fieldLink RX0 44 "SpotAccount" "spotOrder" "[I", Cond.methodLink RX0 126 yX0_isInBreak, Cond.instanceMethod yX0_isInBreak, Cond.selects RX0 yX0_isInBreak yX0_isInBreak, Cond.code yX0_isInBreak cX0_isInBreak 2 (some .boolean), Cond.fieldLink RX0 50 "SpotAccount" "spotState" "[I", Cond.methodLink RX0 156 yX0_ratingFor, Cond.instanceMethod yX0_ratingFor, Cond.selects RX0 yX0_ratingFor yX0_ratingFor, Cond.code yX0_ratingFor cX0_ratingFor 3 (some .int), Cond.fieldLink RX0 17 "SpotAccount" "ratings" "[I", Cond.fieldLink RX0 26 "SpotAccount" "orderGroup" "[I"]
def wsX0_obstacle_r2 : List Cond := [Cond.methodLink RX0 80 yX0_ratingCell, Cond.static yX0_ratingCell, Cond.code yX0_ratingCell cX0_ratingCell 2 (some .int), Cond.methodLink RX0 159 yX0_holdsAdvertiser, Cond.instanceMethod yX0_holdsAdvertiser, Cond.selects RX0 yX0_holdsAdvertiser yX0_holdsAdvertiser, Cond.code yX0_holdsAdvertiser cX0_holdsAdvertiser 4 (some .boolean), Cond.methodLink RX0 163 yX0_holdsRival, Cond.instanceMethod yX0_holdsRival, Cond.selects RX0 yX0_holdsRival yX0_holdsRival, Cond.code yX0_holdsRival cX0_holdsRival 4 (some .boolean), Cond.methodLink RX0 166 yX0_areRivals, Cond.instanceMethod yX0_areRivals, Cond.selects RX0 yX0_areRivals yX0_areRivals, Cond.code yX0_areRivals cX0_areRivals 3 (some .boolean), Cond.fieldLink RX0 23 "SpotAccount" "orderCategory" "[I"]
def wsX0_obstacle : List Cond := .code yX0_obstacle cX0_obstacle 3 (some .int) :: ((wsX0_obstacle_r1 ++ wsX0_obstacle_r2) ++ wsX00)
def wsX0_whyNot_r1 : List Cond := [Cond.methodLink RX0 101 yX0_checkOrder, Cond.instanceMethod yX0_checkOrder, Cond.selects RX0 yX0_checkOrder yX0_checkOrder, Cond.initialized RX0, Cond.code yX0_checkOrder cX0_checkOrder 2 none, Cond.fieldLink RX0 98 "SpotAccount" "orderCount" "I", Cond.methodLink RX0 135 yX0_checkIndex, Cond.static yX0_checkIndex, Cond.code yX0_checkIndex cX0_checkIndex 2 none, Cond.classLink RX0 139 "java/lang/IndexOutOfBoundsException", Cond.initialized "java/lang/IndexOutOfBoundsException", Cond.methodLink RX0 71 yX0_checkBreak, Cond.instanceMethod yX0_checkBreak, Cond.selects RX0 yX0_checkBreak yX0_checkBreak, Cond.code yX0_checkBreak cX0_checkBreak 2 none, Cond.fieldLink RX0 64 "SpotAccount" "breakCount" "I", Cond.methodLink RX0 107 yX0_obstacle, Cond.instanceMethod yX0_obstacle, Cond.selects RX0 yX0_obstacle yX0_obstacle, Cond.code yX0_obstacle cX0_obstacle 3 (some .int), Cond.fieldLink RX0 13 "SpotAccount" "breakAired" "[Z", Cond.fieldLink RX0 29 "SpotAccount" "orderSeconds" "[I", Cond.fieldLink RX0 38 "SpotAccount" "orderFloor" "[I", Cond.fieldLink RX0 20 "SpotAccount" "orderAdvertiser" "[I"]
def wsX0_whyNot_r2 : List Cond := [Cond.methodLink RX0 87 yX0_secondsLeft, Cond.instanceMethod yX0_secondsLeft, Cond.selects RX0 yX0_secondsLeft yX0_secondsLeft, Cond.code yX0_secondsLeft cX0_secondsLeft 4 (some .int), Cond.fieldLink RX0 9 "SpotAccount" "breakSeconds" "[I", Cond.fieldLink RX0 84 "SpotAccount" "spotCount" "I", Cond.fieldLink RX0 47 "SpotAccount" "spotBreak" "[I", Cond.fieldLink RX0 44 "SpotAccount" "spotOrder" "[I", Cond.methodLink RX0 126 yX0_isInBreak, Cond.instanceMethod yX0_isInBreak, Cond.selects RX0 yX0_isInBreak yX0_isInBreak, Cond.code yX0_isInBreak cX0_isInBreak 2 (some .boolean), Cond.fieldLink RX0 50 "SpotAccount" "spotState" "[I", Cond.methodLink RX0 156 yX0_ratingFor, Cond.instanceMethod yX0_ratingFor, Cond.selects RX0 yX0_ratingFor yX0_ratingFor, Cond.code yX0_ratingFor cX0_ratingFor 3 (some .int), Cond.fieldLink RX0 17 "SpotAccount" "ratings" "[I", Cond.fieldLink RX0 26 "SpotAccount" "orderGroup" "[I", Cond.methodLink RX0 80 yX0_ratingCell, Cond.static yX0_ratingCell, Cond.code yX0_ratingCell cX0_ratingCell 2 (some .int), Cond.methodLink RX0 159 yX0_holdsAdvertiser, Cond.instanceMethod yX0_holdsAdvertiser]
def wsX0_whyNot_r3 : List Cond := [Cond.selects RX0 yX0_holdsAdvertiser yX0_holdsAdvertiser, Cond.code yX0_holdsAdvertiser cX0_holdsAdvertiser 4 (some .boolean), Cond.methodLink RX0 163 yX0_holdsRival, Cond.instanceMethod yX0_holdsRival, Cond.selects RX0 yX0_holdsRival yX0_holdsRival, Cond.code yX0_holdsRival cX0_holdsRival 4 (some .boolean), Cond.methodLink RX0 166 yX0_areRivals, Cond.instanceMethod yX0_areRivals, Cond.selects RX0 yX0_areRivals yX0_areRivals, Cond.code yX0_areRivals cX0_areRivals 3 (some .boolean), Cond.fieldLink RX0 23 "SpotAccount" "orderCategory" "[I"]
def wsX0_whyNot : List Cond := .code yX0_whyNot cX0_whyNot 3 (some .int) :: ((wsX0_whyNot_r1 ++ (wsX0_whyNot_r2 ++ wsX0_whyNot_r3)) ++ wsX00 ++ (vx_atS RX0 143 "java/lang/IndexOutOfBoundsException" ["java/lang/RuntimeException", "java/lang/Exception"]).filter goodWord)
def wsX0_addSpot : List Cond := .code yX0_addSpot cX0_addSpot 5 (some .int) :: ([.fieldLink RX0 84 "SpotAccount" "spotCount" "I", .fieldLink RX0 44 "SpotAccount" "spotOrder" "[I", .fieldLink RX0 47 "SpotAccount" "spotBreak" "[I", .fieldLink RX0 50 "SpotAccount" "spotState" "[I", .fieldLink RX0 53 "SpotAccount" "spotFree" "[Z"] ++ wsX00)
def wsX0_place_r1 : List Cond := [Cond.fieldLink RX0 41 "SpotAccount" "orderClosed" "[Z", Cond.fieldLink RX0 84 "SpotAccount" "spotCount" "I", Cond.methodLink RX0 101 yX0_checkOrder, Cond.instanceMethod yX0_checkOrder, Cond.selects RX0 yX0_checkOrder yX0_checkOrder, Cond.initialized RX0, Cond.code yX0_checkOrder cX0_checkOrder 2 none, Cond.fieldLink RX0 98 "SpotAccount" "orderCount" "I", Cond.methodLink RX0 135 yX0_checkIndex, Cond.static yX0_checkIndex, Cond.code yX0_checkIndex cX0_checkIndex 2 none, Cond.classLink RX0 139 "java/lang/IndexOutOfBoundsException", Cond.initialized "java/lang/IndexOutOfBoundsException", Cond.methodLink RX0 71 yX0_checkBreak, Cond.instanceMethod yX0_checkBreak, Cond.selects RX0 yX0_checkBreak yX0_checkBreak, Cond.code yX0_checkBreak cX0_checkBreak 2 none, Cond.fieldLink RX0 64 "SpotAccount" "breakCount" "I", Cond.methodLink RX0 68 yX0_checkState, Cond.static yX0_checkState, Cond.code yX0_checkState cX0_checkState 1 none, Cond.classLink RX0 151 "java/lang/IllegalStateException", Cond.initialized "java/lang/IllegalStateException", Cond.methodLink RX0 107 yX0_obstacle]
def wsX0_place_r2 : List Cond := [Cond.instanceMethod yX0_obstacle, Cond.selects RX0 yX0_obstacle yX0_obstacle, Cond.code yX0_obstacle cX0_obstacle 3 (some .int), Cond.fieldLink RX0 13 "SpotAccount" "breakAired" "[Z", Cond.fieldLink RX0 29 "SpotAccount" "orderSeconds" "[I", Cond.fieldLink RX0 38 "SpotAccount" "orderFloor" "[I", Cond.fieldLink RX0 20 "SpotAccount" "orderAdvertiser" "[I", Cond.methodLink RX0 87 yX0_secondsLeft, Cond.instanceMethod yX0_secondsLeft, Cond.selects RX0 yX0_secondsLeft yX0_secondsLeft, Cond.code yX0_secondsLeft cX0_secondsLeft 4 (some .int), Cond.fieldLink RX0 9 "SpotAccount" "breakSeconds" "[I", Cond.fieldLink RX0 47 "SpotAccount" "spotBreak" "[I", Cond.fieldLink RX0 44 "SpotAccount" "spotOrder" "[I", Cond.methodLink RX0 126 yX0_isInBreak, Cond.instanceMethod yX0_isInBreak, Cond.selects RX0 yX0_isInBreak yX0_isInBreak, Cond.code yX0_isInBreak cX0_isInBreak 2 (some .boolean), Cond.fieldLink RX0 50 "SpotAccount" "spotState" "[I", Cond.methodLink RX0 156 yX0_ratingFor, Cond.instanceMethod yX0_ratingFor, Cond.selects RX0 yX0_ratingFor yX0_ratingFor, Cond.code yX0_ratingFor cX0_ratingFor 3 (some .int), Cond.fieldLink RX0 17 "SpotAccount" "ratings" "[I"]
def wsX0_place_r3 : List Cond := [Cond.fieldLink RX0 26 "SpotAccount" "orderGroup" "[I", Cond.methodLink RX0 80 yX0_ratingCell, Cond.static yX0_ratingCell, Cond.code yX0_ratingCell cX0_ratingCell 2 (some .int), Cond.methodLink RX0 159 yX0_holdsAdvertiser, Cond.instanceMethod yX0_holdsAdvertiser, Cond.selects RX0 yX0_holdsAdvertiser yX0_holdsAdvertiser, Cond.code yX0_holdsAdvertiser cX0_holdsAdvertiser 4 (some .boolean), Cond.methodLink RX0 163 yX0_holdsRival, Cond.instanceMethod yX0_holdsRival, Cond.selects RX0 yX0_holdsRival yX0_holdsRival, Cond.code yX0_holdsRival cX0_holdsRival 4 (some .boolean), Cond.methodLink RX0 166 yX0_areRivals, Cond.instanceMethod yX0_areRivals, Cond.selects RX0 yX0_areRivals yX0_areRivals, Cond.code yX0_areRivals cX0_areRivals 3 (some .boolean), Cond.fieldLink RX0 23 "SpotAccount" "orderCategory" "[I", Cond.methodLink RX0 110 yX0_addSpot, Cond.instanceMethod yX0_addSpot, Cond.selects RX0 yX0_addSpot yX0_addSpot, Cond.code yX0_addSpot cX0_addSpot 5 (some .int), Cond.fieldLink RX0 53 "SpotAccount" "spotFree" "[Z"]
def wsX0_place : List Cond := .code yX0_place cX0_place 3 (some .int) :: ((wsX0_place_r1 ++ (wsX0_place_r2 ++ wsX0_place_r3)) ++ wsX00 ++ (vx_atS RX0 143 "java/lang/IndexOutOfBoundsException" ["java/lang/RuntimeException", "java/lang/Exception"]).filter goodWord ++ (vx_atS RX0 155 "java/lang/IllegalStateException" ["java/lang/RuntimeException", "java/lang/Exception"]).filter goodWord)
def wsX0_restOf_r1 : List Cond := [Cond.fieldLink RX0 84 "SpotAccount" "spotCount" "I", Cond.fieldLink RX0 44 "SpotAccount" "spotOrder" "[I", Cond.fieldLink RX0 53 "SpotAccount" "spotFree" "[Z", Cond.fieldLink RX0 50 "SpotAccount" "spotState" "[I", Cond.fieldLink RX0 47 "SpotAccount" "spotBreak" "[I", Cond.methodLink RX0 169 Lib.Math.max.name, Cond.static Lib.Math.max.name, Cond.initialized "java/lang/Math", Cond.code Lib.Math.max.name Lib.Math.max.code 2 (some .int), Cond.methodLink RX0 104 yX0_owedTo, Cond.instanceMethod yX0_owedTo, Cond.selects RX0 yX0_owedTo yX0_owedTo, Cond.initialized RX0, Cond.code yX0_owedTo cX0_owedTo 2 (some .int), Cond.fieldLink RX0 41 "SpotAccount" "orderClosed" "[Z", Cond.fieldLink RX0 35 "SpotAccount" "orderPromise" "[I", Cond.methodLink RX0 129 yX0_audience, Cond.instanceMethod yX0_audience, Cond.selects RX0 yX0_audience yX0_audience, Cond.code yX0_audience cX0_audience 5 (some .int), Cond.methodLink RX0 156 yX0_ratingFor, Cond.instanceMethod yX0_ratingFor, Cond.selects RX0 yX0_ratingFor yX0_ratingFor, Cond.code yX0_ratingFor cX0_ratingFor 3 (some .int)]
def wsX0_restOf_r2 : List Cond := [Cond.fieldLink RX0 17 "SpotAccount" "ratings" "[I", Cond.fieldLink RX0 26 "SpotAccount" "orderGroup" "[I", Cond.methodLink RX0 80 yX0_ratingCell, Cond.static yX0_ratingCell, Cond.code yX0_ratingCell cX0_ratingCell 2 (some .int)]
def wsX0_restOf : List Cond := .code yX0_restOf cX0_restOf 4 (some .int) :: ((wsX0_restOf_r1 ++ wsX0_restOf_r2) ++ wsX00)
def wsX0_give_r1 : List Cond := [Cond.fieldLink RX0 84 "SpotAccount" "spotCount" "I", Cond.methodLink RX0 101 yX0_checkOrder, Cond.instanceMethod yX0_checkOrder, Cond.selects RX0 yX0_checkOrder yX0_checkOrder, Cond.initialized RX0, Cond.code yX0_checkOrder cX0_checkOrder 2 none, Cond.fieldLink RX0 98 "SpotAccount" "orderCount" "I", Cond.methodLink RX0 135 yX0_checkIndex, Cond.static yX0_checkIndex, Cond.code yX0_checkIndex cX0_checkIndex 2 none, Cond.classLink RX0 139 "java/lang/IndexOutOfBoundsException", Cond.initialized "java/lang/IndexOutOfBoundsException", Cond.methodLink RX0 71 yX0_checkBreak, Cond.instanceMethod yX0_checkBreak, Cond.selects RX0 yX0_checkBreak yX0_checkBreak, Cond.code yX0_checkBreak cX0_checkBreak 2 none, Cond.fieldLink RX0 64 "SpotAccount" "breakCount" "I", Cond.methodLink RX0 114 yX0_restOf, Cond.instanceMethod yX0_restOf, Cond.selects RX0 yX0_restOf yX0_restOf, Cond.code yX0_restOf cX0_restOf 4 (some .int), Cond.fieldLink RX0 44 "SpotAccount" "spotOrder" "[I", Cond.fieldLink RX0 53 "SpotAccount" "spotFree" "[Z", Cond.fieldLink RX0 50 "SpotAccount" "spotState" "[I"]
def wsX0_give_r2 : List Cond := [Cond.fieldLink RX0 47 "SpotAccount" "spotBreak" "[I", Cond.methodLink RX0 169 Lib.Math.max.name, Cond.static Lib.Math.max.name, Cond.initialized "java/lang/Math", Cond.code Lib.Math.max.name Lib.Math.max.code 2 (some .int), Cond.methodLink RX0 104 yX0_owedTo, Cond.instanceMethod yX0_owedTo, Cond.selects RX0 yX0_owedTo yX0_owedTo, Cond.code yX0_owedTo cX0_owedTo 2 (some .int), Cond.fieldLink RX0 41 "SpotAccount" "orderClosed" "[Z", Cond.fieldLink RX0 35 "SpotAccount" "orderPromise" "[I", Cond.methodLink RX0 129 yX0_audience, Cond.instanceMethod yX0_audience, Cond.selects RX0 yX0_audience yX0_audience, Cond.code yX0_audience cX0_audience 5 (some .int), Cond.methodLink RX0 156 yX0_ratingFor, Cond.instanceMethod yX0_ratingFor, Cond.selects RX0 yX0_ratingFor yX0_ratingFor, Cond.code yX0_ratingFor cX0_ratingFor 3 (some .int), Cond.fieldLink RX0 17 "SpotAccount" "ratings" "[I", Cond.fieldLink RX0 26 "SpotAccount" "orderGroup" "[I", Cond.methodLink RX0 80 yX0_ratingCell, Cond.static yX0_ratingCell, Cond.code yX0_ratingCell cX0_ratingCell 2 (some .int)]
def wsX0_give_r3 : List Cond := [Cond.methodLink RX0 68 yX0_checkState, Cond.static yX0_checkState, Cond.code yX0_checkState cX0_checkState 1 none, Cond.classLink RX0 151 "java/lang/IllegalStateException", Cond.initialized "java/lang/IllegalStateException", Cond.methodLink RX0 107 yX0_obstacle, Cond.instanceMethod yX0_obstacle, Cond.selects RX0 yX0_obstacle yX0_obstacle, Cond.code yX0_obstacle cX0_obstacle 3 (some .int), Cond.fieldLink RX0 13 "SpotAccount" "breakAired" "[Z", Cond.fieldLink RX0 29 "SpotAccount" "orderSeconds" "[I", Cond.fieldLink RX0 38 "SpotAccount" "orderFloor" "[I", Cond.fieldLink RX0 20 "SpotAccount" "orderAdvertiser" "[I", Cond.methodLink RX0 87 yX0_secondsLeft, Cond.instanceMethod yX0_secondsLeft, Cond.selects RX0 yX0_secondsLeft yX0_secondsLeft, Cond.code yX0_secondsLeft cX0_secondsLeft 4 (some .int), Cond.fieldLink RX0 9 "SpotAccount" "breakSeconds" "[I", Cond.methodLink RX0 126 yX0_isInBreak, Cond.instanceMethod yX0_isInBreak, Cond.selects RX0 yX0_isInBreak yX0_isInBreak, Cond.code yX0_isInBreak cX0_isInBreak 2 (some .boolean), Cond.methodLink RX0 159 yX0_holdsAdvertiser, Cond.instanceMethod yX0_holdsAdvertiser]
def wsX0_give_r4 : List Cond := [Cond.selects RX0 yX0_holdsAdvertiser yX0_holdsAdvertiser, Cond.code yX0_holdsAdvertiser cX0_holdsAdvertiser 4 (some .boolean), Cond.methodLink RX0 163 yX0_holdsRival, Cond.instanceMethod yX0_holdsRival, Cond.selects RX0 yX0_holdsRival yX0_holdsRival, Cond.code yX0_holdsRival cX0_holdsRival 4 (some .boolean), Cond.methodLink RX0 166 yX0_areRivals, Cond.instanceMethod yX0_areRivals, Cond.selects RX0 yX0_areRivals yX0_areRivals, Cond.code yX0_areRivals cX0_areRivals 3 (some .boolean), Cond.fieldLink RX0 23 "SpotAccount" "orderCategory" "[I", Cond.methodLink RX0 110 yX0_addSpot, Cond.instanceMethod yX0_addSpot, Cond.selects RX0 yX0_addSpot yX0_addSpot, Cond.code yX0_addSpot cX0_addSpot 5 (some .int)]
def wsX0_give : List Cond := .code yX0_give cX0_give 3 (some .int) :: ((wsX0_give_r1 ++ (wsX0_give_r2 ++ (wsX0_give_r3 ++ wsX0_give_r4))) ++ wsX00 ++ (vx_atS RX0 143 "java/lang/IndexOutOfBoundsException" ["java/lang/RuntimeException", "java/lang/Exception"]).filter goodWord ++ (vx_atS RX0 155 "java/lang/IllegalStateException" ["java/lang/RuntimeException", "java/lang/Exception"]).filter goodWord)
def wsX0_isShortOfPromise : List Cond := .code yX0_isShortOfPromise cX0_isShortOfPromise 2 (some .boolean) :: ([.fieldLink RX0 35 "SpotAccount" "orderPromise" "[I", .methodLink RX0 129 yX0_audience, .instanceMethod yX0_audience, .selects RX0 yX0_audience yX0_audience, .initialized RX0, .code yX0_audience cX0_audience 5 (some .int), .fieldLink RX0 84 "SpotAccount" "spotCount" "I", .fieldLink RX0 44 "SpotAccount" "spotOrder" "[I", .fieldLink RX0 50 "SpotAccount" "spotState" "[I", .fieldLink RX0 47 "SpotAccount" "spotBreak" "[I", .methodLink RX0 156 yX0_ratingFor, .instanceMethod yX0_ratingFor, .selects RX0 yX0_ratingFor yX0_ratingFor, .code yX0_ratingFor cX0_ratingFor 3 (some .int), .fieldLink RX0 17 "SpotAccount" "ratings" "[I", .fieldLink RX0 26 "SpotAccount" "orderGroup" "[I", .methodLink RX0 80 yX0_ratingCell, .static yX0_ratingCell, .code yX0_ratingCell cX0_ratingCell 2 (some .int)] ++ wsX00)
def wsX0_bestBreak_r1 : List Cond := [Cond.fieldLink RX0 64 "SpotAccount" "breakCount" "I", Cond.methodLink RX0 156 yX0_ratingFor, Cond.instanceMethod yX0_ratingFor, Cond.selects RX0 yX0_ratingFor yX0_ratingFor, Cond.initialized RX0, Cond.code yX0_ratingFor cX0_ratingFor 3 (some .int), Cond.fieldLink RX0 17 "SpotAccount" "ratings" "[I", Cond.fieldLink RX0 26 "SpotAccount" "orderGroup" "[I", Cond.methodLink RX0 80 yX0_ratingCell, Cond.static yX0_ratingCell, Cond.code yX0_ratingCell cX0_ratingCell 2 (some .int), Cond.methodLink RX0 107 yX0_obstacle, Cond.instanceMethod yX0_obstacle, Cond.selects RX0 yX0_obstacle yX0_obstacle, Cond.code yX0_obstacle cX0_obstacle 3 (some .int), Cond.fieldLink RX0 13 "SpotAccount" "breakAired" "[Z", Cond.fieldLink RX0 29 "SpotAccount" "orderSeconds" "[I", Cond.fieldLink RX0 38 "SpotAccount" "orderFloor" "[I", Cond.fieldLink RX0 20 "SpotAccount" "orderAdvertiser" "[I", Cond.methodLink RX0 87 yX0_secondsLeft, Cond.instanceMethod yX0_secondsLeft, Cond.selects RX0 yX0_secondsLeft yX0_secondsLeft, Cond.code yX0_secondsLeft cX0_secondsLeft 4 (some .int), Cond.fieldLink RX0 9 "SpotAccount" "breakSeconds" "[I"]
def wsX0_bestBreak_r2 : List Cond := [Cond.fieldLink RX0 84 "SpotAccount" "spotCount" "I", Cond.fieldLink RX0 47 "SpotAccount" "spotBreak" "[I", Cond.fieldLink RX0 44 "SpotAccount" "spotOrder" "[I", Cond.methodLink RX0 126 yX0_isInBreak, Cond.instanceMethod yX0_isInBreak, Cond.selects RX0 yX0_isInBreak yX0_isInBreak, Cond.code yX0_isInBreak cX0_isInBreak 2 (some .boolean), Cond.fieldLink RX0 50 "SpotAccount" "spotState" "[I", Cond.methodLink RX0 159 yX0_holdsAdvertiser, Cond.instanceMethod yX0_holdsAdvertiser, Cond.selects RX0 yX0_holdsAdvertiser yX0_holdsAdvertiser, Cond.code yX0_holdsAdvertiser cX0_holdsAdvertiser 4 (some .boolean), Cond.methodLink RX0 163 yX0_holdsRival, Cond.instanceMethod yX0_holdsRival, Cond.selects RX0 yX0_holdsRival yX0_holdsRival, Cond.code yX0_holdsRival cX0_holdsRival 4 (some .boolean), Cond.methodLink RX0 166 yX0_areRivals, Cond.instanceMethod yX0_areRivals, Cond.selects RX0 yX0_areRivals yX0_areRivals, Cond.code yX0_areRivals cX0_areRivals 3 (some .boolean), Cond.fieldLink RX0 23 "SpotAccount" "orderCategory" "[I"]
def wsX0_bestBreak : List Cond := .code yX0_bestBreak cX0_bestBreak 6 (some .int) :: ((wsX0_bestBreak_r1 ++ wsX0_bestBreak_r2) ++ wsX00)
def wsX0_fill_r1 : List Cond := [Cond.fieldLink RX0 41 "SpotAccount" "orderClosed" "[Z", Cond.fieldLink RX0 84 "SpotAccount" "spotCount" "I", Cond.methodLink RX0 101 yX0_checkOrder, Cond.instanceMethod yX0_checkOrder, Cond.selects RX0 yX0_checkOrder yX0_checkOrder, Cond.initialized RX0, Cond.code yX0_checkOrder cX0_checkOrder 2 none, Cond.fieldLink RX0 98 "SpotAccount" "orderCount" "I", Cond.methodLink RX0 135 yX0_checkIndex, Cond.static yX0_checkIndex, Cond.code yX0_checkIndex cX0_checkIndex 2 none, Cond.classLink RX0 139 "java/lang/IndexOutOfBoundsException", Cond.initialized "java/lang/IndexOutOfBoundsException", Cond.methodLink RX0 56 yX0_isWithin, Cond.static yX0_isWithin, Cond.code yX0_isWithin cX0_isWithin 3 (some .boolean), Cond.methodLink RX0 60 yX0_checkArgument, Cond.static yX0_checkArgument, Cond.code yX0_checkArgument cX0_checkArgument 1 none, Cond.classLink RX0 146 "java/lang/IllegalArgumentException", Cond.initialized "java/lang/IllegalArgumentException", Cond.methodLink RX0 68 yX0_checkState, Cond.static yX0_checkState, Cond.code yX0_checkState cX0_checkState 1 none]
def wsX0_fill_r2 : List Cond := [Cond.classLink RX0 151 "java/lang/IllegalStateException", Cond.initialized "java/lang/IllegalStateException", Cond.methodLink RX0 117 yX0_isShortOfPromise, Cond.instanceMethod yX0_isShortOfPromise, Cond.selects RX0 yX0_isShortOfPromise yX0_isShortOfPromise, Cond.code yX0_isShortOfPromise cX0_isShortOfPromise 2 (some .boolean), Cond.fieldLink RX0 35 "SpotAccount" "orderPromise" "[I", Cond.methodLink RX0 129 yX0_audience, Cond.instanceMethod yX0_audience, Cond.selects RX0 yX0_audience yX0_audience, Cond.code yX0_audience cX0_audience 5 (some .int), Cond.fieldLink RX0 44 "SpotAccount" "spotOrder" "[I", Cond.fieldLink RX0 50 "SpotAccount" "spotState" "[I", Cond.fieldLink RX0 47 "SpotAccount" "spotBreak" "[I", Cond.methodLink RX0 156 yX0_ratingFor, Cond.instanceMethod yX0_ratingFor, Cond.selects RX0 yX0_ratingFor yX0_ratingFor, Cond.code yX0_ratingFor cX0_ratingFor 3 (some .int), Cond.fieldLink RX0 17 "SpotAccount" "ratings" "[I", Cond.fieldLink RX0 26 "SpotAccount" "orderGroup" "[I", Cond.methodLink RX0 80 yX0_ratingCell, Cond.static yX0_ratingCell, Cond.code yX0_ratingCell cX0_ratingCell 2 (some .int), Cond.methodLink RX0 120 yX0_bestBreak]
def wsX0_fill_r3 : List Cond := [Cond.instanceMethod yX0_bestBreak, Cond.selects RX0 yX0_bestBreak yX0_bestBreak, Cond.code yX0_bestBreak cX0_bestBreak 6 (some .int), Cond.fieldLink RX0 64 "SpotAccount" "breakCount" "I", Cond.methodLink RX0 107 yX0_obstacle, Cond.instanceMethod yX0_obstacle, Cond.selects RX0 yX0_obstacle yX0_obstacle, Cond.code yX0_obstacle cX0_obstacle 3 (some .int), Cond.fieldLink RX0 13 "SpotAccount" "breakAired" "[Z", Cond.fieldLink RX0 29 "SpotAccount" "orderSeconds" "[I", Cond.fieldLink RX0 38 "SpotAccount" "orderFloor" "[I", Cond.fieldLink RX0 20 "SpotAccount" "orderAdvertiser" "[I", Cond.methodLink RX0 87 yX0_secondsLeft, Cond.instanceMethod yX0_secondsLeft, Cond.selects RX0 yX0_secondsLeft yX0_secondsLeft, Cond.code yX0_secondsLeft cX0_secondsLeft 4 (some .int), Cond.fieldLink RX0 9 "SpotAccount" "breakSeconds" "[I", Cond.methodLink RX0 126 yX0_isInBreak, Cond.instanceMethod yX0_isInBreak, Cond.selects RX0 yX0_isInBreak yX0_isInBreak, Cond.code yX0_isInBreak cX0_isInBreak 2 (some .boolean), Cond.methodLink RX0 159 yX0_holdsAdvertiser, Cond.instanceMethod yX0_holdsAdvertiser, Cond.selects RX0 yX0_holdsAdvertiser yX0_holdsAdvertiser]
def wsX0_fill_r4 : List Cond := [Cond.code yX0_holdsAdvertiser cX0_holdsAdvertiser 4 (some .boolean), Cond.methodLink RX0 163 yX0_holdsRival, Cond.instanceMethod yX0_holdsRival, Cond.selects RX0 yX0_holdsRival yX0_holdsRival, Cond.code yX0_holdsRival cX0_holdsRival 4 (some .boolean), Cond.methodLink RX0 166 yX0_areRivals, Cond.instanceMethod yX0_areRivals, Cond.selects RX0 yX0_areRivals yX0_areRivals, Cond.code yX0_areRivals cX0_areRivals 3 (some .boolean), Cond.fieldLink RX0 23 "SpotAccount" "orderCategory" "[I", Cond.methodLink RX0 110 yX0_addSpot, Cond.instanceMethod yX0_addSpot, Cond.selects RX0 yX0_addSpot yX0_addSpot, Cond.code yX0_addSpot cX0_addSpot 5 (some .int), Cond.fieldLink RX0 53 "SpotAccount" "spotFree" "[Z"]
def wsX0_fill : List Cond := .code yX0_fill cX0_fill 5 (some .int) :: ((wsX0_fill_r1 ++ (wsX0_fill_r2 ++ (wsX0_fill_r3 ++ wsX0_fill_r4))) ++ wsX00 ++ (vx_atS RX0 143 "java/lang/IndexOutOfBoundsException" ["java/lang/RuntimeException", "java/lang/Exception"]).filter goodWord ++ (vx_atS RX0 150 "java/lang/IllegalArgumentException" ["java/lang/RuntimeException", "java/lang/Exception"]).filter goodWord ++ (vx_atS RX0 155 "java/lang/IllegalStateException" ["java/lang/RuntimeException", "java/lang/Exception"]).filter goodWord)
def wsX0_checkSpot : List Cond := .code yX0_checkSpot cX0_checkSpot 2 none :: ([.fieldLink RX0 84 "SpotAccount" "spotCount" "I", .methodLink RX0 135 yX0_checkIndex, .static yX0_checkIndex, .initialized RX0, .code yX0_checkIndex cX0_checkIndex 2 none, .classLink RX0 139 "java/lang/IndexOutOfBoundsException", .initialized "java/lang/IndexOutOfBoundsException"] ++ wsX00 ++ (vx_atS RX0 143 "java/lang/IndexOutOfBoundsException" ["java/lang/RuntimeException", "java/lang/Exception"]).filter goodWord)
def wsX0_move_r1 : List Cond := [Cond.fieldLink RX0 50 "SpotAccount" "spotState" "[I", Cond.fieldLink RX0 47 "SpotAccount" "spotBreak" "[I", Cond.fieldLink RX0 44 "SpotAccount" "spotOrder" "[I", Cond.methodLink RX0 123 yX0_checkSpot, Cond.instanceMethod yX0_checkSpot, Cond.selects RX0 yX0_checkSpot yX0_checkSpot, Cond.initialized RX0, Cond.code yX0_checkSpot cX0_checkSpot 2 none, Cond.fieldLink RX0 84 "SpotAccount" "spotCount" "I", Cond.methodLink RX0 135 yX0_checkIndex, Cond.static yX0_checkIndex, Cond.code yX0_checkIndex cX0_checkIndex 2 none, Cond.classLink RX0 139 "java/lang/IndexOutOfBoundsException", Cond.initialized "java/lang/IndexOutOfBoundsException", Cond.methodLink RX0 71 yX0_checkBreak, Cond.instanceMethod yX0_checkBreak, Cond.selects RX0 yX0_checkBreak yX0_checkBreak, Cond.code yX0_checkBreak cX0_checkBreak 2 none, Cond.fieldLink RX0 64 "SpotAccount" "breakCount" "I", Cond.methodLink RX0 68 yX0_checkState, Cond.static yX0_checkState, Cond.code yX0_checkState cX0_checkState 1 none, Cond.classLink RX0 151 "java/lang/IllegalStateException", Cond.initialized "java/lang/IllegalStateException"]
def wsX0_move_r2 : List Cond := [Cond.methodLink RX0 107 yX0_obstacle, Cond.instanceMethod yX0_obstacle, Cond.selects RX0 yX0_obstacle yX0_obstacle, Cond.code yX0_obstacle cX0_obstacle 3 (some .int), Cond.fieldLink RX0 13 "SpotAccount" "breakAired" "[Z", Cond.fieldLink RX0 29 "SpotAccount" "orderSeconds" "[I", Cond.fieldLink RX0 38 "SpotAccount" "orderFloor" "[I", Cond.fieldLink RX0 20 "SpotAccount" "orderAdvertiser" "[I", Cond.methodLink RX0 87 yX0_secondsLeft, Cond.instanceMethod yX0_secondsLeft, Cond.selects RX0 yX0_secondsLeft yX0_secondsLeft, Cond.code yX0_secondsLeft cX0_secondsLeft 4 (some .int), Cond.fieldLink RX0 9 "SpotAccount" "breakSeconds" "[I", Cond.methodLink RX0 126 yX0_isInBreak, Cond.instanceMethod yX0_isInBreak, Cond.selects RX0 yX0_isInBreak yX0_isInBreak, Cond.code yX0_isInBreak cX0_isInBreak 2 (some .boolean), Cond.methodLink RX0 156 yX0_ratingFor, Cond.instanceMethod yX0_ratingFor, Cond.selects RX0 yX0_ratingFor yX0_ratingFor, Cond.code yX0_ratingFor cX0_ratingFor 3 (some .int), Cond.fieldLink RX0 17 "SpotAccount" "ratings" "[I", Cond.fieldLink RX0 26 "SpotAccount" "orderGroup" "[I", Cond.methodLink RX0 80 yX0_ratingCell]
def wsX0_move_r3 : List Cond := [Cond.static yX0_ratingCell, Cond.code yX0_ratingCell cX0_ratingCell 2 (some .int), Cond.methodLink RX0 159 yX0_holdsAdvertiser, Cond.instanceMethod yX0_holdsAdvertiser, Cond.selects RX0 yX0_holdsAdvertiser yX0_holdsAdvertiser, Cond.code yX0_holdsAdvertiser cX0_holdsAdvertiser 4 (some .boolean), Cond.methodLink RX0 163 yX0_holdsRival, Cond.instanceMethod yX0_holdsRival, Cond.selects RX0 yX0_holdsRival yX0_holdsRival, Cond.code yX0_holdsRival cX0_holdsRival 4 (some .boolean), Cond.methodLink RX0 166 yX0_areRivals, Cond.instanceMethod yX0_areRivals, Cond.selects RX0 yX0_areRivals yX0_areRivals, Cond.code yX0_areRivals cX0_areRivals 3 (some .boolean), Cond.fieldLink RX0 23 "SpotAccount" "orderCategory" "[I"]
def wsX0_move : List Cond := .code yX0_move cX0_move 4 (some .int) :: ((wsX0_move_r1 ++ (wsX0_move_r2 ++ wsX0_move_r3)) ++ wsX00 ++ (vx_atS RX0 143 "java/lang/IndexOutOfBoundsException" ["java/lang/RuntimeException", "java/lang/Exception"]).filter goodWord ++ (vx_atS RX0 155 "java/lang/IllegalStateException" ["java/lang/RuntimeException", "java/lang/Exception"]).filter goodWord)
def wsX0_miss : List Cond := .code yX0_miss cX0_miss 3 (some .boolean) :: ([.fieldLink RX0 50 "SpotAccount" "spotState" "[I", .methodLink RX0 123 yX0_checkSpot, .instanceMethod yX0_checkSpot, .selects RX0 yX0_checkSpot yX0_checkSpot, .initialized RX0, .code yX0_checkSpot cX0_checkSpot 2 none, .fieldLink RX0 84 "SpotAccount" "spotCount" "I", .methodLink RX0 135 yX0_checkIndex, .static yX0_checkIndex, .code yX0_checkIndex cX0_checkIndex 2 none, .classLink RX0 139 "java/lang/IndexOutOfBoundsException", .initialized "java/lang/IndexOutOfBoundsException", .methodLink RX0 126 yX0_isInBreak, .instanceMethod yX0_isInBreak, .selects RX0 yX0_isInBreak yX0_isInBreak, .code yX0_isInBreak cX0_isInBreak 2 (some .boolean), .methodLink RX0 68 yX0_checkState, .static yX0_checkState, .code yX0_checkState cX0_checkState 1 none, .classLink RX0 151 "java/lang/IllegalStateException", .initialized "java/lang/IllegalStateException"] ++ wsX00 ++ (vx_atS RX0 143 "java/lang/IndexOutOfBoundsException" ["java/lang/RuntimeException", "java/lang/Exception"]).filter goodWord ++ (vx_atS RX0 155 "java/lang/IllegalStateException" ["java/lang/RuntimeException", "java/lang/Exception"]).filter goodWord)
def wsX0_drop : List Cond := .code yX0_drop cX0_drop 2 none :: ([.fieldLink RX0 50 "SpotAccount" "spotState" "[I", .methodLink RX0 123 yX0_checkSpot, .instanceMethod yX0_checkSpot, .selects RX0 yX0_checkSpot yX0_checkSpot, .initialized RX0, .code yX0_checkSpot cX0_checkSpot 2 none, .fieldLink RX0 84 "SpotAccount" "spotCount" "I", .methodLink RX0 135 yX0_checkIndex, .static yX0_checkIndex, .code yX0_checkIndex cX0_checkIndex 2 none, .classLink RX0 139 "java/lang/IndexOutOfBoundsException", .initialized "java/lang/IndexOutOfBoundsException", .methodLink RX0 68 yX0_checkState, .static yX0_checkState, .code yX0_checkState cX0_checkState 1 none, .classLink RX0 151 "java/lang/IllegalStateException", .initialized "java/lang/IllegalStateException"] ++ wsX00 ++ (vx_atS RX0 143 "java/lang/IndexOutOfBoundsException" ["java/lang/RuntimeException", "java/lang/Exception"]).filter goodWord ++ (vx_atS RX0 155 "java/lang/IllegalStateException" ["java/lang/RuntimeException", "java/lang/Exception"]).filter goodWord)
def wsX0_spots : List Cond := .code yX0_spots cX0_spots 1 (some .int) :: ([.fieldLink RX0 84 "SpotAccount" "spotCount" "I"] ++ wsX00)
def wsX0_stateOf : List Cond := .code yX0_stateOf cX0_stateOf 2 (some .int) :: ([.fieldLink RX0 50 "SpotAccount" "spotState" "[I", .methodLink RX0 123 yX0_checkSpot, .instanceMethod yX0_checkSpot, .selects RX0 yX0_checkSpot yX0_checkSpot, .initialized RX0, .code yX0_checkSpot cX0_checkSpot 2 none, .fieldLink RX0 84 "SpotAccount" "spotCount" "I", .methodLink RX0 135 yX0_checkIndex, .static yX0_checkIndex, .code yX0_checkIndex cX0_checkIndex 2 none, .classLink RX0 139 "java/lang/IndexOutOfBoundsException", .initialized "java/lang/IndexOutOfBoundsException"] ++ wsX00 ++ (vx_atS RX0 143 "java/lang/IndexOutOfBoundsException" ["java/lang/RuntimeException", "java/lang/Exception"]).filter goodWord)
def wsX0_breakOf : List Cond := .code yX0_breakOf cX0_breakOf 2 (some .int) :: ([.fieldLink RX0 47 "SpotAccount" "spotBreak" "[I", .methodLink RX0 123 yX0_checkSpot, .instanceMethod yX0_checkSpot, .selects RX0 yX0_checkSpot yX0_checkSpot, .initialized RX0, .code yX0_checkSpot cX0_checkSpot 2 none, .fieldLink RX0 84 "SpotAccount" "spotCount" "I", .methodLink RX0 135 yX0_checkIndex, .static yX0_checkIndex, .code yX0_checkIndex cX0_checkIndex 2 none, .classLink RX0 139 "java/lang/IndexOutOfBoundsException", .initialized "java/lang/IndexOutOfBoundsException"] ++ wsX00 ++ (vx_atS RX0 143 "java/lang/IndexOutOfBoundsException" ["java/lang/RuntimeException", "java/lang/Exception"]).filter goodWord)
def wsX0_delivered_r1 : List Cond := [Cond.methodLink RX0 101 yX0_checkOrder, Cond.instanceMethod yX0_checkOrder, Cond.selects RX0 yX0_checkOrder yX0_checkOrder, Cond.initialized RX0, Cond.code yX0_checkOrder cX0_checkOrder 2 none, Cond.fieldLink RX0 98 "SpotAccount" "orderCount" "I", Cond.methodLink RX0 135 yX0_checkIndex, Cond.static yX0_checkIndex, Cond.code yX0_checkIndex cX0_checkIndex 2 none, Cond.classLink RX0 139 "java/lang/IndexOutOfBoundsException", Cond.initialized "java/lang/IndexOutOfBoundsException", Cond.methodLink RX0 129 yX0_audience, Cond.instanceMethod yX0_audience, Cond.selects RX0 yX0_audience yX0_audience, Cond.code yX0_audience cX0_audience 5 (some .int), Cond.fieldLink RX0 84 "SpotAccount" "spotCount" "I", Cond.fieldLink RX0 44 "SpotAccount" "spotOrder" "[I", Cond.fieldLink RX0 50 "SpotAccount" "spotState" "[I", Cond.fieldLink RX0 47 "SpotAccount" "spotBreak" "[I", Cond.methodLink RX0 156 yX0_ratingFor, Cond.instanceMethod yX0_ratingFor, Cond.selects RX0 yX0_ratingFor yX0_ratingFor, Cond.code yX0_ratingFor cX0_ratingFor 3 (some .int), Cond.fieldLink RX0 17 "SpotAccount" "ratings" "[I"]
def wsX0_delivered_r2 : List Cond := [Cond.fieldLink RX0 26 "SpotAccount" "orderGroup" "[I", Cond.methodLink RX0 80 yX0_ratingCell, Cond.static yX0_ratingCell, Cond.code yX0_ratingCell cX0_ratingCell 2 (some .int)]
def wsX0_delivered : List Cond := .code yX0_delivered cX0_delivered 2 (some .int) :: ((wsX0_delivered_r1 ++ wsX0_delivered_r2) ++ wsX00 ++ (vx_atS RX0 143 "java/lang/IndexOutOfBoundsException" ["java/lang/RuntimeException", "java/lang/Exception"]).filter goodWord)
def wsX0_owed_r1 : List Cond := [Cond.methodLink RX0 101 yX0_checkOrder, Cond.instanceMethod yX0_checkOrder, Cond.selects RX0 yX0_checkOrder yX0_checkOrder, Cond.initialized RX0, Cond.code yX0_checkOrder cX0_checkOrder 2 none, Cond.fieldLink RX0 98 "SpotAccount" "orderCount" "I", Cond.methodLink RX0 135 yX0_checkIndex, Cond.static yX0_checkIndex, Cond.code yX0_checkIndex cX0_checkIndex 2 none, Cond.classLink RX0 139 "java/lang/IndexOutOfBoundsException", Cond.initialized "java/lang/IndexOutOfBoundsException", Cond.methodLink RX0 104 yX0_owedTo, Cond.instanceMethod yX0_owedTo, Cond.selects RX0 yX0_owedTo yX0_owedTo, Cond.code yX0_owedTo cX0_owedTo 2 (some .int), Cond.fieldLink RX0 41 "SpotAccount" "orderClosed" "[Z", Cond.fieldLink RX0 35 "SpotAccount" "orderPromise" "[I", Cond.methodLink RX0 169 Lib.Math.max.name, Cond.static Lib.Math.max.name, Cond.initialized "java/lang/Math", Cond.code Lib.Math.max.name Lib.Math.max.code 2 (some .int), Cond.methodLink RX0 129 yX0_audience, Cond.instanceMethod yX0_audience, Cond.selects RX0 yX0_audience yX0_audience]
def wsX0_owed_r2 : List Cond := [Cond.code yX0_audience cX0_audience 5 (some .int), Cond.fieldLink RX0 84 "SpotAccount" "spotCount" "I", Cond.fieldLink RX0 44 "SpotAccount" "spotOrder" "[I", Cond.fieldLink RX0 50 "SpotAccount" "spotState" "[I", Cond.fieldLink RX0 47 "SpotAccount" "spotBreak" "[I", Cond.methodLink RX0 156 yX0_ratingFor, Cond.instanceMethod yX0_ratingFor, Cond.selects RX0 yX0_ratingFor yX0_ratingFor, Cond.code yX0_ratingFor cX0_ratingFor 3 (some .int), Cond.fieldLink RX0 17 "SpotAccount" "ratings" "[I", Cond.fieldLink RX0 26 "SpotAccount" "orderGroup" "[I", Cond.methodLink RX0 80 yX0_ratingCell, Cond.static yX0_ratingCell, Cond.code yX0_ratingCell cX0_ratingCell 2 (some .int)]
def wsX0_owed : List Cond := .code yX0_owed cX0_owed 2 (some .int) :: ((wsX0_owed_r1 ++ wsX0_owed_r2) ++ wsX00 ++ (vx_atS RX0 143 "java/lang/IndexOutOfBoundsException" ["java/lang/RuntimeException", "java/lang/Exception"]).filter goodWord)
def wsX0_rest_r1 : List Cond := [Cond.methodLink RX0 101 yX0_checkOrder, Cond.instanceMethod yX0_checkOrder, Cond.selects RX0 yX0_checkOrder yX0_checkOrder, Cond.initialized RX0, Cond.code yX0_checkOrder cX0_checkOrder 2 none, Cond.fieldLink RX0 98 "SpotAccount" "orderCount" "I", Cond.methodLink RX0 135 yX0_checkIndex, Cond.static yX0_checkIndex, Cond.code yX0_checkIndex cX0_checkIndex 2 none, Cond.classLink RX0 139 "java/lang/IndexOutOfBoundsException", Cond.initialized "java/lang/IndexOutOfBoundsException", Cond.methodLink RX0 114 yX0_restOf, Cond.instanceMethod yX0_restOf, Cond.selects RX0 yX0_restOf yX0_restOf, Cond.code yX0_restOf cX0_restOf 4 (some .int), Cond.fieldLink RX0 84 "SpotAccount" "spotCount" "I", Cond.fieldLink RX0 44 "SpotAccount" "spotOrder" "[I", Cond.fieldLink RX0 53 "SpotAccount" "spotFree" "[Z", Cond.fieldLink RX0 50 "SpotAccount" "spotState" "[I", Cond.fieldLink RX0 47 "SpotAccount" "spotBreak" "[I", Cond.methodLink RX0 169 Lib.Math.max.name, Cond.static Lib.Math.max.name, Cond.initialized "java/lang/Math", Cond.code Lib.Math.max.name Lib.Math.max.code 2 (some .int)]
def wsX0_rest_r2 : List Cond := [Cond.methodLink RX0 104 yX0_owedTo, Cond.instanceMethod yX0_owedTo, Cond.selects RX0 yX0_owedTo yX0_owedTo, Cond.code yX0_owedTo cX0_owedTo 2 (some .int), Cond.fieldLink RX0 41 "SpotAccount" "orderClosed" "[Z", Cond.fieldLink RX0 35 "SpotAccount" "orderPromise" "[I", Cond.methodLink RX0 129 yX0_audience, Cond.instanceMethod yX0_audience, Cond.selects RX0 yX0_audience yX0_audience, Cond.code yX0_audience cX0_audience 5 (some .int), Cond.methodLink RX0 156 yX0_ratingFor, Cond.instanceMethod yX0_ratingFor, Cond.selects RX0 yX0_ratingFor yX0_ratingFor, Cond.code yX0_ratingFor cX0_ratingFor 3 (some .int), Cond.fieldLink RX0 17 "SpotAccount" "ratings" "[I", Cond.fieldLink RX0 26 "SpotAccount" "orderGroup" "[I", Cond.methodLink RX0 80 yX0_ratingCell, Cond.static yX0_ratingCell, Cond.code yX0_ratingCell cX0_ratingCell 2 (some .int)]
def wsX0_rest : List Cond := .code yX0_rest cX0_rest 2 (some .int) :: ((wsX0_rest_r1 ++ wsX0_rest_r2) ++ wsX00 ++ (vx_atS RX0 143 "java/lang/IndexOutOfBoundsException" ["java/lang/RuntimeException", "java/lang/Exception"]).filter goodWord)
def wsX0_billOf : List Cond := .code yX0_billOf cX0_billOf 4 (some .int) :: ([.fieldLink RX0 84 "SpotAccount" "spotCount" "I", .fieldLink RX0 44 "SpotAccount" "spotOrder" "[I", .fieldLink RX0 53 "SpotAccount" "spotFree" "[Z", .fieldLink RX0 50 "SpotAccount" "spotState" "[I", .fieldLink RX0 32 "SpotAccount" "orderPrice" "[I"] ++ wsX00)
def wsX0_bill : List Cond := .code yX0_bill cX0_bill 2 (some .int) :: ([.methodLink RX0 101 yX0_checkOrder, .instanceMethod yX0_checkOrder, .selects RX0 yX0_checkOrder yX0_checkOrder, .initialized RX0, .code yX0_checkOrder cX0_checkOrder 2 none, .fieldLink RX0 98 "SpotAccount" "orderCount" "I", .methodLink RX0 135 yX0_checkIndex, .static yX0_checkIndex, .code yX0_checkIndex cX0_checkIndex 2 none, .classLink RX0 139 "java/lang/IndexOutOfBoundsException", .initialized "java/lang/IndexOutOfBoundsException", .methodLink RX0 132 yX0_billOf, .instanceMethod yX0_billOf, .selects RX0 yX0_billOf yX0_billOf, .code yX0_billOf cX0_billOf 4 (some .int), .fieldLink RX0 84 "SpotAccount" "spotCount" "I", .fieldLink RX0 44 "SpotAccount" "spotOrder" "[I", .fieldLink RX0 53 "SpotAccount" "spotFree" "[Z", .fieldLink RX0 50 "SpotAccount" "spotState" "[I", .fieldLink RX0 32 "SpotAccount" "orderPrice" "[I"] ++ wsX00 ++ (vx_atS RX0 143 "java/lang/IndexOutOfBoundsException" ["java/lang/RuntimeException", "java/lang/Exception"]).filter goodWord)
def wsX0_billTo : List Cond := .code yX0_billTo cX0_billTo 4 (some .int) :: ([.fieldLink RX0 98 "SpotAccount" "orderCount" "I", .fieldLink RX0 20 "SpotAccount" "orderAdvertiser" "[I", .methodLink RX0 91 yX0_isAdvertiser, .static yX0_isAdvertiser, .initialized RX0, .code yX0_isAdvertiser cX0_isAdvertiser 1 (some .boolean), .methodLink RX0 56 yX0_isWithin, .static yX0_isWithin, .code yX0_isWithin cX0_isWithin 3 (some .boolean), .methodLink RX0 60 yX0_checkArgument, .static yX0_checkArgument, .code yX0_checkArgument cX0_checkArgument 1 none, .classLink RX0 146 "java/lang/IllegalArgumentException", .initialized "java/lang/IllegalArgumentException", .methodLink RX0 132 yX0_billOf, .instanceMethod yX0_billOf, .selects RX0 yX0_billOf yX0_billOf, .code yX0_billOf cX0_billOf 4 (some .int), .fieldLink RX0 84 "SpotAccount" "spotCount" "I", .fieldLink RX0 44 "SpotAccount" "spotOrder" "[I", .fieldLink RX0 53 "SpotAccount" "spotFree" "[Z", .fieldLink RX0 50 "SpotAccount" "spotState" "[I", .fieldLink RX0 32 "SpotAccount" "orderPrice" "[I"] ++ wsX00 ++ (vx_atS RX0 150 "java/lang/IllegalArgumentException" ["java/lang/RuntimeException", "java/lang/Exception"]).filter goodWord)
def wsX0_mostOwed_r1 : List Cond := [Cond.fieldLink RX0 98 "SpotAccount" "orderCount" "I", Cond.methodLink RX0 114 yX0_restOf, Cond.instanceMethod yX0_restOf, Cond.selects RX0 yX0_restOf yX0_restOf, Cond.initialized RX0, Cond.code yX0_restOf cX0_restOf 4 (some .int), Cond.fieldLink RX0 84 "SpotAccount" "spotCount" "I", Cond.fieldLink RX0 44 "SpotAccount" "spotOrder" "[I", Cond.fieldLink RX0 53 "SpotAccount" "spotFree" "[Z", Cond.fieldLink RX0 50 "SpotAccount" "spotState" "[I", Cond.fieldLink RX0 47 "SpotAccount" "spotBreak" "[I", Cond.methodLink RX0 169 Lib.Math.max.name, Cond.static Lib.Math.max.name, Cond.initialized "java/lang/Math", Cond.code Lib.Math.max.name Lib.Math.max.code 2 (some .int), Cond.methodLink RX0 104 yX0_owedTo, Cond.instanceMethod yX0_owedTo, Cond.selects RX0 yX0_owedTo yX0_owedTo, Cond.code yX0_owedTo cX0_owedTo 2 (some .int), Cond.fieldLink RX0 41 "SpotAccount" "orderClosed" "[Z", Cond.fieldLink RX0 35 "SpotAccount" "orderPromise" "[I", Cond.methodLink RX0 129 yX0_audience, Cond.instanceMethod yX0_audience, Cond.selects RX0 yX0_audience yX0_audience]
def wsX0_mostOwed_r2 : List Cond := [Cond.code yX0_audience cX0_audience 5 (some .int), Cond.methodLink RX0 156 yX0_ratingFor, Cond.instanceMethod yX0_ratingFor, Cond.selects RX0 yX0_ratingFor yX0_ratingFor, Cond.code yX0_ratingFor cX0_ratingFor 3 (some .int), Cond.fieldLink RX0 17 "SpotAccount" "ratings" "[I", Cond.fieldLink RX0 26 "SpotAccount" "orderGroup" "[I", Cond.methodLink RX0 80 yX0_ratingCell, Cond.static yX0_ratingCell, Cond.code yX0_ratingCell cX0_ratingCell 2 (some .int)]
def wsX0_mostOwed : List Cond := .code yX0_mostOwed cX0_mostOwed 5 (some .int) :: ((wsX0_mostOwed_r1 ++ wsX0_mostOwed_r2) ++ wsX00)
def wsX1_init : List Cond := .code yX1_init cX1_init 1 none :: ([.methodLink RX1 1 objectInit, .instanceMethod objectInit, .code objectInit ⟨#[0xb1]⟩ 1 none, .arrayClass .int, .fieldLink RX1 7 "SpotAccountModel" "length" "[I", .arrayClass .boolean, .fieldLink RX1 13 "SpotAccountModel" "aired" "[Z", .fieldLink RX1 17 "SpotAccountModel" "rating" "[I", .fieldLink RX1 20 "SpotAccountModel" "advertiser" "[I", .fieldLink RX1 23 "SpotAccountModel" "category" "[I", .fieldLink RX1 26 "SpotAccountModel" "group" "[I", .fieldLink RX1 29 "SpotAccountModel" "seconds" "[I", .fieldLink RX1 32 "SpotAccountModel" "price" "[I", .fieldLink RX1 35 "SpotAccountModel" "promise" "[I", .fieldLink RX1 38 "SpotAccountModel" "floor" "[I", .fieldLink RX1 41 "SpotAccountModel" "closed" "[Z", .fieldLink RX1 44 "SpotAccountModel" "order" "[I", .fieldLink RX1 47 "SpotAccountModel" "where" "[I", .fieldLink RX1 50 "SpotAccountModel" "state" "[I", .fieldLink RX1 53 "SpotAccountModel" "free" "[Z"] ++ wsX10)
def wsX1_thrown : List Cond := .code yX1_thrown cX1_thrown 1 (some .int) :: ([.fieldLink RX1 56 "SpotAccountModel" "thrown" "I"] ++ wsX10)
def wsX1_in : List Cond := .code yX1_in cX1_in 3 (some .boolean) :: ([])
def wsX1_goes : List Cond := .code yX1_goes cX1_goes 4 (some .boolean) :: ([.fieldLink RX1 56 "SpotAccountModel" "thrown" "I"] ++ wsX10)
def wsX1_told : List Cond := .code yX1_told cX1_told 2 (some .int) :: ([.fieldLink RX1 56 "SpotAccountModel" "thrown" "I"] ++ wsX10)
def wsX1_isBreak : List Cond := .code yX1_isBreak cX1_isBreak 2 (some .boolean) :: ([.fieldLink RX1 60 "SpotAccountModel" "breaks" "I", .methodLink RX1 63 yX1_in, .static yX1_in, .initialized RX1, .code yX1_in cX1_in 3 (some .boolean)] ++ wsX10)
def wsX1_isOrder : List Cond := .code yX1_isOrder cX1_isOrder 2 (some .boolean) :: ([.fieldLink RX1 67 "SpotAccountModel" "orders" "I", .methodLink RX1 63 yX1_in, .static yX1_in, .initialized RX1, .code yX1_in cX1_in 3 (some .boolean)] ++ wsX10)
def wsX1_isSpot : List Cond := .code yX1_isSpot cX1_isSpot 2 (some .boolean) :: ([.fieldLink RX1 70 "SpotAccountModel" "spots" "I", .methodLink RX1 63 yX1_in, .static yX1_in, .initialized RX1, .code yX1_in cX1_in 3 (some .boolean)] ++ wsX10)
def wsX1_addBreak : List Cond := .code yX1_addBreak cX1_addBreak 2 (some .int) :: ([.fieldLink RX1 60 "SpotAccountModel" "breaks" "I", .fieldLink RX1 7 "SpotAccountModel" "length" "[I", .methodLink RX1 63 yX1_in, .static yX1_in, .initialized RX1, .code yX1_in cX1_in 3 (some .boolean), .methodLink RX1 73 yX1_goes, .instanceMethod yX1_goes, .selects RX1 yX1_goes yX1_goes, .code yX1_goes cX1_goes 4 (some .boolean), .fieldLink RX1 56 "SpotAccountModel" "thrown" "I"] ++ wsX10)
def wsX1_rate : List Cond := .code yX1_rate cX1_rate 5 (some .int) :: ([.constant RX1 81 (100000), .fieldLink RX1 17 "SpotAccountModel" "rating" "[I", .methodLink RX1 77 yX1_isBreak, .instanceMethod yX1_isBreak, .selects RX1 yX1_isBreak yX1_isBreak, .initialized RX1, .code yX1_isBreak cX1_isBreak 2 (some .boolean), .fieldLink RX1 60 "SpotAccountModel" "breaks" "I", .methodLink RX1 63 yX1_in, .static yX1_in, .code yX1_in cX1_in 3 (some .boolean), .methodLink RX1 73 yX1_goes, .instanceMethod yX1_goes, .selects RX1 yX1_goes yX1_goes, .code yX1_goes cX1_goes 4 (some .boolean), .fieldLink RX1 56 "SpotAccountModel" "thrown" "I"] ++ wsX10)
def wsX1_air : List Cond := .code yX1_air cX1_air 5 (some .int) :: ([.fieldLink RX1 13 "SpotAccountModel" "aired" "[Z", .fieldLink RX1 70 "SpotAccountModel" "spots" "I", .fieldLink RX1 47 "SpotAccountModel" "where" "[I", .fieldLink RX1 50 "SpotAccountModel" "state" "[I", .methodLink RX1 77 yX1_isBreak, .instanceMethod yX1_isBreak, .selects RX1 yX1_isBreak yX1_isBreak, .initialized RX1, .code yX1_isBreak cX1_isBreak 2 (some .boolean), .fieldLink RX1 60 "SpotAccountModel" "breaks" "I", .methodLink RX1 63 yX1_in, .static yX1_in, .code yX1_in cX1_in 3 (some .boolean), .methodLink RX1 73 yX1_goes, .instanceMethod yX1_goes, .selects RX1 yX1_goes yX1_goes, .code yX1_goes cX1_goes 4 (some .boolean), .fieldLink RX1 56 "SpotAccountModel" "thrown" "I"] ++ wsX10)
def wsX1_breaks : List Cond := .code yX1_breaks cX1_breaks 1 (some .int) :: ([.fieldLink RX1 60 "SpotAccountModel" "breaks" "I", .methodLink RX1 82 yX1_told, .instanceMethod yX1_told, .selects RX1 yX1_told yX1_told, .initialized RX1, .code yX1_told cX1_told 2 (some .int), .fieldLink RX1 56 "SpotAccountModel" "thrown" "I"] ++ wsX10)
def wsX1_isAired : List Cond := .code yX1_isAired cX1_isAired 2 (some .boolean) :: ([.fieldLink RX1 13 "SpotAccountModel" "aired" "[Z", .methodLink RX1 77 yX1_isBreak, .instanceMethod yX1_isBreak, .selects RX1 yX1_isBreak yX1_isBreak, .initialized RX1, .code yX1_isBreak cX1_isBreak 2 (some .boolean), .fieldLink RX1 60 "SpotAccountModel" "breaks" "I", .methodLink RX1 63 yX1_in, .static yX1_in, .code yX1_in cX1_in 3 (some .boolean), .methodLink RX1 73 yX1_goes, .instanceMethod yX1_goes, .selects RX1 yX1_goes yX1_goes, .code yX1_goes cX1_goes 4 (some .boolean), .fieldLink RX1 56 "SpotAccountModel" "thrown" "I"] ++ wsX10)
def wsX1_stands : List Cond := .code yX1_stands cX1_stands 3 (some .boolean) :: ([.fieldLink RX1 47 "SpotAccountModel" "where" "[I", .fieldLink RX1 50 "SpotAccountModel" "state" "[I"] ++ wsX10)
def wsX1_roomWithout : List Cond := .code yX1_roomWithout cX1_roomWithout 5 (some .int) :: ([.fieldLink RX1 7 "SpotAccountModel" "length" "[I", .fieldLink RX1 70 "SpotAccountModel" "spots" "I", .fieldLink RX1 29 "SpotAccountModel" "seconds" "[I", .fieldLink RX1 44 "SpotAccountModel" "order" "[I", .methodLink RX1 86 yX1_stands, .instanceMethod yX1_stands, .selects RX1 yX1_stands yX1_stands, .initialized RX1, .code yX1_stands cX1_stands 3 (some .boolean), .fieldLink RX1 47 "SpotAccountModel" "where" "[I", .fieldLink RX1 50 "SpotAccountModel" "state" "[I"] ++ wsX10)
def wsX1_room_r1 : List Cond := [Cond.methodLink RX1 77 yX1_isBreak, Cond.instanceMethod yX1_isBreak, Cond.selects RX1 yX1_isBreak yX1_isBreak, Cond.initialized RX1, Cond.code yX1_isBreak cX1_isBreak 2 (some .boolean), Cond.fieldLink RX1 60 "SpotAccountModel" "breaks" "I", Cond.methodLink RX1 63 yX1_in, Cond.static yX1_in, Cond.code yX1_in cX1_in 3 (some .boolean), Cond.methodLink RX1 73 yX1_goes, Cond.instanceMethod yX1_goes, Cond.selects RX1 yX1_goes yX1_goes, Cond.code yX1_goes cX1_goes 4 (some .boolean), Cond.fieldLink RX1 56 "SpotAccountModel" "thrown" "I", Cond.methodLink RX1 90 yX1_roomWithout, Cond.instanceMethod yX1_roomWithout, Cond.selects RX1 yX1_roomWithout yX1_roomWithout, Cond.code yX1_roomWithout cX1_roomWithout 5 (some .int), Cond.fieldLink RX1 7 "SpotAccountModel" "length" "[I", Cond.fieldLink RX1 70 "SpotAccountModel" "spots" "I", Cond.fieldLink RX1 29 "SpotAccountModel" "seconds" "[I", Cond.fieldLink RX1 44 "SpotAccountModel" "order" "[I", Cond.methodLink RX1 86 yX1_stands, Cond.instanceMethod yX1_stands]
def wsX1_room_r2 : List Cond := [Cond.selects RX1 yX1_stands yX1_stands, Cond.code yX1_stands cX1_stands 3 (some .boolean), Cond.fieldLink RX1 47 "SpotAccountModel" "where" "[I", Cond.fieldLink RX1 50 "SpotAccountModel" "state" "[I"]
def wsX1_room : List Cond := .code yX1_room cX1_room 2 (some .int) :: ((wsX1_room_r1 ++ wsX1_room_r2) ++ wsX10)
def wsX1_rating : List Cond := .code yX1_rating cX1_rating 3 (some .int) :: ([.fieldLink RX1 17 "SpotAccountModel" "rating" "[I", .methodLink RX1 77 yX1_isBreak, .instanceMethod yX1_isBreak, .selects RX1 yX1_isBreak yX1_isBreak, .initialized RX1, .code yX1_isBreak cX1_isBreak 2 (some .boolean), .fieldLink RX1 60 "SpotAccountModel" "breaks" "I", .methodLink RX1 63 yX1_in, .static yX1_in, .code yX1_in cX1_in 3 (some .boolean), .methodLink RX1 73 yX1_goes, .instanceMethod yX1_goes, .selects RX1 yX1_goes yX1_goes, .code yX1_goes cX1_goes 4 (some .boolean), .fieldLink RX1 56 "SpotAccountModel" "thrown" "I"] ++ wsX10)
def wsX1_addOrder : List Cond := .code yX1_addOrder cX1_addOrder 9 (some .int) :: ([.constant RX1 94 (1000000), .constant RX1 81 (100000), .fieldLink RX1 67 "SpotAccountModel" "orders" "I", .fieldLink RX1 20 "SpotAccountModel" "advertiser" "[I", .fieldLink RX1 23 "SpotAccountModel" "category" "[I", .fieldLink RX1 26 "SpotAccountModel" "group" "[I", .fieldLink RX1 29 "SpotAccountModel" "seconds" "[I", .fieldLink RX1 32 "SpotAccountModel" "price" "[I", .fieldLink RX1 35 "SpotAccountModel" "promise" "[I", .fieldLink RX1 38 "SpotAccountModel" "floor" "[I", .methodLink RX1 63 yX1_in, .static yX1_in, .initialized RX1, .code yX1_in cX1_in 3 (some .boolean), .methodLink RX1 73 yX1_goes, .instanceMethod yX1_goes, .selects RX1 yX1_goes yX1_goes, .code yX1_goes cX1_goes 4 (some .boolean), .fieldLink RX1 56 "SpotAccountModel" "thrown" "I"] ++ wsX10)
def wsX1_ratingFor : List Cond := .code yX1_ratingFor cX1_ratingFor 3 (some .int) :: ([.fieldLink RX1 17 "SpotAccountModel" "rating" "[I", .fieldLink RX1 26 "SpotAccountModel" "group" "[I"] ++ wsX10)
def wsX1_sums : List Cond := .code yX1_sums cX1_sums 6 (some .int) :: ([.fieldLink RX1 70 "SpotAccountModel" "spots" "I", .fieldLink RX1 44 "SpotAccountModel" "order" "[I", .fieldLink RX1 50 "SpotAccountModel" "state" "[I", .fieldLink RX1 53 "SpotAccountModel" "free" "[Z", .fieldLink RX1 47 "SpotAccountModel" "where" "[I", .methodLink RX1 95 yX1_ratingFor, .instanceMethod yX1_ratingFor, .selects RX1 yX1_ratingFor yX1_ratingFor, .initialized RX1, .code yX1_ratingFor cX1_ratingFor 3 (some .int), .fieldLink RX1 17 "SpotAccountModel" "rating" "[I", .fieldLink RX1 26 "SpotAccountModel" "group" "[I"] ++ wsX10)
def wsX1_owes : List Cond := .code yX1_owes cX1_owes 3 (some .int) :: ([.fieldLink RX1 35 "SpotAccountModel" "promise" "[I", .fieldLink RX1 41 "SpotAccountModel" "closed" "[Z", .methodLink RX1 98 yX1_sums, .instanceMethod yX1_sums, .selects RX1 yX1_sums yX1_sums, .initialized RX1, .code yX1_sums cX1_sums 6 (some .int), .fieldLink RX1 70 "SpotAccountModel" "spots" "I", .fieldLink RX1 44 "SpotAccountModel" "order" "[I", .fieldLink RX1 50 "SpotAccountModel" "state" "[I", .fieldLink RX1 53 "SpotAccountModel" "free" "[Z", .fieldLink RX1 47 "SpotAccountModel" "where" "[I", .methodLink RX1 95 yX1_ratingFor, .instanceMethod yX1_ratingFor, .selects RX1 yX1_ratingFor yX1_ratingFor, .code yX1_ratingFor cX1_ratingFor 3 (some .int), .fieldLink RX1 17 "SpotAccountModel" "rating" "[I", .fieldLink RX1 26 "SpotAccountModel" "group" "[I"] ++ wsX10)
def wsX1_left : List Cond := .code yX1_left cX1_left 3 (some .int) :: ([.methodLink RX1 102 yX1_owes, .instanceMethod yX1_owes, .selects RX1 yX1_owes yX1_owes, .initialized RX1, .code yX1_owes cX1_owes 3 (some .int), .fieldLink RX1 35 "SpotAccountModel" "promise" "[I", .fieldLink RX1 41 "SpotAccountModel" "closed" "[Z", .methodLink RX1 98 yX1_sums, .instanceMethod yX1_sums, .selects RX1 yX1_sums yX1_sums, .code yX1_sums cX1_sums 6 (some .int), .fieldLink RX1 70 "SpotAccountModel" "spots" "I", .fieldLink RX1 44 "SpotAccountModel" "order" "[I", .fieldLink RX1 50 "SpotAccountModel" "state" "[I", .fieldLink RX1 53 "SpotAccountModel" "free" "[Z", .fieldLink RX1 47 "SpotAccountModel" "where" "[I", .methodLink RX1 95 yX1_ratingFor, .instanceMethod yX1_ratingFor, .selects RX1 yX1_ratingFor yX1_ratingFor, .code yX1_ratingFor cX1_ratingFor 3 (some .int), .fieldLink RX1 17 "SpotAccountModel" "rating" "[I", .fieldLink RX1 26 "SpotAccountModel" "group" "[I"] ++ wsX10)
def wsX1_close_r1 : List Cond := [Cond.fieldLink RX1 41 "SpotAccountModel" "closed" "[Z", Cond.fieldLink RX1 70 "SpotAccountModel" "spots" "I", Cond.fieldLink RX1 50 "SpotAccountModel" "state" "[I", Cond.fieldLink RX1 44 "SpotAccountModel" "order" "[I", Cond.methodLink RX1 105 yX1_isOrder, Cond.instanceMethod yX1_isOrder, Cond.selects RX1 yX1_isOrder yX1_isOrder, Cond.initialized RX1, Cond.code yX1_isOrder cX1_isOrder 2 (some .boolean), Cond.fieldLink RX1 67 "SpotAccountModel" "orders" "I", Cond.methodLink RX1 63 yX1_in, Cond.static yX1_in, Cond.code yX1_in cX1_in 3 (some .boolean), Cond.methodLink RX1 73 yX1_goes, Cond.instanceMethod yX1_goes, Cond.selects RX1 yX1_goes yX1_goes, Cond.code yX1_goes cX1_goes 4 (some .boolean), Cond.fieldLink RX1 56 "SpotAccountModel" "thrown" "I", Cond.methodLink RX1 102 yX1_owes, Cond.instanceMethod yX1_owes, Cond.selects RX1 yX1_owes yX1_owes, Cond.code yX1_owes cX1_owes 3 (some .int), Cond.fieldLink RX1 35 "SpotAccountModel" "promise" "[I", Cond.methodLink RX1 98 yX1_sums]
def wsX1_close_r2 : List Cond := [Cond.instanceMethod yX1_sums, Cond.selects RX1 yX1_sums yX1_sums, Cond.code yX1_sums cX1_sums 6 (some .int), Cond.fieldLink RX1 53 "SpotAccountModel" "free" "[Z", Cond.fieldLink RX1 47 "SpotAccountModel" "where" "[I", Cond.methodLink RX1 95 yX1_ratingFor, Cond.instanceMethod yX1_ratingFor, Cond.selects RX1 yX1_ratingFor yX1_ratingFor, Cond.code yX1_ratingFor cX1_ratingFor 3 (some .int), Cond.fieldLink RX1 17 "SpotAccountModel" "rating" "[I", Cond.fieldLink RX1 26 "SpotAccountModel" "group" "[I"]
def wsX1_close : List Cond := .code yX1_close cX1_close 4 (some .int) :: ((wsX1_close_r1 ++ wsX1_close_r2) ++ wsX10)
def wsX1_orders : List Cond := .code yX1_orders cX1_orders 1 (some .int) :: ([.fieldLink RX1 67 "SpotAccountModel" "orders" "I", .methodLink RX1 82 yX1_told, .instanceMethod yX1_told, .selects RX1 yX1_told yX1_told, .initialized RX1, .code yX1_told cX1_told 2 (some .int), .fieldLink RX1 56 "SpotAccountModel" "thrown" "I"] ++ wsX10)
def wsX1_isThere : List Cond := .code yX1_isThere cX1_isThere 9 (some .boolean) :: ([.fieldLink RX1 70 "SpotAccountModel" "spots" "I", .fieldLink RX1 20 "SpotAccountModel" "advertiser" "[I", .fieldLink RX1 44 "SpotAccountModel" "order" "[I", .fieldLink RX1 23 "SpotAccountModel" "category" "[I", .methodLink RX1 86 yX1_stands, .instanceMethod yX1_stands, .selects RX1 yX1_stands yX1_stands, .initialized RX1, .code yX1_stands cX1_stands 3 (some .boolean), .fieldLink RX1 47 "SpotAccountModel" "where" "[I", .fieldLink RX1 50 "SpotAccountModel" "state" "[I"] ++ wsX10)
def wsX1_why_r1 : List Cond := [Cond.fieldLink RX1 13 "SpotAccountModel" "aired" "[Z", Cond.fieldLink RX1 29 "SpotAccountModel" "seconds" "[I", Cond.fieldLink RX1 38 "SpotAccountModel" "floor" "[I", Cond.fieldLink RX1 60 "SpotAccountModel" "breaks" "I", Cond.methodLink RX1 90 yX1_roomWithout, Cond.instanceMethod yX1_roomWithout, Cond.selects RX1 yX1_roomWithout yX1_roomWithout, Cond.initialized RX1, Cond.code yX1_roomWithout cX1_roomWithout 5 (some .int), Cond.fieldLink RX1 7 "SpotAccountModel" "length" "[I", Cond.fieldLink RX1 70 "SpotAccountModel" "spots" "I", Cond.fieldLink RX1 44 "SpotAccountModel" "order" "[I", Cond.methodLink RX1 86 yX1_stands, Cond.instanceMethod yX1_stands, Cond.selects RX1 yX1_stands yX1_stands, Cond.code yX1_stands cX1_stands 3 (some .boolean), Cond.fieldLink RX1 47 "SpotAccountModel" "where" "[I", Cond.fieldLink RX1 50 "SpotAccountModel" "state" "[I", Cond.methodLink RX1 95 yX1_ratingFor, Cond.instanceMethod yX1_ratingFor, Cond.selects RX1 yX1_ratingFor yX1_ratingFor, Cond.code yX1_ratingFor cX1_ratingFor 3 (some .int), Cond.fieldLink RX1 17 "SpotAccountModel" "rating" "[I", Cond.fieldLink RX1 26 "SpotAccountModel" "group" "[I"]
def wsX1_why_r2 : List Cond := [Cond.methodLink RX1 108 yX1_isThere, Cond.instanceMethod yX1_isThere, Cond.selects RX1 yX1_isThere yX1_isThere, Cond.code yX1_isThere cX1_isThere 9 (some .boolean), Cond.fieldLink RX1 20 "SpotAccountModel" "advertiser" "[I", Cond.fieldLink RX1 23 "SpotAccountModel" "category" "[I"]
def wsX1_why : List Cond := .code yX1_why cX1_why 5 (some .int) :: ((wsX1_why_r1 ++ wsX1_why_r2) ++ wsX10)
def wsX1_whyNot_r1 : List Cond := [Cond.methodLink RX1 105 yX1_isOrder, Cond.instanceMethod yX1_isOrder, Cond.selects RX1 yX1_isOrder yX1_isOrder, Cond.initialized RX1, Cond.code yX1_isOrder cX1_isOrder 2 (some .boolean), Cond.fieldLink RX1 67 "SpotAccountModel" "orders" "I", Cond.methodLink RX1 63 yX1_in, Cond.static yX1_in, Cond.code yX1_in cX1_in 3 (some .boolean), Cond.methodLink RX1 77 yX1_isBreak, Cond.instanceMethod yX1_isBreak, Cond.selects RX1 yX1_isBreak yX1_isBreak, Cond.code yX1_isBreak cX1_isBreak 2 (some .boolean), Cond.fieldLink RX1 60 "SpotAccountModel" "breaks" "I", Cond.methodLink RX1 73 yX1_goes, Cond.instanceMethod yX1_goes, Cond.selects RX1 yX1_goes yX1_goes, Cond.code yX1_goes cX1_goes 4 (some .boolean), Cond.fieldLink RX1 56 "SpotAccountModel" "thrown" "I", Cond.methodLink RX1 112 yX1_why, Cond.instanceMethod yX1_why, Cond.selects RX1 yX1_why yX1_why, Cond.code yX1_why cX1_why 5 (some .int), Cond.fieldLink RX1 13 "SpotAccountModel" "aired" "[Z"]
def wsX1_whyNot_r2 : List Cond := [Cond.fieldLink RX1 29 "SpotAccountModel" "seconds" "[I", Cond.fieldLink RX1 38 "SpotAccountModel" "floor" "[I", Cond.methodLink RX1 90 yX1_roomWithout, Cond.instanceMethod yX1_roomWithout, Cond.selects RX1 yX1_roomWithout yX1_roomWithout, Cond.code yX1_roomWithout cX1_roomWithout 5 (some .int), Cond.fieldLink RX1 7 "SpotAccountModel" "length" "[I", Cond.fieldLink RX1 70 "SpotAccountModel" "spots" "I", Cond.fieldLink RX1 44 "SpotAccountModel" "order" "[I", Cond.methodLink RX1 86 yX1_stands, Cond.instanceMethod yX1_stands, Cond.selects RX1 yX1_stands yX1_stands, Cond.code yX1_stands cX1_stands 3 (some .boolean), Cond.fieldLink RX1 47 "SpotAccountModel" "where" "[I", Cond.fieldLink RX1 50 "SpotAccountModel" "state" "[I", Cond.methodLink RX1 95 yX1_ratingFor, Cond.instanceMethod yX1_ratingFor, Cond.selects RX1 yX1_ratingFor yX1_ratingFor, Cond.code yX1_ratingFor cX1_ratingFor 3 (some .int), Cond.fieldLink RX1 17 "SpotAccountModel" "rating" "[I", Cond.fieldLink RX1 26 "SpotAccountModel" "group" "[I", Cond.methodLink RX1 108 yX1_isThere, Cond.instanceMethod yX1_isThere, Cond.selects RX1 yX1_isThere yX1_isThere]
def wsX1_whyNot_r3 : List Cond := [Cond.code yX1_isThere cX1_isThere 9 (some .boolean), Cond.fieldLink RX1 20 "SpotAccountModel" "advertiser" "[I", Cond.fieldLink RX1 23 "SpotAccountModel" "category" "[I"]
def wsX1_whyNot : List Cond := .code yX1_whyNot cX1_whyNot 3 (some .int) :: ((wsX1_whyNot_r1 ++ (wsX1_whyNot_r2 ++ wsX1_whyNot_r3)) ++ wsX10)
def wsX1_adds : List Cond := .code yX1_adds cX1_adds 4 (some .int) :: ([.fieldLink RX1 44 "SpotAccountModel" "order" "[I", .fieldLink RX1 70 "SpotAccountModel" "spots" "I", .fieldLink RX1 47 "SpotAccountModel" "where" "[I", .fieldLink RX1 50 "SpotAccountModel" "state" "[I", .fieldLink RX1 53 "SpotAccountModel" "free" "[Z"] ++ wsX10)
def wsX1_place_r1 : List Cond := [Cond.fieldLink RX1 41 "SpotAccountModel" "closed" "[Z", Cond.fieldLink RX1 70 "SpotAccountModel" "spots" "I", Cond.methodLink RX1 105 yX1_isOrder, Cond.instanceMethod yX1_isOrder, Cond.selects RX1 yX1_isOrder yX1_isOrder, Cond.initialized RX1, Cond.code yX1_isOrder cX1_isOrder 2 (some .boolean), Cond.fieldLink RX1 67 "SpotAccountModel" "orders" "I", Cond.methodLink RX1 63 yX1_in, Cond.static yX1_in, Cond.code yX1_in cX1_in 3 (some .boolean), Cond.methodLink RX1 77 yX1_isBreak, Cond.instanceMethod yX1_isBreak, Cond.selects RX1 yX1_isBreak yX1_isBreak, Cond.code yX1_isBreak cX1_isBreak 2 (some .boolean), Cond.fieldLink RX1 60 "SpotAccountModel" "breaks" "I", Cond.methodLink RX1 112 yX1_why, Cond.instanceMethod yX1_why, Cond.selects RX1 yX1_why yX1_why, Cond.code yX1_why cX1_why 5 (some .int), Cond.fieldLink RX1 13 "SpotAccountModel" "aired" "[Z", Cond.fieldLink RX1 29 "SpotAccountModel" "seconds" "[I", Cond.fieldLink RX1 38 "SpotAccountModel" "floor" "[I", Cond.methodLink RX1 90 yX1_roomWithout]
def wsX1_place_r2 : List Cond := [Cond.instanceMethod yX1_roomWithout, Cond.selects RX1 yX1_roomWithout yX1_roomWithout, Cond.code yX1_roomWithout cX1_roomWithout 5 (some .int), Cond.fieldLink RX1 7 "SpotAccountModel" "length" "[I", Cond.fieldLink RX1 44 "SpotAccountModel" "order" "[I", Cond.methodLink RX1 86 yX1_stands, Cond.instanceMethod yX1_stands, Cond.selects RX1 yX1_stands yX1_stands, Cond.code yX1_stands cX1_stands 3 (some .boolean), Cond.fieldLink RX1 47 "SpotAccountModel" "where" "[I", Cond.fieldLink RX1 50 "SpotAccountModel" "state" "[I", Cond.methodLink RX1 95 yX1_ratingFor, Cond.instanceMethod yX1_ratingFor, Cond.selects RX1 yX1_ratingFor yX1_ratingFor, Cond.code yX1_ratingFor cX1_ratingFor 3 (some .int), Cond.fieldLink RX1 17 "SpotAccountModel" "rating" "[I", Cond.fieldLink RX1 26 "SpotAccountModel" "group" "[I", Cond.methodLink RX1 108 yX1_isThere, Cond.instanceMethod yX1_isThere, Cond.selects RX1 yX1_isThere yX1_isThere, Cond.code yX1_isThere cX1_isThere 9 (some .boolean), Cond.fieldLink RX1 20 "SpotAccountModel" "advertiser" "[I", Cond.fieldLink RX1 23 "SpotAccountModel" "category" "[I", Cond.methodLink RX1 73 yX1_goes]
def wsX1_place_r3 : List Cond := [Cond.instanceMethod yX1_goes, Cond.selects RX1 yX1_goes yX1_goes, Cond.code yX1_goes cX1_goes 4 (some .boolean), Cond.fieldLink RX1 56 "SpotAccountModel" "thrown" "I", Cond.methodLink RX1 116 yX1_adds, Cond.instanceMethod yX1_adds, Cond.selects RX1 yX1_adds yX1_adds, Cond.code yX1_adds cX1_adds 4 (some .int), Cond.fieldLink RX1 53 "SpotAccountModel" "free" "[Z"]
def wsX1_place : List Cond := .code yX1_place cX1_place 5 (some .int) :: ((wsX1_place_r1 ++ (wsX1_place_r2 ++ wsX1_place_r3)) ++ wsX10)
def wsX1_give_r1 : List Cond := [Cond.fieldLink RX1 70 "SpotAccountModel" "spots" "I", Cond.methodLink RX1 105 yX1_isOrder, Cond.instanceMethod yX1_isOrder, Cond.selects RX1 yX1_isOrder yX1_isOrder, Cond.initialized RX1, Cond.code yX1_isOrder cX1_isOrder 2 (some .boolean), Cond.fieldLink RX1 67 "SpotAccountModel" "orders" "I", Cond.methodLink RX1 63 yX1_in, Cond.static yX1_in, Cond.code yX1_in cX1_in 3 (some .boolean), Cond.methodLink RX1 77 yX1_isBreak, Cond.instanceMethod yX1_isBreak, Cond.selects RX1 yX1_isBreak yX1_isBreak, Cond.code yX1_isBreak cX1_isBreak 2 (some .boolean), Cond.fieldLink RX1 60 "SpotAccountModel" "breaks" "I", Cond.methodLink RX1 119 yX1_left, Cond.instanceMethod yX1_left, Cond.selects RX1 yX1_left yX1_left, Cond.code yX1_left cX1_left 3 (some .int), Cond.methodLink RX1 102 yX1_owes, Cond.instanceMethod yX1_owes, Cond.selects RX1 yX1_owes yX1_owes, Cond.code yX1_owes cX1_owes 3 (some .int), Cond.fieldLink RX1 35 "SpotAccountModel" "promise" "[I"]
def wsX1_give_r2 : List Cond := [Cond.fieldLink RX1 41 "SpotAccountModel" "closed" "[Z", Cond.methodLink RX1 98 yX1_sums, Cond.instanceMethod yX1_sums, Cond.selects RX1 yX1_sums yX1_sums, Cond.code yX1_sums cX1_sums 6 (some .int), Cond.fieldLink RX1 44 "SpotAccountModel" "order" "[I", Cond.fieldLink RX1 50 "SpotAccountModel" "state" "[I", Cond.fieldLink RX1 53 "SpotAccountModel" "free" "[Z", Cond.fieldLink RX1 47 "SpotAccountModel" "where" "[I", Cond.methodLink RX1 95 yX1_ratingFor, Cond.instanceMethod yX1_ratingFor, Cond.selects RX1 yX1_ratingFor yX1_ratingFor, Cond.code yX1_ratingFor cX1_ratingFor 3 (some .int), Cond.fieldLink RX1 17 "SpotAccountModel" "rating" "[I", Cond.fieldLink RX1 26 "SpotAccountModel" "group" "[I", Cond.methodLink RX1 112 yX1_why, Cond.instanceMethod yX1_why, Cond.selects RX1 yX1_why yX1_why, Cond.code yX1_why cX1_why 5 (some .int), Cond.fieldLink RX1 13 "SpotAccountModel" "aired" "[Z", Cond.fieldLink RX1 29 "SpotAccountModel" "seconds" "[I", Cond.fieldLink RX1 38 "SpotAccountModel" "floor" "[I", Cond.methodLink RX1 90 yX1_roomWithout, Cond.instanceMethod yX1_roomWithout]
def wsX1_give_r3 : List Cond := [Cond.selects RX1 yX1_roomWithout yX1_roomWithout, Cond.code yX1_roomWithout cX1_roomWithout 5 (some .int), Cond.fieldLink RX1 7 "SpotAccountModel" "length" "[I", Cond.methodLink RX1 86 yX1_stands, Cond.instanceMethod yX1_stands, Cond.selects RX1 yX1_stands yX1_stands, Cond.code yX1_stands cX1_stands 3 (some .boolean), Cond.methodLink RX1 108 yX1_isThere, Cond.instanceMethod yX1_isThere, Cond.selects RX1 yX1_isThere yX1_isThere, Cond.code yX1_isThere cX1_isThere 9 (some .boolean), Cond.fieldLink RX1 20 "SpotAccountModel" "advertiser" "[I", Cond.fieldLink RX1 23 "SpotAccountModel" "category" "[I", Cond.methodLink RX1 73 yX1_goes, Cond.instanceMethod yX1_goes, Cond.selects RX1 yX1_goes yX1_goes, Cond.code yX1_goes cX1_goes 4 (some .boolean), Cond.fieldLink RX1 56 "SpotAccountModel" "thrown" "I", Cond.methodLink RX1 116 yX1_adds, Cond.instanceMethod yX1_adds, Cond.selects RX1 yX1_adds yX1_adds, Cond.code yX1_adds cX1_adds 4 (some .int)]
def wsX1_give : List Cond := .code yX1_give cX1_give 5 (some .int) :: ((wsX1_give_r1 ++ (wsX1_give_r2 ++ wsX1_give_r3)) ++ wsX10)
def wsX1_best_r1 : List Cond := [Cond.fieldLink RX1 60 "SpotAccountModel" "breaks" "I", Cond.methodLink RX1 112 yX1_why, Cond.instanceMethod yX1_why, Cond.selects RX1 yX1_why yX1_why, Cond.initialized RX1, Cond.code yX1_why cX1_why 5 (some .int), Cond.fieldLink RX1 13 "SpotAccountModel" "aired" "[Z", Cond.fieldLink RX1 29 "SpotAccountModel" "seconds" "[I", Cond.fieldLink RX1 38 "SpotAccountModel" "floor" "[I", Cond.methodLink RX1 90 yX1_roomWithout, Cond.instanceMethod yX1_roomWithout, Cond.selects RX1 yX1_roomWithout yX1_roomWithout, Cond.code yX1_roomWithout cX1_roomWithout 5 (some .int), Cond.fieldLink RX1 7 "SpotAccountModel" "length" "[I", Cond.fieldLink RX1 70 "SpotAccountModel" "spots" "I", Cond.fieldLink RX1 44 "SpotAccountModel" "order" "[I", Cond.methodLink RX1 86 yX1_stands, Cond.instanceMethod yX1_stands, Cond.selects RX1 yX1_stands yX1_stands, Cond.code yX1_stands cX1_stands 3 (some .boolean), Cond.fieldLink RX1 47 "SpotAccountModel" "where" "[I", Cond.fieldLink RX1 50 "SpotAccountModel" "state" "[I", Cond.methodLink RX1 95 yX1_ratingFor, Cond.instanceMethod yX1_ratingFor]
def wsX1_best_r2 : List Cond := [Cond.selects RX1 yX1_ratingFor yX1_ratingFor, Cond.code yX1_ratingFor cX1_ratingFor 3 (some .int), Cond.fieldLink RX1 17 "SpotAccountModel" "rating" "[I", Cond.fieldLink RX1 26 "SpotAccountModel" "group" "[I", Cond.methodLink RX1 108 yX1_isThere, Cond.instanceMethod yX1_isThere, Cond.selects RX1 yX1_isThere yX1_isThere, Cond.code yX1_isThere cX1_isThere 9 (some .boolean), Cond.fieldLink RX1 20 "SpotAccountModel" "advertiser" "[I", Cond.fieldLink RX1 23 "SpotAccountModel" "category" "[I"]
def wsX1_best : List Cond := .code yX1_best cX1_best 5 (some .int) :: ((wsX1_best_r1 ++ wsX1_best_r2) ++ wsX10)
def wsX1_fill_r1 : List Cond := [Cond.fieldLink RX1 41 "SpotAccountModel" "closed" "[Z", Cond.fieldLink RX1 70 "SpotAccountModel" "spots" "I", Cond.fieldLink RX1 35 "SpotAccountModel" "promise" "[I", Cond.methodLink RX1 105 yX1_isOrder, Cond.instanceMethod yX1_isOrder, Cond.selects RX1 yX1_isOrder yX1_isOrder, Cond.initialized RX1, Cond.code yX1_isOrder cX1_isOrder 2 (some .boolean), Cond.fieldLink RX1 67 "SpotAccountModel" "orders" "I", Cond.methodLink RX1 63 yX1_in, Cond.static yX1_in, Cond.code yX1_in cX1_in 3 (some .boolean), Cond.methodLink RX1 73 yX1_goes, Cond.instanceMethod yX1_goes, Cond.selects RX1 yX1_goes yX1_goes, Cond.code yX1_goes cX1_goes 4 (some .boolean), Cond.fieldLink RX1 56 "SpotAccountModel" "thrown" "I", Cond.methodLink RX1 98 yX1_sums, Cond.instanceMethod yX1_sums, Cond.selects RX1 yX1_sums yX1_sums, Cond.code yX1_sums cX1_sums 6 (some .int), Cond.fieldLink RX1 44 "SpotAccountModel" "order" "[I", Cond.fieldLink RX1 50 "SpotAccountModel" "state" "[I", Cond.fieldLink RX1 53 "SpotAccountModel" "free" "[Z"]
def wsX1_fill_r2 : List Cond := [Cond.fieldLink RX1 47 "SpotAccountModel" "where" "[I", Cond.methodLink RX1 95 yX1_ratingFor, Cond.instanceMethod yX1_ratingFor, Cond.selects RX1 yX1_ratingFor yX1_ratingFor, Cond.code yX1_ratingFor cX1_ratingFor 3 (some .int), Cond.fieldLink RX1 17 "SpotAccountModel" "rating" "[I", Cond.fieldLink RX1 26 "SpotAccountModel" "group" "[I", Cond.methodLink RX1 122 yX1_best, Cond.instanceMethod yX1_best, Cond.selects RX1 yX1_best yX1_best, Cond.code yX1_best cX1_best 5 (some .int), Cond.fieldLink RX1 60 "SpotAccountModel" "breaks" "I", Cond.methodLink RX1 112 yX1_why, Cond.instanceMethod yX1_why, Cond.selects RX1 yX1_why yX1_why, Cond.code yX1_why cX1_why 5 (some .int), Cond.fieldLink RX1 13 "SpotAccountModel" "aired" "[Z", Cond.fieldLink RX1 29 "SpotAccountModel" "seconds" "[I", Cond.fieldLink RX1 38 "SpotAccountModel" "floor" "[I", Cond.methodLink RX1 90 yX1_roomWithout, Cond.instanceMethod yX1_roomWithout, Cond.selects RX1 yX1_roomWithout yX1_roomWithout, Cond.code yX1_roomWithout cX1_roomWithout 5 (some .int), Cond.fieldLink RX1 7 "SpotAccountModel" "length" "[I"]
def wsX1_fill_r3 : List Cond := [Cond.methodLink RX1 86 yX1_stands, Cond.instanceMethod yX1_stands, Cond.selects RX1 yX1_stands yX1_stands, Cond.code yX1_stands cX1_stands 3 (some .boolean), Cond.methodLink RX1 108 yX1_isThere, Cond.instanceMethod yX1_isThere, Cond.selects RX1 yX1_isThere yX1_isThere, Cond.code yX1_isThere cX1_isThere 9 (some .boolean), Cond.fieldLink RX1 20 "SpotAccountModel" "advertiser" "[I", Cond.fieldLink RX1 23 "SpotAccountModel" "category" "[I", Cond.methodLink RX1 116 yX1_adds, Cond.instanceMethod yX1_adds, Cond.selects RX1 yX1_adds yX1_adds, Cond.code yX1_adds cX1_adds 4 (some .int)]
def wsX1_fill : List Cond := .code yX1_fill cX1_fill 6 (some .int) :: ((wsX1_fill_r1 ++ (wsX1_fill_r2 ++ wsX1_fill_r3)) ++ wsX10)
def wsX1_move_r1 : List Cond := [Cond.fieldLink RX1 50 "SpotAccountModel" "state" "[I", Cond.fieldLink RX1 47 "SpotAccountModel" "where" "[I", Cond.fieldLink RX1 44 "SpotAccountModel" "order" "[I", Cond.methodLink RX1 125 yX1_isSpot, Cond.instanceMethod yX1_isSpot, Cond.selects RX1 yX1_isSpot yX1_isSpot, Cond.initialized RX1, Cond.code yX1_isSpot cX1_isSpot 2 (some .boolean), Cond.fieldLink RX1 70 "SpotAccountModel" "spots" "I", Cond.methodLink RX1 63 yX1_in, Cond.static yX1_in, Cond.code yX1_in cX1_in 3 (some .boolean), Cond.methodLink RX1 77 yX1_isBreak, Cond.instanceMethod yX1_isBreak, Cond.selects RX1 yX1_isBreak yX1_isBreak, Cond.code yX1_isBreak cX1_isBreak 2 (some .boolean), Cond.fieldLink RX1 60 "SpotAccountModel" "breaks" "I", Cond.methodLink RX1 112 yX1_why, Cond.instanceMethod yX1_why, Cond.selects RX1 yX1_why yX1_why, Cond.code yX1_why cX1_why 5 (some .int), Cond.fieldLink RX1 13 "SpotAccountModel" "aired" "[Z", Cond.fieldLink RX1 29 "SpotAccountModel" "seconds" "[I", Cond.fieldLink RX1 38 "SpotAccountModel" "floor" "[I"]
def wsX1_move_r2 : List Cond := [Cond.methodLink RX1 90 yX1_roomWithout, Cond.instanceMethod yX1_roomWithout, Cond.selects RX1 yX1_roomWithout yX1_roomWithout, Cond.code yX1_roomWithout cX1_roomWithout 5 (some .int), Cond.fieldLink RX1 7 "SpotAccountModel" "length" "[I", Cond.methodLink RX1 86 yX1_stands, Cond.instanceMethod yX1_stands, Cond.selects RX1 yX1_stands yX1_stands, Cond.code yX1_stands cX1_stands 3 (some .boolean), Cond.methodLink RX1 95 yX1_ratingFor, Cond.instanceMethod yX1_ratingFor, Cond.selects RX1 yX1_ratingFor yX1_ratingFor, Cond.code yX1_ratingFor cX1_ratingFor 3 (some .int), Cond.fieldLink RX1 17 "SpotAccountModel" "rating" "[I", Cond.fieldLink RX1 26 "SpotAccountModel" "group" "[I", Cond.methodLink RX1 108 yX1_isThere, Cond.instanceMethod yX1_isThere, Cond.selects RX1 yX1_isThere yX1_isThere, Cond.code yX1_isThere cX1_isThere 9 (some .boolean), Cond.fieldLink RX1 20 "SpotAccountModel" "advertiser" "[I", Cond.fieldLink RX1 23 "SpotAccountModel" "category" "[I", Cond.methodLink RX1 73 yX1_goes, Cond.instanceMethod yX1_goes, Cond.selects RX1 yX1_goes yX1_goes]
def wsX1_move_r3 : List Cond := [Cond.code yX1_goes cX1_goes 4 (some .boolean), Cond.fieldLink RX1 56 "SpotAccountModel" "thrown" "I"]
def wsX1_move : List Cond := .code yX1_move cX1_move 6 (some .int) :: ((wsX1_move_r1 ++ (wsX1_move_r2 ++ wsX1_move_r3)) ++ wsX10)
def wsX1_miss : List Cond := .code yX1_miss cX1_miss 4 (some .boolean) :: ([.fieldLink RX1 50 "SpotAccountModel" "state" "[I", .methodLink RX1 125 yX1_isSpot, .instanceMethod yX1_isSpot, .selects RX1 yX1_isSpot yX1_isSpot, .initialized RX1, .code yX1_isSpot cX1_isSpot 2 (some .boolean), .fieldLink RX1 70 "SpotAccountModel" "spots" "I", .methodLink RX1 63 yX1_in, .static yX1_in, .code yX1_in cX1_in 3 (some .boolean), .methodLink RX1 73 yX1_goes, .instanceMethod yX1_goes, .selects RX1 yX1_goes yX1_goes, .code yX1_goes cX1_goes 4 (some .boolean), .fieldLink RX1 56 "SpotAccountModel" "thrown" "I"] ++ wsX10)
def wsX1_drop : List Cond := .code yX1_drop cX1_drop 3 none :: ([.fieldLink RX1 50 "SpotAccountModel" "state" "[I", .methodLink RX1 125 yX1_isSpot, .instanceMethod yX1_isSpot, .selects RX1 yX1_isSpot yX1_isSpot, .initialized RX1, .code yX1_isSpot cX1_isSpot 2 (some .boolean), .fieldLink RX1 70 "SpotAccountModel" "spots" "I", .methodLink RX1 63 yX1_in, .static yX1_in, .code yX1_in cX1_in 3 (some .boolean), .methodLink RX1 73 yX1_goes, .instanceMethod yX1_goes, .selects RX1 yX1_goes yX1_goes, .code yX1_goes cX1_goes 4 (some .boolean), .fieldLink RX1 56 "SpotAccountModel" "thrown" "I"] ++ wsX10)
def wsX1_spots : List Cond := .code yX1_spots cX1_spots 1 (some .int) :: ([.fieldLink RX1 70 "SpotAccountModel" "spots" "I", .methodLink RX1 82 yX1_told, .instanceMethod yX1_told, .selects RX1 yX1_told yX1_told, .initialized RX1, .code yX1_told cX1_told 2 (some .int), .fieldLink RX1 56 "SpotAccountModel" "thrown" "I"] ++ wsX10)
def wsX1_stateOf : List Cond := .code yX1_stateOf cX1_stateOf 2 (some .int) :: ([.fieldLink RX1 50 "SpotAccountModel" "state" "[I", .methodLink RX1 125 yX1_isSpot, .instanceMethod yX1_isSpot, .selects RX1 yX1_isSpot yX1_isSpot, .initialized RX1, .code yX1_isSpot cX1_isSpot 2 (some .boolean), .fieldLink RX1 70 "SpotAccountModel" "spots" "I", .methodLink RX1 63 yX1_in, .static yX1_in, .code yX1_in cX1_in 3 (some .boolean), .methodLink RX1 73 yX1_goes, .instanceMethod yX1_goes, .selects RX1 yX1_goes yX1_goes, .code yX1_goes cX1_goes 4 (some .boolean), .fieldLink RX1 56 "SpotAccountModel" "thrown" "I"] ++ wsX10)
def wsX1_breakOf : List Cond := .code yX1_breakOf cX1_breakOf 2 (some .int) :: ([.fieldLink RX1 47 "SpotAccountModel" "where" "[I", .methodLink RX1 125 yX1_isSpot, .instanceMethod yX1_isSpot, .selects RX1 yX1_isSpot yX1_isSpot, .initialized RX1, .code yX1_isSpot cX1_isSpot 2 (some .boolean), .fieldLink RX1 70 "SpotAccountModel" "spots" "I", .methodLink RX1 63 yX1_in, .static yX1_in, .code yX1_in cX1_in 3 (some .boolean), .methodLink RX1 73 yX1_goes, .instanceMethod yX1_goes, .selects RX1 yX1_goes yX1_goes, .code yX1_goes cX1_goes 4 (some .boolean), .fieldLink RX1 56 "SpotAccountModel" "thrown" "I"] ++ wsX10)
def wsX1_delivered_r1 : List Cond := [Cond.methodLink RX1 105 yX1_isOrder, Cond.instanceMethod yX1_isOrder, Cond.selects RX1 yX1_isOrder yX1_isOrder, Cond.initialized RX1, Cond.code yX1_isOrder cX1_isOrder 2 (some .boolean), Cond.fieldLink RX1 67 "SpotAccountModel" "orders" "I", Cond.methodLink RX1 63 yX1_in, Cond.static yX1_in, Cond.code yX1_in cX1_in 3 (some .boolean), Cond.methodLink RX1 73 yX1_goes, Cond.instanceMethod yX1_goes, Cond.selects RX1 yX1_goes yX1_goes, Cond.code yX1_goes cX1_goes 4 (some .boolean), Cond.fieldLink RX1 56 "SpotAccountModel" "thrown" "I", Cond.methodLink RX1 98 yX1_sums, Cond.instanceMethod yX1_sums, Cond.selects RX1 yX1_sums yX1_sums, Cond.code yX1_sums cX1_sums 6 (some .int), Cond.fieldLink RX1 70 "SpotAccountModel" "spots" "I", Cond.fieldLink RX1 44 "SpotAccountModel" "order" "[I", Cond.fieldLink RX1 50 "SpotAccountModel" "state" "[I", Cond.fieldLink RX1 53 "SpotAccountModel" "free" "[Z", Cond.fieldLink RX1 47 "SpotAccountModel" "where" "[I", Cond.methodLink RX1 95 yX1_ratingFor]
def wsX1_delivered_r2 : List Cond := [Cond.instanceMethod yX1_ratingFor, Cond.selects RX1 yX1_ratingFor yX1_ratingFor, Cond.code yX1_ratingFor cX1_ratingFor 3 (some .int), Cond.fieldLink RX1 17 "SpotAccountModel" "rating" "[I", Cond.fieldLink RX1 26 "SpotAccountModel" "group" "[I"]
def wsX1_delivered : List Cond := .code yX1_delivered cX1_delivered 2 (some .int) :: ((wsX1_delivered_r1 ++ wsX1_delivered_r2) ++ wsX10)
def wsX1_owed_r1 : List Cond := [Cond.methodLink RX1 105 yX1_isOrder, Cond.instanceMethod yX1_isOrder, Cond.selects RX1 yX1_isOrder yX1_isOrder, Cond.initialized RX1, Cond.code yX1_isOrder cX1_isOrder 2 (some .boolean), Cond.fieldLink RX1 67 "SpotAccountModel" "orders" "I", Cond.methodLink RX1 63 yX1_in, Cond.static yX1_in, Cond.code yX1_in cX1_in 3 (some .boolean), Cond.methodLink RX1 73 yX1_goes, Cond.instanceMethod yX1_goes, Cond.selects RX1 yX1_goes yX1_goes, Cond.code yX1_goes cX1_goes 4 (some .boolean), Cond.fieldLink RX1 56 "SpotAccountModel" "thrown" "I", Cond.methodLink RX1 102 yX1_owes, Cond.instanceMethod yX1_owes, Cond.selects RX1 yX1_owes yX1_owes, Cond.code yX1_owes cX1_owes 3 (some .int), Cond.fieldLink RX1 35 "SpotAccountModel" "promise" "[I", Cond.fieldLink RX1 41 "SpotAccountModel" "closed" "[Z", Cond.methodLink RX1 98 yX1_sums, Cond.instanceMethod yX1_sums, Cond.selects RX1 yX1_sums yX1_sums, Cond.code yX1_sums cX1_sums 6 (some .int)]
def wsX1_owed_r2 : List Cond := [Cond.fieldLink RX1 70 "SpotAccountModel" "spots" "I", Cond.fieldLink RX1 44 "SpotAccountModel" "order" "[I", Cond.fieldLink RX1 50 "SpotAccountModel" "state" "[I", Cond.fieldLink RX1 53 "SpotAccountModel" "free" "[Z", Cond.fieldLink RX1 47 "SpotAccountModel" "where" "[I", Cond.methodLink RX1 95 yX1_ratingFor, Cond.instanceMethod yX1_ratingFor, Cond.selects RX1 yX1_ratingFor yX1_ratingFor, Cond.code yX1_ratingFor cX1_ratingFor 3 (some .int), Cond.fieldLink RX1 17 "SpotAccountModel" "rating" "[I", Cond.fieldLink RX1 26 "SpotAccountModel" "group" "[I"]
def wsX1_owed : List Cond := .code yX1_owed cX1_owed 2 (some .int) :: ((wsX1_owed_r1 ++ wsX1_owed_r2) ++ wsX10)
def wsX1_rest_r1 : List Cond := [Cond.methodLink RX1 105 yX1_isOrder, Cond.instanceMethod yX1_isOrder, Cond.selects RX1 yX1_isOrder yX1_isOrder, Cond.initialized RX1, Cond.code yX1_isOrder cX1_isOrder 2 (some .boolean), Cond.fieldLink RX1 67 "SpotAccountModel" "orders" "I", Cond.methodLink RX1 63 yX1_in, Cond.static yX1_in, Cond.code yX1_in cX1_in 3 (some .boolean), Cond.methodLink RX1 73 yX1_goes, Cond.instanceMethod yX1_goes, Cond.selects RX1 yX1_goes yX1_goes, Cond.code yX1_goes cX1_goes 4 (some .boolean), Cond.fieldLink RX1 56 "SpotAccountModel" "thrown" "I", Cond.methodLink RX1 119 yX1_left, Cond.instanceMethod yX1_left, Cond.selects RX1 yX1_left yX1_left, Cond.code yX1_left cX1_left 3 (some .int), Cond.methodLink RX1 102 yX1_owes, Cond.instanceMethod yX1_owes, Cond.selects RX1 yX1_owes yX1_owes, Cond.code yX1_owes cX1_owes 3 (some .int), Cond.fieldLink RX1 35 "SpotAccountModel" "promise" "[I", Cond.fieldLink RX1 41 "SpotAccountModel" "closed" "[Z"]
def wsX1_rest_r2 : List Cond := [Cond.methodLink RX1 98 yX1_sums, Cond.instanceMethod yX1_sums, Cond.selects RX1 yX1_sums yX1_sums, Cond.code yX1_sums cX1_sums 6 (some .int), Cond.fieldLink RX1 70 "SpotAccountModel" "spots" "I", Cond.fieldLink RX1 44 "SpotAccountModel" "order" "[I", Cond.fieldLink RX1 50 "SpotAccountModel" "state" "[I", Cond.fieldLink RX1 53 "SpotAccountModel" "free" "[Z", Cond.fieldLink RX1 47 "SpotAccountModel" "where" "[I", Cond.methodLink RX1 95 yX1_ratingFor, Cond.instanceMethod yX1_ratingFor, Cond.selects RX1 yX1_ratingFor yX1_ratingFor, Cond.code yX1_ratingFor cX1_ratingFor 3 (some .int), Cond.fieldLink RX1 17 "SpotAccountModel" "rating" "[I", Cond.fieldLink RX1 26 "SpotAccountModel" "group" "[I"]
def wsX1_rest : List Cond := .code yX1_rest cX1_rest 2 (some .int) :: ((wsX1_rest_r1 ++ wsX1_rest_r2) ++ wsX10)
def wsX1_billOf : List Cond := .code yX1_billOf cX1_billOf 4 (some .int) :: ([.fieldLink RX1 70 "SpotAccountModel" "spots" "I", .fieldLink RX1 44 "SpotAccountModel" "order" "[I", .fieldLink RX1 50 "SpotAccountModel" "state" "[I", .fieldLink RX1 53 "SpotAccountModel" "free" "[Z", .fieldLink RX1 32 "SpotAccountModel" "price" "[I"] ++ wsX10)
def wsX1_bill : List Cond := .code yX1_bill cX1_bill 2 (some .int) :: ([.methodLink RX1 105 yX1_isOrder, .instanceMethod yX1_isOrder, .selects RX1 yX1_isOrder yX1_isOrder, .initialized RX1, .code yX1_isOrder cX1_isOrder 2 (some .boolean), .fieldLink RX1 67 "SpotAccountModel" "orders" "I", .methodLink RX1 63 yX1_in, .static yX1_in, .code yX1_in cX1_in 3 (some .boolean), .methodLink RX1 73 yX1_goes, .instanceMethod yX1_goes, .selects RX1 yX1_goes yX1_goes, .code yX1_goes cX1_goes 4 (some .boolean), .fieldLink RX1 56 "SpotAccountModel" "thrown" "I", .methodLink RX1 128 yX1_billOf, .instanceMethod yX1_billOf, .selects RX1 yX1_billOf yX1_billOf, .code yX1_billOf cX1_billOf 4 (some .int), .fieldLink RX1 70 "SpotAccountModel" "spots" "I", .fieldLink RX1 44 "SpotAccountModel" "order" "[I", .fieldLink RX1 50 "SpotAccountModel" "state" "[I", .fieldLink RX1 53 "SpotAccountModel" "free" "[Z", .fieldLink RX1 32 "SpotAccountModel" "price" "[I"] ++ wsX10)
def wsX1_billTo : List Cond := .code yX1_billTo cX1_billTo 5 (some .int) :: ([.fieldLink RX1 67 "SpotAccountModel" "orders" "I", .fieldLink RX1 20 "SpotAccountModel" "advertiser" "[I", .methodLink RX1 63 yX1_in, .static yX1_in, .initialized RX1, .code yX1_in cX1_in 3 (some .boolean), .methodLink RX1 73 yX1_goes, .instanceMethod yX1_goes, .selects RX1 yX1_goes yX1_goes, .code yX1_goes cX1_goes 4 (some .boolean), .fieldLink RX1 56 "SpotAccountModel" "thrown" "I", .methodLink RX1 128 yX1_billOf, .instanceMethod yX1_billOf, .selects RX1 yX1_billOf yX1_billOf, .code yX1_billOf cX1_billOf 4 (some .int), .fieldLink RX1 70 "SpotAccountModel" "spots" "I", .fieldLink RX1 44 "SpotAccountModel" "order" "[I", .fieldLink RX1 50 "SpotAccountModel" "state" "[I", .fieldLink RX1 53 "SpotAccountModel" "free" "[Z", .fieldLink RX1 32 "SpotAccountModel" "price" "[I"] ++ wsX10)
def wsX1_mostOwed_r1 : List Cond := [Cond.fieldLink RX1 67 "SpotAccountModel" "orders" "I", Cond.methodLink RX1 119 yX1_left, Cond.instanceMethod yX1_left, Cond.selects RX1 yX1_left yX1_left, Cond.initialized RX1, Cond.code yX1_left cX1_left 3 (some .int), Cond.methodLink RX1 102 yX1_owes, Cond.instanceMethod yX1_owes, Cond.selects RX1 yX1_owes yX1_owes, Cond.code yX1_owes cX1_owes 3 (some .int), Cond.fieldLink RX1 35 "SpotAccountModel" "promise" "[I", Cond.fieldLink RX1 41 "SpotAccountModel" "closed" "[Z", Cond.methodLink RX1 98 yX1_sums, Cond.instanceMethod yX1_sums, Cond.selects RX1 yX1_sums yX1_sums, Cond.code yX1_sums cX1_sums 6 (some .int), Cond.fieldLink RX1 70 "SpotAccountModel" "spots" "I", Cond.fieldLink RX1 44 "SpotAccountModel" "order" "[I", Cond.fieldLink RX1 50 "SpotAccountModel" "state" "[I", Cond.fieldLink RX1 53 "SpotAccountModel" "free" "[Z", Cond.fieldLink RX1 47 "SpotAccountModel" "where" "[I", Cond.methodLink RX1 95 yX1_ratingFor, Cond.instanceMethod yX1_ratingFor, Cond.selects RX1 yX1_ratingFor yX1_ratingFor]
def wsX1_mostOwed_r2 : List Cond := [Cond.code yX1_ratingFor cX1_ratingFor 3 (some .int), Cond.fieldLink RX1 17 "SpotAccountModel" "rating" "[I", Cond.fieldLink RX1 26 "SpotAccountModel" "group" "[I", Cond.methodLink RX1 82 yX1_told, Cond.instanceMethod yX1_told, Cond.selects RX1 yX1_told yX1_told, Cond.code yX1_told cX1_told 2 (some .int), Cond.fieldLink RX1 56 "SpotAccountModel" "thrown" "I"]
def wsX1_mostOwed : List Cond := .code yX1_mostOwed cX1_mostOwed 5 (some .int) :: ((wsX1_mostOwed_r1 ++ wsX1_mostOwed_r2) ++ wsX10)
def wsJ9_max_7cf53 : List Cond := .code yJ9_max_7cf53 cJ9_max_7cf53 2 (some .int) :: ([])
def wsL_addBreak : List Cond := .codeWith yL_addBreak cL_addBreak 4 (some .int) [(0, 9, 12, 13), (0, 9, 15, 15)] :: ([.classLink RL 13 "java/lang/IllegalArgumentException", .classLink RL 15 "java/lang/IllegalStateException", .methodLink RL 7 yX0_addBreak, .instanceMethod yX0_addBreak, .selects RX0 yX0_addBreak yX0_addBreak, .initialized RX0, .code yX0_addBreak cX0_addBreak 3 (some .int), .fieldLink RX0 64 "SpotAccount" "breakCount" "I", .fieldLink RX0 9 "SpotAccount" "breakSeconds" "[I", .methodLink RX0 56 yX0_isWithin, .static yX0_isWithin, .code yX0_isWithin cX0_isWithin 3 (some .boolean), .methodLink RX0 60 yX0_checkArgument, .static yX0_checkArgument, .code yX0_checkArgument cX0_checkArgument 1 none, .classLink RX0 146 "java/lang/IllegalArgumentException", .initialized "java/lang/IllegalArgumentException", .methodLink RX0 68 yX0_checkState, .static yX0_checkState, .code yX0_checkState cX0_checkState 1 none, .classLink RX0 151 "java/lang/IllegalStateException", .initialized "java/lang/IllegalStateException"] ++ wsX00 ++ (vx_atS RX0 150 "java/lang/IllegalArgumentException" ["java/lang/RuntimeException", "java/lang/Exception"]).filter goodWord ++ (vx_atS RX0 155 "java/lang/IllegalStateException" ["java/lang/RuntimeException", "java/lang/Exception"]).filter goodWord)
def wsL_rate_r1 : List Cond := [Cond.classLink RL 21 "java/lang/IndexOutOfBoundsException", Cond.classLink RL 13 "java/lang/IllegalArgumentException", Cond.methodLink RL 17 yX0_rate, Cond.instanceMethod yX0_rate, Cond.selects RX0 yX0_rate yX0_rate, Cond.initialized RX0, Cond.code yX0_rate cX0_rate 6 (some .int), Cond.constant RX0 79 (100000), Cond.fieldLink RX0 17 "SpotAccount" "ratings" "[I", Cond.methodLink RX0 71 yX0_checkBreak, Cond.instanceMethod yX0_checkBreak, Cond.selects RX0 yX0_checkBreak yX0_checkBreak, Cond.code yX0_checkBreak cX0_checkBreak 2 none, Cond.fieldLink RX0 64 "SpotAccount" "breakCount" "I", Cond.methodLink RX0 135 yX0_checkIndex, Cond.static yX0_checkIndex, Cond.code yX0_checkIndex cX0_checkIndex 2 none, Cond.classLink RX0 139 "java/lang/IndexOutOfBoundsException", Cond.initialized "java/lang/IndexOutOfBoundsException", Cond.methodLink RX0 75 yX0_isGroup, Cond.static yX0_isGroup, Cond.code yX0_isGroup cX0_isGroup 1 (some .boolean), Cond.methodLink RX0 56 yX0_isWithin, Cond.static yX0_isWithin]
def wsL_rate_r2 : List Cond := [Cond.code yX0_isWithin cX0_isWithin 3 (some .boolean), Cond.methodLink RX0 60 yX0_checkArgument, Cond.static yX0_checkArgument, Cond.code yX0_checkArgument cX0_checkArgument 1 none, Cond.classLink RX0 146 "java/lang/IllegalArgumentException", Cond.initialized "java/lang/IllegalArgumentException", Cond.methodLink RX0 80 yX0_ratingCell, Cond.static yX0_ratingCell, Cond.code yX0_ratingCell cX0_ratingCell 2 (some .int)]
def wsL_rate : List Cond := .codeWith yL_rate cL_rate 6 (some .int) [(0, 12, 15, 21), (0, 12, 19, 13)] :: ((wsL_rate_r1 ++ wsL_rate_r2) ++ wsX00 ++ (vx_atS RX0 143 "java/lang/IndexOutOfBoundsException" ["java/lang/RuntimeException", "java/lang/Exception"]).filter goodWord ++ (vx_atS RX0 150 "java/lang/IllegalArgumentException" ["java/lang/RuntimeException", "java/lang/Exception"]).filter goodWord)
def wsL_air_r1 : List Cond := [Cond.classLink RL 21 "java/lang/IndexOutOfBoundsException", Cond.classLink RL 15 "java/lang/IllegalStateException", Cond.methodLink RL 23 yX0_air, Cond.instanceMethod yX0_air, Cond.selects RX0 yX0_air yX0_air, Cond.initialized RX0, Cond.code yX0_air cX0_air 4 (some .int), Cond.fieldLink RX0 13 "SpotAccount" "breakAired" "[Z", Cond.fieldLink RX0 84 "SpotAccount" "spotCount" "I", Cond.fieldLink RX0 47 "SpotAccount" "spotBreak" "[I", Cond.fieldLink RX0 50 "SpotAccount" "spotState" "[I", Cond.methodLink RX0 71 yX0_checkBreak, Cond.instanceMethod yX0_checkBreak, Cond.selects RX0 yX0_checkBreak yX0_checkBreak, Cond.code yX0_checkBreak cX0_checkBreak 2 none, Cond.fieldLink RX0 64 "SpotAccount" "breakCount" "I", Cond.methodLink RX0 135 yX0_checkIndex, Cond.static yX0_checkIndex, Cond.code yX0_checkIndex cX0_checkIndex 2 none, Cond.classLink RX0 139 "java/lang/IndexOutOfBoundsException", Cond.initialized "java/lang/IndexOutOfBoundsException", Cond.methodLink RX0 68 yX0_checkState, Cond.static yX0_checkState, Cond.code yX0_checkState cX0_checkState 1 none]
def wsL_air_r2 : List Cond := [Cond.classLink RX0 151 "java/lang/IllegalStateException", Cond.initialized "java/lang/IllegalStateException"]
def wsL_air : List Cond := .codeWith yL_air cL_air 4 (some .int) [(0, 9, 12, 21), (0, 9, 15, 15)] :: ((wsL_air_r1 ++ wsL_air_r2) ++ wsX00 ++ (vx_atS RX0 143 "java/lang/IndexOutOfBoundsException" ["java/lang/RuntimeException", "java/lang/Exception"]).filter goodWord ++ (vx_atS RX0 155 "java/lang/IllegalStateException" ["java/lang/RuntimeException", "java/lang/Exception"]).filter goodWord)
def wsL_isAired : List Cond := .codeWith yL_isAired cL_isAired 4 (some .int) [(0, 16, 19, 21)] :: ([.classLink RL 21 "java/lang/IndexOutOfBoundsException", .methodLink RL 26 yX0_isAired, .instanceMethod yX0_isAired, .selects RX0 yX0_isAired yX0_isAired, .initialized RX0, .code yX0_isAired cX0_isAired 2 (some .boolean), .fieldLink RX0 13 "SpotAccount" "breakAired" "[Z", .methodLink RX0 71 yX0_checkBreak, .instanceMethod yX0_checkBreak, .selects RX0 yX0_checkBreak yX0_checkBreak, .code yX0_checkBreak cX0_checkBreak 2 none, .fieldLink RX0 64 "SpotAccount" "breakCount" "I", .methodLink RX0 135 yX0_checkIndex, .static yX0_checkIndex, .code yX0_checkIndex cX0_checkIndex 2 none, .classLink RX0 139 "java/lang/IndexOutOfBoundsException", .initialized "java/lang/IndexOutOfBoundsException"] ++ wsX00 ++ (vx_atS RX0 143 "java/lang/IndexOutOfBoundsException" ["java/lang/RuntimeException", "java/lang/Exception"]).filter goodWord)
def wsL_room_r1 : List Cond := [Cond.classLink RL 21 "java/lang/IndexOutOfBoundsException", Cond.methodLink RL 30 yX0_room, Cond.instanceMethod yX0_room, Cond.selects RX0 yX0_room yX0_room, Cond.initialized RX0, Cond.code yX0_room cX0_room 2 (some .int), Cond.methodLink RX0 71 yX0_checkBreak, Cond.instanceMethod yX0_checkBreak, Cond.selects RX0 yX0_checkBreak yX0_checkBreak, Cond.code yX0_checkBreak cX0_checkBreak 2 none, Cond.fieldLink RX0 64 "SpotAccount" "breakCount" "I", Cond.methodLink RX0 135 yX0_checkIndex, Cond.static yX0_checkIndex, Cond.code yX0_checkIndex cX0_checkIndex 2 none, Cond.classLink RX0 139 "java/lang/IndexOutOfBoundsException", Cond.initialized "java/lang/IndexOutOfBoundsException", Cond.methodLink RX0 87 yX0_secondsLeft, Cond.instanceMethod yX0_secondsLeft, Cond.selects RX0 yX0_secondsLeft yX0_secondsLeft, Cond.code yX0_secondsLeft cX0_secondsLeft 4 (some .int), Cond.fieldLink RX0 9 "SpotAccount" "breakSeconds" "[I", Cond.fieldLink RX0 84 "SpotAccount" "spotCount" "I", Cond.fieldLink RX0 47 "SpotAccount" "spotBreak" "[I", Cond.fieldLink RX0 29 "SpotAccount" "orderSeconds" "[I"]
def wsL_room_r2 : List Cond := [Cond.fieldLink RX0 44 "SpotAccount" "spotOrder" "[I", Cond.methodLink RX0 126 yX0_isInBreak, Cond.instanceMethod yX0_isInBreak, Cond.selects RX0 yX0_isInBreak yX0_isInBreak, Cond.code yX0_isInBreak cX0_isInBreak 2 (some .boolean), Cond.fieldLink RX0 50 "SpotAccount" "spotState" "[I"]
def wsL_room : List Cond := .codeWith yL_room cL_room 4 (some .int) [(0, 9, 12, 21)] :: ((wsL_room_r1 ++ wsL_room_r2) ++ wsX00 ++ (vx_atS RX0 143 "java/lang/IndexOutOfBoundsException" ["java/lang/RuntimeException", "java/lang/Exception"]).filter goodWord)
def wsL_rating_r1 : List Cond := [Cond.classLink RL 21 "java/lang/IndexOutOfBoundsException", Cond.classLink RL 13 "java/lang/IllegalArgumentException", Cond.methodLink RL 33 yX0_rating, Cond.instanceMethod yX0_rating, Cond.selects RX0 yX0_rating yX0_rating, Cond.initialized RX0, Cond.code yX0_rating cX0_rating 3 (some .int), Cond.fieldLink RX0 17 "SpotAccount" "ratings" "[I", Cond.methodLink RX0 71 yX0_checkBreak, Cond.instanceMethod yX0_checkBreak, Cond.selects RX0 yX0_checkBreak yX0_checkBreak, Cond.code yX0_checkBreak cX0_checkBreak 2 none, Cond.fieldLink RX0 64 "SpotAccount" "breakCount" "I", Cond.methodLink RX0 135 yX0_checkIndex, Cond.static yX0_checkIndex, Cond.code yX0_checkIndex cX0_checkIndex 2 none, Cond.classLink RX0 139 "java/lang/IndexOutOfBoundsException", Cond.initialized "java/lang/IndexOutOfBoundsException", Cond.methodLink RX0 75 yX0_isGroup, Cond.static yX0_isGroup, Cond.code yX0_isGroup cX0_isGroup 1 (some .boolean), Cond.methodLink RX0 56 yX0_isWithin, Cond.static yX0_isWithin, Cond.code yX0_isWithin cX0_isWithin 3 (some .boolean)]
def wsL_rating_r2 : List Cond := [Cond.methodLink RX0 60 yX0_checkArgument, Cond.static yX0_checkArgument, Cond.code yX0_checkArgument cX0_checkArgument 1 none, Cond.classLink RX0 146 "java/lang/IllegalArgumentException", Cond.initialized "java/lang/IllegalArgumentException", Cond.methodLink RX0 80 yX0_ratingCell, Cond.static yX0_ratingCell, Cond.code yX0_ratingCell cX0_ratingCell 2 (some .int)]
def wsL_rating : List Cond := .codeWith yL_rating cL_rating 5 (some .int) [(0, 10, 13, 21), (0, 10, 17, 13)] :: ((wsL_rating_r1 ++ wsL_rating_r2) ++ wsX00 ++ (vx_atS RX0 143 "java/lang/IndexOutOfBoundsException" ["java/lang/RuntimeException", "java/lang/Exception"]).filter goodWord ++ (vx_atS RX0 150 "java/lang/IllegalArgumentException" ["java/lang/RuntimeException", "java/lang/Exception"]).filter goodWord)
def wsL_addOrder_r1 : List Cond := [Cond.classLink RL 13 "java/lang/IllegalArgumentException", Cond.classLink RL 15 "java/lang/IllegalStateException", Cond.methodLink RL 37 yX0_addOrder, Cond.instanceMethod yX0_addOrder, Cond.selects RX0 yX0_addOrder yX0_addOrder, Cond.initialized RX0, Cond.code yX0_addOrder cX0_addOrder 9 (some .int), Cond.constant RX0 97 (1000000), Cond.constant RX0 79 (100000), Cond.fieldLink RX0 98 "SpotAccount" "orderCount" "I", Cond.fieldLink RX0 20 "SpotAccount" "orderAdvertiser" "[I", Cond.fieldLink RX0 23 "SpotAccount" "orderCategory" "[I", Cond.fieldLink RX0 26 "SpotAccount" "orderGroup" "[I", Cond.fieldLink RX0 29 "SpotAccount" "orderSeconds" "[I", Cond.fieldLink RX0 32 "SpotAccount" "orderPrice" "[I", Cond.fieldLink RX0 35 "SpotAccount" "orderPromise" "[I", Cond.fieldLink RX0 38 "SpotAccount" "orderFloor" "[I", Cond.methodLink RX0 91 yX0_isAdvertiser, Cond.static yX0_isAdvertiser, Cond.code yX0_isAdvertiser cX0_isAdvertiser 1 (some .boolean), Cond.methodLink RX0 56 yX0_isWithin, Cond.static yX0_isWithin, Cond.code yX0_isWithin cX0_isWithin 3 (some .boolean), Cond.methodLink RX0 60 yX0_checkArgument]
def wsL_addOrder_r2 : List Cond := [Cond.static yX0_checkArgument, Cond.code yX0_checkArgument cX0_checkArgument 1 none, Cond.classLink RX0 146 "java/lang/IllegalArgumentException", Cond.initialized "java/lang/IllegalArgumentException", Cond.methodLink RX0 75 yX0_isGroup, Cond.static yX0_isGroup, Cond.code yX0_isGroup cX0_isGroup 1 (some .boolean), Cond.methodLink RX0 94 yX0_isSpotLength, Cond.static yX0_isSpotLength, Cond.code yX0_isSpotLength cX0_isSpotLength 1 (some .boolean), Cond.methodLink RX0 68 yX0_checkState, Cond.static yX0_checkState, Cond.code yX0_checkState cX0_checkState 1 none, Cond.classLink RX0 151 "java/lang/IllegalStateException", Cond.initialized "java/lang/IllegalStateException"]
def wsL_addOrder : List Cond := .codeWith yL_addOrder cL_addOrder 10 (some .int) [(0, 20, 23, 13), (0, 20, 27, 15)] :: ((wsL_addOrder_r1 ++ wsL_addOrder_r2) ++ wsX00 ++ (vx_atS RX0 150 "java/lang/IllegalArgumentException" ["java/lang/RuntimeException", "java/lang/Exception"]).filter goodWord ++ (vx_atS RX0 155 "java/lang/IllegalStateException" ["java/lang/RuntimeException", "java/lang/Exception"]).filter goodWord)
def wsL_close_r1 : List Cond := [Cond.classLink RL 21 "java/lang/IndexOutOfBoundsException", Cond.classLink RL 15 "java/lang/IllegalStateException", Cond.methodLink RL 41 yX0_close, Cond.instanceMethod yX0_close, Cond.selects RX0 yX0_close yX0_close, Cond.initialized RX0, Cond.code yX0_close cX0_close 3 (some .int), Cond.fieldLink RX0 41 "SpotAccount" "orderClosed" "[Z", Cond.fieldLink RX0 84 "SpotAccount" "spotCount" "I", Cond.fieldLink RX0 44 "SpotAccount" "spotOrder" "[I", Cond.fieldLink RX0 50 "SpotAccount" "spotState" "[I", Cond.methodLink RX0 101 yX0_checkOrder, Cond.instanceMethod yX0_checkOrder, Cond.selects RX0 yX0_checkOrder yX0_checkOrder, Cond.code yX0_checkOrder cX0_checkOrder 2 none, Cond.fieldLink RX0 98 "SpotAccount" "orderCount" "I", Cond.methodLink RX0 135 yX0_checkIndex, Cond.static yX0_checkIndex, Cond.code yX0_checkIndex cX0_checkIndex 2 none, Cond.classLink RX0 139 "java/lang/IndexOutOfBoundsException", Cond.initialized "java/lang/IndexOutOfBoundsException", Cond.methodLink RX0 68 yX0_checkState, Cond.static yX0_checkState, Cond.code yX0_checkState cX0_checkState 1 none]
def wsL_close_r2 : List Cond := [Cond.classLink RX0 151 "java/lang/IllegalStateException", Cond.initialized "java/lang/IllegalStateException", Cond.methodLink RX0 104 yX0_owedTo, Cond.instanceMethod yX0_owedTo, Cond.selects RX0 yX0_owedTo yX0_owedTo, Cond.code yX0_owedTo cX0_owedTo 2 (some .int), Cond.fieldLink RX0 35 "SpotAccount" "orderPromise" "[I", Cond.methodLink RX0 169 Lib.Math.max.name, Cond.static Lib.Math.max.name, Cond.initialized "java/lang/Math", Cond.code Lib.Math.max.name Lib.Math.max.code 2 (some .int), Cond.methodLink RX0 129 yX0_audience, Cond.instanceMethod yX0_audience, Cond.selects RX0 yX0_audience yX0_audience, Cond.code yX0_audience cX0_audience 5 (some .int), Cond.fieldLink RX0 47 "SpotAccount" "spotBreak" "[I", Cond.methodLink RX0 156 yX0_ratingFor, Cond.instanceMethod yX0_ratingFor, Cond.selects RX0 yX0_ratingFor yX0_ratingFor, Cond.code yX0_ratingFor cX0_ratingFor 3 (some .int), Cond.fieldLink RX0 17 "SpotAccount" "ratings" "[I", Cond.fieldLink RX0 26 "SpotAccount" "orderGroup" "[I", Cond.methodLink RX0 80 yX0_ratingCell, Cond.static yX0_ratingCell]
def wsL_close_r3 : List Cond := [Cond.code yX0_ratingCell cX0_ratingCell 2 (some .int)]
def wsL_close : List Cond := .codeWith yL_close cL_close 4 (some .int) [(0, 9, 12, 21), (0, 9, 15, 15)] :: ((wsL_close_r1 ++ (wsL_close_r2 ++ wsL_close_r3)) ++ wsX00 ++ (vx_atS RX0 143 "java/lang/IndexOutOfBoundsException" ["java/lang/RuntimeException", "java/lang/Exception"]).filter goodWord ++ (vx_atS RX0 155 "java/lang/IllegalStateException" ["java/lang/RuntimeException", "java/lang/Exception"]).filter goodWord)
def wsL_whyNot_r1 : List Cond := [Cond.classLink RL 21 "java/lang/IndexOutOfBoundsException", Cond.methodLink RL 44 yX0_whyNot, Cond.instanceMethod yX0_whyNot, Cond.selects RX0 yX0_whyNot yX0_whyNot, Cond.initialized RX0, Cond.code yX0_whyNot cX0_whyNot 3 (some .int), Cond.methodLink RX0 101 yX0_checkOrder, Cond.instanceMethod yX0_checkOrder, Cond.selects RX0 yX0_checkOrder yX0_checkOrder, Cond.code yX0_checkOrder cX0_checkOrder 2 none, Cond.fieldLink RX0 98 "SpotAccount" "orderCount" "I", Cond.methodLink RX0 135 yX0_checkIndex, Cond.static yX0_checkIndex, Cond.code yX0_checkIndex cX0_checkIndex 2 none, Cond.classLink RX0 139 "java/lang/IndexOutOfBoundsException", Cond.initialized "java/lang/IndexOutOfBoundsException", Cond.methodLink RX0 71 yX0_checkBreak, Cond.instanceMethod yX0_checkBreak, Cond.selects RX0 yX0_checkBreak yX0_checkBreak, Cond.code yX0_checkBreak cX0_checkBreak 2 none, Cond.fieldLink RX0 64 "SpotAccount" "breakCount" "I", Cond.methodLink RX0 107 yX0_obstacle, Cond.instanceMethod yX0_obstacle, Cond.selects RX0 yX0_obstacle yX0_obstacle]
def wsL_whyNot_r2 : List Cond := [Cond.code yX0_obstacle cX0_obstacle 3 (some .int), Cond.fieldLink RX0 13 "SpotAccount" "breakAired" "[Z", Cond.fieldLink RX0 29 "SpotAccount" "orderSeconds" "[I", Cond.fieldLink RX0 38 "SpotAccount" "orderFloor" "[I", Cond.fieldLink RX0 20 "SpotAccount" "orderAdvertiser" "[I", Cond.methodLink RX0 87 yX0_secondsLeft, Cond.instanceMethod yX0_secondsLeft, Cond.selects RX0 yX0_secondsLeft yX0_secondsLeft, Cond.code yX0_secondsLeft cX0_secondsLeft 4 (some .int), Cond.fieldLink RX0 9 "SpotAccount" "breakSeconds" "[I", Cond.fieldLink RX0 84 "SpotAccount" "spotCount" "I", Cond.fieldLink RX0 47 "SpotAccount" "spotBreak" "[I", Cond.fieldLink RX0 44 "SpotAccount" "spotOrder" "[I", Cond.methodLink RX0 126 yX0_isInBreak, Cond.instanceMethod yX0_isInBreak, Cond.selects RX0 yX0_isInBreak yX0_isInBreak, Cond.code yX0_isInBreak cX0_isInBreak 2 (some .boolean), Cond.fieldLink RX0 50 "SpotAccount" "spotState" "[I", Cond.methodLink RX0 156 yX0_ratingFor, Cond.instanceMethod yX0_ratingFor, Cond.selects RX0 yX0_ratingFor yX0_ratingFor, Cond.code yX0_ratingFor cX0_ratingFor 3 (some .int), Cond.fieldLink RX0 17 "SpotAccount" "ratings" "[I", Cond.fieldLink RX0 26 "SpotAccount" "orderGroup" "[I"]
def wsL_whyNot_r3 : List Cond := [Cond.methodLink RX0 80 yX0_ratingCell, Cond.static yX0_ratingCell, Cond.code yX0_ratingCell cX0_ratingCell 2 (some .int), Cond.methodLink RX0 159 yX0_holdsAdvertiser, Cond.instanceMethod yX0_holdsAdvertiser, Cond.selects RX0 yX0_holdsAdvertiser yX0_holdsAdvertiser, Cond.code yX0_holdsAdvertiser cX0_holdsAdvertiser 4 (some .boolean), Cond.methodLink RX0 163 yX0_holdsRival, Cond.instanceMethod yX0_holdsRival, Cond.selects RX0 yX0_holdsRival yX0_holdsRival, Cond.code yX0_holdsRival cX0_holdsRival 4 (some .boolean), Cond.methodLink RX0 166 yX0_areRivals, Cond.instanceMethod yX0_areRivals, Cond.selects RX0 yX0_areRivals yX0_areRivals, Cond.code yX0_areRivals cX0_areRivals 3 (some .boolean), Cond.fieldLink RX0 23 "SpotAccount" "orderCategory" "[I"]
def wsL_whyNot : List Cond := .codeWith yL_whyNot cL_whyNot 5 (some .int) [(0, 10, 13, 21)] :: ((wsL_whyNot_r1 ++ (wsL_whyNot_r2 ++ wsL_whyNot_r3)) ++ wsX00 ++ (vx_atS RX0 143 "java/lang/IndexOutOfBoundsException" ["java/lang/RuntimeException", "java/lang/Exception"]).filter goodWord)
def wsL_place_r1 : List Cond := [Cond.classLink RL 21 "java/lang/IndexOutOfBoundsException", Cond.classLink RL 15 "java/lang/IllegalStateException", Cond.methodLink RL 47 yX0_place, Cond.instanceMethod yX0_place, Cond.selects RX0 yX0_place yX0_place, Cond.initialized RX0, Cond.code yX0_place cX0_place 3 (some .int), Cond.fieldLink RX0 41 "SpotAccount" "orderClosed" "[Z", Cond.fieldLink RX0 84 "SpotAccount" "spotCount" "I", Cond.methodLink RX0 101 yX0_checkOrder, Cond.instanceMethod yX0_checkOrder, Cond.selects RX0 yX0_checkOrder yX0_checkOrder, Cond.code yX0_checkOrder cX0_checkOrder 2 none, Cond.fieldLink RX0 98 "SpotAccount" "orderCount" "I", Cond.methodLink RX0 135 yX0_checkIndex, Cond.static yX0_checkIndex, Cond.code yX0_checkIndex cX0_checkIndex 2 none, Cond.classLink RX0 139 "java/lang/IndexOutOfBoundsException", Cond.initialized "java/lang/IndexOutOfBoundsException", Cond.methodLink RX0 71 yX0_checkBreak, Cond.instanceMethod yX0_checkBreak, Cond.selects RX0 yX0_checkBreak yX0_checkBreak, Cond.code yX0_checkBreak cX0_checkBreak 2 none, Cond.fieldLink RX0 64 "SpotAccount" "breakCount" "I"]
def wsL_place_r2 : List Cond := [Cond.methodLink RX0 68 yX0_checkState, Cond.static yX0_checkState, Cond.code yX0_checkState cX0_checkState 1 none, Cond.classLink RX0 151 "java/lang/IllegalStateException", Cond.initialized "java/lang/IllegalStateException", Cond.methodLink RX0 107 yX0_obstacle, Cond.instanceMethod yX0_obstacle, Cond.selects RX0 yX0_obstacle yX0_obstacle, Cond.code yX0_obstacle cX0_obstacle 3 (some .int), Cond.fieldLink RX0 13 "SpotAccount" "breakAired" "[Z", Cond.fieldLink RX0 29 "SpotAccount" "orderSeconds" "[I", Cond.fieldLink RX0 38 "SpotAccount" "orderFloor" "[I", Cond.fieldLink RX0 20 "SpotAccount" "orderAdvertiser" "[I", Cond.methodLink RX0 87 yX0_secondsLeft, Cond.instanceMethod yX0_secondsLeft, Cond.selects RX0 yX0_secondsLeft yX0_secondsLeft, Cond.code yX0_secondsLeft cX0_secondsLeft 4 (some .int), Cond.fieldLink RX0 9 "SpotAccount" "breakSeconds" "[I", Cond.fieldLink RX0 47 "SpotAccount" "spotBreak" "[I", Cond.fieldLink RX0 44 "SpotAccount" "spotOrder" "[I", Cond.methodLink RX0 126 yX0_isInBreak, Cond.instanceMethod yX0_isInBreak, Cond.selects RX0 yX0_isInBreak yX0_isInBreak, Cond.code yX0_isInBreak cX0_isInBreak 2 (some .boolean)]
def wsL_place_r3 : List Cond := [Cond.fieldLink RX0 50 "SpotAccount" "spotState" "[I", Cond.methodLink RX0 156 yX0_ratingFor, Cond.instanceMethod yX0_ratingFor, Cond.selects RX0 yX0_ratingFor yX0_ratingFor, Cond.code yX0_ratingFor cX0_ratingFor 3 (some .int), Cond.fieldLink RX0 17 "SpotAccount" "ratings" "[I", Cond.fieldLink RX0 26 "SpotAccount" "orderGroup" "[I", Cond.methodLink RX0 80 yX0_ratingCell, Cond.static yX0_ratingCell, Cond.code yX0_ratingCell cX0_ratingCell 2 (some .int), Cond.methodLink RX0 159 yX0_holdsAdvertiser, Cond.instanceMethod yX0_holdsAdvertiser, Cond.selects RX0 yX0_holdsAdvertiser yX0_holdsAdvertiser, Cond.code yX0_holdsAdvertiser cX0_holdsAdvertiser 4 (some .boolean), Cond.methodLink RX0 163 yX0_holdsRival, Cond.instanceMethod yX0_holdsRival, Cond.selects RX0 yX0_holdsRival yX0_holdsRival, Cond.code yX0_holdsRival cX0_holdsRival 4 (some .boolean), Cond.methodLink RX0 166 yX0_areRivals, Cond.instanceMethod yX0_areRivals, Cond.selects RX0 yX0_areRivals yX0_areRivals, Cond.code yX0_areRivals cX0_areRivals 3 (some .boolean), Cond.fieldLink RX0 23 "SpotAccount" "orderCategory" "[I", Cond.methodLink RX0 110 yX0_addSpot]
def wsL_place_r4 : List Cond := [Cond.instanceMethod yX0_addSpot, Cond.selects RX0 yX0_addSpot yX0_addSpot, Cond.code yX0_addSpot cX0_addSpot 5 (some .int), Cond.fieldLink RX0 53 "SpotAccount" "spotFree" "[Z"]
def wsL_place : List Cond := .codeWith yL_place cL_place 5 (some .int) [(0, 10, 13, 21), (0, 10, 17, 15)] :: ((wsL_place_r1 ++ (wsL_place_r2 ++ (wsL_place_r3 ++ wsL_place_r4))) ++ wsX00 ++ (vx_atS RX0 143 "java/lang/IndexOutOfBoundsException" ["java/lang/RuntimeException", "java/lang/Exception"]).filter goodWord ++ (vx_atS RX0 155 "java/lang/IllegalStateException" ["java/lang/RuntimeException", "java/lang/Exception"]).filter goodWord)
def wsL_give_r1 : List Cond := [Cond.classLink RL 21 "java/lang/IndexOutOfBoundsException", Cond.classLink RL 15 "java/lang/IllegalStateException", Cond.methodLink RL 50 yX0_give, Cond.instanceMethod yX0_give, Cond.selects RX0 yX0_give yX0_give, Cond.initialized RX0, Cond.code yX0_give cX0_give 3 (some .int), Cond.fieldLink RX0 84 "SpotAccount" "spotCount" "I", Cond.methodLink RX0 101 yX0_checkOrder, Cond.instanceMethod yX0_checkOrder, Cond.selects RX0 yX0_checkOrder yX0_checkOrder, Cond.code yX0_checkOrder cX0_checkOrder 2 none, Cond.fieldLink RX0 98 "SpotAccount" "orderCount" "I", Cond.methodLink RX0 135 yX0_checkIndex, Cond.static yX0_checkIndex, Cond.code yX0_checkIndex cX0_checkIndex 2 none, Cond.classLink RX0 139 "java/lang/IndexOutOfBoundsException", Cond.initialized "java/lang/IndexOutOfBoundsException", Cond.methodLink RX0 71 yX0_checkBreak, Cond.instanceMethod yX0_checkBreak, Cond.selects RX0 yX0_checkBreak yX0_checkBreak, Cond.code yX0_checkBreak cX0_checkBreak 2 none, Cond.fieldLink RX0 64 "SpotAccount" "breakCount" "I", Cond.methodLink RX0 114 yX0_restOf]
def wsL_give_r2 : List Cond := [Cond.instanceMethod yX0_restOf, Cond.selects RX0 yX0_restOf yX0_restOf, Cond.code yX0_restOf cX0_restOf 4 (some .int), Cond.fieldLink RX0 44 "SpotAccount" "spotOrder" "[I", Cond.fieldLink RX0 53 "SpotAccount" "spotFree" "[Z", Cond.fieldLink RX0 50 "SpotAccount" "spotState" "[I", Cond.fieldLink RX0 47 "SpotAccount" "spotBreak" "[I", Cond.methodLink RX0 169 Lib.Math.max.name, Cond.static Lib.Math.max.name, Cond.initialized "java/lang/Math", Cond.code Lib.Math.max.name Lib.Math.max.code 2 (some .int), Cond.methodLink RX0 104 yX0_owedTo, Cond.instanceMethod yX0_owedTo, Cond.selects RX0 yX0_owedTo yX0_owedTo, Cond.code yX0_owedTo cX0_owedTo 2 (some .int), Cond.fieldLink RX0 41 "SpotAccount" "orderClosed" "[Z", Cond.fieldLink RX0 35 "SpotAccount" "orderPromise" "[I", Cond.methodLink RX0 129 yX0_audience, Cond.instanceMethod yX0_audience, Cond.selects RX0 yX0_audience yX0_audience, Cond.code yX0_audience cX0_audience 5 (some .int), Cond.methodLink RX0 156 yX0_ratingFor, Cond.instanceMethod yX0_ratingFor, Cond.selects RX0 yX0_ratingFor yX0_ratingFor]
def wsL_give_r3 : List Cond := [Cond.code yX0_ratingFor cX0_ratingFor 3 (some .int), Cond.fieldLink RX0 17 "SpotAccount" "ratings" "[I", Cond.fieldLink RX0 26 "SpotAccount" "orderGroup" "[I", Cond.methodLink RX0 80 yX0_ratingCell, Cond.static yX0_ratingCell, Cond.code yX0_ratingCell cX0_ratingCell 2 (some .int), Cond.methodLink RX0 68 yX0_checkState, Cond.static yX0_checkState, Cond.code yX0_checkState cX0_checkState 1 none, Cond.classLink RX0 151 "java/lang/IllegalStateException", Cond.initialized "java/lang/IllegalStateException", Cond.methodLink RX0 107 yX0_obstacle, Cond.instanceMethod yX0_obstacle, Cond.selects RX0 yX0_obstacle yX0_obstacle, Cond.code yX0_obstacle cX0_obstacle 3 (some .int), Cond.fieldLink RX0 13 "SpotAccount" "breakAired" "[Z", Cond.fieldLink RX0 29 "SpotAccount" "orderSeconds" "[I", Cond.fieldLink RX0 38 "SpotAccount" "orderFloor" "[I", Cond.fieldLink RX0 20 "SpotAccount" "orderAdvertiser" "[I", Cond.methodLink RX0 87 yX0_secondsLeft, Cond.instanceMethod yX0_secondsLeft, Cond.selects RX0 yX0_secondsLeft yX0_secondsLeft, Cond.code yX0_secondsLeft cX0_secondsLeft 4 (some .int), Cond.fieldLink RX0 9 "SpotAccount" "breakSeconds" "[I"]
def wsL_give_r4 : List Cond := [Cond.methodLink RX0 126 yX0_isInBreak, Cond.instanceMethod yX0_isInBreak, Cond.selects RX0 yX0_isInBreak yX0_isInBreak, Cond.code yX0_isInBreak cX0_isInBreak 2 (some .boolean), Cond.methodLink RX0 159 yX0_holdsAdvertiser, Cond.instanceMethod yX0_holdsAdvertiser, Cond.selects RX0 yX0_holdsAdvertiser yX0_holdsAdvertiser, Cond.code yX0_holdsAdvertiser cX0_holdsAdvertiser 4 (some .boolean), Cond.methodLink RX0 163 yX0_holdsRival, Cond.instanceMethod yX0_holdsRival, Cond.selects RX0 yX0_holdsRival yX0_holdsRival, Cond.code yX0_holdsRival cX0_holdsRival 4 (some .boolean), Cond.methodLink RX0 166 yX0_areRivals, Cond.instanceMethod yX0_areRivals, Cond.selects RX0 yX0_areRivals yX0_areRivals, Cond.code yX0_areRivals cX0_areRivals 3 (some .boolean), Cond.fieldLink RX0 23 "SpotAccount" "orderCategory" "[I", Cond.methodLink RX0 110 yX0_addSpot, Cond.instanceMethod yX0_addSpot, Cond.selects RX0 yX0_addSpot yX0_addSpot, Cond.code yX0_addSpot cX0_addSpot 5 (some .int)]
def wsL_give : List Cond := .codeWith yL_give cL_give 5 (some .int) [(0, 10, 13, 21), (0, 10, 17, 15)] :: ((wsL_give_r1 ++ (wsL_give_r2 ++ (wsL_give_r3 ++ wsL_give_r4))) ++ wsX00 ++ (vx_atS RX0 143 "java/lang/IndexOutOfBoundsException" ["java/lang/RuntimeException", "java/lang/Exception"]).filter goodWord ++ (vx_atS RX0 155 "java/lang/IllegalStateException" ["java/lang/RuntimeException", "java/lang/Exception"]).filter goodWord)
def wsL_fill_r1 : List Cond := [Cond.classLink RL 21 "java/lang/IndexOutOfBoundsException", Cond.classLink RL 13 "java/lang/IllegalArgumentException", Cond.classLink RL 15 "java/lang/IllegalStateException", Cond.methodLink RL 53 yX0_fill, Cond.instanceMethod yX0_fill, Cond.selects RX0 yX0_fill yX0_fill, Cond.initialized RX0, Cond.code yX0_fill cX0_fill 5 (some .int), Cond.fieldLink RX0 41 "SpotAccount" "orderClosed" "[Z", Cond.fieldLink RX0 84 "SpotAccount" "spotCount" "I", Cond.methodLink RX0 101 yX0_checkOrder, Cond.instanceMethod yX0_checkOrder, Cond.selects RX0 yX0_checkOrder yX0_checkOrder, Cond.code yX0_checkOrder cX0_checkOrder 2 none, Cond.fieldLink RX0 98 "SpotAccount" "orderCount" "I", Cond.methodLink RX0 135 yX0_checkIndex, Cond.static yX0_checkIndex, Cond.code yX0_checkIndex cX0_checkIndex 2 none, Cond.classLink RX0 139 "java/lang/IndexOutOfBoundsException", Cond.initialized "java/lang/IndexOutOfBoundsException", Cond.methodLink RX0 56 yX0_isWithin, Cond.static yX0_isWithin, Cond.code yX0_isWithin cX0_isWithin 3 (some .boolean), Cond.methodLink RX0 60 yX0_checkArgument]
def wsL_fill_r2 : List Cond := [Cond.static yX0_checkArgument, Cond.code yX0_checkArgument cX0_checkArgument 1 none, Cond.classLink RX0 146 "java/lang/IllegalArgumentException", Cond.initialized "java/lang/IllegalArgumentException", Cond.methodLink RX0 68 yX0_checkState, Cond.static yX0_checkState, Cond.code yX0_checkState cX0_checkState 1 none, Cond.classLink RX0 151 "java/lang/IllegalStateException", Cond.initialized "java/lang/IllegalStateException", Cond.methodLink RX0 117 yX0_isShortOfPromise, Cond.instanceMethod yX0_isShortOfPromise, Cond.selects RX0 yX0_isShortOfPromise yX0_isShortOfPromise, Cond.code yX0_isShortOfPromise cX0_isShortOfPromise 2 (some .boolean), Cond.fieldLink RX0 35 "SpotAccount" "orderPromise" "[I", Cond.methodLink RX0 129 yX0_audience, Cond.instanceMethod yX0_audience, Cond.selects RX0 yX0_audience yX0_audience, Cond.code yX0_audience cX0_audience 5 (some .int), Cond.fieldLink RX0 44 "SpotAccount" "spotOrder" "[I", Cond.fieldLink RX0 50 "SpotAccount" "spotState" "[I", Cond.fieldLink RX0 47 "SpotAccount" "spotBreak" "[I", Cond.methodLink RX0 156 yX0_ratingFor, Cond.instanceMethod yX0_ratingFor, Cond.selects RX0 yX0_ratingFor yX0_ratingFor]
def wsL_fill_r3 : List Cond := [Cond.code yX0_ratingFor cX0_ratingFor 3 (some .int), Cond.fieldLink RX0 17 "SpotAccount" "ratings" "[I", Cond.fieldLink RX0 26 "SpotAccount" "orderGroup" "[I", Cond.methodLink RX0 80 yX0_ratingCell, Cond.static yX0_ratingCell, Cond.code yX0_ratingCell cX0_ratingCell 2 (some .int), Cond.methodLink RX0 120 yX0_bestBreak, Cond.instanceMethod yX0_bestBreak, Cond.selects RX0 yX0_bestBreak yX0_bestBreak, Cond.code yX0_bestBreak cX0_bestBreak 6 (some .int), Cond.fieldLink RX0 64 "SpotAccount" "breakCount" "I", Cond.methodLink RX0 107 yX0_obstacle, Cond.instanceMethod yX0_obstacle, Cond.selects RX0 yX0_obstacle yX0_obstacle, Cond.code yX0_obstacle cX0_obstacle 3 (some .int), Cond.fieldLink RX0 13 "SpotAccount" "breakAired" "[Z", Cond.fieldLink RX0 29 "SpotAccount" "orderSeconds" "[I", Cond.fieldLink RX0 38 "SpotAccount" "orderFloor" "[I", Cond.fieldLink RX0 20 "SpotAccount" "orderAdvertiser" "[I", Cond.methodLink RX0 87 yX0_secondsLeft, Cond.instanceMethod yX0_secondsLeft, Cond.selects RX0 yX0_secondsLeft yX0_secondsLeft, Cond.code yX0_secondsLeft cX0_secondsLeft 4 (some .int), Cond.fieldLink RX0 9 "SpotAccount" "breakSeconds" "[I"]
def wsL_fill_r4 : List Cond := [Cond.methodLink RX0 126 yX0_isInBreak, Cond.instanceMethod yX0_isInBreak, Cond.selects RX0 yX0_isInBreak yX0_isInBreak, Cond.code yX0_isInBreak cX0_isInBreak 2 (some .boolean), Cond.methodLink RX0 159 yX0_holdsAdvertiser, Cond.instanceMethod yX0_holdsAdvertiser, Cond.selects RX0 yX0_holdsAdvertiser yX0_holdsAdvertiser, Cond.code yX0_holdsAdvertiser cX0_holdsAdvertiser 4 (some .boolean), Cond.methodLink RX0 163 yX0_holdsRival, Cond.instanceMethod yX0_holdsRival, Cond.selects RX0 yX0_holdsRival yX0_holdsRival, Cond.code yX0_holdsRival cX0_holdsRival 4 (some .boolean), Cond.methodLink RX0 166 yX0_areRivals, Cond.instanceMethod yX0_areRivals, Cond.selects RX0 yX0_areRivals yX0_areRivals, Cond.code yX0_areRivals cX0_areRivals 3 (some .boolean), Cond.fieldLink RX0 23 "SpotAccount" "orderCategory" "[I", Cond.methodLink RX0 110 yX0_addSpot, Cond.instanceMethod yX0_addSpot, Cond.selects RX0 yX0_addSpot yX0_addSpot, Cond.code yX0_addSpot cX0_addSpot 5 (some .int), Cond.fieldLink RX0 53 "SpotAccount" "spotFree" "[Z"]
def wsL_fill : List Cond := .codeWith yL_fill cL_fill 5 (some .int) [(0, 10, 13, 21), (0, 10, 17, 13), (0, 10, 21, 15)] :: ((wsL_fill_r1 ++ (wsL_fill_r2 ++ (wsL_fill_r3 ++ wsL_fill_r4))) ++ wsX00 ++ (vx_atS RX0 143 "java/lang/IndexOutOfBoundsException" ["java/lang/RuntimeException", "java/lang/Exception"]).filter goodWord ++ (vx_atS RX0 150 "java/lang/IllegalArgumentException" ["java/lang/RuntimeException", "java/lang/Exception"]).filter goodWord ++ (vx_atS RX0 155 "java/lang/IllegalStateException" ["java/lang/RuntimeException", "java/lang/Exception"]).filter goodWord)
def wsL_move_r1 : List Cond := [Cond.classLink RL 21 "java/lang/IndexOutOfBoundsException", Cond.classLink RL 15 "java/lang/IllegalStateException", Cond.methodLink RL 56 yX0_move, Cond.instanceMethod yX0_move, Cond.selects RX0 yX0_move yX0_move, Cond.initialized RX0, Cond.code yX0_move cX0_move 4 (some .int), Cond.fieldLink RX0 50 "SpotAccount" "spotState" "[I", Cond.fieldLink RX0 47 "SpotAccount" "spotBreak" "[I", Cond.fieldLink RX0 44 "SpotAccount" "spotOrder" "[I", Cond.methodLink RX0 123 yX0_checkSpot, Cond.instanceMethod yX0_checkSpot, Cond.selects RX0 yX0_checkSpot yX0_checkSpot, Cond.code yX0_checkSpot cX0_checkSpot 2 none, Cond.fieldLink RX0 84 "SpotAccount" "spotCount" "I", Cond.methodLink RX0 135 yX0_checkIndex, Cond.static yX0_checkIndex, Cond.code yX0_checkIndex cX0_checkIndex 2 none, Cond.classLink RX0 139 "java/lang/IndexOutOfBoundsException", Cond.initialized "java/lang/IndexOutOfBoundsException", Cond.methodLink RX0 71 yX0_checkBreak, Cond.instanceMethod yX0_checkBreak, Cond.selects RX0 yX0_checkBreak yX0_checkBreak, Cond.code yX0_checkBreak cX0_checkBreak 2 none]
def wsL_move_r2 : List Cond := [Cond.fieldLink RX0 64 "SpotAccount" "breakCount" "I", Cond.methodLink RX0 68 yX0_checkState, Cond.static yX0_checkState, Cond.code yX0_checkState cX0_checkState 1 none, Cond.classLink RX0 151 "java/lang/IllegalStateException", Cond.initialized "java/lang/IllegalStateException", Cond.methodLink RX0 107 yX0_obstacle, Cond.instanceMethod yX0_obstacle, Cond.selects RX0 yX0_obstacle yX0_obstacle, Cond.code yX0_obstacle cX0_obstacle 3 (some .int), Cond.fieldLink RX0 13 "SpotAccount" "breakAired" "[Z", Cond.fieldLink RX0 29 "SpotAccount" "orderSeconds" "[I", Cond.fieldLink RX0 38 "SpotAccount" "orderFloor" "[I", Cond.fieldLink RX0 20 "SpotAccount" "orderAdvertiser" "[I", Cond.methodLink RX0 87 yX0_secondsLeft, Cond.instanceMethod yX0_secondsLeft, Cond.selects RX0 yX0_secondsLeft yX0_secondsLeft, Cond.code yX0_secondsLeft cX0_secondsLeft 4 (some .int), Cond.fieldLink RX0 9 "SpotAccount" "breakSeconds" "[I", Cond.methodLink RX0 126 yX0_isInBreak, Cond.instanceMethod yX0_isInBreak, Cond.selects RX0 yX0_isInBreak yX0_isInBreak, Cond.code yX0_isInBreak cX0_isInBreak 2 (some .boolean), Cond.methodLink RX0 156 yX0_ratingFor]
def wsL_move_r3 : List Cond := [Cond.instanceMethod yX0_ratingFor, Cond.selects RX0 yX0_ratingFor yX0_ratingFor, Cond.code yX0_ratingFor cX0_ratingFor 3 (some .int), Cond.fieldLink RX0 17 "SpotAccount" "ratings" "[I", Cond.fieldLink RX0 26 "SpotAccount" "orderGroup" "[I", Cond.methodLink RX0 80 yX0_ratingCell, Cond.static yX0_ratingCell, Cond.code yX0_ratingCell cX0_ratingCell 2 (some .int), Cond.methodLink RX0 159 yX0_holdsAdvertiser, Cond.instanceMethod yX0_holdsAdvertiser, Cond.selects RX0 yX0_holdsAdvertiser yX0_holdsAdvertiser, Cond.code yX0_holdsAdvertiser cX0_holdsAdvertiser 4 (some .boolean), Cond.methodLink RX0 163 yX0_holdsRival, Cond.instanceMethod yX0_holdsRival, Cond.selects RX0 yX0_holdsRival yX0_holdsRival, Cond.code yX0_holdsRival cX0_holdsRival 4 (some .boolean), Cond.methodLink RX0 166 yX0_areRivals, Cond.instanceMethod yX0_areRivals, Cond.selects RX0 yX0_areRivals yX0_areRivals, Cond.code yX0_areRivals cX0_areRivals 3 (some .boolean), Cond.fieldLink RX0 23 "SpotAccount" "orderCategory" "[I"]
def wsL_move : List Cond := .codeWith yL_move cL_move 5 (some .int) [(0, 10, 13, 21), (0, 10, 17, 15)] :: ((wsL_move_r1 ++ (wsL_move_r2 ++ wsL_move_r3)) ++ wsX00 ++ (vx_atS RX0 143 "java/lang/IndexOutOfBoundsException" ["java/lang/RuntimeException", "java/lang/Exception"]).filter goodWord ++ (vx_atS RX0 155 "java/lang/IllegalStateException" ["java/lang/RuntimeException", "java/lang/Exception"]).filter goodWord)
def wsL_miss_r1 : List Cond := [Cond.classLink RL 21 "java/lang/IndexOutOfBoundsException", Cond.classLink RL 15 "java/lang/IllegalStateException", Cond.methodLink RL 59 yX0_miss, Cond.instanceMethod yX0_miss, Cond.selects RX0 yX0_miss yX0_miss, Cond.initialized RX0, Cond.code yX0_miss cX0_miss 3 (some .boolean), Cond.fieldLink RX0 50 "SpotAccount" "spotState" "[I", Cond.methodLink RX0 123 yX0_checkSpot, Cond.instanceMethod yX0_checkSpot, Cond.selects RX0 yX0_checkSpot yX0_checkSpot, Cond.code yX0_checkSpot cX0_checkSpot 2 none, Cond.fieldLink RX0 84 "SpotAccount" "spotCount" "I", Cond.methodLink RX0 135 yX0_checkIndex, Cond.static yX0_checkIndex, Cond.code yX0_checkIndex cX0_checkIndex 2 none, Cond.classLink RX0 139 "java/lang/IndexOutOfBoundsException", Cond.initialized "java/lang/IndexOutOfBoundsException", Cond.methodLink RX0 126 yX0_isInBreak, Cond.instanceMethod yX0_isInBreak, Cond.selects RX0 yX0_isInBreak yX0_isInBreak, Cond.code yX0_isInBreak cX0_isInBreak 2 (some .boolean), Cond.methodLink RX0 68 yX0_checkState, Cond.static yX0_checkState]
def wsL_miss_r2 : List Cond := [Cond.code yX0_checkState cX0_checkState 1 none, Cond.classLink RX0 151 "java/lang/IllegalStateException", Cond.initialized "java/lang/IllegalStateException"]
def wsL_miss : List Cond := .codeWith yL_miss cL_miss 4 (some .int) [(0, 16, 19, 21), (0, 16, 22, 15)] :: ((wsL_miss_r1 ++ wsL_miss_r2) ++ wsX00 ++ (vx_atS RX0 143 "java/lang/IndexOutOfBoundsException" ["java/lang/RuntimeException", "java/lang/Exception"]).filter goodWord ++ (vx_atS RX0 155 "java/lang/IllegalStateException" ["java/lang/RuntimeException", "java/lang/Exception"]).filter goodWord)
def wsL_drop : List Cond := .codeWith yL_drop cL_drop 3 (some .int) [(0, 5, 8, 21), (0, 5, 11, 15)] :: ([.classLink RL 21 "java/lang/IndexOutOfBoundsException", .classLink RL 15 "java/lang/IllegalStateException", .methodLink RL 62 yX0_drop, .instanceMethod yX0_drop, .selects RX0 yX0_drop yX0_drop, .initialized RX0, .code yX0_drop cX0_drop 2 none, .fieldLink RX0 50 "SpotAccount" "spotState" "[I", .methodLink RX0 123 yX0_checkSpot, .instanceMethod yX0_checkSpot, .selects RX0 yX0_checkSpot yX0_checkSpot, .code yX0_checkSpot cX0_checkSpot 2 none, .fieldLink RX0 84 "SpotAccount" "spotCount" "I", .methodLink RX0 135 yX0_checkIndex, .static yX0_checkIndex, .code yX0_checkIndex cX0_checkIndex 2 none, .classLink RX0 139 "java/lang/IndexOutOfBoundsException", .initialized "java/lang/IndexOutOfBoundsException", .methodLink RX0 68 yX0_checkState, .static yX0_checkState, .code yX0_checkState cX0_checkState 1 none, .classLink RX0 151 "java/lang/IllegalStateException", .initialized "java/lang/IllegalStateException"] ++ wsX00 ++ (vx_atS RX0 143 "java/lang/IndexOutOfBoundsException" ["java/lang/RuntimeException", "java/lang/Exception"]).filter goodWord ++ (vx_atS RX0 155 "java/lang/IllegalStateException" ["java/lang/RuntimeException", "java/lang/Exception"]).filter goodWord)
def wsL_stateOf : List Cond := .codeWith yL_stateOf cL_stateOf 4 (some .int) [(0, 9, 12, 21)] :: ([.classLink RL 21 "java/lang/IndexOutOfBoundsException", .methodLink RL 66 yX0_stateOf, .instanceMethod yX0_stateOf, .selects RX0 yX0_stateOf yX0_stateOf, .initialized RX0, .code yX0_stateOf cX0_stateOf 2 (some .int), .fieldLink RX0 50 "SpotAccount" "spotState" "[I", .methodLink RX0 123 yX0_checkSpot, .instanceMethod yX0_checkSpot, .selects RX0 yX0_checkSpot yX0_checkSpot, .code yX0_checkSpot cX0_checkSpot 2 none, .fieldLink RX0 84 "SpotAccount" "spotCount" "I", .methodLink RX0 135 yX0_checkIndex, .static yX0_checkIndex, .code yX0_checkIndex cX0_checkIndex 2 none, .classLink RX0 139 "java/lang/IndexOutOfBoundsException", .initialized "java/lang/IndexOutOfBoundsException"] ++ wsX00 ++ (vx_atS RX0 143 "java/lang/IndexOutOfBoundsException" ["java/lang/RuntimeException", "java/lang/Exception"]).filter goodWord)
def wsL_breakOf : List Cond := .codeWith yL_breakOf cL_breakOf 4 (some .int) [(0, 9, 12, 21)] :: ([.classLink RL 21 "java/lang/IndexOutOfBoundsException", .methodLink RL 69 yX0_breakOf, .instanceMethod yX0_breakOf, .selects RX0 yX0_breakOf yX0_breakOf, .initialized RX0, .code yX0_breakOf cX0_breakOf 2 (some .int), .fieldLink RX0 47 "SpotAccount" "spotBreak" "[I", .methodLink RX0 123 yX0_checkSpot, .instanceMethod yX0_checkSpot, .selects RX0 yX0_checkSpot yX0_checkSpot, .code yX0_checkSpot cX0_checkSpot 2 none, .fieldLink RX0 84 "SpotAccount" "spotCount" "I", .methodLink RX0 135 yX0_checkIndex, .static yX0_checkIndex, .code yX0_checkIndex cX0_checkIndex 2 none, .classLink RX0 139 "java/lang/IndexOutOfBoundsException", .initialized "java/lang/IndexOutOfBoundsException"] ++ wsX00 ++ (vx_atS RX0 143 "java/lang/IndexOutOfBoundsException" ["java/lang/RuntimeException", "java/lang/Exception"]).filter goodWord)
def wsL_delivered_r1 : List Cond := [Cond.classLink RL 21 "java/lang/IndexOutOfBoundsException", Cond.methodLink RL 72 yX0_delivered, Cond.instanceMethod yX0_delivered, Cond.selects RX0 yX0_delivered yX0_delivered, Cond.initialized RX0, Cond.code yX0_delivered cX0_delivered 2 (some .int), Cond.methodLink RX0 101 yX0_checkOrder, Cond.instanceMethod yX0_checkOrder, Cond.selects RX0 yX0_checkOrder yX0_checkOrder, Cond.code yX0_checkOrder cX0_checkOrder 2 none, Cond.fieldLink RX0 98 "SpotAccount" "orderCount" "I", Cond.methodLink RX0 135 yX0_checkIndex, Cond.static yX0_checkIndex, Cond.code yX0_checkIndex cX0_checkIndex 2 none, Cond.classLink RX0 139 "java/lang/IndexOutOfBoundsException", Cond.initialized "java/lang/IndexOutOfBoundsException", Cond.methodLink RX0 129 yX0_audience, Cond.instanceMethod yX0_audience, Cond.selects RX0 yX0_audience yX0_audience, Cond.code yX0_audience cX0_audience 5 (some .int), Cond.fieldLink RX0 84 "SpotAccount" "spotCount" "I", Cond.fieldLink RX0 44 "SpotAccount" "spotOrder" "[I", Cond.fieldLink RX0 50 "SpotAccount" "spotState" "[I", Cond.fieldLink RX0 47 "SpotAccount" "spotBreak" "[I"]
def wsL_delivered_r2 : List Cond := [Cond.methodLink RX0 156 yX0_ratingFor, Cond.instanceMethod yX0_ratingFor, Cond.selects RX0 yX0_ratingFor yX0_ratingFor, Cond.code yX0_ratingFor cX0_ratingFor 3 (some .int), Cond.fieldLink RX0 17 "SpotAccount" "ratings" "[I", Cond.fieldLink RX0 26 "SpotAccount" "orderGroup" "[I", Cond.methodLink RX0 80 yX0_ratingCell, Cond.static yX0_ratingCell, Cond.code yX0_ratingCell cX0_ratingCell 2 (some .int)]
def wsL_delivered : List Cond := .codeWith yL_delivered cL_delivered 4 (some .int) [(0, 9, 12, 21)] :: ((wsL_delivered_r1 ++ wsL_delivered_r2) ++ wsX00 ++ (vx_atS RX0 143 "java/lang/IndexOutOfBoundsException" ["java/lang/RuntimeException", "java/lang/Exception"]).filter goodWord)
def wsL_owed_r1 : List Cond := [Cond.classLink RL 21 "java/lang/IndexOutOfBoundsException", Cond.methodLink RL 75 yX0_owed, Cond.instanceMethod yX0_owed, Cond.selects RX0 yX0_owed yX0_owed, Cond.initialized RX0, Cond.code yX0_owed cX0_owed 2 (some .int), Cond.methodLink RX0 101 yX0_checkOrder, Cond.instanceMethod yX0_checkOrder, Cond.selects RX0 yX0_checkOrder yX0_checkOrder, Cond.code yX0_checkOrder cX0_checkOrder 2 none, Cond.fieldLink RX0 98 "SpotAccount" "orderCount" "I", Cond.methodLink RX0 135 yX0_checkIndex, Cond.static yX0_checkIndex, Cond.code yX0_checkIndex cX0_checkIndex 2 none, Cond.classLink RX0 139 "java/lang/IndexOutOfBoundsException", Cond.initialized "java/lang/IndexOutOfBoundsException", Cond.methodLink RX0 104 yX0_owedTo, Cond.instanceMethod yX0_owedTo, Cond.selects RX0 yX0_owedTo yX0_owedTo, Cond.code yX0_owedTo cX0_owedTo 2 (some .int), Cond.fieldLink RX0 41 "SpotAccount" "orderClosed" "[Z", Cond.fieldLink RX0 35 "SpotAccount" "orderPromise" "[I", Cond.methodLink RX0 169 Lib.Math.max.name, Cond.static Lib.Math.max.name]
def wsL_owed_r2 : List Cond := [Cond.initialized "java/lang/Math", Cond.code Lib.Math.max.name Lib.Math.max.code 2 (some .int), Cond.methodLink RX0 129 yX0_audience, Cond.instanceMethod yX0_audience, Cond.selects RX0 yX0_audience yX0_audience, Cond.code yX0_audience cX0_audience 5 (some .int), Cond.fieldLink RX0 84 "SpotAccount" "spotCount" "I", Cond.fieldLink RX0 44 "SpotAccount" "spotOrder" "[I", Cond.fieldLink RX0 50 "SpotAccount" "spotState" "[I", Cond.fieldLink RX0 47 "SpotAccount" "spotBreak" "[I", Cond.methodLink RX0 156 yX0_ratingFor, Cond.instanceMethod yX0_ratingFor, Cond.selects RX0 yX0_ratingFor yX0_ratingFor, Cond.code yX0_ratingFor cX0_ratingFor 3 (some .int), Cond.fieldLink RX0 17 "SpotAccount" "ratings" "[I", Cond.fieldLink RX0 26 "SpotAccount" "orderGroup" "[I", Cond.methodLink RX0 80 yX0_ratingCell, Cond.static yX0_ratingCell, Cond.code yX0_ratingCell cX0_ratingCell 2 (some .int)]
def wsL_owed : List Cond := .codeWith yL_owed cL_owed 4 (some .int) [(0, 9, 12, 21)] :: ((wsL_owed_r1 ++ wsL_owed_r2) ++ wsX00 ++ (vx_atS RX0 143 "java/lang/IndexOutOfBoundsException" ["java/lang/RuntimeException", "java/lang/Exception"]).filter goodWord)
def wsL_rest_r1 : List Cond := [Cond.classLink RL 21 "java/lang/IndexOutOfBoundsException", Cond.methodLink RL 78 yX0_rest, Cond.instanceMethod yX0_rest, Cond.selects RX0 yX0_rest yX0_rest, Cond.initialized RX0, Cond.code yX0_rest cX0_rest 2 (some .int), Cond.methodLink RX0 101 yX0_checkOrder, Cond.instanceMethod yX0_checkOrder, Cond.selects RX0 yX0_checkOrder yX0_checkOrder, Cond.code yX0_checkOrder cX0_checkOrder 2 none, Cond.fieldLink RX0 98 "SpotAccount" "orderCount" "I", Cond.methodLink RX0 135 yX0_checkIndex, Cond.static yX0_checkIndex, Cond.code yX0_checkIndex cX0_checkIndex 2 none, Cond.classLink RX0 139 "java/lang/IndexOutOfBoundsException", Cond.initialized "java/lang/IndexOutOfBoundsException", Cond.methodLink RX0 114 yX0_restOf, Cond.instanceMethod yX0_restOf, Cond.selects RX0 yX0_restOf yX0_restOf, Cond.code yX0_restOf cX0_restOf 4 (some .int), Cond.fieldLink RX0 84 "SpotAccount" "spotCount" "I", Cond.fieldLink RX0 44 "SpotAccount" "spotOrder" "[I", Cond.fieldLink RX0 53 "SpotAccount" "spotFree" "[Z", Cond.fieldLink RX0 50 "SpotAccount" "spotState" "[I"]
def wsL_rest_r2 : List Cond := [Cond.fieldLink RX0 47 "SpotAccount" "spotBreak" "[I", Cond.methodLink RX0 169 Lib.Math.max.name, Cond.static Lib.Math.max.name, Cond.initialized "java/lang/Math", Cond.code Lib.Math.max.name Lib.Math.max.code 2 (some .int), Cond.methodLink RX0 104 yX0_owedTo, Cond.instanceMethod yX0_owedTo, Cond.selects RX0 yX0_owedTo yX0_owedTo, Cond.code yX0_owedTo cX0_owedTo 2 (some .int), Cond.fieldLink RX0 41 "SpotAccount" "orderClosed" "[Z", Cond.fieldLink RX0 35 "SpotAccount" "orderPromise" "[I", Cond.methodLink RX0 129 yX0_audience, Cond.instanceMethod yX0_audience, Cond.selects RX0 yX0_audience yX0_audience, Cond.code yX0_audience cX0_audience 5 (some .int), Cond.methodLink RX0 156 yX0_ratingFor, Cond.instanceMethod yX0_ratingFor, Cond.selects RX0 yX0_ratingFor yX0_ratingFor, Cond.code yX0_ratingFor cX0_ratingFor 3 (some .int), Cond.fieldLink RX0 17 "SpotAccount" "ratings" "[I", Cond.fieldLink RX0 26 "SpotAccount" "orderGroup" "[I", Cond.methodLink RX0 80 yX0_ratingCell, Cond.static yX0_ratingCell, Cond.code yX0_ratingCell cX0_ratingCell 2 (some .int)]
def wsL_rest : List Cond := .codeWith yL_rest cL_rest 4 (some .int) [(0, 9, 12, 21)] :: ((wsL_rest_r1 ++ wsL_rest_r2) ++ wsX00 ++ (vx_atS RX0 143 "java/lang/IndexOutOfBoundsException" ["java/lang/RuntimeException", "java/lang/Exception"]).filter goodWord)
def wsL_bill_r1 : List Cond := [Cond.classLink RL 21 "java/lang/IndexOutOfBoundsException", Cond.methodLink RL 81 yX0_bill, Cond.instanceMethod yX0_bill, Cond.selects RX0 yX0_bill yX0_bill, Cond.initialized RX0, Cond.code yX0_bill cX0_bill 2 (some .int), Cond.methodLink RX0 101 yX0_checkOrder, Cond.instanceMethod yX0_checkOrder, Cond.selects RX0 yX0_checkOrder yX0_checkOrder, Cond.code yX0_checkOrder cX0_checkOrder 2 none, Cond.fieldLink RX0 98 "SpotAccount" "orderCount" "I", Cond.methodLink RX0 135 yX0_checkIndex, Cond.static yX0_checkIndex, Cond.code yX0_checkIndex cX0_checkIndex 2 none, Cond.classLink RX0 139 "java/lang/IndexOutOfBoundsException", Cond.initialized "java/lang/IndexOutOfBoundsException", Cond.methodLink RX0 132 yX0_billOf, Cond.instanceMethod yX0_billOf, Cond.selects RX0 yX0_billOf yX0_billOf, Cond.code yX0_billOf cX0_billOf 4 (some .int), Cond.fieldLink RX0 84 "SpotAccount" "spotCount" "I", Cond.fieldLink RX0 44 "SpotAccount" "spotOrder" "[I", Cond.fieldLink RX0 53 "SpotAccount" "spotFree" "[Z", Cond.fieldLink RX0 50 "SpotAccount" "spotState" "[I"]
def wsL_bill_r2 : List Cond := [Cond.fieldLink RX0 32 "SpotAccount" "orderPrice" "[I"]
def wsL_bill : List Cond := .codeWith yL_bill cL_bill 4 (some .int) [(0, 9, 12, 21)] :: ((wsL_bill_r1 ++ wsL_bill_r2) ++ wsX00 ++ (vx_atS RX0 143 "java/lang/IndexOutOfBoundsException" ["java/lang/RuntimeException", "java/lang/Exception"]).filter goodWord)
def wsL_billTo_r1 : List Cond := [Cond.classLink RL 13 "java/lang/IllegalArgumentException", Cond.methodLink RL 84 yX0_billTo, Cond.instanceMethod yX0_billTo, Cond.selects RX0 yX0_billTo yX0_billTo, Cond.initialized RX0, Cond.code yX0_billTo cX0_billTo 4 (some .int), Cond.fieldLink RX0 98 "SpotAccount" "orderCount" "I", Cond.fieldLink RX0 20 "SpotAccount" "orderAdvertiser" "[I", Cond.methodLink RX0 91 yX0_isAdvertiser, Cond.static yX0_isAdvertiser, Cond.code yX0_isAdvertiser cX0_isAdvertiser 1 (some .boolean), Cond.methodLink RX0 56 yX0_isWithin, Cond.static yX0_isWithin, Cond.code yX0_isWithin cX0_isWithin 3 (some .boolean), Cond.methodLink RX0 60 yX0_checkArgument, Cond.static yX0_checkArgument, Cond.code yX0_checkArgument cX0_checkArgument 1 none, Cond.classLink RX0 146 "java/lang/IllegalArgumentException", Cond.initialized "java/lang/IllegalArgumentException", Cond.methodLink RX0 132 yX0_billOf, Cond.instanceMethod yX0_billOf, Cond.selects RX0 yX0_billOf yX0_billOf, Cond.code yX0_billOf cX0_billOf 4 (some .int), Cond.fieldLink RX0 84 "SpotAccount" "spotCount" "I"]
def wsL_billTo_r2 : List Cond := [Cond.fieldLink RX0 44 "SpotAccount" "spotOrder" "[I", Cond.fieldLink RX0 53 "SpotAccount" "spotFree" "[Z", Cond.fieldLink RX0 50 "SpotAccount" "spotState" "[I", Cond.fieldLink RX0 32 "SpotAccount" "orderPrice" "[I"]
def wsL_billTo : List Cond := .codeWith yL_billTo cL_billTo 4 (some .int) [(0, 9, 12, 13)] :: ((wsL_billTo_r1 ++ wsL_billTo_r2) ++ wsX00 ++ (vx_atS RX0 150 "java/lang/IllegalArgumentException" ["java/lang/RuntimeException", "java/lang/Exception"]).filter goodWord)
def wsL_law0_r1 : List Cond := [Cond.classLink RL 8 RX0, Cond.instantiable RX0 18, Cond.initialized RX0, Cond.classLink RL 88 RX1, Cond.instantiable RX1 19, Cond.initialized RX1, Cond.arrayClass .long, Cond.methodLink RL 87 yX0_init, Cond.instanceMethod yX0_init, Cond.code yX0_init cX0_init 1 none, Cond.methodLink RX0 1 objectInit, Cond.instanceMethod objectInit, Cond.code objectInit ⟨#[0xb1]⟩ 1 none, Cond.arrayClass .int, Cond.fieldLink RX0 9 "SpotAccount" "breakSeconds" "[I", Cond.arrayClass .boolean, Cond.fieldLink RX0 13 "SpotAccount" "breakAired" "[Z", Cond.fieldLink RX0 17 "SpotAccount" "ratings" "[I", Cond.fieldLink RX0 20 "SpotAccount" "orderAdvertiser" "[I", Cond.fieldLink RX0 23 "SpotAccount" "orderCategory" "[I", Cond.fieldLink RX0 26 "SpotAccount" "orderGroup" "[I", Cond.fieldLink RX0 29 "SpotAccount" "orderSeconds" "[I", Cond.fieldLink RX0 32 "SpotAccount" "orderPrice" "[I", Cond.fieldLink RX0 35 "SpotAccount" "orderPromise" "[I"]
def wsL_law0_r2 : List Cond := [Cond.fieldLink RX0 38 "SpotAccount" "orderFloor" "[I", Cond.fieldLink RX0 41 "SpotAccount" "orderClosed" "[Z", Cond.fieldLink RX0 44 "SpotAccount" "spotOrder" "[I", Cond.fieldLink RX0 47 "SpotAccount" "spotBreak" "[I", Cond.fieldLink RX0 50 "SpotAccount" "spotState" "[I", Cond.fieldLink RX0 53 "SpotAccount" "spotFree" "[Z", Cond.methodLink RL 90 yX1_init, Cond.instanceMethod yX1_init, Cond.code yX1_init cX1_init 1 none, Cond.methodLink RX1 1 objectInit, Cond.fieldLink RX1 7 "SpotAccountModel" "length" "[I", Cond.fieldLink RX1 13 "SpotAccountModel" "aired" "[Z", Cond.fieldLink RX1 17 "SpotAccountModel" "rating" "[I", Cond.fieldLink RX1 20 "SpotAccountModel" "advertiser" "[I", Cond.fieldLink RX1 23 "SpotAccountModel" "category" "[I", Cond.fieldLink RX1 26 "SpotAccountModel" "group" "[I", Cond.fieldLink RX1 29 "SpotAccountModel" "seconds" "[I", Cond.fieldLink RX1 32 "SpotAccountModel" "price" "[I", Cond.fieldLink RX1 35 "SpotAccountModel" "promise" "[I", Cond.fieldLink RX1 38 "SpotAccountModel" "floor" "[I", Cond.fieldLink RX1 41 "SpotAccountModel" "closed" "[Z", Cond.fieldLink RX1 44 "SpotAccountModel" "order" "[I", Cond.fieldLink RX1 47 "SpotAccountModel" "where" "[I", Cond.fieldLink RX1 50 "SpotAccountModel" "state" "[I"]
def wsL_law0_r3 : List Cond := [Cond.fieldLink RX1 53 "SpotAccountModel" "free" "[Z", Cond.methodLink RL 91 yL_addBreak, Cond.static yL_addBreak, Cond.initialized RL, Cond.codeWith yL_addBreak cL_addBreak 4 (some .int) [(0, 9, 12, 13), (0, 9, 15, 15)], Cond.classLink RL 13 "java/lang/IllegalArgumentException", Cond.classLink RL 15 "java/lang/IllegalStateException", Cond.methodLink RL 7 yX0_addBreak, Cond.instanceMethod yX0_addBreak, Cond.selects RX0 yX0_addBreak yX0_addBreak, Cond.code yX0_addBreak cX0_addBreak 3 (some .int), Cond.fieldLink RX0 64 "SpotAccount" "breakCount" "I", Cond.methodLink RX0 56 yX0_isWithin, Cond.static yX0_isWithin, Cond.code yX0_isWithin cX0_isWithin 3 (some .boolean), Cond.methodLink RX0 60 yX0_checkArgument, Cond.static yX0_checkArgument, Cond.code yX0_checkArgument cX0_checkArgument 1 none, Cond.classLink RX0 146 "java/lang/IllegalArgumentException", Cond.initialized "java/lang/IllegalArgumentException", Cond.methodLink RX0 68 yX0_checkState, Cond.static yX0_checkState, Cond.code yX0_checkState cX0_checkState 1 none, Cond.classLink RX0 151 "java/lang/IllegalStateException"]
def wsL_law0_r4 : List Cond := [Cond.initialized "java/lang/IllegalStateException", Cond.methodLink RL 96 yX1_addBreak, Cond.instanceMethod yX1_addBreak, Cond.selects RX1 yX1_addBreak yX1_addBreak, Cond.code yX1_addBreak cX1_addBreak 2 (some .int), Cond.fieldLink RX1 60 "SpotAccountModel" "breaks" "I", Cond.methodLink RX1 63 yX1_in, Cond.static yX1_in, Cond.code yX1_in cX1_in 3 (some .boolean), Cond.methodLink RX1 73 yX1_goes, Cond.instanceMethod yX1_goes, Cond.selects RX1 yX1_goes yX1_goes, Cond.code yX1_goes cX1_goes 4 (some .boolean), Cond.fieldLink RX1 56 "SpotAccountModel" "thrown" "I", Cond.methodLink RL 97 yX1_thrown, Cond.instanceMethod yX1_thrown, Cond.selects RX1 yX1_thrown yX1_thrown, Cond.code yX1_thrown cX1_thrown 1 (some .int), Cond.methodLink RL 101 yL_rate, Cond.static yL_rate, Cond.codeWith yL_rate cL_rate 6 (some .int) [(0, 12, 15, 21), (0, 12, 19, 13)], Cond.classLink RL 21 "java/lang/IndexOutOfBoundsException", Cond.methodLink RL 17 yX0_rate, Cond.instanceMethod yX0_rate]
def wsL_law0_r5 : List Cond := [Cond.selects RX0 yX0_rate yX0_rate, Cond.code yX0_rate cX0_rate 6 (some .int), Cond.constant RX0 79 (100000), Cond.methodLink RX0 71 yX0_checkBreak, Cond.instanceMethod yX0_checkBreak, Cond.selects RX0 yX0_checkBreak yX0_checkBreak, Cond.code yX0_checkBreak cX0_checkBreak 2 none, Cond.methodLink RX0 135 yX0_checkIndex, Cond.static yX0_checkIndex, Cond.code yX0_checkIndex cX0_checkIndex 2 none, Cond.classLink RX0 139 "java/lang/IndexOutOfBoundsException", Cond.initialized "java/lang/IndexOutOfBoundsException", Cond.methodLink RX0 75 yX0_isGroup, Cond.static yX0_isGroup, Cond.code yX0_isGroup cX0_isGroup 1 (some .boolean), Cond.methodLink RX0 80 yX0_ratingCell, Cond.static yX0_ratingCell, Cond.code yX0_ratingCell cX0_ratingCell 2 (some .int), Cond.methodLink RL 104 yX1_rate, Cond.instanceMethod yX1_rate, Cond.selects RX1 yX1_rate yX1_rate, Cond.code yX1_rate cX1_rate 5 (some .int), Cond.constant RX1 81 (100000), Cond.methodLink RX1 77 yX1_isBreak]
def wsL_law0_r6 : List Cond := [Cond.instanceMethod yX1_isBreak, Cond.selects RX1 yX1_isBreak yX1_isBreak, Cond.code yX1_isBreak cX1_isBreak 2 (some .boolean), Cond.methodLink RL 105 yL_air, Cond.static yL_air, Cond.codeWith yL_air cL_air 4 (some .int) [(0, 9, 12, 21), (0, 9, 15, 15)], Cond.methodLink RL 23 yX0_air, Cond.instanceMethod yX0_air, Cond.selects RX0 yX0_air yX0_air, Cond.code yX0_air cX0_air 4 (some .int), Cond.fieldLink RX0 84 "SpotAccount" "spotCount" "I", Cond.methodLink RL 107 yX1_air, Cond.instanceMethod yX1_air, Cond.selects RX1 yX1_air yX1_air, Cond.code yX1_air cX1_air 5 (some .int), Cond.fieldLink RX1 70 "SpotAccountModel" "spots" "I", Cond.methodLink RL 108 yX0_breaks, Cond.instanceMethod yX0_breaks, Cond.selects RX0 yX0_breaks yX0_breaks, Cond.code yX0_breaks cX0_breaks 1 (some .int), Cond.methodLink RL 111 yX1_breaks, Cond.instanceMethod yX1_breaks, Cond.selects RX1 yX1_breaks yX1_breaks, Cond.code yX1_breaks cX1_breaks 1 (some .int)]
def wsL_law0_r7 : List Cond := [Cond.methodLink RX1 82 yX1_told, Cond.instanceMethod yX1_told, Cond.selects RX1 yX1_told yX1_told, Cond.code yX1_told cX1_told 2 (some .int), Cond.methodLink RL 112 yL_isAired, Cond.static yL_isAired, Cond.codeWith yL_isAired cL_isAired 4 (some .int) [(0, 16, 19, 21)], Cond.methodLink RL 26 yX0_isAired, Cond.instanceMethod yX0_isAired, Cond.selects RX0 yX0_isAired yX0_isAired, Cond.code yX0_isAired cX0_isAired 2 (some .boolean), Cond.methodLink RL 114 yX1_isAired, Cond.instanceMethod yX1_isAired, Cond.selects RX1 yX1_isAired yX1_isAired, Cond.code yX1_isAired cX1_isAired 2 (some .boolean), Cond.methodLink RL 115 yL_room, Cond.static yL_room, Cond.codeWith yL_room cL_room 4 (some .int) [(0, 9, 12, 21)], Cond.methodLink RL 30 yX0_room, Cond.instanceMethod yX0_room, Cond.selects RX0 yX0_room yX0_room, Cond.code yX0_room cX0_room 2 (some .int), Cond.methodLink RX0 87 yX0_secondsLeft, Cond.instanceMethod yX0_secondsLeft]
def wsL_law0_r8 : List Cond := [Cond.selects RX0 yX0_secondsLeft yX0_secondsLeft, Cond.code yX0_secondsLeft cX0_secondsLeft 4 (some .int), Cond.methodLink RX0 126 yX0_isInBreak, Cond.instanceMethod yX0_isInBreak, Cond.selects RX0 yX0_isInBreak yX0_isInBreak, Cond.code yX0_isInBreak cX0_isInBreak 2 (some .boolean), Cond.methodLink RL 117 yX1_room, Cond.instanceMethod yX1_room, Cond.selects RX1 yX1_room yX1_room, Cond.code yX1_room cX1_room 2 (some .int), Cond.methodLink RX1 90 yX1_roomWithout, Cond.instanceMethod yX1_roomWithout, Cond.selects RX1 yX1_roomWithout yX1_roomWithout, Cond.code yX1_roomWithout cX1_roomWithout 5 (some .int), Cond.methodLink RX1 86 yX1_stands, Cond.instanceMethod yX1_stands, Cond.selects RX1 yX1_stands yX1_stands, Cond.code yX1_stands cX1_stands 3 (some .boolean), Cond.methodLink RL 118 yL_rating, Cond.static yL_rating, Cond.codeWith yL_rating cL_rating 5 (some .int) [(0, 10, 13, 21), (0, 10, 17, 13)], Cond.methodLink RL 33 yX0_rating, Cond.instanceMethod yX0_rating, Cond.selects RX0 yX0_rating yX0_rating]
def wsL_law0_r9 : List Cond := [Cond.code yX0_rating cX0_rating 3 (some .int), Cond.methodLink RL 121 yX1_rating, Cond.instanceMethod yX1_rating, Cond.selects RX1 yX1_rating yX1_rating, Cond.code yX1_rating cX1_rating 3 (some .int), Cond.methodLink RL 122 yL_addOrder, Cond.static yL_addOrder, Cond.codeWith yL_addOrder cL_addOrder 10 (some .int) [(0, 20, 23, 13), (0, 20, 27, 15)], Cond.methodLink RL 37 yX0_addOrder, Cond.instanceMethod yX0_addOrder, Cond.selects RX0 yX0_addOrder yX0_addOrder, Cond.code yX0_addOrder cX0_addOrder 9 (some .int), Cond.constant RX0 97 (1000000), Cond.fieldLink RX0 98 "SpotAccount" "orderCount" "I", Cond.methodLink RX0 91 yX0_isAdvertiser, Cond.static yX0_isAdvertiser, Cond.code yX0_isAdvertiser cX0_isAdvertiser 1 (some .boolean), Cond.methodLink RX0 94 yX0_isSpotLength, Cond.static yX0_isSpotLength, Cond.code yX0_isSpotLength cX0_isSpotLength 1 (some .boolean), Cond.methodLink RL 125 yX1_addOrder, Cond.instanceMethod yX1_addOrder, Cond.selects RX1 yX1_addOrder yX1_addOrder, Cond.code yX1_addOrder cX1_addOrder 9 (some .int)]
def wsL_law0_r10 : List Cond := [Cond.constant RX1 94 (1000000), Cond.fieldLink RX1 67 "SpotAccountModel" "orders" "I", Cond.methodLink RL 126 yL_close, Cond.static yL_close, Cond.codeWith yL_close cL_close 4 (some .int) [(0, 9, 12, 21), (0, 9, 15, 15)], Cond.methodLink RL 41 yX0_close, Cond.instanceMethod yX0_close, Cond.selects RX0 yX0_close yX0_close, Cond.code yX0_close cX0_close 3 (some .int), Cond.methodLink RX0 101 yX0_checkOrder, Cond.instanceMethod yX0_checkOrder, Cond.selects RX0 yX0_checkOrder yX0_checkOrder, Cond.code yX0_checkOrder cX0_checkOrder 2 none, Cond.methodLink RX0 104 yX0_owedTo, Cond.instanceMethod yX0_owedTo, Cond.selects RX0 yX0_owedTo yX0_owedTo, Cond.code yX0_owedTo cX0_owedTo 2 (some .int), Cond.methodLink RX0 169 Lib.Math.max.name, Cond.static Lib.Math.max.name, Cond.initialized "java/lang/Math", Cond.code Lib.Math.max.name Lib.Math.max.code 2 (some .int), Cond.methodLink RX0 129 yX0_audience, Cond.instanceMethod yX0_audience, Cond.selects RX0 yX0_audience yX0_audience]
def wsL_law0_r11 : List Cond := [Cond.code yX0_audience cX0_audience 5 (some .int), Cond.methodLink RX0 156 yX0_ratingFor, Cond.instanceMethod yX0_ratingFor, Cond.selects RX0 yX0_ratingFor yX0_ratingFor, Cond.code yX0_ratingFor cX0_ratingFor 3 (some .int), Cond.methodLink RL 128 yX1_close, Cond.instanceMethod yX1_close, Cond.selects RX1 yX1_close yX1_close, Cond.code yX1_close cX1_close 4 (some .int), Cond.methodLink RX1 105 yX1_isOrder, Cond.instanceMethod yX1_isOrder, Cond.selects RX1 yX1_isOrder yX1_isOrder, Cond.code yX1_isOrder cX1_isOrder 2 (some .boolean), Cond.methodLink RX1 102 yX1_owes, Cond.instanceMethod yX1_owes, Cond.selects RX1 yX1_owes yX1_owes, Cond.code yX1_owes cX1_owes 3 (some .int), Cond.methodLink RX1 98 yX1_sums, Cond.instanceMethod yX1_sums, Cond.selects RX1 yX1_sums yX1_sums, Cond.code yX1_sums cX1_sums 6 (some .int), Cond.methodLink RX1 95 yX1_ratingFor, Cond.instanceMethod yX1_ratingFor, Cond.selects RX1 yX1_ratingFor yX1_ratingFor]
def wsL_law0_r12 : List Cond := [Cond.code yX1_ratingFor cX1_ratingFor 3 (some .int), Cond.methodLink RL 129 yX0_orders, Cond.instanceMethod yX0_orders, Cond.selects RX0 yX0_orders yX0_orders, Cond.code yX0_orders cX0_orders 1 (some .int), Cond.methodLink RL 132 yX1_orders, Cond.instanceMethod yX1_orders, Cond.selects RX1 yX1_orders yX1_orders, Cond.code yX1_orders cX1_orders 1 (some .int), Cond.methodLink RL 133 yL_whyNot, Cond.static yL_whyNot, Cond.codeWith yL_whyNot cL_whyNot 5 (some .int) [(0, 10, 13, 21)], Cond.methodLink RL 44 yX0_whyNot, Cond.instanceMethod yX0_whyNot, Cond.selects RX0 yX0_whyNot yX0_whyNot, Cond.code yX0_whyNot cX0_whyNot 3 (some .int), Cond.methodLink RX0 107 yX0_obstacle, Cond.instanceMethod yX0_obstacle, Cond.selects RX0 yX0_obstacle yX0_obstacle, Cond.code yX0_obstacle cX0_obstacle 3 (some .int), Cond.methodLink RX0 159 yX0_holdsAdvertiser, Cond.instanceMethod yX0_holdsAdvertiser, Cond.selects RX0 yX0_holdsAdvertiser yX0_holdsAdvertiser, Cond.code yX0_holdsAdvertiser cX0_holdsAdvertiser 4 (some .boolean)]
def wsL_law0_r13 : List Cond := [Cond.methodLink RX0 163 yX0_holdsRival, Cond.instanceMethod yX0_holdsRival, Cond.selects RX0 yX0_holdsRival yX0_holdsRival, Cond.code yX0_holdsRival cX0_holdsRival 4 (some .boolean), Cond.methodLink RX0 166 yX0_areRivals, Cond.instanceMethod yX0_areRivals, Cond.selects RX0 yX0_areRivals yX0_areRivals, Cond.code yX0_areRivals cX0_areRivals 3 (some .boolean), Cond.methodLink RL 135 yX1_whyNot, Cond.instanceMethod yX1_whyNot, Cond.selects RX1 yX1_whyNot yX1_whyNot, Cond.code yX1_whyNot cX1_whyNot 3 (some .int), Cond.methodLink RX1 112 yX1_why, Cond.instanceMethod yX1_why, Cond.selects RX1 yX1_why yX1_why, Cond.code yX1_why cX1_why 5 (some .int), Cond.methodLink RX1 108 yX1_isThere, Cond.instanceMethod yX1_isThere, Cond.selects RX1 yX1_isThere yX1_isThere, Cond.code yX1_isThere cX1_isThere 9 (some .boolean), Cond.methodLink RL 136 yL_place, Cond.static yL_place, Cond.codeWith yL_place cL_place 5 (some .int) [(0, 10, 13, 21), (0, 10, 17, 15)], Cond.methodLink RL 47 yX0_place]
def wsL_law0_r14 : List Cond := [Cond.instanceMethod yX0_place, Cond.selects RX0 yX0_place yX0_place, Cond.code yX0_place cX0_place 3 (some .int), Cond.methodLink RX0 110 yX0_addSpot, Cond.instanceMethod yX0_addSpot, Cond.selects RX0 yX0_addSpot yX0_addSpot, Cond.code yX0_addSpot cX0_addSpot 5 (some .int), Cond.methodLink RL 138 yX1_place, Cond.instanceMethod yX1_place, Cond.selects RX1 yX1_place yX1_place, Cond.code yX1_place cX1_place 5 (some .int), Cond.methodLink RX1 116 yX1_adds, Cond.instanceMethod yX1_adds, Cond.selects RX1 yX1_adds yX1_adds, Cond.code yX1_adds cX1_adds 4 (some .int), Cond.methodLink RL 139 yL_give, Cond.static yL_give, Cond.codeWith yL_give cL_give 5 (some .int) [(0, 10, 13, 21), (0, 10, 17, 15)], Cond.methodLink RL 50 yX0_give, Cond.instanceMethod yX0_give, Cond.selects RX0 yX0_give yX0_give, Cond.code yX0_give cX0_give 3 (some .int), Cond.methodLink RX0 114 yX0_restOf, Cond.instanceMethod yX0_restOf]
def wsL_law0_r15 : List Cond := [Cond.selects RX0 yX0_restOf yX0_restOf, Cond.code yX0_restOf cX0_restOf 4 (some .int), Cond.methodLink RL 141 yX1_give, Cond.instanceMethod yX1_give, Cond.selects RX1 yX1_give yX1_give, Cond.code yX1_give cX1_give 5 (some .int), Cond.methodLink RX1 119 yX1_left, Cond.instanceMethod yX1_left, Cond.selects RX1 yX1_left yX1_left, Cond.code yX1_left cX1_left 3 (some .int), Cond.methodLink RL 142 yL_fill, Cond.static yL_fill, Cond.codeWith yL_fill cL_fill 5 (some .int) [(0, 10, 13, 21), (0, 10, 17, 13), (0, 10, 21, 15)], Cond.methodLink RL 53 yX0_fill, Cond.instanceMethod yX0_fill, Cond.selects RX0 yX0_fill yX0_fill, Cond.code yX0_fill cX0_fill 5 (some .int), Cond.methodLink RX0 117 yX0_isShortOfPromise, Cond.instanceMethod yX0_isShortOfPromise, Cond.selects RX0 yX0_isShortOfPromise yX0_isShortOfPromise, Cond.code yX0_isShortOfPromise cX0_isShortOfPromise 2 (some .boolean), Cond.methodLink RX0 120 yX0_bestBreak, Cond.instanceMethod yX0_bestBreak, Cond.selects RX0 yX0_bestBreak yX0_bestBreak]
def wsL_law0_r16 : List Cond := [Cond.code yX0_bestBreak cX0_bestBreak 6 (some .int), Cond.methodLink RL 144 yX1_fill, Cond.instanceMethod yX1_fill, Cond.selects RX1 yX1_fill yX1_fill, Cond.code yX1_fill cX1_fill 6 (some .int), Cond.methodLink RX1 122 yX1_best, Cond.instanceMethod yX1_best, Cond.selects RX1 yX1_best yX1_best, Cond.code yX1_best cX1_best 5 (some .int), Cond.methodLink RL 145 yL_move, Cond.static yL_move, Cond.codeWith yL_move cL_move 5 (some .int) [(0, 10, 13, 21), (0, 10, 17, 15)], Cond.methodLink RL 56 yX0_move, Cond.instanceMethod yX0_move, Cond.selects RX0 yX0_move yX0_move, Cond.code yX0_move cX0_move 4 (some .int), Cond.methodLink RX0 123 yX0_checkSpot, Cond.instanceMethod yX0_checkSpot, Cond.selects RX0 yX0_checkSpot yX0_checkSpot, Cond.code yX0_checkSpot cX0_checkSpot 2 none, Cond.methodLink RL 147 yX1_move, Cond.instanceMethod yX1_move, Cond.selects RX1 yX1_move yX1_move, Cond.code yX1_move cX1_move 6 (some .int)]
def wsL_law0_r17 : List Cond := [Cond.methodLink RX1 125 yX1_isSpot, Cond.instanceMethod yX1_isSpot, Cond.selects RX1 yX1_isSpot yX1_isSpot, Cond.code yX1_isSpot cX1_isSpot 2 (some .boolean), Cond.methodLink RL 148 yL_miss, Cond.static yL_miss, Cond.codeWith yL_miss cL_miss 4 (some .int) [(0, 16, 19, 21), (0, 16, 22, 15)], Cond.methodLink RL 59 yX0_miss, Cond.instanceMethod yX0_miss, Cond.selects RX0 yX0_miss yX0_miss, Cond.code yX0_miss cX0_miss 3 (some .boolean), Cond.methodLink RL 150 yX1_miss, Cond.instanceMethod yX1_miss, Cond.selects RX1 yX1_miss yX1_miss, Cond.code yX1_miss cX1_miss 4 (some .boolean), Cond.methodLink RL 151 yL_drop, Cond.static yL_drop, Cond.codeWith yL_drop cL_drop 3 (some .int) [(0, 5, 8, 21), (0, 5, 11, 15)], Cond.methodLink RL 62 yX0_drop, Cond.instanceMethod yX0_drop, Cond.selects RX0 yX0_drop yX0_drop, Cond.code yX0_drop cX0_drop 2 none, Cond.methodLink RL 154 yX1_drop, Cond.instanceMethod yX1_drop]
def wsL_law0_r18 : List Cond := [Cond.selects RX1 yX1_drop yX1_drop, Cond.code yX1_drop cX1_drop 3 none, Cond.methodLink RL 155 yX0_spots, Cond.instanceMethod yX0_spots, Cond.selects RX0 yX0_spots yX0_spots, Cond.code yX0_spots cX0_spots 1 (some .int), Cond.methodLink RL 158 yX1_spots, Cond.instanceMethod yX1_spots, Cond.selects RX1 yX1_spots yX1_spots, Cond.code yX1_spots cX1_spots 1 (some .int), Cond.methodLink RL 159 yL_stateOf, Cond.static yL_stateOf, Cond.codeWith yL_stateOf cL_stateOf 4 (some .int) [(0, 9, 12, 21)], Cond.methodLink RL 66 yX0_stateOf, Cond.instanceMethod yX0_stateOf, Cond.selects RX0 yX0_stateOf yX0_stateOf, Cond.code yX0_stateOf cX0_stateOf 2 (some .int), Cond.methodLink RL 161 yX1_stateOf, Cond.instanceMethod yX1_stateOf, Cond.selects RX1 yX1_stateOf yX1_stateOf, Cond.code yX1_stateOf cX1_stateOf 2 (some .int), Cond.methodLink RL 162 yL_breakOf, Cond.static yL_breakOf, Cond.codeWith yL_breakOf cL_breakOf 4 (some .int) [(0, 9, 12, 21)]]
def wsL_law0_r19 : List Cond := [Cond.methodLink RL 69 yX0_breakOf, Cond.instanceMethod yX0_breakOf, Cond.selects RX0 yX0_breakOf yX0_breakOf, Cond.code yX0_breakOf cX0_breakOf 2 (some .int), Cond.methodLink RL 164 yX1_breakOf, Cond.instanceMethod yX1_breakOf, Cond.selects RX1 yX1_breakOf yX1_breakOf, Cond.code yX1_breakOf cX1_breakOf 2 (some .int), Cond.methodLink RL 165 yL_delivered, Cond.static yL_delivered, Cond.codeWith yL_delivered cL_delivered 4 (some .int) [(0, 9, 12, 21)], Cond.methodLink RL 72 yX0_delivered, Cond.instanceMethod yX0_delivered, Cond.selects RX0 yX0_delivered yX0_delivered, Cond.code yX0_delivered cX0_delivered 2 (some .int), Cond.methodLink RL 167 yX1_delivered, Cond.instanceMethod yX1_delivered, Cond.selects RX1 yX1_delivered yX1_delivered, Cond.code yX1_delivered cX1_delivered 2 (some .int), Cond.methodLink RL 168 yL_owed, Cond.static yL_owed, Cond.codeWith yL_owed cL_owed 4 (some .int) [(0, 9, 12, 21)], Cond.methodLink RL 75 yX0_owed, Cond.instanceMethod yX0_owed]
def wsL_law0_r20 : List Cond := [Cond.selects RX0 yX0_owed yX0_owed, Cond.code yX0_owed cX0_owed 2 (some .int), Cond.methodLink RL 170 yX1_owed, Cond.instanceMethod yX1_owed, Cond.selects RX1 yX1_owed yX1_owed, Cond.code yX1_owed cX1_owed 2 (some .int), Cond.methodLink RL 171 yL_rest, Cond.static yL_rest, Cond.codeWith yL_rest cL_rest 4 (some .int) [(0, 9, 12, 21)], Cond.methodLink RL 78 yX0_rest, Cond.instanceMethod yX0_rest, Cond.selects RX0 yX0_rest yX0_rest, Cond.code yX0_rest cX0_rest 2 (some .int), Cond.methodLink RL 173 yX1_rest, Cond.instanceMethod yX1_rest, Cond.selects RX1 yX1_rest yX1_rest, Cond.code yX1_rest cX1_rest 2 (some .int), Cond.methodLink RL 174 yL_bill, Cond.static yL_bill, Cond.codeWith yL_bill cL_bill 4 (some .int) [(0, 9, 12, 21)], Cond.methodLink RL 81 yX0_bill, Cond.instanceMethod yX0_bill, Cond.selects RX0 yX0_bill yX0_bill, Cond.code yX0_bill cX0_bill 2 (some .int)]
def wsL_law0_r21 : List Cond := [Cond.methodLink RX0 132 yX0_billOf, Cond.instanceMethod yX0_billOf, Cond.selects RX0 yX0_billOf yX0_billOf, Cond.code yX0_billOf cX0_billOf 4 (some .int), Cond.methodLink RL 176 yX1_bill, Cond.instanceMethod yX1_bill, Cond.selects RX1 yX1_bill yX1_bill, Cond.code yX1_bill cX1_bill 2 (some .int), Cond.methodLink RX1 128 yX1_billOf, Cond.instanceMethod yX1_billOf, Cond.selects RX1 yX1_billOf yX1_billOf, Cond.code yX1_billOf cX1_billOf 4 (some .int), Cond.methodLink RL 177 yL_billTo, Cond.static yL_billTo, Cond.codeWith yL_billTo cL_billTo 4 (some .int) [(0, 9, 12, 13)], Cond.methodLink RL 84 yX0_billTo, Cond.instanceMethod yX0_billTo, Cond.selects RX0 yX0_billTo yX0_billTo, Cond.code yX0_billTo cX0_billTo 4 (some .int), Cond.methodLink RL 179 yX1_billTo, Cond.instanceMethod yX1_billTo, Cond.selects RX1 yX1_billTo yX1_billTo, Cond.code yX1_billTo cX1_billTo 5 (some .int), Cond.methodLink RL 180 yX0_mostOwed]
def wsL_law0_r22 : List Cond := [Cond.instanceMethod yX0_mostOwed, Cond.selects RX0 yX0_mostOwed yX0_mostOwed, Cond.code yX0_mostOwed cX0_mostOwed 5 (some .int), Cond.methodLink RL 183 yX1_mostOwed, Cond.instanceMethod yX1_mostOwed, Cond.selects RX1 yX1_mostOwed yX1_mostOwed, Cond.code yX1_mostOwed cX1_mostOwed 5 (some .int)]
def wsL_law0 : List Cond := (wsL_law0_r1 ++ (wsL_law0_r2 ++ (wsL_law0_r3 ++ (wsL_law0_r4 ++ (wsL_law0_r5 ++ (wsL_law0_r6 ++ (wsL_law0_r7 ++ (wsL_law0_r8 ++ (wsL_law0_r9 ++ (wsL_law0_r10 ++ (wsL_law0_r11 ++ (wsL_law0_r12 ++ (wsL_law0_r13 ++ (wsL_law0_r14 ++ (wsL_law0_r15 ++ (wsL_law0_r16 ++ (wsL_law0_r17 ++ (wsL_law0_r18 ++ (wsL_law0_r19 ++ (wsL_law0_r20 ++ (wsL_law0_r21 ++ wsL_law0_r22))))))))))))))))))))) ++ wsX00 ++ wsX10 ++ ([] : List Cond)
def wsL_law : List Cond := wsL_law0 ++ (vx_atS RX0 150 "java/lang/IllegalArgumentException" ["java/lang/RuntimeException", "java/lang/Exception"]).filter goodWord ++ (vx_atS RX0 155 "java/lang/IllegalStateException" ["java/lang/RuntimeException", "java/lang/Exception"]).filter goodWord ++ (vx_atS RX0 143 "java/lang/IndexOutOfBoundsException" ["java/lang/RuntimeException", "java/lang/Exception"]).filter goodWord
set_option maxRecDepth 20000 in
theorem wsL_law_in0_1 : ∀ w ∈ wsL_law0_r1, w ∈ lw_tbl := fun w h => (goodIn_p wsL_law0_r1 [48, 51] (by decide +kernel) (by decide +kernel) w h).1
set_option maxRecDepth 20000 in
theorem wsL_law_in0_2 : ∀ w ∈ wsL_law0_r2, w ∈ lw_tbl := fun w h => (goodIn_p wsL_law0_r2 [483] (by decide +kernel) (by decide +kernel) w h).1
set_option maxRecDepth 20000 in
theorem wsL_law_in0_3 : ∀ w ∈ wsL_law0_r3, w ∈ lw_tbl := fun w h => (goodIn_p wsL_law0_r3 [155, 158, 161, 232] (by decide +kernel) (by decide +kernel) w h).1
set_option maxRecDepth 20000 in
theorem wsL_law_in0_4 : ∀ w ∈ wsL_law0_r4, w ∈ lw_tbl := fun w h => (goodIn_p wsL_law0_r4 [550, 553, 557, 546] (by decide +kernel) (by decide +kernel) w h).1
set_option maxRecDepth 20000 in
theorem wsL_law_in0_5 : ∀ w ∈ wsL_law0_r5, w ∈ lw_tbl := fun w h => (goodIn_p wsL_law0_r5 [256, 260, 263, 282, 143, 561] (by decide +kernel) (by decide +kernel) w h).1
set_option maxRecDepth 20000 in
theorem wsL_law_in0_6 : ∀ w ∈ wsL_law0_r6, w ∈ lw_tbl := fun w h => (goodIn_p wsL_law0_r6 [565, 290, 570, 112, 574] (by decide +kernel) (by decide +kernel) w h).1
set_option maxRecDepth 20000 in
theorem wsL_law_in0_7 : ∀ w ∈ wsL_law0_r7, w ∈ lw_tbl := fun w h => (goodIn_p wsL_law0_r7 [578, 297, 582, 304] (by decide +kernel) (by decide +kernel) w h).1
set_option maxRecDepth 20000 in
theorem wsL_law_in0_8 : ∀ w ∈ wsL_law0_r8, w ∈ lw_tbl := fun w h => (goodIn_p wsL_law0_r8 [308, 312, 586, 590, 594] (by decide +kernel) (by decide +kernel) w h).1
set_option maxRecDepth 20000 in
theorem wsL_law_in0_9 : ∀ w ∈ wsL_law0_r9, w ∈ lw_tbl := fun w h => (goodIn_p wsL_law0_r9 [319, 598, 326, 329, 332, 602] (by decide +kernel) (by decide +kernel) w h).1
set_option maxRecDepth 20000 in
theorem wsL_law_in0_10 : ∀ w ∈ wsL_law0_r10, w ∈ lw_tbl := fun w h => (goodIn_p wsL_law0_r10 [340, 344, 132, 146] (by decide +kernel) (by decide +kernel) w h).1
set_option maxRecDepth 20000 in
theorem wsL_law_in0_11 : ∀ w ∈ wsL_law0_r11, w ∈ lw_tbl := fun w h => (goodIn_p wsL_law0_r11 [136, 140, 607, 611, 615, 619] (by decide +kernel) (by decide +kernel) w h).1
set_option maxRecDepth 20000 in
theorem wsL_law_in0_12 : ∀ w ∈ wsL_law0_r12, w ∈ lw_tbl := fun w h => (goodIn_p wsL_law0_r12 [623, 116, 627, 351, 355, 359] (by decide +kernel) (by decide +kernel) w h).1
set_option maxRecDepth 20000 in
theorem wsL_law_in0_13 : ∀ w ∈ wsL_law0_r13, w ∈ lw_tbl := fun w h => (goodIn_p wsL_law0_r13 [363, 367, 631, 635, 639] (by decide +kernel) (by decide +kernel) w h).1
set_option maxRecDepth 20000 in
theorem wsL_law_in0_14 : ∀ w ∈ wsL_law0_r14, w ∈ lw_tbl := fun w h => (goodIn_p wsL_law0_r14 [374, 378, 643, 647, 385] (by decide +kernel) (by decide +kernel) w h).1
set_option maxRecDepth 20000 in
theorem wsL_law_in0_15 : ∀ w ∈ wsL_law0_r15, w ∈ lw_tbl := fun w h => (goodIn_p wsL_law0_r15 [128, 651, 655, 392, 396] (by decide +kernel) (by decide +kernel) w h).1
set_option maxRecDepth 20000 in
theorem wsL_law_in0_16 : ∀ w ∈ wsL_law0_r16, w ∈ lw_tbl := fun w h => (goodIn_p wsL_law0_r16 [400, 659, 663, 407, 411, 667] (by decide +kernel) (by decide +kernel) w h).1
set_option maxRecDepth 20000 in
theorem wsL_law_in0_17 : ∀ w ∈ wsL_law0_r17, w ∈ lw_tbl := fun w h => (goodIn_p wsL_law0_r17 [671, 418, 675, 425] (by decide +kernel) (by decide +kernel) w h).1
set_option maxRecDepth 20000 in
theorem wsL_law_in0_18 : ∀ w ∈ wsL_law0_r18, w ∈ lw_tbl := fun w h => (goodIn_p wsL_law0_r18 [679, 120, 683, 432, 687] (by decide +kernel) (by decide +kernel) w h).1
set_option maxRecDepth 20000 in
theorem wsL_law_in0_19 : ∀ w ∈ wsL_law0_r19, w ∈ lw_tbl := fun w h => (goodIn_p wsL_law0_r19 [439, 691, 446, 695] (by decide +kernel) (by decide +kernel) w h).1
set_option maxRecDepth 20000 in
theorem wsL_law_in0_20 : ∀ w ∈ wsL_law0_r20, w ∈ lw_tbl := fun w h => (goodIn_p wsL_law0_r20 [453, 699, 460, 703, 467] (by decide +kernel) (by decide +kernel) w h).1
set_option maxRecDepth 20000 in
theorem wsL_law_in0_21 : ∀ w ∈ wsL_law0_r21, w ∈ lw_tbl := fun w h => (goodIn_p wsL_law0_r21 [471, 707, 711, 478, 715] (by decide +kernel) (by decide +kernel) w h).1
set_option maxRecDepth 20000 in
theorem wsL_law_in0_22 : ∀ w ∈ wsL_law0_r22, w ∈ lw_tbl := fun w h => (goodIn_p wsL_law0_r22 [124, 719] (by decide +kernel) (by decide +kernel) w h).1
set_option maxRecDepth 20000 in
theorem wsL_law_in0_X0 : ∀ w ∈ wsX00, w ∈ lw_tbl := fun w h => (goodIn_p wsX00 [] (by decide +kernel) (by decide +kernel) w h).1
set_option maxRecDepth 20000 in
theorem wsL_law_in0_X1 : ∀ w ∈ wsX10, w ∈ lw_tbl := fun w h => (goodIn_p wsX10 [] (by decide +kernel) (by decide +kernel) w h).1
theorem wsL_law_in0 : ∀ w ∈ wsL_law0, w ∈ lw_tbl := fun w h => (List.mem_append.mp h).elim (fun h => (List.mem_append.mp h).elim (fun h => (List.mem_append.mp h).elim (fun h => (List.mem_append.mp h).elim (fun h => wsL_law_in0_1 w h) (fun h => (List.mem_append.mp h).elim (fun h => wsL_law_in0_2 w h) (fun h => (List.mem_append.mp h).elim (fun h => wsL_law_in0_3 w h) (fun h => (List.mem_append.mp h).elim (fun h => wsL_law_in0_4 w h) (fun h => (List.mem_append.mp h).elim (fun h => wsL_law_in0_5 w h) (fun h => (List.mem_append.mp h).elim (fun h => wsL_law_in0_6 w h) (fun h => (List.mem_append.mp h).elim (fun h => wsL_law_in0_7 w h) (fun h => (List.mem_append.mp h).elim (fun h => wsL_law_in0_8 w h) (fun h => (List.mem_append.mp h).elim (fun h => wsL_law_in0_9 w h) (fun h => (List.mem_append.mp h).elim (fun h => wsL_law_in0_10 w h) (fun h => (List.mem_append.mp h).elim (fun h => wsL_law_in0_11 w h) (fun h => (List.mem_append.mp h).elim (fun h => wsL_law_in0_12 w h) (fun h => (List.mem_append.mp h).elim (fun h => wsL_law_in0_13 w h) (fun h => (List.mem_append.mp h).elim (fun h => wsL_law_in0_14 w h) (fun h => (List.mem_append.mp h).elim (fun h => wsL_law_in0_15 w h) (fun h => (List.mem_append.mp h).elim (fun h => wsL_law_in0_16 w h) (fun h => (List.mem_append.mp h).elim (fun h => wsL_law_in0_17 w h) (fun h => (List.mem_append.mp h).elim (fun h => wsL_law_in0_18 w h) (fun h => (List.mem_append.mp h).elim (fun h => wsL_law_in0_19 w h) (fun h => (List.mem_append.mp h).elim (fun h => wsL_law_in0_20 w h) (fun h => (List.mem_append.mp h).elim (fun h => wsL_law_in0_21 w h) (fun h => wsL_law_in0_22 w h)))))))))))))))))))))) (fun h => wsL_law_in0_X0 w h)) (fun h => wsL_law_in0_X1 w h)) (fun h => nomatch h)
theorem wsL_law_x0 : ∀ w ∈ (vx_atS RX0 150 "java/lang/IllegalArgumentException" ["java/lang/RuntimeException", "java/lang/Exception"]).filter goodWord, w ∈ lw_tbl := by decide +kernel
theorem wsL_law_x1 : ∀ w ∈ (vx_atS RX0 155 "java/lang/IllegalStateException" ["java/lang/RuntimeException", "java/lang/Exception"]).filter goodWord, w ∈ lw_tbl := by decide +kernel
theorem wsL_law_x2 : ∀ w ∈ (vx_atS RX0 143 "java/lang/IndexOutOfBoundsException" ["java/lang/RuntimeException", "java/lang/Exception"]).filter goodWord, w ∈ lw_tbl := by decide +kernel
theorem wsL_law_in : ∀ w ∈ wsL_law, w ∈ lw_tbl := fun w h => (List.mem_append.mp h).elim (fun h => (List.mem_append.mp h).elim (fun h => (List.mem_append.mp h).elim (fun h => wsL_law_in0 w h) (fun h => wsL_law_x0 w h)) (fun h => wsL_law_x1 w h)) (fun h => wsL_law_x2 w h)
theorem inlX0 : ∀ w ∈ wsX00, w ∈ wsL_law := fun _ h => List.mem_append_left _ (List.mem_append_left _ (List.mem_append_left _ (List.mem_append_left _ (List.mem_append_left _ (List.mem_append_right _ h)))))
theorem inX0 : ∀ w ∈ wsX00, w ∈ lw_tbl := fun w h => wsL_law_in w (inlX0 w h)
theorem inlX1 : ∀ w ∈ wsX10, w ∈ wsL_law := fun _ h => List.mem_append_left _ (List.mem_append_left _ (List.mem_append_left _ (List.mem_append_left _ (List.mem_append_right _ h))))
theorem inX1 : ∀ w ∈ wsX10, w ∈ lw_tbl := fun w h => wsL_law_in w (inlX1 w h)
theorem inJ9 : ∀ w ∈ wsJ90, w ∈ lw_tbl := by decide +kernel
theorem inJ0 : ∀ w ∈ wsJ00, w ∈ lw_tbl := by decide +kernel
end
section
theorem dX0_init_0 : decode cX0_init 0 = .ok (.aload_n 0, 1) := by decide +kernel
theorem dX0_init_1 : decode cX0_init 1 = .ok (.invokespecial 1, 3) := by decide +kernel
theorem dX0_init_4 : decode cX0_init 4 = .ok (.aload_n 0, 1) := by decide +kernel
theorem dX0_init_5 : decode cX0_init 5 = .ok (.bipush 24, 2) := by decide +kernel
theorem dX0_init_7 : decode cX0_init 7 = .ok (.newarray .int, 2) := by decide +kernel
theorem dX0_init_9 : decode cX0_init 9 = .ok (.putfield 9, 3) := by decide +kernel
theorem dX0_init_12 : decode cX0_init 12 = .ok (.aload_n 0, 1) := by decide +kernel
theorem dX0_init_13 : decode cX0_init 13 = .ok (.bipush 24, 2) := by decide +kernel
theorem dX0_init_15 : decode cX0_init 15 = .ok (.newarray .boolean, 2) := by decide +kernel
theorem dX0_init_17 : decode cX0_init 17 = .ok (.putfield 13, 3) := by decide +kernel
theorem dX0_init_20 : decode cX0_init 20 = .ok (.aload_n 0, 1) := by decide +kernel
theorem dX0_init_21 : decode cX0_init 21 = .ok (.bipush 72, 2) := by decide +kernel
theorem dX0_init_23 : decode cX0_init 23 = .ok (.newarray .int, 2) := by decide +kernel
theorem dX0_init_25 : decode cX0_init 25 = .ok (.putfield 17, 3) := by decide +kernel
theorem dX0_init_28 : decode cX0_init 28 = .ok (.aload_n 0, 1) := by decide +kernel
theorem dX0_init_29 : decode cX0_init 29 = .ok (.bipush 20, 2) := by decide +kernel
theorem dX0_init_31 : decode cX0_init 31 = .ok (.newarray .int, 2) := by decide +kernel
theorem dX0_init_33 : decode cX0_init 33 = .ok (.putfield 20, 3) := by decide +kernel
theorem dX0_init_36 : decode cX0_init 36 = .ok (.aload_n 0, 1) := by decide +kernel
theorem dX0_init_37 : decode cX0_init 37 = .ok (.bipush 20, 2) := by decide +kernel
theorem dX0_init_39 : decode cX0_init 39 = .ok (.newarray .int, 2) := by decide +kernel
theorem dX0_init_41 : decode cX0_init 41 = .ok (.putfield 23, 3) := by decide +kernel
theorem dX0_init_44 : decode cX0_init 44 = .ok (.aload_n 0, 1) := by decide +kernel
theorem dX0_init_45 : decode cX0_init 45 = .ok (.bipush 20, 2) := by decide +kernel
theorem dX0_init_47 : decode cX0_init 47 = .ok (.newarray .int, 2) := by decide +kernel
theorem dX0_init_49 : decode cX0_init 49 = .ok (.putfield 26, 3) := by decide +kernel
theorem dX0_init_52 : decode cX0_init 52 = .ok (.aload_n 0, 1) := by decide +kernel
theorem dX0_init_53 : decode cX0_init 53 = .ok (.bipush 20, 2) := by decide +kernel
theorem dX0_init_55 : decode cX0_init 55 = .ok (.newarray .int, 2) := by decide +kernel
theorem dX0_init_57 : decode cX0_init 57 = .ok (.putfield 29, 3) := by decide +kernel
theorem dX0_init_60 : decode cX0_init 60 = .ok (.aload_n 0, 1) := by decide +kernel
theorem dX0_init_61 : decode cX0_init 61 = .ok (.bipush 20, 2) := by decide +kernel
theorem dX0_init_63 : decode cX0_init 63 = .ok (.newarray .int, 2) := by decide +kernel
theorem dX0_init_65 : decode cX0_init 65 = .ok (.putfield 32, 3) := by decide +kernel
theorem dX0_init_68 : decode cX0_init 68 = .ok (.aload_n 0, 1) := by decide +kernel
theorem dX0_init_69 : decode cX0_init 69 = .ok (.bipush 20, 2) := by decide +kernel
theorem dX0_init_71 : decode cX0_init 71 = .ok (.newarray .int, 2) := by decide +kernel
theorem dX0_init_73 : decode cX0_init 73 = .ok (.putfield 35, 3) := by decide +kernel
theorem dX0_init_76 : decode cX0_init 76 = .ok (.aload_n 0, 1) := by decide +kernel
theorem dX0_init_77 : decode cX0_init 77 = .ok (.bipush 20, 2) := by decide +kernel
theorem dX0_init_79 : decode cX0_init 79 = .ok (.newarray .int, 2) := by decide +kernel
theorem dX0_init_81 : decode cX0_init 81 = .ok (.putfield 38, 3) := by decide +kernel
theorem dX0_init_84 : decode cX0_init 84 = .ok (.aload_n 0, 1) := by decide +kernel
theorem dX0_init_85 : decode cX0_init 85 = .ok (.bipush 20, 2) := by decide +kernel
theorem dX0_init_87 : decode cX0_init 87 = .ok (.newarray .boolean, 2) := by decide +kernel
theorem dX0_init_89 : decode cX0_init 89 = .ok (.putfield 41, 3) := by decide +kernel
theorem dX0_init_92 : decode cX0_init 92 = .ok (.aload_n 0, 1) := by decide +kernel
theorem dX0_init_93 : decode cX0_init 93 = .ok (.sipush 150, 3) := by decide +kernel
theorem dX0_init_96 : decode cX0_init 96 = .ok (.newarray .int, 2) := by decide +kernel
theorem dX0_init_98 : decode cX0_init 98 = .ok (.putfield 44, 3) := by decide +kernel
theorem dX0_init_101 : decode cX0_init 101 = .ok (.aload_n 0, 1) := by decide +kernel
theorem dX0_init_102 : decode cX0_init 102 = .ok (.sipush 150, 3) := by decide +kernel
theorem dX0_init_105 : decode cX0_init 105 = .ok (.newarray .int, 2) := by decide +kernel
theorem dX0_init_107 : decode cX0_init 107 = .ok (.putfield 47, 3) := by decide +kernel
theorem dX0_init_110 : decode cX0_init 110 = .ok (.aload_n 0, 1) := by decide +kernel
theorem dX0_init_111 : decode cX0_init 111 = .ok (.sipush 150, 3) := by decide +kernel
theorem dX0_init_114 : decode cX0_init 114 = .ok (.newarray .int, 2) := by decide +kernel
theorem dX0_init_116 : decode cX0_init 116 = .ok (.putfield 50, 3) := by decide +kernel
theorem dX0_init_119 : decode cX0_init 119 = .ok (.aload_n 0, 1) := by decide +kernel
theorem dX0_init_120 : decode cX0_init 120 = .ok (.sipush 150, 3) := by decide +kernel
theorem dX0_init_123 : decode cX0_init 123 = .ok (.newarray .boolean, 2) := by decide +kernel
theorem dX0_init_125 : decode cX0_init 125 = .ok (.putfield 53, 3) := by decide +kernel
theorem dX0_init_128 : decode cX0_init 128 = .ok (.return_, 1) := by decide +kernel
set_option maxRecDepth 20000 in
theorem ggX0_addBreak_X0_isWithin : GoodIn wsX0_addBreak wsX0_isWithin := goodIn_r _ [6] (by decide +kernel) (by decide +kernel)
set_option maxRecDepth 20000 in
theorem gX0_addBreak_X0_isWithin : GoodIn wsX0_addBreak (va_wsS RX0 56 yX0_isWithin wsX0_isWithin) := goodIn_app (goodIn_of _ (by decide +kernel)) ggX0_addBreak_X0_isWithin
set_option maxRecDepth 20000 in
theorem ggX0_addBreak_X0_checkArgument : GoodIn wsX0_addBreak wsX0_checkArgument := goodIn_ca (goodIn_r _ [9, 10, 11] (by decide +kernel) (by decide +kernel)) (goodIn_sub (fun _ h => List.mem_cons_of_mem _ (List.mem_append_left _ (List.mem_append_right _ h))) (by decide +kernel))
set_option maxRecDepth 20000 in
theorem gX0_addBreak_X0_checkArgument : GoodIn wsX0_addBreak (va_wsS RX0 60 yX0_checkArgument wsX0_checkArgument) := goodIn_app (goodIn_of _ (by decide +kernel)) ggX0_addBreak_X0_checkArgument
set_option maxRecDepth 20000 in
theorem ggX0_addBreak_X0_checkState : GoodIn wsX0_addBreak wsX0_checkState := goodIn_ca (goodIn_r _ [14, 15, 16] (by decide +kernel) (by decide +kernel)) (goodIn_sub (fun _ h => List.mem_cons_of_mem _ (List.mem_append_right _ h)) (by decide +kernel))
set_option maxRecDepth 20000 in
theorem gX0_addBreak_X0_checkState : GoodIn wsX0_addBreak (va_wsS RX0 68 yX0_checkState wsX0_checkState) := goodIn_app (goodIn_of _ (by decide +kernel)) ggX0_addBreak_X0_checkState
theorem dX0_addBreak_0 : decode cX0_addBreak 0 = .ok (.iload_n 1, 1) := by decide +kernel
theorem dX0_addBreak_1 : decode cX0_addBreak 1 = .ok (.bipush 15, 2) := by decide +kernel
theorem dX0_addBreak_3 : decode cX0_addBreak 3 = .ok (.sipush 600, 3) := by decide +kernel
theorem dX0_addBreak_6 : decode cX0_addBreak 6 = .ok (.invokestatic 56, 3) := by decide +kernel
theorem dX0_addBreak_9 : decode cX0_addBreak 9 = .ok (.invokestatic 60, 3) := by decide +kernel
theorem dX0_addBreak_12 : decode cX0_addBreak 12 = .ok (.aload_n 0, 1) := by decide +kernel
theorem dX0_addBreak_13 : decode cX0_addBreak 13 = .ok (.getfield 64, 3) := by decide +kernel
theorem dX0_addBreak_16 : decode cX0_addBreak 16 = .ok (.bipush 24, 2) := by decide +kernel
theorem dX0_addBreak_18 : decode cX0_addBreak 18 = .ok (.if_icmp .ge 7, 3) := by decide +kernel
theorem dX0_addBreak_21 : decode cX0_addBreak 21 = .ok (.iconst 1, 1) := by decide +kernel
theorem dX0_addBreak_22 : decode cX0_addBreak 22 = .ok (.goto 4, 3) := by decide +kernel
theorem dX0_addBreak_25 : decode cX0_addBreak 25 = .ok (.iconst 0, 1) := by decide +kernel
theorem dX0_addBreak_26 : decode cX0_addBreak 26 = .ok (.invokestatic 68, 3) := by decide +kernel
theorem dX0_addBreak_29 : decode cX0_addBreak 29 = .ok (.aload_n 0, 1) := by decide +kernel
theorem dX0_addBreak_30 : decode cX0_addBreak 30 = .ok (.getfield 64, 3) := by decide +kernel
theorem dX0_addBreak_33 : decode cX0_addBreak 33 = .ok (.istore_n 2, 1) := by decide +kernel
theorem dX0_addBreak_34 : decode cX0_addBreak 34 = .ok (.aload_n 0, 1) := by decide +kernel
theorem dX0_addBreak_35 : decode cX0_addBreak 35 = .ok (.getfield 9, 3) := by decide +kernel
theorem dX0_addBreak_38 : decode cX0_addBreak 38 = .ok (.iload_n 2, 1) := by decide +kernel
theorem dX0_addBreak_39 : decode cX0_addBreak 39 = .ok (.iload_n 1, 1) := by decide +kernel
theorem dX0_addBreak_40 : decode cX0_addBreak 40 = .ok (.iastore, 1) := by decide +kernel
theorem dX0_addBreak_41 : decode cX0_addBreak 41 = .ok (.aload_n 0, 1) := by decide +kernel
theorem dX0_addBreak_42 : decode cX0_addBreak 42 = .ok (.dup, 1) := by decide +kernel
theorem dX0_addBreak_43 : decode cX0_addBreak 43 = .ok (.getfield 64, 3) := by decide +kernel
theorem dX0_addBreak_46 : decode cX0_addBreak 46 = .ok (.iconst 1, 1) := by decide +kernel
theorem dX0_addBreak_47 : decode cX0_addBreak 47 = .ok (.iadd, 1) := by decide +kernel
theorem dX0_addBreak_48 : decode cX0_addBreak 48 = .ok (.putfield 64, 3) := by decide +kernel
theorem dX0_addBreak_51 : decode cX0_addBreak 51 = .ok (.iload_n 2, 1) := by decide +kernel
theorem dX0_addBreak_52 : decode cX0_addBreak 52 = .ok (.ireturn, 1) := by decide +kernel
set_option maxRecDepth 20000 in
theorem ggX0_rate_X0_checkBreak : GoodIn wsX0_rate wsX0_checkBreak := goodIn_ca (goodIn_r _ [7, 8, 9, 10, 6, 11, 12, 13, 28, 29, 30, 31, 32, 33, 34, 35, 36, 37, 38, 39, 40, 41, 42, 43, 44, 45] (by decide +kernel) (by decide +kernel)) (goodIn_sub (fun _ h => List.mem_cons_of_mem _ (List.mem_append_left _ (List.mem_append_right _ h))) (by decide +kernel))
set_option maxRecDepth 20000 in
theorem gX0_rate_X0_checkBreak : GoodIn wsX0_rate (wsV RX0 71 RX0 yX0_checkBreak wsX0_checkBreak) := goodIn_app (goodIn_of _ (by decide +kernel)) ggX0_rate_X0_checkBreak
set_option maxRecDepth 20000 in
theorem ggX0_rate_X0_isGroup : GoodIn wsX0_rate wsX0_isGroup := goodIn_r _ [16, 17, 18, 6, 19] (by decide +kernel) (by decide +kernel)
set_option maxRecDepth 20000 in
theorem gX0_rate_X0_isGroup : GoodIn wsX0_rate (va_wsS RX0 75 yX0_isGroup wsX0_isGroup) := goodIn_app (goodIn_of _ (by decide +kernel)) ggX0_rate_X0_isGroup
set_option maxRecDepth 20000 in
theorem ggX0_rate_X0_isWithin : GoodIn wsX0_rate wsX0_isWithin := goodIn_r _ [19] (by decide +kernel) (by decide +kernel)
set_option maxRecDepth 20000 in
theorem gX0_rate_X0_isWithin : GoodIn wsX0_rate (va_wsS RX0 56 yX0_isWithin wsX0_isWithin) := goodIn_app (goodIn_of _ (by decide +kernel)) ggX0_rate_X0_isWithin
set_option maxRecDepth 20000 in
theorem ggX0_rate_X0_checkArgument : GoodIn wsX0_rate wsX0_checkArgument := goodIn_ca (goodIn_r _ [22, 23, 24] (by decide +kernel) (by decide +kernel)) (goodIn_sub (fun _ h => List.mem_cons_of_mem _ (List.mem_append_right _ h)) (by decide +kernel))
set_option maxRecDepth 20000 in
theorem gX0_rate_X0_checkArgument : GoodIn wsX0_rate (va_wsS RX0 60 yX0_checkArgument wsX0_checkArgument) := goodIn_app (goodIn_of _ (by decide +kernel)) ggX0_rate_X0_checkArgument
set_option maxRecDepth 20000 in
theorem ggX0_rate_X0_ratingCell : GoodIn wsX0_rate wsX0_ratingCell := goodIn_r _ [27] (by decide +kernel) (by decide +kernel)
set_option maxRecDepth 20000 in
theorem gX0_rate_X0_ratingCell : GoodIn wsX0_rate (va_wsS RX0 80 yX0_ratingCell wsX0_ratingCell) := goodIn_app (goodIn_of _ (by decide +kernel)) ggX0_rate_X0_ratingCell
theorem dX0_rate_0 : decode cX0_rate 0 = .ok (.aload_n 0, 1) := by decide +kernel
theorem dX0_rate_1 : decode cX0_rate 1 = .ok (.iload_n 1, 1) := by decide +kernel
theorem dX0_rate_2 : decode cX0_rate 2 = .ok (.invokevirtual 71, 3) := by decide +kernel
theorem dX0_rate_5 : decode cX0_rate 5 = .ok (.iload_n 2, 1) := by decide +kernel
theorem dX0_rate_6 : decode cX0_rate 6 = .ok (.invokestatic 75, 3) := by decide +kernel
theorem dX0_rate_9 : decode cX0_rate 9 = .ok (.ifCond .eq 17, 3) := by decide +kernel
theorem dX0_rate_12 : decode cX0_rate 12 = .ok (.iload_n 3, 1) := by decide +kernel
theorem dX0_rate_13 : decode cX0_rate 13 = .ok (.iconst 0, 1) := by decide +kernel
theorem dX0_rate_14 : decode cX0_rate 14 = .ok (.ldc 79, 2) := by decide +kernel
theorem dX0_rate_16 : decode cX0_rate 16 = .ok (.invokestatic 56, 3) := by decide +kernel
theorem dX0_rate_19 : decode cX0_rate 19 = .ok (.ifCond .eq 7, 3) := by decide +kernel
theorem dX0_rate_22 : decode cX0_rate 22 = .ok (.iconst 1, 1) := by decide +kernel
theorem dX0_rate_23 : decode cX0_rate 23 = .ok (.goto 4, 3) := by decide +kernel
theorem dX0_rate_26 : decode cX0_rate 26 = .ok (.iconst 0, 1) := by decide +kernel
theorem dX0_rate_27 : decode cX0_rate 27 = .ok (.invokestatic 60, 3) := by decide +kernel
theorem dX0_rate_30 : decode cX0_rate 30 = .ok (.iload_n 1, 1) := by decide +kernel
theorem dX0_rate_31 : decode cX0_rate 31 = .ok (.iload_n 2, 1) := by decide +kernel
theorem dX0_rate_32 : decode cX0_rate 32 = .ok (.invokestatic 80, 3) := by decide +kernel
theorem dX0_rate_35 : decode cX0_rate 35 = .ok (.istore 4, 2) := by decide +kernel
theorem dX0_rate_37 : decode cX0_rate 37 = .ok (.aload_n 0, 1) := by decide +kernel
theorem dX0_rate_38 : decode cX0_rate 38 = .ok (.getfield 17, 3) := by decide +kernel
theorem dX0_rate_41 : decode cX0_rate 41 = .ok (.iload 4, 2) := by decide +kernel
theorem dX0_rate_43 : decode cX0_rate 43 = .ok (.iaload, 1) := by decide +kernel
theorem dX0_rate_44 : decode cX0_rate 44 = .ok (.istore 5, 2) := by decide +kernel
theorem dX0_rate_46 : decode cX0_rate 46 = .ok (.aload_n 0, 1) := by decide +kernel
theorem dX0_rate_47 : decode cX0_rate 47 = .ok (.getfield 17, 3) := by decide +kernel
theorem dX0_rate_50 : decode cX0_rate 50 = .ok (.iload 4, 2) := by decide +kernel
theorem dX0_rate_52 : decode cX0_rate 52 = .ok (.iload_n 3, 1) := by decide +kernel
theorem dX0_rate_53 : decode cX0_rate 53 = .ok (.iastore, 1) := by decide +kernel
theorem dX0_rate_54 : decode cX0_rate 54 = .ok (.iload 5, 2) := by decide +kernel
theorem dX0_rate_56 : decode cX0_rate 56 = .ok (.ireturn, 1) := by decide +kernel
set_option maxRecDepth 20000 in
theorem ggX0_air_X0_checkBreak : GoodIn wsX0_air wsX0_checkBreak := goodIn_ca (goodIn_r _ [9, 10, 11, 12, 8, 13, 14, 15, 21, 22, 23, 24, 25, 26, 27, 28, 29, 30, 31, 32, 33, 34, 35, 36, 37, 38] (by decide +kernel) (by decide +kernel)) (goodIn_sub (fun _ h => List.mem_cons_of_mem _ (List.mem_append_left _ (List.mem_append_right _ h))) (by decide +kernel))
set_option maxRecDepth 20000 in
theorem gX0_air_X0_checkBreak : GoodIn wsX0_air (wsV RX0 71 RX0 yX0_checkBreak wsX0_checkBreak) := goodIn_app (goodIn_of _ (by decide +kernel)) ggX0_air_X0_checkBreak
set_option maxRecDepth 20000 in
theorem ggX0_air_X0_checkState : GoodIn wsX0_air wsX0_checkState := goodIn_ca (goodIn_r _ [18, 19, 20] (by decide +kernel) (by decide +kernel)) (goodIn_sub (fun _ h => List.mem_cons_of_mem _ (List.mem_append_right _ h)) (by decide +kernel))
set_option maxRecDepth 20000 in
theorem gX0_air_X0_checkState : GoodIn wsX0_air (va_wsS RX0 68 yX0_checkState wsX0_checkState) := goodIn_app (goodIn_of _ (by decide +kernel)) ggX0_air_X0_checkState
theorem dX0_air_0 : decode cX0_air 0 = .ok (.aload_n 0, 1) := by decide +kernel
theorem dX0_air_1 : decode cX0_air 1 = .ok (.iload_n 1, 1) := by decide +kernel
theorem dX0_air_2 : decode cX0_air 2 = .ok (.invokevirtual 71, 3) := by decide +kernel
theorem dX0_air_5 : decode cX0_air 5 = .ok (.aload_n 0, 1) := by decide +kernel
theorem dX0_air_6 : decode cX0_air 6 = .ok (.getfield 13, 3) := by decide +kernel
theorem dX0_air_9 : decode cX0_air 9 = .ok (.iload_n 1, 1) := by decide +kernel
theorem dX0_air_10 : decode cX0_air 10 = .ok (.baload, 1) := by decide +kernel
theorem dX0_air_11 : decode cX0_air 11 = .ok (.ifCond .ne 7, 3) := by decide +kernel
theorem dX0_air_14 : decode cX0_air 14 = .ok (.iconst 1, 1) := by decide +kernel
theorem dX0_air_15 : decode cX0_air 15 = .ok (.goto 4, 3) := by decide +kernel
theorem dX0_air_18 : decode cX0_air 18 = .ok (.iconst 0, 1) := by decide +kernel
theorem dX0_air_19 : decode cX0_air 19 = .ok (.invokestatic 68, 3) := by decide +kernel
theorem dX0_air_22 : decode cX0_air 22 = .ok (.aload_n 0, 1) := by decide +kernel
theorem dX0_air_23 : decode cX0_air 23 = .ok (.getfield 13, 3) := by decide +kernel
theorem dX0_air_26 : decode cX0_air 26 = .ok (.iload_n 1, 1) := by decide +kernel
theorem dX0_air_27 : decode cX0_air 27 = .ok (.iconst 1, 1) := by decide +kernel
theorem dX0_air_28 : decode cX0_air 28 = .ok (.bastore, 1) := by decide +kernel
theorem dX0_air_29 : decode cX0_air 29 = .ok (.iconst 0, 1) := by decide +kernel
theorem dX0_air_30 : decode cX0_air 30 = .ok (.istore_n 2, 1) := by decide +kernel
theorem dX0_air_31 : decode cX0_air 31 = .ok (.iconst 0, 1) := by decide +kernel
theorem dX0_air_32 : decode cX0_air 32 = .ok (.istore_n 3, 1) := by decide +kernel
theorem dX0_air_33 : decode cX0_air 33 = .ok (.iload_n 3, 1) := by decide +kernel
theorem dX0_air_34 : decode cX0_air 34 = .ok (.aload_n 0, 1) := by decide +kernel
theorem dX0_air_35 : decode cX0_air 35 = .ok (.getfield 84, 3) := by decide +kernel
theorem dX0_air_38 : decode cX0_air 38 = .ok (.if_icmp .ge 38, 3) := by decide +kernel
theorem dX0_air_41 : decode cX0_air 41 = .ok (.aload_n 0, 1) := by decide +kernel
theorem dX0_air_42 : decode cX0_air 42 = .ok (.getfield 47, 3) := by decide +kernel
theorem dX0_air_45 : decode cX0_air 45 = .ok (.iload_n 3, 1) := by decide +kernel
theorem dX0_air_46 : decode cX0_air 46 = .ok (.iaload, 1) := by decide +kernel
theorem dX0_air_47 : decode cX0_air 47 = .ok (.iload_n 1, 1) := by decide +kernel
theorem dX0_air_48 : decode cX0_air 48 = .ok (.if_icmp .ne 22, 3) := by decide +kernel
theorem dX0_air_51 : decode cX0_air 51 = .ok (.aload_n 0, 1) := by decide +kernel
theorem dX0_air_52 : decode cX0_air 52 = .ok (.getfield 50, 3) := by decide +kernel
theorem dX0_air_55 : decode cX0_air 55 = .ok (.iload_n 3, 1) := by decide +kernel
theorem dX0_air_56 : decode cX0_air 56 = .ok (.iaload, 1) := by decide +kernel
theorem dX0_air_57 : decode cX0_air 57 = .ok (.ifCond .ne 13, 3) := by decide +kernel
theorem dX0_air_60 : decode cX0_air 60 = .ok (.aload_n 0, 1) := by decide +kernel
theorem dX0_air_61 : decode cX0_air 61 = .ok (.getfield 50, 3) := by decide +kernel
theorem dX0_air_64 : decode cX0_air 64 = .ok (.iload_n 3, 1) := by decide +kernel
theorem dX0_air_65 : decode cX0_air 65 = .ok (.iconst 1, 1) := by decide +kernel
theorem dX0_air_66 : decode cX0_air 66 = .ok (.iastore, 1) := by decide +kernel
theorem dX0_air_67 : decode cX0_air 67 = .ok (.iinc 2 1, 3) := by decide +kernel
theorem dX0_air_70 : decode cX0_air 70 = .ok (.iinc 3 1, 3) := by decide +kernel
theorem dX0_air_73 : decode cX0_air 73 = .ok (.goto (-40), 3) := by decide +kernel
theorem dX0_air_76 : decode cX0_air 76 = .ok (.iload_n 2, 1) := by decide +kernel
theorem dX0_air_77 : decode cX0_air 77 = .ok (.ireturn, 1) := by decide +kernel
theorem dX0_breaks_0 : decode cX0_breaks 0 = .ok (.aload_n 0, 1) := by decide +kernel
theorem dX0_breaks_1 : decode cX0_breaks 1 = .ok (.getfield 64, 3) := by decide +kernel
theorem dX0_breaks_4 : decode cX0_breaks 4 = .ok (.ireturn, 1) := by decide +kernel
set_option maxRecDepth 20000 in
theorem ggX0_isAired_X0_checkBreak : GoodIn wsX0_isAired wsX0_checkBreak := goodIn_ca (goodIn_r _ [6, 7, 8, 9, 5, 10, 11, 12, 13, 14, 15, 16, 17, 18, 19, 20, 21, 22, 23, 24, 25, 26, 27, 28, 29, 30] (by decide +kernel) (by decide +kernel)) (goodIn_sub (fun _ h => List.mem_cons_of_mem _ (List.mem_append_right _ h)) (by decide +kernel))
set_option maxRecDepth 20000 in
theorem gX0_isAired_X0_checkBreak : GoodIn wsX0_isAired (wsV RX0 71 RX0 yX0_checkBreak wsX0_checkBreak) := goodIn_app (goodIn_of _ (by decide +kernel)) ggX0_isAired_X0_checkBreak
theorem dX0_isAired_0 : decode cX0_isAired 0 = .ok (.aload_n 0, 1) := by decide +kernel
theorem dX0_isAired_1 : decode cX0_isAired 1 = .ok (.iload_n 1, 1) := by decide +kernel
theorem dX0_isAired_2 : decode cX0_isAired 2 = .ok (.invokevirtual 71, 3) := by decide +kernel
theorem dX0_isAired_5 : decode cX0_isAired 5 = .ok (.aload_n 0, 1) := by decide +kernel
theorem dX0_isAired_6 : decode cX0_isAired 6 = .ok (.getfield 13, 3) := by decide +kernel
theorem dX0_isAired_9 : decode cX0_isAired 9 = .ok (.iload_n 1, 1) := by decide +kernel
theorem dX0_isAired_10 : decode cX0_isAired 10 = .ok (.baload, 1) := by decide +kernel
theorem dX0_isAired_11 : decode cX0_isAired 11 = .ok (.ireturn, 1) := by decide +kernel
set_option maxRecDepth 20000 in
theorem ggX0_room_X0_checkBreak : GoodIn wsX0_room wsX0_checkBreak := goodIn_ca (goodIn_r _ [5, 6, 7, 8, 4, 9, 10, 11, 26, 27, 28, 29, 30, 31, 32, 33, 34, 35, 36, 37, 38, 39, 40, 41, 42, 43] (by decide +kernel) (by decide +kernel)) (goodIn_sub (fun _ h => List.mem_cons_of_mem _ (List.mem_append_right _ h)) (by decide +kernel))
set_option maxRecDepth 20000 in
theorem gX0_room_X0_checkBreak : GoodIn wsX0_room (wsV RX0 71 RX0 yX0_checkBreak wsX0_checkBreak) := goodIn_app (goodIn_of _ (by decide +kernel)) ggX0_room_X0_checkBreak
set_option maxRecDepth 20000 in
theorem ggX0_room_X0_secondsLeft : GoodIn wsX0_room wsX0_secondsLeft := goodIn_r _ [15, 16, 17, 18, 19, 20, 21, 22, 23, 4, 24, 25, 26, 27, 28, 29, 30, 31, 32, 33, 34, 35, 36, 37, 38, 39, 40, 41, 42, 43] (by decide +kernel) (by decide +kernel)
set_option maxRecDepth 20000 in
theorem gX0_room_X0_secondsLeft : GoodIn wsX0_room (wsV RX0 87 RX0 yX0_secondsLeft wsX0_secondsLeft) := goodIn_app (goodIn_of _ (by decide +kernel)) ggX0_room_X0_secondsLeft
theorem dX0_room_0 : decode cX0_room 0 = .ok (.aload_n 0, 1) := by decide +kernel
theorem dX0_room_1 : decode cX0_room 1 = .ok (.iload_n 1, 1) := by decide +kernel
theorem dX0_room_2 : decode cX0_room 2 = .ok (.invokevirtual 71, 3) := by decide +kernel
theorem dX0_room_5 : decode cX0_room 5 = .ok (.aload_n 0, 1) := by decide +kernel
theorem dX0_room_6 : decode cX0_room 6 = .ok (.iload_n 1, 1) := by decide +kernel
theorem dX0_room_7 : decode cX0_room 7 = .ok (.invokevirtual 87, 3) := by decide +kernel
theorem dX0_room_10 : decode cX0_room 10 = .ok (.ireturn, 1) := by decide +kernel
set_option maxRecDepth 20000 in
theorem ggX0_rating_X0_checkBreak : GoodIn wsX0_rating wsX0_checkBreak := goodIn_ca (goodIn_r _ [6, 7, 8, 9, 5, 10, 11, 12, 27, 28, 29, 30, 31, 32, 33, 34, 35, 36, 37, 38, 39, 40, 41, 42, 43, 44] (by decide +kernel) (by decide +kernel)) (goodIn_sub (fun _ h => List.mem_cons_of_mem _ (List.mem_append_left _ (List.mem_append_right _ h))) (by decide +kernel))
set_option maxRecDepth 20000 in
theorem gX0_rating_X0_checkBreak : GoodIn wsX0_rating (wsV RX0 71 RX0 yX0_checkBreak wsX0_checkBreak) := goodIn_app (goodIn_of _ (by decide +kernel)) ggX0_rating_X0_checkBreak
set_option maxRecDepth 20000 in
theorem ggX0_rating_X0_isGroup : GoodIn wsX0_rating wsX0_isGroup := goodIn_r _ [15, 16, 17, 5, 18] (by decide +kernel) (by decide +kernel)
set_option maxRecDepth 20000 in
theorem gX0_rating_X0_isGroup : GoodIn wsX0_rating (va_wsS RX0 75 yX0_isGroup wsX0_isGroup) := goodIn_app (goodIn_of _ (by decide +kernel)) ggX0_rating_X0_isGroup
set_option maxRecDepth 20000 in
theorem ggX0_rating_X0_checkArgument : GoodIn wsX0_rating wsX0_checkArgument := goodIn_ca (goodIn_r _ [21, 22, 23] (by decide +kernel) (by decide +kernel)) (goodIn_sub (fun _ h => List.mem_cons_of_mem _ (List.mem_append_right _ h)) (by decide +kernel))
set_option maxRecDepth 20000 in
theorem gX0_rating_X0_checkArgument : GoodIn wsX0_rating (va_wsS RX0 60 yX0_checkArgument wsX0_checkArgument) := goodIn_app (goodIn_of _ (by decide +kernel)) ggX0_rating_X0_checkArgument
set_option maxRecDepth 20000 in
theorem ggX0_rating_X0_ratingCell : GoodIn wsX0_rating wsX0_ratingCell := goodIn_r _ [26] (by decide +kernel) (by decide +kernel)
set_option maxRecDepth 20000 in
theorem gX0_rating_X0_ratingCell : GoodIn wsX0_rating (va_wsS RX0 80 yX0_ratingCell wsX0_ratingCell) := goodIn_app (goodIn_of _ (by decide +kernel)) ggX0_rating_X0_ratingCell
theorem dX0_rating_0 : decode cX0_rating 0 = .ok (.aload_n 0, 1) := by decide +kernel
theorem dX0_rating_1 : decode cX0_rating 1 = .ok (.iload_n 1, 1) := by decide +kernel
theorem dX0_rating_2 : decode cX0_rating 2 = .ok (.invokevirtual 71, 3) := by decide +kernel
theorem dX0_rating_5 : decode cX0_rating 5 = .ok (.iload_n 2, 1) := by decide +kernel
theorem dX0_rating_6 : decode cX0_rating 6 = .ok (.invokestatic 75, 3) := by decide +kernel
theorem dX0_rating_9 : decode cX0_rating 9 = .ok (.invokestatic 60, 3) := by decide +kernel
theorem dX0_rating_12 : decode cX0_rating 12 = .ok (.aload_n 0, 1) := by decide +kernel
theorem dX0_rating_13 : decode cX0_rating 13 = .ok (.getfield 17, 3) := by decide +kernel
theorem dX0_rating_16 : decode cX0_rating 16 = .ok (.iload_n 1, 1) := by decide +kernel
theorem dX0_rating_17 : decode cX0_rating 17 = .ok (.iload_n 2, 1) := by decide +kernel
theorem dX0_rating_18 : decode cX0_rating 18 = .ok (.invokestatic 80, 3) := by decide +kernel
theorem dX0_rating_21 : decode cX0_rating 21 = .ok (.iaload, 1) := by decide +kernel
theorem dX0_rating_22 : decode cX0_rating 22 = .ok (.ireturn, 1) := by decide +kernel
set_option maxRecDepth 20000 in
theorem ggX0_addOrder_X0_isAdvertiser : GoodIn wsX0_addOrder wsX0_isAdvertiser := goodIn_r _ [14, 15, 16, 13, 17] (by decide +kernel) (by decide +kernel)
set_option maxRecDepth 20000 in
theorem gX0_addOrder_X0_isAdvertiser : GoodIn wsX0_addOrder (va_wsS RX0 91 yX0_isAdvertiser wsX0_isAdvertiser) := goodIn_app (goodIn_of _ (by decide +kernel)) ggX0_addOrder_X0_isAdvertiser
set_option maxRecDepth 20000 in
theorem ggX0_addOrder_X0_checkArgument : GoodIn wsX0_addOrder wsX0_checkArgument := goodIn_ca (goodIn_r _ [20, 21, 22] (by decide +kernel) (by decide +kernel)) (goodIn_sub (fun _ h => List.mem_cons_of_mem _ (List.mem_append_left _ (List.mem_append_right _ h))) (by decide +kernel))
set_option maxRecDepth 20000 in
theorem gX0_addOrder_X0_checkArgument : GoodIn wsX0_addOrder (va_wsS RX0 60 yX0_checkArgument wsX0_checkArgument) := goodIn_app (goodIn_of _ (by decide +kernel)) ggX0_addOrder_X0_checkArgument
set_option maxRecDepth 20000 in
theorem ggX0_addOrder_X0_isWithin : GoodIn wsX0_addOrder wsX0_isWithin := goodIn_r _ [17] (by decide +kernel) (by decide +kernel)
set_option maxRecDepth 20000 in
theorem gX0_addOrder_X0_isWithin : GoodIn wsX0_addOrder (va_wsS RX0 56 yX0_isWithin wsX0_isWithin) := goodIn_app (goodIn_of _ (by decide +kernel)) ggX0_addOrder_X0_isWithin
set_option maxRecDepth 20000 in
theorem ggX0_addOrder_X0_isGroup : GoodIn wsX0_addOrder wsX0_isGroup := goodIn_r _ [25, 15, 16, 13, 17] (by decide +kernel) (by decide +kernel)
set_option maxRecDepth 20000 in
theorem gX0_addOrder_X0_isGroup : GoodIn wsX0_addOrder (va_wsS RX0 75 yX0_isGroup wsX0_isGroup) := goodIn_app (goodIn_of _ (by decide +kernel)) ggX0_addOrder_X0_isGroup
set_option maxRecDepth 20000 in
theorem ggX0_addOrder_X0_isSpotLength : GoodIn wsX0_addOrder wsX0_isSpotLength := goodIn_r _ [28] (by decide +kernel) (by decide +kernel)
set_option maxRecDepth 20000 in
theorem gX0_addOrder_X0_isSpotLength : GoodIn wsX0_addOrder (va_wsS RX0 94 yX0_isSpotLength wsX0_isSpotLength) := goodIn_app (goodIn_of _ (by decide +kernel)) ggX0_addOrder_X0_isSpotLength
set_option maxRecDepth 20000 in
theorem ggX0_addOrder_X0_checkState : GoodIn wsX0_addOrder wsX0_checkState := goodIn_ca (goodIn_r _ [31, 32, 33] (by decide +kernel) (by decide +kernel)) (goodIn_sub (fun _ h => List.mem_cons_of_mem _ (List.mem_append_right _ h)) (by decide +kernel))
set_option maxRecDepth 20000 in
theorem gX0_addOrder_X0_checkState : GoodIn wsX0_addOrder (va_wsS RX0 68 yX0_checkState wsX0_checkState) := goodIn_app (goodIn_of _ (by decide +kernel)) ggX0_addOrder_X0_checkState
theorem dX0_addOrder_0 : decode cX0_addOrder 0 = .ok (.iload_n 1, 1) := by decide +kernel
theorem dX0_addOrder_1 : decode cX0_addOrder 1 = .ok (.invokestatic 91, 3) := by decide +kernel
theorem dX0_addOrder_4 : decode cX0_addOrder 4 = .ok (.invokestatic 60, 3) := by decide +kernel
theorem dX0_addOrder_7 : decode cX0_addOrder 7 = .ok (.iload_n 2, 1) := by decide +kernel
theorem dX0_addOrder_8 : decode cX0_addOrder 8 = .ok (.iconst 0, 1) := by decide +kernel
theorem dX0_addOrder_9 : decode cX0_addOrder 9 = .ok (.bipush 7, 2) := by decide +kernel
theorem dX0_addOrder_11 : decode cX0_addOrder 11 = .ok (.invokestatic 56, 3) := by decide +kernel
theorem dX0_addOrder_14 : decode cX0_addOrder 14 = .ok (.invokestatic 60, 3) := by decide +kernel
theorem dX0_addOrder_17 : decode cX0_addOrder 17 = .ok (.iload_n 3, 1) := by decide +kernel
theorem dX0_addOrder_18 : decode cX0_addOrder 18 = .ok (.invokestatic 75, 3) := by decide +kernel
theorem dX0_addOrder_21 : decode cX0_addOrder 21 = .ok (.invokestatic 60, 3) := by decide +kernel
theorem dX0_addOrder_24 : decode cX0_addOrder 24 = .ok (.iload 4, 2) := by decide +kernel
theorem dX0_addOrder_26 : decode cX0_addOrder 26 = .ok (.invokestatic 94, 3) := by decide +kernel
theorem dX0_addOrder_29 : decode cX0_addOrder 29 = .ok (.invokestatic 60, 3) := by decide +kernel
theorem dX0_addOrder_32 : decode cX0_addOrder 32 = .ok (.iload 5, 2) := by decide +kernel
theorem dX0_addOrder_34 : decode cX0_addOrder 34 = .ok (.iconst 0, 1) := by decide +kernel
theorem dX0_addOrder_35 : decode cX0_addOrder 35 = .ok (.ldc 97, 2) := by decide +kernel
theorem dX0_addOrder_37 : decode cX0_addOrder 37 = .ok (.invokestatic 56, 3) := by decide +kernel
theorem dX0_addOrder_40 : decode cX0_addOrder 40 = .ok (.invokestatic 60, 3) := by decide +kernel
theorem dX0_addOrder_43 : decode cX0_addOrder 43 = .ok (.iload 6, 2) := by decide +kernel
theorem dX0_addOrder_45 : decode cX0_addOrder 45 = .ok (.iconst 0, 1) := by decide +kernel
theorem dX0_addOrder_46 : decode cX0_addOrder 46 = .ok (.ldc 97, 2) := by decide +kernel
theorem dX0_addOrder_48 : decode cX0_addOrder 48 = .ok (.invokestatic 56, 3) := by decide +kernel
theorem dX0_addOrder_51 : decode cX0_addOrder 51 = .ok (.invokestatic 60, 3) := by decide +kernel
theorem dX0_addOrder_54 : decode cX0_addOrder 54 = .ok (.iload 7, 2) := by decide +kernel
theorem dX0_addOrder_56 : decode cX0_addOrder 56 = .ok (.iconst 0, 1) := by decide +kernel
theorem dX0_addOrder_57 : decode cX0_addOrder 57 = .ok (.ldc 79, 2) := by decide +kernel
theorem dX0_addOrder_59 : decode cX0_addOrder 59 = .ok (.invokestatic 56, 3) := by decide +kernel
theorem dX0_addOrder_62 : decode cX0_addOrder 62 = .ok (.invokestatic 60, 3) := by decide +kernel
theorem dX0_addOrder_65 : decode cX0_addOrder 65 = .ok (.aload_n 0, 1) := by decide +kernel
theorem dX0_addOrder_66 : decode cX0_addOrder 66 = .ok (.getfield 98, 3) := by decide +kernel
theorem dX0_addOrder_69 : decode cX0_addOrder 69 = .ok (.bipush 20, 2) := by decide +kernel
theorem dX0_addOrder_71 : decode cX0_addOrder 71 = .ok (.if_icmp .ge 7, 3) := by decide +kernel
theorem dX0_addOrder_74 : decode cX0_addOrder 74 = .ok (.iconst 1, 1) := by decide +kernel
theorem dX0_addOrder_75 : decode cX0_addOrder 75 = .ok (.goto 4, 3) := by decide +kernel
theorem dX0_addOrder_78 : decode cX0_addOrder 78 = .ok (.iconst 0, 1) := by decide +kernel
theorem dX0_addOrder_79 : decode cX0_addOrder 79 = .ok (.invokestatic 68, 3) := by decide +kernel
theorem dX0_addOrder_82 : decode cX0_addOrder 82 = .ok (.aload_n 0, 1) := by decide +kernel
theorem dX0_addOrder_83 : decode cX0_addOrder 83 = .ok (.getfield 98, 3) := by decide +kernel
theorem dX0_addOrder_86 : decode cX0_addOrder 86 = .ok (.istore 8, 2) := by decide +kernel
theorem dX0_addOrder_88 : decode cX0_addOrder 88 = .ok (.aload_n 0, 1) := by decide +kernel
theorem dX0_addOrder_89 : decode cX0_addOrder 89 = .ok (.getfield 20, 3) := by decide +kernel
theorem dX0_addOrder_92 : decode cX0_addOrder 92 = .ok (.iload 8, 2) := by decide +kernel
theorem dX0_addOrder_94 : decode cX0_addOrder 94 = .ok (.iload_n 1, 1) := by decide +kernel
theorem dX0_addOrder_95 : decode cX0_addOrder 95 = .ok (.iastore, 1) := by decide +kernel
theorem dX0_addOrder_96 : decode cX0_addOrder 96 = .ok (.aload_n 0, 1) := by decide +kernel
theorem dX0_addOrder_97 : decode cX0_addOrder 97 = .ok (.getfield 23, 3) := by decide +kernel
theorem dX0_addOrder_100 : decode cX0_addOrder 100 = .ok (.iload 8, 2) := by decide +kernel
theorem dX0_addOrder_102 : decode cX0_addOrder 102 = .ok (.iload_n 2, 1) := by decide +kernel
theorem dX0_addOrder_103 : decode cX0_addOrder 103 = .ok (.iastore, 1) := by decide +kernel
theorem dX0_addOrder_104 : decode cX0_addOrder 104 = .ok (.aload_n 0, 1) := by decide +kernel
theorem dX0_addOrder_105 : decode cX0_addOrder 105 = .ok (.getfield 26, 3) := by decide +kernel
theorem dX0_addOrder_108 : decode cX0_addOrder 108 = .ok (.iload 8, 2) := by decide +kernel
theorem dX0_addOrder_110 : decode cX0_addOrder 110 = .ok (.iload_n 3, 1) := by decide +kernel
theorem dX0_addOrder_111 : decode cX0_addOrder 111 = .ok (.iastore, 1) := by decide +kernel
theorem dX0_addOrder_112 : decode cX0_addOrder 112 = .ok (.aload_n 0, 1) := by decide +kernel
theorem dX0_addOrder_113 : decode cX0_addOrder 113 = .ok (.getfield 29, 3) := by decide +kernel
theorem dX0_addOrder_116 : decode cX0_addOrder 116 = .ok (.iload 8, 2) := by decide +kernel
theorem dX0_addOrder_118 : decode cX0_addOrder 118 = .ok (.iload 4, 2) := by decide +kernel
theorem dX0_addOrder_120 : decode cX0_addOrder 120 = .ok (.iastore, 1) := by decide +kernel
theorem dX0_addOrder_121 : decode cX0_addOrder 121 = .ok (.aload_n 0, 1) := by decide +kernel
theorem dX0_addOrder_122 : decode cX0_addOrder 122 = .ok (.getfield 32, 3) := by decide +kernel
theorem dX0_addOrder_125 : decode cX0_addOrder 125 = .ok (.iload 8, 2) := by decide +kernel
theorem dX0_addOrder_127 : decode cX0_addOrder 127 = .ok (.iload 5, 2) := by decide +kernel
theorem dX0_addOrder_129 : decode cX0_addOrder 129 = .ok (.iastore, 1) := by decide +kernel
theorem dX0_addOrder_130 : decode cX0_addOrder 130 = .ok (.aload_n 0, 1) := by decide +kernel
theorem dX0_addOrder_131 : decode cX0_addOrder 131 = .ok (.getfield 35, 3) := by decide +kernel
theorem dX0_addOrder_134 : decode cX0_addOrder 134 = .ok (.iload 8, 2) := by decide +kernel
theorem dX0_addOrder_136 : decode cX0_addOrder 136 = .ok (.iload 6, 2) := by decide +kernel
theorem dX0_addOrder_138 : decode cX0_addOrder 138 = .ok (.iastore, 1) := by decide +kernel
theorem dX0_addOrder_139 : decode cX0_addOrder 139 = .ok (.aload_n 0, 1) := by decide +kernel
theorem dX0_addOrder_140 : decode cX0_addOrder 140 = .ok (.getfield 38, 3) := by decide +kernel
theorem dX0_addOrder_143 : decode cX0_addOrder 143 = .ok (.iload 8, 2) := by decide +kernel
theorem dX0_addOrder_145 : decode cX0_addOrder 145 = .ok (.iload 7, 2) := by decide +kernel
theorem dX0_addOrder_147 : decode cX0_addOrder 147 = .ok (.iastore, 1) := by decide +kernel
theorem dX0_addOrder_148 : decode cX0_addOrder 148 = .ok (.aload_n 0, 1) := by decide +kernel
theorem dX0_addOrder_149 : decode cX0_addOrder 149 = .ok (.dup, 1) := by decide +kernel
theorem dX0_addOrder_150 : decode cX0_addOrder 150 = .ok (.getfield 98, 3) := by decide +kernel
theorem dX0_addOrder_153 : decode cX0_addOrder 153 = .ok (.iconst 1, 1) := by decide +kernel
theorem dX0_addOrder_154 : decode cX0_addOrder 154 = .ok (.iadd, 1) := by decide +kernel
theorem dX0_addOrder_155 : decode cX0_addOrder 155 = .ok (.putfield 98, 3) := by decide +kernel
theorem dX0_addOrder_158 : decode cX0_addOrder 158 = .ok (.iload 8, 2) := by decide +kernel
theorem dX0_addOrder_160 : decode cX0_addOrder 160 = .ok (.ireturn, 1) := by decide +kernel
set_option maxRecDepth 20000 in
theorem ggX0_close_X0_checkOrder : GoodIn wsX0_close wsX0_checkOrder := goodIn_ca (goodIn_r _ [9, 10, 11, 12, 8, 13, 14, 15, 44, 45, 46, 47, 48, 49, 50, 51, 52, 53, 54, 55, 56, 57, 58, 59, 60, 61] (by decide +kernel) (by decide +kernel)) (goodIn_sub (fun _ h => List.mem_cons_of_mem _ (List.mem_append_left _ (List.mem_append_right _ h))) (by decide +kernel))
set_option maxRecDepth 20000 in
theorem gX0_close_X0_checkOrder : GoodIn wsX0_close (wsV RX0 101 RX0 yX0_checkOrder wsX0_checkOrder) := goodIn_app (goodIn_of _ (by decide +kernel)) ggX0_close_X0_checkOrder
set_option maxRecDepth 20000 in
theorem ggX0_close_X0_checkState : GoodIn wsX0_close wsX0_checkState := goodIn_ca (goodIn_r _ [18, 19, 20] (by decide +kernel) (by decide +kernel)) (goodIn_sub (fun _ h => List.mem_cons_of_mem _ (List.mem_append_right _ h)) (by decide +kernel))
set_option maxRecDepth 20000 in
theorem gX0_close_X0_checkState : GoodIn wsX0_close (va_wsS RX0 68 yX0_checkState wsX0_checkState) := goodIn_app (goodIn_of _ (by decide +kernel)) ggX0_close_X0_checkState
set_option maxRecDepth 20000 in
theorem ggX0_close_X0_owedTo : GoodIn wsX0_close wsX0_owedTo := goodIn_r _ [24, 1, 25, 26, 27, 28, 29, 30, 31, 32, 8, 33, 2, 3, 4, 34, 35, 36, 37, 38, 39, 40, 41, 42, 43, 44, 45, 46, 47, 48, 49, 50, 51, 52, 53, 54, 55, 56, 57, 58, 59, 60, 61] (by decide +kernel) (by decide +kernel)
set_option maxRecDepth 20000 in
theorem gX0_close_X0_owedTo : GoodIn wsX0_close (wsV RX0 104 RX0 yX0_owedTo wsX0_owedTo) := goodIn_app (goodIn_of _ (by decide +kernel)) ggX0_close_X0_owedTo
theorem dX0_close_0 : decode cX0_close 0 = .ok (.aload_n 0, 1) := by decide +kernel
theorem dX0_close_1 : decode cX0_close 1 = .ok (.iload_n 1, 1) := by decide +kernel
theorem dX0_close_2 : decode cX0_close 2 = .ok (.invokevirtual 101, 3) := by decide +kernel
theorem dX0_close_5 : decode cX0_close 5 = .ok (.aload_n 0, 1) := by decide +kernel
theorem dX0_close_6 : decode cX0_close 6 = .ok (.getfield 41, 3) := by decide +kernel
theorem dX0_close_9 : decode cX0_close 9 = .ok (.iload_n 1, 1) := by decide +kernel
theorem dX0_close_10 : decode cX0_close 10 = .ok (.baload, 1) := by decide +kernel
theorem dX0_close_11 : decode cX0_close 11 = .ok (.ifCond .ne 7, 3) := by decide +kernel
theorem dX0_close_14 : decode cX0_close 14 = .ok (.iconst 1, 1) := by decide +kernel
theorem dX0_close_15 : decode cX0_close 15 = .ok (.goto 4, 3) := by decide +kernel
theorem dX0_close_18 : decode cX0_close 18 = .ok (.iconst 0, 1) := by decide +kernel
theorem dX0_close_19 : decode cX0_close 19 = .ok (.invokestatic 68, 3) := by decide +kernel
theorem dX0_close_22 : decode cX0_close 22 = .ok (.aload_n 0, 1) := by decide +kernel
theorem dX0_close_23 : decode cX0_close 23 = .ok (.getfield 41, 3) := by decide +kernel
theorem dX0_close_26 : decode cX0_close 26 = .ok (.iload_n 1, 1) := by decide +kernel
theorem dX0_close_27 : decode cX0_close 27 = .ok (.iconst 1, 1) := by decide +kernel
theorem dX0_close_28 : decode cX0_close 28 = .ok (.bastore, 1) := by decide +kernel
theorem dX0_close_29 : decode cX0_close 29 = .ok (.iconst 0, 1) := by decide +kernel
theorem dX0_close_30 : decode cX0_close 30 = .ok (.istore_n 2, 1) := by decide +kernel
theorem dX0_close_31 : decode cX0_close 31 = .ok (.iload_n 2, 1) := by decide +kernel
theorem dX0_close_32 : decode cX0_close 32 = .ok (.aload_n 0, 1) := by decide +kernel
theorem dX0_close_33 : decode cX0_close 33 = .ok (.getfield 84, 3) := by decide +kernel
theorem dX0_close_36 : decode cX0_close 36 = .ok (.if_icmp .ge 35, 3) := by decide +kernel
theorem dX0_close_39 : decode cX0_close 39 = .ok (.aload_n 0, 1) := by decide +kernel
theorem dX0_close_40 : decode cX0_close 40 = .ok (.getfield 44, 3) := by decide +kernel
theorem dX0_close_43 : decode cX0_close 43 = .ok (.iload_n 2, 1) := by decide +kernel
theorem dX0_close_44 : decode cX0_close 44 = .ok (.iaload, 1) := by decide +kernel
theorem dX0_close_45 : decode cX0_close 45 = .ok (.iload_n 1, 1) := by decide +kernel
theorem dX0_close_46 : decode cX0_close 46 = .ok (.if_icmp .ne 19, 3) := by decide +kernel
theorem dX0_close_49 : decode cX0_close 49 = .ok (.aload_n 0, 1) := by decide +kernel
theorem dX0_close_50 : decode cX0_close 50 = .ok (.getfield 50, 3) := by decide +kernel
theorem dX0_close_53 : decode cX0_close 53 = .ok (.iload_n 2, 1) := by decide +kernel
theorem dX0_close_54 : decode cX0_close 54 = .ok (.iaload, 1) := by decide +kernel
theorem dX0_close_55 : decode cX0_close 55 = .ok (.ifCond .ne 10, 3) := by decide +kernel
theorem dX0_close_58 : decode cX0_close 58 = .ok (.aload_n 0, 1) := by decide +kernel
theorem dX0_close_59 : decode cX0_close 59 = .ok (.getfield 50, 3) := by decide +kernel
theorem dX0_close_62 : decode cX0_close 62 = .ok (.iload_n 2, 1) := by decide +kernel
theorem dX0_close_63 : decode cX0_close 63 = .ok (.iconst 3, 1) := by decide +kernel
theorem dX0_close_64 : decode cX0_close 64 = .ok (.iastore, 1) := by decide +kernel
theorem dX0_close_65 : decode cX0_close 65 = .ok (.iinc 2 1, 3) := by decide +kernel
theorem dX0_close_68 : decode cX0_close 68 = .ok (.goto (-37), 3) := by decide +kernel
theorem dX0_close_71 : decode cX0_close 71 = .ok (.aload_n 0, 1) := by decide +kernel
theorem dX0_close_72 : decode cX0_close 72 = .ok (.iload_n 1, 1) := by decide +kernel
theorem dX0_close_73 : decode cX0_close 73 = .ok (.invokevirtual 104, 3) := by decide +kernel
theorem dX0_close_76 : decode cX0_close 76 = .ok (.ireturn, 1) := by decide +kernel
theorem dX0_orders_0 : decode cX0_orders 0 = .ok (.aload_n 0, 1) := by decide +kernel
theorem dX0_orders_1 : decode cX0_orders 1 = .ok (.getfield 98, 3) := by decide +kernel
theorem dX0_orders_4 : decode cX0_orders 4 = .ok (.ireturn, 1) := by decide +kernel
set_option maxRecDepth 20000 in
theorem ggX0_whyNot_X0_checkOrder : GoodIn wsX0_whyNot wsX0_checkOrder := goodIn_ca (goodIn_r _ [5, 6, 7, 8, 4, 9, 10, 11, 60, 61, 62, 63, 64, 65, 66, 67, 68, 69, 70, 71, 72, 73, 74, 75, 76, 77] (by decide +kernel) (by decide +kernel)) (goodIn_sub (fun _ h => List.mem_cons_of_mem _ (List.mem_append_right _ h)) (by decide +kernel))
set_option maxRecDepth 20000 in
theorem gX0_whyNot_X0_checkOrder : GoodIn wsX0_whyNot (wsV RX0 101 RX0 yX0_checkOrder wsX0_checkOrder) := goodIn_app (goodIn_of _ (by decide +kernel)) ggX0_whyNot_X0_checkOrder
set_option maxRecDepth 20000 in
theorem ggX0_whyNot_X0_checkBreak : GoodIn wsX0_whyNot wsX0_checkBreak := goodIn_ca (goodIn_r _ [15, 16, 7, 8, 4, 9, 10, 11, 60, 61, 62, 63, 64, 65, 66, 67, 68, 69, 70, 71, 72, 73, 74, 75, 76, 77] (by decide +kernel) (by decide +kernel)) (goodIn_sub (fun _ h => List.mem_cons_of_mem _ (List.mem_append_right _ h)) (by decide +kernel))
set_option maxRecDepth 20000 in
theorem gX0_whyNot_X0_checkBreak : GoodIn wsX0_whyNot (wsV RX0 71 RX0 yX0_checkBreak wsX0_checkBreak) := goodIn_app (goodIn_of _ (by decide +kernel)) ggX0_whyNot_X0_checkBreak
set_option maxRecDepth 20000 in
theorem ggX0_whyNot_X0_obstacle : GoodIn wsX0_whyNot wsX0_obstacle := goodIn_r _ [20, 21, 22, 23, 24, 25, 26, 27, 4, 28, 29, 30, 31, 32, 33, 34, 35, 36, 37, 38, 39, 40, 41, 42, 43, 44, 45, 46, 47, 48, 49, 50, 51, 52, 53, 54, 55, 56, 57, 58, 59, 60, 61, 62, 63, 64, 65, 66, 67, 68, 69, 70, 71, 72, 73, 74, 75, 76, 77] (by decide +kernel) (by decide +kernel)
set_option maxRecDepth 20000 in
theorem gX0_whyNot_X0_obstacle : GoodIn wsX0_whyNot (wsV RX0 107 RX0 yX0_obstacle wsX0_obstacle) := goodIn_app (goodIn_of _ (by decide +kernel)) ggX0_whyNot_X0_obstacle
theorem dX0_whyNot_0 : decode cX0_whyNot 0 = .ok (.aload_n 0, 1) := by decide +kernel
theorem dX0_whyNot_1 : decode cX0_whyNot 1 = .ok (.iload_n 1, 1) := by decide +kernel
theorem dX0_whyNot_2 : decode cX0_whyNot 2 = .ok (.invokevirtual 101, 3) := by decide +kernel
theorem dX0_whyNot_5 : decode cX0_whyNot 5 = .ok (.aload_n 0, 1) := by decide +kernel
theorem dX0_whyNot_6 : decode cX0_whyNot 6 = .ok (.iload_n 2, 1) := by decide +kernel
theorem dX0_whyNot_7 : decode cX0_whyNot 7 = .ok (.invokevirtual 71, 3) := by decide +kernel
theorem dX0_whyNot_10 : decode cX0_whyNot 10 = .ok (.aload_n 0, 1) := by decide +kernel
theorem dX0_whyNot_11 : decode cX0_whyNot 11 = .ok (.iload_n 1, 1) := by decide +kernel
theorem dX0_whyNot_12 : decode cX0_whyNot 12 = .ok (.iload_n 2, 1) := by decide +kernel
theorem dX0_whyNot_13 : decode cX0_whyNot 13 = .ok (.invokevirtual 107, 3) := by decide +kernel
theorem dX0_whyNot_16 : decode cX0_whyNot 16 = .ok (.ireturn, 1) := by decide +kernel
set_option maxRecDepth 20000 in
theorem ggX0_place_X0_checkOrder : GoodIn wsX0_place wsX0_checkOrder := goodIn_ca (goodIn_r _ [7, 8, 9, 10, 6, 11, 12, 13, 71, 72, 73, 74, 75, 76, 77, 78, 79, 80, 81, 82, 83, 84, 85, 86, 87, 88] (by decide +kernel) (by decide +kernel)) (goodIn_sub (fun _ h => List.mem_cons_of_mem _ (List.mem_append_left _ (List.mem_append_right _ h))) (by decide +kernel))
set_option maxRecDepth 20000 in
theorem gX0_place_X0_checkOrder : GoodIn wsX0_place (wsV RX0 101 RX0 yX0_checkOrder wsX0_checkOrder) := goodIn_app (goodIn_of _ (by decide +kernel)) ggX0_place_X0_checkOrder
set_option maxRecDepth 20000 in
theorem ggX0_place_X0_checkBreak : GoodIn wsX0_place wsX0_checkBreak := goodIn_ca (goodIn_r _ [17, 18, 9, 10, 6, 11, 12, 13, 71, 72, 73, 74, 75, 76, 77, 78, 79, 80, 81, 82, 83, 84, 85, 86, 87, 88] (by decide +kernel) (by decide +kernel)) (goodIn_sub (fun _ h => List.mem_cons_of_mem _ (List.mem_append_left _ (List.mem_append_right _ h))) (by decide +kernel))
set_option maxRecDepth 20000 in
theorem gX0_place_X0_checkBreak : GoodIn wsX0_place (wsV RX0 71 RX0 yX0_checkBreak wsX0_checkBreak) := goodIn_app (goodIn_of _ (by decide +kernel)) ggX0_place_X0_checkBreak
set_option maxRecDepth 20000 in
theorem ggX0_place_X0_checkState : GoodIn wsX0_place wsX0_checkState := goodIn_ca (goodIn_r _ [21, 22, 23] (by decide +kernel) (by decide +kernel)) (goodIn_sub (fun _ h => List.mem_cons_of_mem _ (List.mem_append_right _ h)) (by decide +kernel))
set_option maxRecDepth 20000 in
theorem gX0_place_X0_checkState : GoodIn wsX0_place (va_wsS RX0 68 yX0_checkState wsX0_checkState) := goodIn_app (goodIn_of _ (by decide +kernel)) ggX0_place_X0_checkState
set_option maxRecDepth 20000 in
theorem ggX0_place_X0_obstacle : GoodIn wsX0_place wsX0_obstacle := goodIn_r _ [27, 28, 29, 30, 31, 32, 33, 34, 6, 35, 36, 2, 37, 38, 39, 40, 41, 42, 43, 44, 45, 46, 47, 48, 49, 50, 51, 52, 53, 54, 55, 56, 57, 58, 59, 60, 61, 62, 63, 64, 65, 71, 72, 73, 74, 75, 76, 77, 78, 79, 80, 81, 82, 83, 84, 85, 86, 87, 88] (by decide +kernel) (by decide +kernel)
set_option maxRecDepth 20000 in
theorem gX0_place_X0_obstacle : GoodIn wsX0_place (wsV RX0 107 RX0 yX0_obstacle wsX0_obstacle) := goodIn_app (goodIn_of _ (by decide +kernel)) ggX0_place_X0_obstacle
set_option maxRecDepth 20000 in
theorem ggX0_place_X0_addSpot : GoodIn wsX0_place wsX0_addSpot := goodIn_r _ [69, 2, 38, 37, 43, 70, 71, 72, 73, 74, 75, 76, 77, 78, 79, 80, 81, 82, 83, 84, 85, 86, 87, 88] (by decide +kernel) (by decide +kernel)
set_option maxRecDepth 20000 in
theorem gX0_place_X0_addSpot : GoodIn wsX0_place (wsV RX0 110 RX0 yX0_addSpot wsX0_addSpot) := goodIn_app (goodIn_of _ (by decide +kernel)) ggX0_place_X0_addSpot
theorem dX0_place_0 : decode cX0_place 0 = .ok (.aload_n 0, 1) := by decide +kernel
theorem dX0_place_1 : decode cX0_place 1 = .ok (.iload_n 1, 1) := by decide +kernel
theorem dX0_place_2 : decode cX0_place 2 = .ok (.invokevirtual 101, 3) := by decide +kernel
theorem dX0_place_5 : decode cX0_place 5 = .ok (.aload_n 0, 1) := by decide +kernel
theorem dX0_place_6 : decode cX0_place 6 = .ok (.iload_n 2, 1) := by decide +kernel
theorem dX0_place_7 : decode cX0_place 7 = .ok (.invokevirtual 71, 3) := by decide +kernel
theorem dX0_place_10 : decode cX0_place 10 = .ok (.aload_n 0, 1) := by decide +kernel
theorem dX0_place_11 : decode cX0_place 11 = .ok (.getfield 41, 3) := by decide +kernel
theorem dX0_place_14 : decode cX0_place 14 = .ok (.iload_n 1, 1) := by decide +kernel
theorem dX0_place_15 : decode cX0_place 15 = .ok (.baload, 1) := by decide +kernel
theorem dX0_place_16 : decode cX0_place 16 = .ok (.ifCond .ne 7, 3) := by decide +kernel
theorem dX0_place_19 : decode cX0_place 19 = .ok (.iconst 1, 1) := by decide +kernel
theorem dX0_place_20 : decode cX0_place 20 = .ok (.goto 4, 3) := by decide +kernel
theorem dX0_place_23 : decode cX0_place 23 = .ok (.iconst 0, 1) := by decide +kernel
theorem dX0_place_24 : decode cX0_place 24 = .ok (.invokestatic 68, 3) := by decide +kernel
theorem dX0_place_27 : decode cX0_place 27 = .ok (.aload_n 0, 1) := by decide +kernel
theorem dX0_place_28 : decode cX0_place 28 = .ok (.iload_n 1, 1) := by decide +kernel
theorem dX0_place_29 : decode cX0_place 29 = .ok (.iload_n 2, 1) := by decide +kernel
theorem dX0_place_30 : decode cX0_place 30 = .ok (.invokevirtual 107, 3) := by decide +kernel
theorem dX0_place_33 : decode cX0_place 33 = .ok (.ifCond .ne 7, 3) := by decide +kernel
theorem dX0_place_36 : decode cX0_place 36 = .ok (.iconst 1, 1) := by decide +kernel
theorem dX0_place_37 : decode cX0_place 37 = .ok (.goto 4, 3) := by decide +kernel
theorem dX0_place_40 : decode cX0_place 40 = .ok (.iconst 0, 1) := by decide +kernel
theorem dX0_place_41 : decode cX0_place 41 = .ok (.invokestatic 68, 3) := by decide +kernel
theorem dX0_place_44 : decode cX0_place 44 = .ok (.aload_n 0, 1) := by decide +kernel
theorem dX0_place_45 : decode cX0_place 45 = .ok (.getfield 84, 3) := by decide +kernel
theorem dX0_place_48 : decode cX0_place 48 = .ok (.sipush 150, 3) := by decide +kernel
theorem dX0_place_51 : decode cX0_place 51 = .ok (.if_icmp .ge 7, 3) := by decide +kernel
theorem dX0_place_54 : decode cX0_place 54 = .ok (.iconst 1, 1) := by decide +kernel
theorem dX0_place_55 : decode cX0_place 55 = .ok (.goto 4, 3) := by decide +kernel
theorem dX0_place_58 : decode cX0_place 58 = .ok (.iconst 0, 1) := by decide +kernel
theorem dX0_place_59 : decode cX0_place 59 = .ok (.invokestatic 68, 3) := by decide +kernel
theorem dX0_place_62 : decode cX0_place 62 = .ok (.aload_n 0, 1) := by decide +kernel
theorem dX0_place_63 : decode cX0_place 63 = .ok (.iload_n 1, 1) := by decide +kernel
theorem dX0_place_64 : decode cX0_place 64 = .ok (.iload_n 2, 1) := by decide +kernel
theorem dX0_place_65 : decode cX0_place 65 = .ok (.iconst 0, 1) := by decide +kernel
theorem dX0_place_66 : decode cX0_place 66 = .ok (.invokevirtual 110, 3) := by decide +kernel
theorem dX0_place_69 : decode cX0_place 69 = .ok (.ireturn, 1) := by decide +kernel
set_option maxRecDepth 20000 in
theorem ggX0_give_X0_checkOrder : GoodIn wsX0_give wsX0_checkOrder := goodIn_ca (goodIn_r _ [6, 7, 8, 9, 5, 10, 11, 12, 88, 89, 90, 91, 92, 93, 94, 95, 96, 97, 98, 99, 100, 101, 102, 103, 104, 105] (by decide +kernel) (by decide +kernel)) (goodIn_sub (fun _ h => List.mem_cons_of_mem _ (List.mem_append_left _ (List.mem_append_right _ h))) (by decide +kernel))
set_option maxRecDepth 20000 in
theorem gX0_give_X0_checkOrder : GoodIn wsX0_give (wsV RX0 101 RX0 yX0_checkOrder wsX0_checkOrder) := goodIn_app (goodIn_of _ (by decide +kernel)) ggX0_give_X0_checkOrder
set_option maxRecDepth 20000 in
theorem ggX0_give_X0_checkBreak : GoodIn wsX0_give wsX0_checkBreak := goodIn_ca (goodIn_r _ [16, 17, 8, 9, 5, 10, 11, 12, 88, 89, 90, 91, 92, 93, 94, 95, 96, 97, 98, 99, 100, 101, 102, 103, 104, 105] (by decide +kernel) (by decide +kernel)) (goodIn_sub (fun _ h => List.mem_cons_of_mem _ (List.mem_append_left _ (List.mem_append_right _ h))) (by decide +kernel))
set_option maxRecDepth 20000 in
theorem gX0_give_X0_checkBreak : GoodIn wsX0_give (wsV RX0 71 RX0 yX0_checkBreak wsX0_checkBreak) := goodIn_app (goodIn_of _ (by decide +kernel)) ggX0_give_X0_checkBreak
set_option maxRecDepth 20000 in
theorem ggX0_give_X0_restOf : GoodIn wsX0_give wsX0_restOf := goodIn_r _ [21, 1, 22, 23, 24, 25, 26, 27, 28, 29, 30, 31, 32, 5, 33, 34, 35, 36, 37, 38, 39, 40, 41, 42, 43, 44, 45, 46, 47, 48, 88, 89, 90, 91, 92, 93, 94, 95, 96, 97, 98, 99, 100, 101, 102, 103, 104, 105] (by decide +kernel) (by decide +kernel)
set_option maxRecDepth 20000 in
theorem gX0_give_X0_restOf : GoodIn wsX0_give (wsV RX0 114 RX0 yX0_restOf wsX0_restOf) := goodIn_app (goodIn_of _ (by decide +kernel)) ggX0_give_X0_restOf
set_option maxRecDepth 20000 in
theorem ggX0_give_X0_checkState : GoodIn wsX0_give wsX0_checkState := goodIn_ca (goodIn_r _ [51, 52, 53] (by decide +kernel) (by decide +kernel)) (goodIn_sub (fun _ h => List.mem_cons_of_mem _ (List.mem_append_right _ h)) (by decide +kernel))
set_option maxRecDepth 20000 in
theorem gX0_give_X0_checkState : GoodIn wsX0_give (va_wsS RX0 68 yX0_checkState wsX0_checkState) := goodIn_app (goodIn_of _ (by decide +kernel)) ggX0_give_X0_checkState
set_option maxRecDepth 20000 in
theorem ggX0_give_X0_obstacle : GoodIn wsX0_give wsX0_obstacle := goodIn_r _ [57, 58, 59, 60, 61, 62, 63, 64, 5, 65, 66, 1, 25, 22, 67, 68, 69, 70, 24, 40, 41, 42, 43, 44, 45, 46, 47, 48, 71, 72, 73, 74, 75, 76, 77, 78, 79, 80, 81, 82, 83, 88, 89, 90, 91, 92, 93, 94, 95, 96, 97, 98, 99, 100, 101, 102, 103, 104, 105] (by decide +kernel) (by decide +kernel)
set_option maxRecDepth 20000 in
theorem gX0_give_X0_obstacle : GoodIn wsX0_give (wsV RX0 107 RX0 yX0_obstacle wsX0_obstacle) := goodIn_app (goodIn_of _ (by decide +kernel)) ggX0_give_X0_obstacle
set_option maxRecDepth 20000 in
theorem ggX0_give_X0_addSpot : GoodIn wsX0_give wsX0_addSpot := goodIn_r _ [87, 1, 22, 25, 24, 23, 88, 89, 90, 91, 92, 93, 94, 95, 96, 97, 98, 99, 100, 101, 102, 103, 104, 105] (by decide +kernel) (by decide +kernel)
set_option maxRecDepth 20000 in
theorem gX0_give_X0_addSpot : GoodIn wsX0_give (wsV RX0 110 RX0 yX0_addSpot wsX0_addSpot) := goodIn_app (goodIn_of _ (by decide +kernel)) ggX0_give_X0_addSpot
theorem dX0_give_0 : decode cX0_give 0 = .ok (.aload_n 0, 1) := by decide +kernel
theorem dX0_give_1 : decode cX0_give 1 = .ok (.iload_n 1, 1) := by decide +kernel
theorem dX0_give_2 : decode cX0_give 2 = .ok (.invokevirtual 101, 3) := by decide +kernel
theorem dX0_give_5 : decode cX0_give 5 = .ok (.aload_n 0, 1) := by decide +kernel
theorem dX0_give_6 : decode cX0_give 6 = .ok (.iload_n 2, 1) := by decide +kernel
theorem dX0_give_7 : decode cX0_give 7 = .ok (.invokevirtual 71, 3) := by decide +kernel
theorem dX0_give_10 : decode cX0_give 10 = .ok (.aload_n 0, 1) := by decide +kernel
theorem dX0_give_11 : decode cX0_give 11 = .ok (.iload_n 1, 1) := by decide +kernel
theorem dX0_give_12 : decode cX0_give 12 = .ok (.invokevirtual 114, 3) := by decide +kernel
theorem dX0_give_15 : decode cX0_give 15 = .ok (.ifCond .le 7, 3) := by decide +kernel
theorem dX0_give_18 : decode cX0_give 18 = .ok (.iconst 1, 1) := by decide +kernel
theorem dX0_give_19 : decode cX0_give 19 = .ok (.goto 4, 3) := by decide +kernel
theorem dX0_give_22 : decode cX0_give 22 = .ok (.iconst 0, 1) := by decide +kernel
theorem dX0_give_23 : decode cX0_give 23 = .ok (.invokestatic 68, 3) := by decide +kernel
theorem dX0_give_26 : decode cX0_give 26 = .ok (.aload_n 0, 1) := by decide +kernel
theorem dX0_give_27 : decode cX0_give 27 = .ok (.iload_n 1, 1) := by decide +kernel
theorem dX0_give_28 : decode cX0_give 28 = .ok (.iload_n 2, 1) := by decide +kernel
theorem dX0_give_29 : decode cX0_give 29 = .ok (.invokevirtual 107, 3) := by decide +kernel
theorem dX0_give_32 : decode cX0_give 32 = .ok (.ifCond .ne 7, 3) := by decide +kernel
theorem dX0_give_35 : decode cX0_give 35 = .ok (.iconst 1, 1) := by decide +kernel
theorem dX0_give_36 : decode cX0_give 36 = .ok (.goto 4, 3) := by decide +kernel
theorem dX0_give_39 : decode cX0_give 39 = .ok (.iconst 0, 1) := by decide +kernel
theorem dX0_give_40 : decode cX0_give 40 = .ok (.invokestatic 68, 3) := by decide +kernel
theorem dX0_give_43 : decode cX0_give 43 = .ok (.aload_n 0, 1) := by decide +kernel
theorem dX0_give_44 : decode cX0_give 44 = .ok (.getfield 84, 3) := by decide +kernel
theorem dX0_give_47 : decode cX0_give 47 = .ok (.sipush 150, 3) := by decide +kernel
theorem dX0_give_50 : decode cX0_give 50 = .ok (.if_icmp .ge 7, 3) := by decide +kernel
theorem dX0_give_53 : decode cX0_give 53 = .ok (.iconst 1, 1) := by decide +kernel
theorem dX0_give_54 : decode cX0_give 54 = .ok (.goto 4, 3) := by decide +kernel
theorem dX0_give_57 : decode cX0_give 57 = .ok (.iconst 0, 1) := by decide +kernel
theorem dX0_give_58 : decode cX0_give 58 = .ok (.invokestatic 68, 3) := by decide +kernel
theorem dX0_give_61 : decode cX0_give 61 = .ok (.aload_n 0, 1) := by decide +kernel
theorem dX0_give_62 : decode cX0_give 62 = .ok (.iload_n 1, 1) := by decide +kernel
theorem dX0_give_63 : decode cX0_give 63 = .ok (.iload_n 2, 1) := by decide +kernel
theorem dX0_give_64 : decode cX0_give 64 = .ok (.iconst 1, 1) := by decide +kernel
theorem dX0_give_65 : decode cX0_give 65 = .ok (.invokevirtual 110, 3) := by decide +kernel
theorem dX0_give_68 : decode cX0_give 68 = .ok (.ireturn, 1) := by decide +kernel
set_option maxRecDepth 20000 in
theorem ggX0_fill_X0_checkOrder : GoodIn wsX0_fill wsX0_checkOrder := goodIn_ca (goodIn_r _ [7, 8, 9, 10, 6, 11, 12, 13, 88, 89, 90, 91, 92, 93, 94, 95, 96, 97, 98, 99, 100, 101, 102, 103, 104, 105] (by decide +kernel) (by decide +kernel)) (goodIn_sub (fun _ h => List.mem_cons_of_mem _ (List.mem_append_left _ (List.mem_append_left _ (List.mem_append_right _ h)))) (by decide +kernel))
set_option maxRecDepth 20000 in
theorem gX0_fill_X0_checkOrder : GoodIn wsX0_fill (wsV RX0 101 RX0 yX0_checkOrder wsX0_checkOrder) := goodIn_app (goodIn_of _ (by decide +kernel)) ggX0_fill_X0_checkOrder
set_option maxRecDepth 20000 in
theorem ggX0_fill_X0_isWithin : GoodIn wsX0_fill wsX0_isWithin := goodIn_r _ [16] (by decide +kernel) (by decide +kernel)
set_option maxRecDepth 20000 in
theorem gX0_fill_X0_isWithin : GoodIn wsX0_fill (va_wsS RX0 56 yX0_isWithin wsX0_isWithin) := goodIn_app (goodIn_of _ (by decide +kernel)) ggX0_fill_X0_isWithin
set_option maxRecDepth 20000 in
theorem ggX0_fill_X0_checkArgument : GoodIn wsX0_fill wsX0_checkArgument := goodIn_ca (goodIn_r _ [19, 20, 21] (by decide +kernel) (by decide +kernel)) (goodIn_sub (fun _ h => List.mem_cons_of_mem _ (List.mem_append_left _ (List.mem_append_right _ h))) (by decide +kernel))
set_option maxRecDepth 20000 in
theorem gX0_fill_X0_checkArgument : GoodIn wsX0_fill (va_wsS RX0 60 yX0_checkArgument wsX0_checkArgument) := goodIn_app (goodIn_of _ (by decide +kernel)) ggX0_fill_X0_checkArgument
set_option maxRecDepth 20000 in
theorem ggX0_fill_X0_checkState : GoodIn wsX0_fill wsX0_checkState := goodIn_ca (goodIn_r _ [24, 25, 26] (by decide +kernel) (by decide +kernel)) (goodIn_sub (fun _ h => List.mem_cons_of_mem _ (List.mem_append_right _ h)) (by decide +kernel))
set_option maxRecDepth 20000 in
theorem gX0_fill_X0_checkState : GoodIn wsX0_fill (va_wsS RX0 68 yX0_checkState wsX0_checkState) := goodIn_app (goodIn_of _ (by decide +kernel)) ggX0_fill_X0_checkState
set_option maxRecDepth 20000 in
theorem ggX0_fill_X0_isShortOfPromise : GoodIn wsX0_fill wsX0_isShortOfPromise := goodIn_r _ [30, 31, 32, 33, 34, 6, 35, 2, 36, 37, 38, 39, 40, 41, 42, 43, 44, 45, 46, 47, 88, 89, 90, 91, 92, 93, 94, 95, 96, 97, 98, 99, 100, 101, 102, 103, 104, 105] (by decide +kernel) (by decide +kernel)
set_option maxRecDepth 20000 in
theorem gX0_fill_X0_isShortOfPromise : GoodIn wsX0_fill (wsV RX0 117 RX0 yX0_isShortOfPromise wsX0_isShortOfPromise) := goodIn_app (goodIn_of _ (by decide +kernel)) ggX0_fill_X0_isShortOfPromise
set_option maxRecDepth 20000 in
theorem ggX0_fill_X0_bestBreak : GoodIn wsX0_fill wsX0_bestBreak := goodIn_r _ [51, 52, 39, 40, 41, 6, 42, 43, 44, 45, 46, 47, 53, 54, 55, 56, 57, 58, 59, 60, 61, 62, 63, 64, 65, 2, 38, 36, 66, 67, 68, 69, 37, 70, 71, 72, 73, 74, 75, 76, 77, 78, 79, 80, 81, 82, 88, 89, 90, 91, 92, 93, 94, 95, 96, 97, 98, 99, 100, 101, 102, 103, 104, 105] (by decide +kernel) (by decide +kernel)
set_option maxRecDepth 20000 in
theorem gX0_fill_X0_bestBreak : GoodIn wsX0_fill (wsV RX0 120 RX0 yX0_bestBreak wsX0_bestBreak) := goodIn_app (goodIn_of _ (by decide +kernel)) ggX0_fill_X0_bestBreak
set_option maxRecDepth 20000 in
theorem ggX0_fill_X0_addSpot : GoodIn wsX0_fill wsX0_addSpot := goodIn_r _ [86, 2, 36, 38, 37, 87, 88, 89, 90, 91, 92, 93, 94, 95, 96, 97, 98, 99, 100, 101, 102, 103, 104, 105] (by decide +kernel) (by decide +kernel)
set_option maxRecDepth 20000 in
theorem gX0_fill_X0_addSpot : GoodIn wsX0_fill (wsV RX0 110 RX0 yX0_addSpot wsX0_addSpot) := goodIn_app (goodIn_of _ (by decide +kernel)) ggX0_fill_X0_addSpot
theorem dX0_fill_0 : decode cX0_fill 0 = .ok (.aload_n 0, 1) := by decide +kernel
theorem dX0_fill_1 : decode cX0_fill 1 = .ok (.iload_n 1, 1) := by decide +kernel
theorem dX0_fill_2 : decode cX0_fill 2 = .ok (.invokevirtual 101, 3) := by decide +kernel
theorem dX0_fill_5 : decode cX0_fill 5 = .ok (.iload_n 2, 1) := by decide +kernel
theorem dX0_fill_6 : decode cX0_fill 6 = .ok (.iconst 1, 1) := by decide +kernel
theorem dX0_fill_7 : decode cX0_fill 7 = .ok (.bipush 24, 2) := by decide +kernel
theorem dX0_fill_9 : decode cX0_fill 9 = .ok (.invokestatic 56, 3) := by decide +kernel
theorem dX0_fill_12 : decode cX0_fill 12 = .ok (.invokestatic 60, 3) := by decide +kernel
theorem dX0_fill_15 : decode cX0_fill 15 = .ok (.aload_n 0, 1) := by decide +kernel
theorem dX0_fill_16 : decode cX0_fill 16 = .ok (.getfield 41, 3) := by decide +kernel
theorem dX0_fill_19 : decode cX0_fill 19 = .ok (.iload_n 1, 1) := by decide +kernel
theorem dX0_fill_20 : decode cX0_fill 20 = .ok (.baload, 1) := by decide +kernel
theorem dX0_fill_21 : decode cX0_fill 21 = .ok (.ifCond .ne 7, 3) := by decide +kernel
theorem dX0_fill_24 : decode cX0_fill 24 = .ok (.iconst 1, 1) := by decide +kernel
theorem dX0_fill_25 : decode cX0_fill 25 = .ok (.goto 4, 3) := by decide +kernel
theorem dX0_fill_28 : decode cX0_fill 28 = .ok (.iconst 0, 1) := by decide +kernel
theorem dX0_fill_29 : decode cX0_fill 29 = .ok (.invokestatic 68, 3) := by decide +kernel
theorem dX0_fill_32 : decode cX0_fill 32 = .ok (.iconst 0, 1) := by decide +kernel
theorem dX0_fill_33 : decode cX0_fill 33 = .ok (.istore_n 3, 1) := by decide +kernel
theorem dX0_fill_34 : decode cX0_fill 34 = .ok (.iload_n 3, 1) := by decide +kernel
theorem dX0_fill_35 : decode cX0_fill 35 = .ok (.iload_n 2, 1) := by decide +kernel
theorem dX0_fill_36 : decode cX0_fill 36 = .ok (.if_icmp .ge 52, 3) := by decide +kernel
theorem dX0_fill_39 : decode cX0_fill 39 = .ok (.aload_n 0, 1) := by decide +kernel
theorem dX0_fill_40 : decode cX0_fill 40 = .ok (.getfield 84, 3) := by decide +kernel
theorem dX0_fill_43 : decode cX0_fill 43 = .ok (.sipush 150, 3) := by decide +kernel
theorem dX0_fill_46 : decode cX0_fill 46 = .ok (.if_icmp .ge 42, 3) := by decide +kernel
theorem dX0_fill_49 : decode cX0_fill 49 = .ok (.aload_n 0, 1) := by decide +kernel
theorem dX0_fill_50 : decode cX0_fill 50 = .ok (.iload_n 1, 1) := by decide +kernel
theorem dX0_fill_51 : decode cX0_fill 51 = .ok (.invokevirtual 117, 3) := by decide +kernel
theorem dX0_fill_54 : decode cX0_fill 54 = .ok (.ifCond .eq 34, 3) := by decide +kernel
theorem dX0_fill_57 : decode cX0_fill 57 = .ok (.aload_n 0, 1) := by decide +kernel
theorem dX0_fill_58 : decode cX0_fill 58 = .ok (.iload_n 1, 1) := by decide +kernel
theorem dX0_fill_59 : decode cX0_fill 59 = .ok (.invokevirtual 120, 3) := by decide +kernel
theorem dX0_fill_62 : decode cX0_fill 62 = .ok (.istore 4, 2) := by decide +kernel
theorem dX0_fill_64 : decode cX0_fill 64 = .ok (.iload 4, 2) := by decide +kernel
theorem dX0_fill_66 : decode cX0_fill 66 = .ok (.iconst (-1), 1) := by decide +kernel
theorem dX0_fill_67 : decode cX0_fill 67 = .ok (.if_icmp .ne 6, 3) := by decide +kernel
theorem dX0_fill_70 : decode cX0_fill 70 = .ok (.goto 18, 3) := by decide +kernel
theorem dX0_fill_73 : decode cX0_fill 73 = .ok (.aload_n 0, 1) := by decide +kernel
theorem dX0_fill_74 : decode cX0_fill 74 = .ok (.iload_n 1, 1) := by decide +kernel
theorem dX0_fill_75 : decode cX0_fill 75 = .ok (.iload 4, 2) := by decide +kernel
theorem dX0_fill_77 : decode cX0_fill 77 = .ok (.iconst 0, 1) := by decide +kernel
theorem dX0_fill_78 : decode cX0_fill 78 = .ok (.invokevirtual 110, 3) := by decide +kernel
theorem dX0_fill_81 : decode cX0_fill 81 = .ok (.pop, 1) := by decide +kernel
theorem dX0_fill_82 : decode cX0_fill 82 = .ok (.iinc 3 1, 3) := by decide +kernel
theorem dX0_fill_85 : decode cX0_fill 85 = .ok (.goto (-51), 3) := by decide +kernel
theorem dX0_fill_88 : decode cX0_fill 88 = .ok (.iload_n 3, 1) := by decide +kernel
theorem dX0_fill_89 : decode cX0_fill 89 = .ok (.ireturn, 1) := by decide +kernel
set_option maxRecDepth 20000 in
theorem ggX0_move_X0_checkSpot : GoodIn wsX0_move wsX0_checkSpot := goodIn_ca (goodIn_r _ [8, 9, 10, 11, 7, 12, 13, 14, 64, 65, 66, 67, 68, 69, 70, 71, 72, 73, 74, 75, 76, 77, 78, 79, 80, 81] (by decide +kernel) (by decide +kernel)) (goodIn_sub (fun _ h => List.mem_cons_of_mem _ (List.mem_append_left _ (List.mem_append_right _ h))) (by decide +kernel))
set_option maxRecDepth 20000 in
theorem gX0_move_X0_checkSpot : GoodIn wsX0_move (wsV RX0 123 RX0 yX0_checkSpot wsX0_checkSpot) := goodIn_app (goodIn_of _ (by decide +kernel)) ggX0_move_X0_checkSpot
set_option maxRecDepth 20000 in
theorem ggX0_move_X0_checkBreak : GoodIn wsX0_move wsX0_checkBreak := goodIn_ca (goodIn_r _ [18, 19, 10, 11, 7, 12, 13, 14, 64, 65, 66, 67, 68, 69, 70, 71, 72, 73, 74, 75, 76, 77, 78, 79, 80, 81] (by decide +kernel) (by decide +kernel)) (goodIn_sub (fun _ h => List.mem_cons_of_mem _ (List.mem_append_left _ (List.mem_append_right _ h))) (by decide +kernel))
set_option maxRecDepth 20000 in
theorem gX0_move_X0_checkBreak : GoodIn wsX0_move (wsV RX0 71 RX0 yX0_checkBreak wsX0_checkBreak) := goodIn_app (goodIn_of _ (by decide +kernel)) ggX0_move_X0_checkBreak
set_option maxRecDepth 20000 in
theorem ggX0_move_X0_checkState : GoodIn wsX0_move wsX0_checkState := goodIn_ca (goodIn_r _ [22, 23, 24] (by decide +kernel) (by decide +kernel)) (goodIn_sub (fun _ h => List.mem_cons_of_mem _ (List.mem_append_right _ h)) (by decide +kernel))
set_option maxRecDepth 20000 in
theorem gX0_move_X0_checkState : GoodIn wsX0_move (va_wsS RX0 68 yX0_checkState wsX0_checkState) := goodIn_app (goodIn_of _ (by decide +kernel)) ggX0_move_X0_checkState
set_option maxRecDepth 20000 in
theorem ggX0_move_X0_obstacle : GoodIn wsX0_move wsX0_obstacle := goodIn_r _ [28, 29, 30, 31, 32, 33, 34, 35, 7, 36, 37, 9, 2, 3, 38, 39, 40, 41, 1, 42, 43, 44, 45, 46, 47, 48, 49, 50, 51, 52, 53, 54, 55, 56, 57, 58, 59, 60, 61, 62, 63, 64, 65, 66, 67, 68, 69, 70, 71, 72, 73, 74, 75, 76, 77, 78, 79, 80, 81] (by decide +kernel) (by decide +kernel)
set_option maxRecDepth 20000 in
theorem gX0_move_X0_obstacle : GoodIn wsX0_move (wsV RX0 107 RX0 yX0_obstacle wsX0_obstacle) := goodIn_app (goodIn_of _ (by decide +kernel)) ggX0_move_X0_obstacle
theorem dX0_move_0 : decode cX0_move 0 = .ok (.aload_n 0, 1) := by decide +kernel
theorem dX0_move_1 : decode cX0_move 1 = .ok (.iload_n 1, 1) := by decide +kernel
theorem dX0_move_2 : decode cX0_move 2 = .ok (.invokevirtual 123, 3) := by decide +kernel
theorem dX0_move_5 : decode cX0_move 5 = .ok (.aload_n 0, 1) := by decide +kernel
theorem dX0_move_6 : decode cX0_move 6 = .ok (.iload_n 2, 1) := by decide +kernel
theorem dX0_move_7 : decode cX0_move 7 = .ok (.invokevirtual 71, 3) := by decide +kernel
theorem dX0_move_10 : decode cX0_move 10 = .ok (.aload_n 0, 1) := by decide +kernel
theorem dX0_move_11 : decode cX0_move 11 = .ok (.getfield 50, 3) := by decide +kernel
theorem dX0_move_14 : decode cX0_move 14 = .ok (.iload_n 1, 1) := by decide +kernel
theorem dX0_move_15 : decode cX0_move 15 = .ok (.iaload, 1) := by decide +kernel
theorem dX0_move_16 : decode cX0_move 16 = .ok (.ifCond .ne 7, 3) := by decide +kernel
theorem dX0_move_19 : decode cX0_move 19 = .ok (.iconst 1, 1) := by decide +kernel
theorem dX0_move_20 : decode cX0_move 20 = .ok (.goto 4, 3) := by decide +kernel
theorem dX0_move_23 : decode cX0_move 23 = .ok (.iconst 0, 1) := by decide +kernel
theorem dX0_move_24 : decode cX0_move 24 = .ok (.invokestatic 68, 3) := by decide +kernel
theorem dX0_move_27 : decode cX0_move 27 = .ok (.aload_n 0, 1) := by decide +kernel
theorem dX0_move_28 : decode cX0_move 28 = .ok (.getfield 47, 3) := by decide +kernel
theorem dX0_move_31 : decode cX0_move 31 = .ok (.iload_n 1, 1) := by decide +kernel
theorem dX0_move_32 : decode cX0_move 32 = .ok (.iaload, 1) := by decide +kernel
theorem dX0_move_33 : decode cX0_move 33 = .ok (.istore_n 3, 1) := by decide +kernel
theorem dX0_move_34 : decode cX0_move 34 = .ok (.iload_n 2, 1) := by decide +kernel
theorem dX0_move_35 : decode cX0_move 35 = .ok (.iload_n 3, 1) := by decide +kernel
theorem dX0_move_36 : decode cX0_move 36 = .ok (.if_icmp .eq 17, 3) := by decide +kernel
theorem dX0_move_39 : decode cX0_move 39 = .ok (.aload_n 0, 1) := by decide +kernel
theorem dX0_move_40 : decode cX0_move 40 = .ok (.aload_n 0, 1) := by decide +kernel
theorem dX0_move_41 : decode cX0_move 41 = .ok (.getfield 44, 3) := by decide +kernel
theorem dX0_move_44 : decode cX0_move 44 = .ok (.iload_n 1, 1) := by decide +kernel
theorem dX0_move_45 : decode cX0_move 45 = .ok (.iaload, 1) := by decide +kernel
theorem dX0_move_46 : decode cX0_move 46 = .ok (.iload_n 2, 1) := by decide +kernel
theorem dX0_move_47 : decode cX0_move 47 = .ok (.invokevirtual 107, 3) := by decide +kernel
theorem dX0_move_50 : decode cX0_move 50 = .ok (.ifCond .ne 7, 3) := by decide +kernel
theorem dX0_move_53 : decode cX0_move 53 = .ok (.iconst 1, 1) := by decide +kernel
theorem dX0_move_54 : decode cX0_move 54 = .ok (.goto 4, 3) := by decide +kernel
theorem dX0_move_57 : decode cX0_move 57 = .ok (.iconst 0, 1) := by decide +kernel
theorem dX0_move_58 : decode cX0_move 58 = .ok (.invokestatic 68, 3) := by decide +kernel
theorem dX0_move_61 : decode cX0_move 61 = .ok (.aload_n 0, 1) := by decide +kernel
theorem dX0_move_62 : decode cX0_move 62 = .ok (.getfield 47, 3) := by decide +kernel
theorem dX0_move_65 : decode cX0_move 65 = .ok (.iload_n 1, 1) := by decide +kernel
theorem dX0_move_66 : decode cX0_move 66 = .ok (.iload_n 2, 1) := by decide +kernel
theorem dX0_move_67 : decode cX0_move 67 = .ok (.iastore, 1) := by decide +kernel
theorem dX0_move_68 : decode cX0_move 68 = .ok (.iload_n 3, 1) := by decide +kernel
theorem dX0_move_69 : decode cX0_move 69 = .ok (.ireturn, 1) := by decide +kernel
set_option maxRecDepth 20000 in
theorem ggX0_miss_X0_checkSpot : GoodIn wsX0_miss wsX0_checkSpot := goodIn_ca (goodIn_r _ [6, 7, 8, 9, 5, 10, 11, 12, 22, 23, 24, 25, 26, 27, 28, 29, 30, 31, 32, 33, 34, 35, 36, 37, 38, 39] (by decide +kernel) (by decide +kernel)) (goodIn_sub (fun _ h => List.mem_cons_of_mem _ (List.mem_append_left _ (List.mem_append_right _ h))) (by decide +kernel))
set_option maxRecDepth 20000 in
theorem gX0_miss_X0_checkSpot : GoodIn wsX0_miss (wsV RX0 123 RX0 yX0_checkSpot wsX0_checkSpot) := goodIn_app (goodIn_of _ (by decide +kernel)) ggX0_miss_X0_checkSpot
set_option maxRecDepth 20000 in
theorem ggX0_miss_X0_isInBreak : GoodIn wsX0_miss wsX0_isInBreak := goodIn_r _ [16, 1, 22, 23, 24, 25, 26, 27, 28, 29, 30, 31, 32, 33, 34, 35, 36, 37, 38, 39] (by decide +kernel) (by decide +kernel)
set_option maxRecDepth 20000 in
theorem gX0_miss_X0_isInBreak : GoodIn wsX0_miss (wsV RX0 126 RX0 yX0_isInBreak wsX0_isInBreak) := goodIn_app (goodIn_of _ (by decide +kernel)) ggX0_miss_X0_isInBreak
set_option maxRecDepth 20000 in
theorem ggX0_miss_X0_checkState : GoodIn wsX0_miss wsX0_checkState := goodIn_ca (goodIn_r _ [19, 20, 21] (by decide +kernel) (by decide +kernel)) (goodIn_sub (fun _ h => List.mem_cons_of_mem _ (List.mem_append_right _ h)) (by decide +kernel))
set_option maxRecDepth 20000 in
theorem gX0_miss_X0_checkState : GoodIn wsX0_miss (va_wsS RX0 68 yX0_checkState wsX0_checkState) := goodIn_app (goodIn_of _ (by decide +kernel)) ggX0_miss_X0_checkState
theorem dX0_miss_0 : decode cX0_miss 0 = .ok (.aload_n 0, 1) := by decide +kernel
theorem dX0_miss_1 : decode cX0_miss 1 = .ok (.iload_n 1, 1) := by decide +kernel
theorem dX0_miss_2 : decode cX0_miss 2 = .ok (.invokevirtual 123, 3) := by decide +kernel
theorem dX0_miss_5 : decode cX0_miss 5 = .ok (.aload_n 0, 1) := by decide +kernel
theorem dX0_miss_6 : decode cX0_miss 6 = .ok (.iload_n 1, 1) := by decide +kernel
theorem dX0_miss_7 : decode cX0_miss 7 = .ok (.invokevirtual 126, 3) := by decide +kernel
theorem dX0_miss_10 : decode cX0_miss 10 = .ok (.invokestatic 68, 3) := by decide +kernel
theorem dX0_miss_13 : decode cX0_miss 13 = .ok (.aload_n 0, 1) := by decide +kernel
theorem dX0_miss_14 : decode cX0_miss 14 = .ok (.getfield 50, 3) := by decide +kernel
theorem dX0_miss_17 : decode cX0_miss 17 = .ok (.iload_n 1, 1) := by decide +kernel
theorem dX0_miss_18 : decode cX0_miss 18 = .ok (.iaload, 1) := by decide +kernel
theorem dX0_miss_19 : decode cX0_miss 19 = .ok (.iconst 1, 1) := by decide +kernel
theorem dX0_miss_20 : decode cX0_miss 20 = .ok (.if_icmp .ne 7, 3) := by decide +kernel
theorem dX0_miss_23 : decode cX0_miss 23 = .ok (.iconst 1, 1) := by decide +kernel
theorem dX0_miss_24 : decode cX0_miss 24 = .ok (.goto 4, 3) := by decide +kernel
theorem dX0_miss_27 : decode cX0_miss 27 = .ok (.iconst 0, 1) := by decide +kernel
theorem dX0_miss_28 : decode cX0_miss 28 = .ok (.istore_n 2, 1) := by decide +kernel
theorem dX0_miss_29 : decode cX0_miss 29 = .ok (.aload_n 0, 1) := by decide +kernel
theorem dX0_miss_30 : decode cX0_miss 30 = .ok (.getfield 50, 3) := by decide +kernel
theorem dX0_miss_33 : decode cX0_miss 33 = .ok (.iload_n 1, 1) := by decide +kernel
theorem dX0_miss_34 : decode cX0_miss 34 = .ok (.iconst 2, 1) := by decide +kernel
theorem dX0_miss_35 : decode cX0_miss 35 = .ok (.iastore, 1) := by decide +kernel
theorem dX0_miss_36 : decode cX0_miss 36 = .ok (.iload_n 2, 1) := by decide +kernel
theorem dX0_miss_37 : decode cX0_miss 37 = .ok (.ireturn, 1) := by decide +kernel
set_option maxRecDepth 20000 in
theorem ggX0_drop_X0_checkSpot : GoodIn wsX0_drop wsX0_checkSpot := goodIn_ca (goodIn_r _ [6, 7, 8, 9, 5, 10, 11, 12, 18, 19, 20, 21, 22, 23, 24, 25, 26, 27, 28, 29, 30, 31, 32, 33, 34, 35] (by decide +kernel) (by decide +kernel)) (goodIn_sub (fun _ h => List.mem_cons_of_mem _ (List.mem_append_left _ (List.mem_append_right _ h))) (by decide +kernel))
set_option maxRecDepth 20000 in
theorem gX0_drop_X0_checkSpot : GoodIn wsX0_drop (wsV RX0 123 RX0 yX0_checkSpot wsX0_checkSpot) := goodIn_app (goodIn_of _ (by decide +kernel)) ggX0_drop_X0_checkSpot
set_option maxRecDepth 20000 in
theorem ggX0_drop_X0_checkState : GoodIn wsX0_drop wsX0_checkState := goodIn_ca (goodIn_r _ [15, 16, 17] (by decide +kernel) (by decide +kernel)) (goodIn_sub (fun _ h => List.mem_cons_of_mem _ (List.mem_append_right _ h)) (by decide +kernel))
set_option maxRecDepth 20000 in
theorem gX0_drop_X0_checkState : GoodIn wsX0_drop (va_wsS RX0 68 yX0_checkState wsX0_checkState) := goodIn_app (goodIn_of _ (by decide +kernel)) ggX0_drop_X0_checkState
theorem dX0_drop_0 : decode cX0_drop 0 = .ok (.aload_n 0, 1) := by decide +kernel
theorem dX0_drop_1 : decode cX0_drop 1 = .ok (.iload_n 1, 1) := by decide +kernel
theorem dX0_drop_2 : decode cX0_drop 2 = .ok (.invokevirtual 123, 3) := by decide +kernel
theorem dX0_drop_5 : decode cX0_drop 5 = .ok (.aload_n 0, 1) := by decide +kernel
theorem dX0_drop_6 : decode cX0_drop 6 = .ok (.getfield 50, 3) := by decide +kernel
theorem dX0_drop_9 : decode cX0_drop 9 = .ok (.iload_n 1, 1) := by decide +kernel
theorem dX0_drop_10 : decode cX0_drop 10 = .ok (.iaload, 1) := by decide +kernel
theorem dX0_drop_11 : decode cX0_drop 11 = .ok (.ifCond .ne 7, 3) := by decide +kernel
theorem dX0_drop_14 : decode cX0_drop 14 = .ok (.iconst 1, 1) := by decide +kernel
theorem dX0_drop_15 : decode cX0_drop 15 = .ok (.goto 4, 3) := by decide +kernel
theorem dX0_drop_18 : decode cX0_drop 18 = .ok (.iconst 0, 1) := by decide +kernel
theorem dX0_drop_19 : decode cX0_drop 19 = .ok (.invokestatic 68, 3) := by decide +kernel
theorem dX0_drop_22 : decode cX0_drop 22 = .ok (.aload_n 0, 1) := by decide +kernel
theorem dX0_drop_23 : decode cX0_drop 23 = .ok (.getfield 50, 3) := by decide +kernel
theorem dX0_drop_26 : decode cX0_drop 26 = .ok (.iload_n 1, 1) := by decide +kernel
theorem dX0_drop_27 : decode cX0_drop 27 = .ok (.iconst 3, 1) := by decide +kernel
theorem dX0_drop_28 : decode cX0_drop 28 = .ok (.iastore, 1) := by decide +kernel
theorem dX0_drop_29 : decode cX0_drop 29 = .ok (.return_, 1) := by decide +kernel
theorem dX0_spots_0 : decode cX0_spots 0 = .ok (.aload_n 0, 1) := by decide +kernel
theorem dX0_spots_1 : decode cX0_spots 1 = .ok (.getfield 84, 3) := by decide +kernel
theorem dX0_spots_4 : decode cX0_spots 4 = .ok (.ireturn, 1) := by decide +kernel
set_option maxRecDepth 20000 in
theorem ggX0_stateOf_X0_checkSpot : GoodIn wsX0_stateOf wsX0_checkSpot := goodIn_ca (goodIn_r _ [6, 7, 8, 9, 5, 10, 11, 12, 13, 14, 15, 16, 17, 18, 19, 20, 21, 22, 23, 24, 25, 26, 27, 28, 29, 30] (by decide +kernel) (by decide +kernel)) (goodIn_sub (fun _ h => List.mem_cons_of_mem _ (List.mem_append_right _ h)) (by decide +kernel))
set_option maxRecDepth 20000 in
theorem gX0_stateOf_X0_checkSpot : GoodIn wsX0_stateOf (wsV RX0 123 RX0 yX0_checkSpot wsX0_checkSpot) := goodIn_app (goodIn_of _ (by decide +kernel)) ggX0_stateOf_X0_checkSpot
theorem dX0_stateOf_0 : decode cX0_stateOf 0 = .ok (.aload_n 0, 1) := by decide +kernel
theorem dX0_stateOf_1 : decode cX0_stateOf 1 = .ok (.iload_n 1, 1) := by decide +kernel
theorem dX0_stateOf_2 : decode cX0_stateOf 2 = .ok (.invokevirtual 123, 3) := by decide +kernel
theorem dX0_stateOf_5 : decode cX0_stateOf 5 = .ok (.aload_n 0, 1) := by decide +kernel
theorem dX0_stateOf_6 : decode cX0_stateOf 6 = .ok (.getfield 50, 3) := by decide +kernel
theorem dX0_stateOf_9 : decode cX0_stateOf 9 = .ok (.iload_n 1, 1) := by decide +kernel
theorem dX0_stateOf_10 : decode cX0_stateOf 10 = .ok (.iaload, 1) := by decide +kernel
theorem dX0_stateOf_11 : decode cX0_stateOf 11 = .ok (.ireturn, 1) := by decide +kernel
set_option maxRecDepth 20000 in
theorem ggX0_breakOf_X0_checkSpot : GoodIn wsX0_breakOf wsX0_checkSpot := goodIn_ca (goodIn_r _ [6, 7, 8, 9, 5, 10, 11, 12, 13, 14, 15, 16, 17, 18, 19, 20, 21, 22, 23, 24, 25, 26, 27, 28, 29, 30] (by decide +kernel) (by decide +kernel)) (goodIn_sub (fun _ h => List.mem_cons_of_mem _ (List.mem_append_right _ h)) (by decide +kernel))
set_option maxRecDepth 20000 in
theorem gX0_breakOf_X0_checkSpot : GoodIn wsX0_breakOf (wsV RX0 123 RX0 yX0_checkSpot wsX0_checkSpot) := goodIn_app (goodIn_of _ (by decide +kernel)) ggX0_breakOf_X0_checkSpot
theorem dX0_breakOf_0 : decode cX0_breakOf 0 = .ok (.aload_n 0, 1) := by decide +kernel
theorem dX0_breakOf_1 : decode cX0_breakOf 1 = .ok (.iload_n 1, 1) := by decide +kernel
theorem dX0_breakOf_2 : decode cX0_breakOf 2 = .ok (.invokevirtual 123, 3) := by decide +kernel
theorem dX0_breakOf_5 : decode cX0_breakOf 5 = .ok (.aload_n 0, 1) := by decide +kernel
theorem dX0_breakOf_6 : decode cX0_breakOf 6 = .ok (.getfield 47, 3) := by decide +kernel
theorem dX0_breakOf_9 : decode cX0_breakOf 9 = .ok (.iload_n 1, 1) := by decide +kernel
theorem dX0_breakOf_10 : decode cX0_breakOf 10 = .ok (.iaload, 1) := by decide +kernel
theorem dX0_breakOf_11 : decode cX0_breakOf 11 = .ok (.ireturn, 1) := by decide +kernel
set_option maxRecDepth 20000 in
theorem ggX0_delivered_X0_checkOrder : GoodIn wsX0_delivered wsX0_checkOrder := goodIn_ca (goodIn_r _ [5, 6, 7, 8, 4, 9, 10, 11, 29, 30, 31, 32, 33, 34, 35, 36, 37, 38, 39, 40, 41, 42, 43, 44, 45, 46] (by decide +kernel) (by decide +kernel)) (goodIn_sub (fun _ h => List.mem_cons_of_mem _ (List.mem_append_right _ h)) (by decide +kernel))
set_option maxRecDepth 20000 in
theorem gX0_delivered_X0_checkOrder : GoodIn wsX0_delivered (wsV RX0 101 RX0 yX0_checkOrder wsX0_checkOrder) := goodIn_app (goodIn_of _ (by decide +kernel)) ggX0_delivered_X0_checkOrder
set_option maxRecDepth 20000 in
theorem ggX0_delivered_X0_audience : GoodIn wsX0_delivered wsX0_audience := goodIn_r _ [15, 16, 17, 18, 19, 20, 21, 22, 4, 23, 24, 25, 26, 27, 28, 29, 30, 31, 32, 33, 34, 35, 36, 37, 38, 39, 40, 41, 42, 43, 44, 45, 46] (by decide +kernel) (by decide +kernel)
set_option maxRecDepth 20000 in
theorem gX0_delivered_X0_audience : GoodIn wsX0_delivered (wsV RX0 129 RX0 yX0_audience wsX0_audience) := goodIn_app (goodIn_of _ (by decide +kernel)) ggX0_delivered_X0_audience
theorem dX0_delivered_0 : decode cX0_delivered 0 = .ok (.aload_n 0, 1) := by decide +kernel
theorem dX0_delivered_1 : decode cX0_delivered 1 = .ok (.iload_n 1, 1) := by decide +kernel
theorem dX0_delivered_2 : decode cX0_delivered 2 = .ok (.invokevirtual 101, 3) := by decide +kernel
theorem dX0_delivered_5 : decode cX0_delivered 5 = .ok (.aload_n 0, 1) := by decide +kernel
theorem dX0_delivered_6 : decode cX0_delivered 6 = .ok (.iload_n 1, 1) := by decide +kernel
theorem dX0_delivered_7 : decode cX0_delivered 7 = .ok (.iconst 1, 1) := by decide +kernel
theorem dX0_delivered_8 : decode cX0_delivered 8 = .ok (.invokevirtual 129, 3) := by decide +kernel
theorem dX0_delivered_11 : decode cX0_delivered 11 = .ok (.ireturn, 1) := by decide +kernel
set_option maxRecDepth 20000 in
theorem ggX0_owed_X0_checkOrder : GoodIn wsX0_owed wsX0_checkOrder := goodIn_ca (goodIn_r _ [5, 6, 7, 8, 4, 9, 10, 11, 39, 40, 41, 42, 43, 44, 45, 46, 47, 48, 49, 50, 51, 52, 53, 54, 55, 56] (by decide +kernel) (by decide +kernel)) (goodIn_sub (fun _ h => List.mem_cons_of_mem _ (List.mem_append_right _ h)) (by decide +kernel))
set_option maxRecDepth 20000 in
theorem gX0_owed_X0_checkOrder : GoodIn wsX0_owed (wsV RX0 101 RX0 yX0_checkOrder wsX0_checkOrder) := goodIn_app (goodIn_of _ (by decide +kernel)) ggX0_owed_X0_checkOrder
set_option maxRecDepth 20000 in
theorem ggX0_owed_X0_owedTo : GoodIn wsX0_owed wsX0_owedTo := goodIn_r _ [15, 16, 17, 18, 19, 20, 21, 22, 23, 24, 4, 25, 26, 27, 28, 29, 30, 31, 32, 33, 34, 35, 36, 37, 38, 39, 40, 41, 42, 43, 44, 45, 46, 47, 48, 49, 50, 51, 52, 53, 54, 55, 56] (by decide +kernel) (by decide +kernel)
set_option maxRecDepth 20000 in
theorem gX0_owed_X0_owedTo : GoodIn wsX0_owed (wsV RX0 104 RX0 yX0_owedTo wsX0_owedTo) := goodIn_app (goodIn_of _ (by decide +kernel)) ggX0_owed_X0_owedTo
theorem dX0_owed_0 : decode cX0_owed 0 = .ok (.aload_n 0, 1) := by decide +kernel
theorem dX0_owed_1 : decode cX0_owed 1 = .ok (.iload_n 1, 1) := by decide +kernel
theorem dX0_owed_2 : decode cX0_owed 2 = .ok (.invokevirtual 101, 3) := by decide +kernel
theorem dX0_owed_5 : decode cX0_owed 5 = .ok (.aload_n 0, 1) := by decide +kernel
theorem dX0_owed_6 : decode cX0_owed 6 = .ok (.iload_n 1, 1) := by decide +kernel
theorem dX0_owed_7 : decode cX0_owed 7 = .ok (.invokevirtual 104, 3) := by decide +kernel
theorem dX0_owed_10 : decode cX0_owed 10 = .ok (.ireturn, 1) := by decide +kernel
set_option maxRecDepth 20000 in
theorem ggX0_rest_X0_checkOrder : GoodIn wsX0_rest wsX0_checkOrder := goodIn_ca (goodIn_r _ [5, 6, 7, 8, 4, 9, 10, 11, 44, 45, 46, 47, 48, 49, 50, 51, 52, 53, 54, 55, 56, 57, 58, 59, 60, 61] (by decide +kernel) (by decide +kernel)) (goodIn_sub (fun _ h => List.mem_cons_of_mem _ (List.mem_append_right _ h)) (by decide +kernel))
set_option maxRecDepth 20000 in
theorem gX0_rest_X0_checkOrder : GoodIn wsX0_rest (wsV RX0 101 RX0 yX0_checkOrder wsX0_checkOrder) := goodIn_app (goodIn_of _ (by decide +kernel)) ggX0_rest_X0_checkOrder
set_option maxRecDepth 20000 in
theorem ggX0_rest_X0_restOf : GoodIn wsX0_rest wsX0_restOf := goodIn_r _ [15, 16, 17, 18, 19, 20, 21, 22, 23, 24, 25, 26, 27, 4, 28, 29, 30, 31, 32, 33, 34, 35, 36, 37, 38, 39, 40, 41, 42, 43, 44, 45, 46, 47, 48, 49, 50, 51, 52, 53, 54, 55, 56, 57, 58, 59, 60, 61] (by decide +kernel) (by decide +kernel)
set_option maxRecDepth 20000 in
theorem gX0_rest_X0_restOf : GoodIn wsX0_rest (wsV RX0 114 RX0 yX0_restOf wsX0_restOf) := goodIn_app (goodIn_of _ (by decide +kernel)) ggX0_rest_X0_restOf
theorem dX0_rest_0 : decode cX0_rest 0 = .ok (.aload_n 0, 1) := by decide +kernel
theorem dX0_rest_1 : decode cX0_rest 1 = .ok (.iload_n 1, 1) := by decide +kernel
theorem dX0_rest_2 : decode cX0_rest 2 = .ok (.invokevirtual 101, 3) := by decide +kernel
theorem dX0_rest_5 : decode cX0_rest 5 = .ok (.aload_n 0, 1) := by decide +kernel
theorem dX0_rest_6 : decode cX0_rest 6 = .ok (.iload_n 1, 1) := by decide +kernel
theorem dX0_rest_7 : decode cX0_rest 7 = .ok (.invokevirtual 114, 3) := by decide +kernel
theorem dX0_rest_10 : decode cX0_rest 10 = .ok (.ireturn, 1) := by decide +kernel
set_option maxRecDepth 20000 in
theorem ggX0_bill_X0_checkOrder : GoodIn wsX0_bill wsX0_checkOrder := goodIn_ca (goodIn_r _ [5, 6, 7, 8, 4, 9, 10, 11, 21, 22, 23, 24, 25, 26, 27, 28, 29, 30, 31, 32, 33, 34, 35, 36, 37, 38] (by decide +kernel) (by decide +kernel)) (goodIn_sub (fun _ h => List.mem_cons_of_mem _ (List.mem_append_right _ h)) (by decide +kernel))
set_option maxRecDepth 20000 in
theorem gX0_bill_X0_checkOrder : GoodIn wsX0_bill (wsV RX0 101 RX0 yX0_checkOrder wsX0_checkOrder) := goodIn_app (goodIn_of _ (by decide +kernel)) ggX0_bill_X0_checkOrder
set_option maxRecDepth 20000 in
theorem ggX0_bill_X0_billOf : GoodIn wsX0_bill wsX0_billOf := goodIn_r _ [15, 16, 17, 18, 19, 20, 21, 22, 23, 24, 25, 26, 27, 28, 29, 30, 31, 32, 33, 34, 35, 36, 37, 38] (by decide +kernel) (by decide +kernel)
set_option maxRecDepth 20000 in
theorem gX0_bill_X0_billOf : GoodIn wsX0_bill (wsV RX0 132 RX0 yX0_billOf wsX0_billOf) := goodIn_app (goodIn_of _ (by decide +kernel)) ggX0_bill_X0_billOf
theorem dX0_bill_0 : decode cX0_bill 0 = .ok (.aload_n 0, 1) := by decide +kernel
theorem dX0_bill_1 : decode cX0_bill 1 = .ok (.iload_n 1, 1) := by decide +kernel
theorem dX0_bill_2 : decode cX0_bill 2 = .ok (.invokevirtual 101, 3) := by decide +kernel
theorem dX0_bill_5 : decode cX0_bill 5 = .ok (.aload_n 0, 1) := by decide +kernel
theorem dX0_bill_6 : decode cX0_bill 6 = .ok (.iload_n 1, 1) := by decide +kernel
theorem dX0_bill_7 : decode cX0_bill 7 = .ok (.invokevirtual 132, 3) := by decide +kernel
theorem dX0_bill_10 : decode cX0_bill 10 = .ok (.ireturn, 1) := by decide +kernel
set_option maxRecDepth 20000 in
theorem ggX0_billTo_X0_isAdvertiser : GoodIn wsX0_billTo wsX0_isAdvertiser := goodIn_r _ [6, 7, 8, 5, 9] (by decide +kernel) (by decide +kernel)
set_option maxRecDepth 20000 in
theorem gX0_billTo_X0_isAdvertiser : GoodIn wsX0_billTo (va_wsS RX0 91 yX0_isAdvertiser wsX0_isAdvertiser) := goodIn_app (goodIn_of _ (by decide +kernel)) ggX0_billTo_X0_isAdvertiser
set_option maxRecDepth 20000 in
theorem ggX0_billTo_X0_checkArgument : GoodIn wsX0_billTo wsX0_checkArgument := goodIn_ca (goodIn_r _ [12, 13, 14] (by decide +kernel) (by decide +kernel)) (goodIn_sub (fun _ h => List.mem_cons_of_mem _ (List.mem_append_right _ h)) (by decide +kernel))
set_option maxRecDepth 20000 in
theorem gX0_billTo_X0_checkArgument : GoodIn wsX0_billTo (va_wsS RX0 60 yX0_checkArgument wsX0_checkArgument) := goodIn_app (goodIn_of _ (by decide +kernel)) ggX0_billTo_X0_checkArgument
set_option maxRecDepth 20000 in
theorem ggX0_billTo_X0_billOf : GoodIn wsX0_billTo wsX0_billOf := goodIn_r _ [18, 19, 20, 21, 22, 23, 24, 25, 26, 27, 28, 29, 30, 31, 32, 33, 34, 35, 36, 37, 38, 39, 40, 41] (by decide +kernel) (by decide +kernel)
set_option maxRecDepth 20000 in
theorem gX0_billTo_X0_billOf : GoodIn wsX0_billTo (wsV RX0 132 RX0 yX0_billOf wsX0_billOf) := goodIn_app (goodIn_of _ (by decide +kernel)) ggX0_billTo_X0_billOf
theorem dX0_billTo_0 : decode cX0_billTo 0 = .ok (.iload_n 1, 1) := by decide +kernel
theorem dX0_billTo_1 : decode cX0_billTo 1 = .ok (.invokestatic 91, 3) := by decide +kernel
theorem dX0_billTo_4 : decode cX0_billTo 4 = .ok (.invokestatic 60, 3) := by decide +kernel
theorem dX0_billTo_7 : decode cX0_billTo 7 = .ok (.iconst 0, 1) := by decide +kernel
theorem dX0_billTo_8 : decode cX0_billTo 8 = .ok (.istore_n 2, 1) := by decide +kernel
theorem dX0_billTo_9 : decode cX0_billTo 9 = .ok (.iconst 0, 1) := by decide +kernel
theorem dX0_billTo_10 : decode cX0_billTo 10 = .ok (.istore_n 3, 1) := by decide +kernel
theorem dX0_billTo_11 : decode cX0_billTo 11 = .ok (.iload_n 3, 1) := by decide +kernel
theorem dX0_billTo_12 : decode cX0_billTo 12 = .ok (.aload_n 0, 1) := by decide +kernel
theorem dX0_billTo_13 : decode cX0_billTo 13 = .ok (.getfield 98, 3) := by decide +kernel
theorem dX0_billTo_16 : decode cX0_billTo 16 = .ok (.if_icmp .ge 27, 3) := by decide +kernel
theorem dX0_billTo_19 : decode cX0_billTo 19 = .ok (.aload_n 0, 1) := by decide +kernel
theorem dX0_billTo_20 : decode cX0_billTo 20 = .ok (.getfield 20, 3) := by decide +kernel
theorem dX0_billTo_23 : decode cX0_billTo 23 = .ok (.iload_n 3, 1) := by decide +kernel
theorem dX0_billTo_24 : decode cX0_billTo 24 = .ok (.iaload, 1) := by decide +kernel
theorem dX0_billTo_25 : decode cX0_billTo 25 = .ok (.iload_n 1, 1) := by decide +kernel
theorem dX0_billTo_26 : decode cX0_billTo 26 = .ok (.if_icmp .ne 11, 3) := by decide +kernel
theorem dX0_billTo_29 : decode cX0_billTo 29 = .ok (.iload_n 2, 1) := by decide +kernel
theorem dX0_billTo_30 : decode cX0_billTo 30 = .ok (.aload_n 0, 1) := by decide +kernel
theorem dX0_billTo_31 : decode cX0_billTo 31 = .ok (.iload_n 3, 1) := by decide +kernel
theorem dX0_billTo_32 : decode cX0_billTo 32 = .ok (.invokevirtual 132, 3) := by decide +kernel
theorem dX0_billTo_35 : decode cX0_billTo 35 = .ok (.iadd, 1) := by decide +kernel
theorem dX0_billTo_36 : decode cX0_billTo 36 = .ok (.istore_n 2, 1) := by decide +kernel
theorem dX0_billTo_37 : decode cX0_billTo 37 = .ok (.iinc 3 1, 3) := by decide +kernel
theorem dX0_billTo_40 : decode cX0_billTo 40 = .ok (.goto (-29), 3) := by decide +kernel
theorem dX0_billTo_43 : decode cX0_billTo 43 = .ok (.iload_n 2, 1) := by decide +kernel
theorem dX0_billTo_44 : decode cX0_billTo 44 = .ok (.ireturn, 1) := by decide +kernel
set_option maxRecDepth 20000 in
theorem ggX0_mostOwed_X0_restOf : GoodIn wsX0_mostOwed wsX0_restOf := goodIn_r _ [6, 7, 8, 9, 10, 11, 12, 13, 14, 15, 16, 17, 18, 5, 19, 20, 21, 22, 23, 24, 25, 26, 27, 28, 29, 30, 31, 32, 33, 34, 35, 36, 37, 38, 39, 40, 41, 42, 43, 44, 45, 46, 47, 48, 49, 50, 51, 52] (by decide +kernel) (by decide +kernel)
set_option maxRecDepth 20000 in
theorem gX0_mostOwed_X0_restOf : GoodIn wsX0_mostOwed (wsV RX0 114 RX0 yX0_restOf wsX0_restOf) := goodIn_app (goodIn_of _ (by decide +kernel)) ggX0_mostOwed_X0_restOf
theorem dX0_mostOwed_0 : decode cX0_mostOwed 0 = .ok (.iconst (-1), 1) := by decide +kernel
theorem dX0_mostOwed_1 : decode cX0_mostOwed 1 = .ok (.istore_n 1, 1) := by decide +kernel
theorem dX0_mostOwed_2 : decode cX0_mostOwed 2 = .ok (.iconst 0, 1) := by decide +kernel
theorem dX0_mostOwed_3 : decode cX0_mostOwed 3 = .ok (.istore_n 2, 1) := by decide +kernel
theorem dX0_mostOwed_4 : decode cX0_mostOwed 4 = .ok (.iconst 0, 1) := by decide +kernel
theorem dX0_mostOwed_5 : decode cX0_mostOwed 5 = .ok (.istore_n 3, 1) := by decide +kernel
theorem dX0_mostOwed_6 : decode cX0_mostOwed 6 = .ok (.iload_n 3, 1) := by decide +kernel
theorem dX0_mostOwed_7 : decode cX0_mostOwed 7 = .ok (.aload_n 0, 1) := by decide +kernel
theorem dX0_mostOwed_8 : decode cX0_mostOwed 8 = .ok (.getfield 98, 3) := by decide +kernel
theorem dX0_mostOwed_11 : decode cX0_mostOwed 11 = .ok (.if_icmp .ge 27, 3) := by decide +kernel
theorem dX0_mostOwed_14 : decode cX0_mostOwed 14 = .ok (.aload_n 0, 1) := by decide +kernel
theorem dX0_mostOwed_15 : decode cX0_mostOwed 15 = .ok (.iload_n 3, 1) := by decide +kernel
theorem dX0_mostOwed_16 : decode cX0_mostOwed 16 = .ok (.invokevirtual 114, 3) := by decide +kernel
theorem dX0_mostOwed_19 : decode cX0_mostOwed 19 = .ok (.istore 4, 2) := by decide +kernel
theorem dX0_mostOwed_21 : decode cX0_mostOwed 21 = .ok (.iload 4, 2) := by decide +kernel
theorem dX0_mostOwed_23 : decode cX0_mostOwed 23 = .ok (.iload_n 2, 1) := by decide +kernel
theorem dX0_mostOwed_24 : decode cX0_mostOwed 24 = .ok (.if_icmp .le 8, 3) := by decide +kernel
theorem dX0_mostOwed_27 : decode cX0_mostOwed 27 = .ok (.iload 4, 2) := by decide +kernel
theorem dX0_mostOwed_29 : decode cX0_mostOwed 29 = .ok (.istore_n 2, 1) := by decide +kernel
theorem dX0_mostOwed_30 : decode cX0_mostOwed 30 = .ok (.iload_n 3, 1) := by decide +kernel
theorem dX0_mostOwed_31 : decode cX0_mostOwed 31 = .ok (.istore_n 1, 1) := by decide +kernel
theorem dX0_mostOwed_32 : decode cX0_mostOwed 32 = .ok (.iinc 3 1, 3) := by decide +kernel
theorem dX0_mostOwed_35 : decode cX0_mostOwed 35 = .ok (.goto (-29), 3) := by decide +kernel
theorem dX0_mostOwed_38 : decode cX0_mostOwed 38 = .ok (.iload_n 1, 1) := by decide +kernel
theorem dX0_mostOwed_39 : decode cX0_mostOwed 39 = .ok (.ireturn, 1) := by decide +kernel
set_option maxRecDepth 20000 in
theorem ggX0_checkBreak_X0_checkIndex : GoodIn wsX0_checkBreak wsX0_checkIndex := goodIn_ca (goodIn_r _ [5, 6, 7] (by decide +kernel) (by decide +kernel)) (goodIn_sub (fun _ h => List.mem_cons_of_mem _ (List.mem_append_right _ h)) (by decide +kernel))
set_option maxRecDepth 20000 in
theorem gX0_checkBreak_X0_checkIndex : GoodIn wsX0_checkBreak (va_wsS RX0 135 yX0_checkIndex wsX0_checkIndex) := goodIn_app (goodIn_of _ (by decide +kernel)) ggX0_checkBreak_X0_checkIndex
theorem dX0_checkBreak_0 : decode cX0_checkBreak 0 = .ok (.iload_n 1, 1) := by decide +kernel
theorem dX0_checkBreak_1 : decode cX0_checkBreak 1 = .ok (.aload_n 0, 1) := by decide +kernel
theorem dX0_checkBreak_2 : decode cX0_checkBreak 2 = .ok (.getfield 64, 3) := by decide +kernel
theorem dX0_checkBreak_5 : decode cX0_checkBreak 5 = .ok (.invokestatic 135, 3) := by decide +kernel
theorem dX0_checkBreak_8 : decode cX0_checkBreak 8 = .ok (.return_, 1) := by decide +kernel
set_option maxRecDepth 20000 in
theorem ggX0_checkOrder_X0_checkIndex : GoodIn wsX0_checkOrder wsX0_checkIndex := goodIn_ca (goodIn_r _ [5, 6, 7] (by decide +kernel) (by decide +kernel)) (goodIn_sub (fun _ h => List.mem_cons_of_mem _ (List.mem_append_right _ h)) (by decide +kernel))
set_option maxRecDepth 20000 in
theorem gX0_checkOrder_X0_checkIndex : GoodIn wsX0_checkOrder (va_wsS RX0 135 yX0_checkIndex wsX0_checkIndex) := goodIn_app (goodIn_of _ (by decide +kernel)) ggX0_checkOrder_X0_checkIndex
theorem dX0_checkOrder_0 : decode cX0_checkOrder 0 = .ok (.iload_n 1, 1) := by decide +kernel
theorem dX0_checkOrder_1 : decode cX0_checkOrder 1 = .ok (.aload_n 0, 1) := by decide +kernel
theorem dX0_checkOrder_2 : decode cX0_checkOrder 2 = .ok (.getfield 98, 3) := by decide +kernel
theorem dX0_checkOrder_5 : decode cX0_checkOrder 5 = .ok (.invokestatic 135, 3) := by decide +kernel
theorem dX0_checkOrder_8 : decode cX0_checkOrder 8 = .ok (.return_, 1) := by decide +kernel
set_option maxRecDepth 20000 in
theorem ggX0_checkSpot_X0_checkIndex : GoodIn wsX0_checkSpot wsX0_checkIndex := goodIn_ca (goodIn_r _ [5, 6, 7] (by decide +kernel) (by decide +kernel)) (goodIn_sub (fun _ h => List.mem_cons_of_mem _ (List.mem_append_right _ h)) (by decide +kernel))
set_option maxRecDepth 20000 in
theorem gX0_checkSpot_X0_checkIndex : GoodIn wsX0_checkSpot (va_wsS RX0 135 yX0_checkIndex wsX0_checkIndex) := goodIn_app (goodIn_of _ (by decide +kernel)) ggX0_checkSpot_X0_checkIndex
theorem dX0_checkSpot_0 : decode cX0_checkSpot 0 = .ok (.iload_n 1, 1) := by decide +kernel
theorem dX0_checkSpot_1 : decode cX0_checkSpot 1 = .ok (.aload_n 0, 1) := by decide +kernel
theorem dX0_checkSpot_2 : decode cX0_checkSpot 2 = .ok (.getfield 84, 3) := by decide +kernel
theorem dX0_checkSpot_5 : decode cX0_checkSpot 5 = .ok (.invokestatic 135, 3) := by decide +kernel
theorem dX0_checkSpot_8 : decode cX0_checkSpot 8 = .ok (.return_, 1) := by decide +kernel
theorem dX0_checkIndex_0 : decode cX0_checkIndex 0 = .ok (.iload_n 0, 1) := by decide +kernel
theorem dX0_checkIndex_1 : decode cX0_checkIndex 1 = .ok (.ifCond .lt 8, 3) := by decide +kernel
theorem dX0_checkIndex_4 : decode cX0_checkIndex 4 = .ok (.iload_n 0, 1) := by decide +kernel
theorem dX0_checkIndex_5 : decode cX0_checkIndex 5 = .ok (.iload_n 1, 1) := by decide +kernel
theorem dX0_checkIndex_6 : decode cX0_checkIndex 6 = .ok (.if_icmp .lt 13, 3) := by decide +kernel
theorem dX0_checkIndex_9 : decode cX0_checkIndex 9 = .ok (.new 139, 3) := by decide +kernel
theorem dX0_checkIndex_12 : decode cX0_checkIndex 12 = .ok (.dup, 1) := by decide +kernel
theorem dX0_checkIndex_13 : decode cX0_checkIndex 13 = .ok (.ldc 141, 2) := by decide +kernel
theorem dX0_checkIndex_15 : decode cX0_checkIndex 15 = .ok (.invokespecial 143, 3) := by decide +kernel
theorem dX0_checkIndex_18 : decode cX0_checkIndex 18 = .ok (.athrow, 1) := by decide +kernel
theorem dX0_checkIndex_19 : decode cX0_checkIndex 19 = .ok (.return_, 1) := by decide +kernel
theorem dX0_checkArgument_0 : decode cX0_checkArgument 0 = .ok (.iload_n 0, 1) := by decide +kernel
theorem dX0_checkArgument_1 : decode cX0_checkArgument 1 = .ok (.ifCond .ne 13, 3) := by decide +kernel
theorem dX0_checkArgument_4 : decode cX0_checkArgument 4 = .ok (.new 146, 3) := by decide +kernel
theorem dX0_checkArgument_7 : decode cX0_checkArgument 7 = .ok (.dup, 1) := by decide +kernel
theorem dX0_checkArgument_8 : decode cX0_checkArgument 8 = .ok (.ldc 148, 2) := by decide +kernel
theorem dX0_checkArgument_10 : decode cX0_checkArgument 10 = .ok (.invokespecial 150, 3) := by decide +kernel
theorem dX0_checkArgument_13 : decode cX0_checkArgument 13 = .ok (.athrow, 1) := by decide +kernel
theorem dX0_checkArgument_14 : decode cX0_checkArgument 14 = .ok (.return_, 1) := by decide +kernel
theorem dX0_checkState_0 : decode cX0_checkState 0 = .ok (.iload_n 0, 1) := by decide +kernel
theorem dX0_checkState_1 : decode cX0_checkState 1 = .ok (.ifCond .ne 13, 3) := by decide +kernel
theorem dX0_checkState_4 : decode cX0_checkState 4 = .ok (.new 151, 3) := by decide +kernel
theorem dX0_checkState_7 : decode cX0_checkState 7 = .ok (.dup, 1) := by decide +kernel
theorem dX0_checkState_8 : decode cX0_checkState 8 = .ok (.ldc 153, 2) := by decide +kernel
theorem dX0_checkState_10 : decode cX0_checkState 10 = .ok (.invokespecial 155, 3) := by decide +kernel
theorem dX0_checkState_13 : decode cX0_checkState 13 = .ok (.athrow, 1) := by decide +kernel
theorem dX0_checkState_14 : decode cX0_checkState 14 = .ok (.return_, 1) := by decide +kernel
theorem dX0_isWithin_0 : decode cX0_isWithin 0 = .ok (.iload_n 0, 1) := by decide +kernel
theorem dX0_isWithin_1 : decode cX0_isWithin 1 = .ok (.iload_n 1, 1) := by decide +kernel
theorem dX0_isWithin_2 : decode cX0_isWithin 2 = .ok (.if_icmp .lt 12, 3) := by decide +kernel
theorem dX0_isWithin_5 : decode cX0_isWithin 5 = .ok (.iload_n 0, 1) := by decide +kernel
theorem dX0_isWithin_6 : decode cX0_isWithin 6 = .ok (.iload_n 2, 1) := by decide +kernel
theorem dX0_isWithin_7 : decode cX0_isWithin 7 = .ok (.if_icmp .gt 7, 3) := by decide +kernel
theorem dX0_isWithin_10 : decode cX0_isWithin 10 = .ok (.iconst 1, 1) := by decide +kernel
theorem dX0_isWithin_11 : decode cX0_isWithin 11 = .ok (.goto 4, 3) := by decide +kernel
theorem dX0_isWithin_14 : decode cX0_isWithin 14 = .ok (.iconst 0, 1) := by decide +kernel
theorem dX0_isWithin_15 : decode cX0_isWithin 15 = .ok (.ireturn, 1) := by decide +kernel
set_option maxRecDepth 20000 in
theorem ggX0_isGroup_X0_isWithin : GoodIn wsX0_isGroup wsX0_isWithin := goodIn_r _ [4] (by decide +kernel) (by decide +kernel)
set_option maxRecDepth 20000 in
theorem gX0_isGroup_X0_isWithin : GoodIn wsX0_isGroup (va_wsS RX0 56 yX0_isWithin wsX0_isWithin) := goodIn_app (goodIn_of _ (by decide +kernel)) ggX0_isGroup_X0_isWithin
theorem dX0_isGroup_0 : decode cX0_isGroup 0 = .ok (.iload_n 0, 1) := by decide +kernel
theorem dX0_isGroup_1 : decode cX0_isGroup 1 = .ok (.iconst 0, 1) := by decide +kernel
theorem dX0_isGroup_2 : decode cX0_isGroup 2 = .ok (.iconst 2, 1) := by decide +kernel
theorem dX0_isGroup_3 : decode cX0_isGroup 3 = .ok (.invokestatic 56, 3) := by decide +kernel
theorem dX0_isGroup_6 : decode cX0_isGroup 6 = .ok (.ireturn, 1) := by decide +kernel
set_option maxRecDepth 20000 in
theorem ggX0_isAdvertiser_X0_isWithin : GoodIn wsX0_isAdvertiser wsX0_isWithin := goodIn_r _ [4] (by decide +kernel) (by decide +kernel)
set_option maxRecDepth 20000 in
theorem gX0_isAdvertiser_X0_isWithin : GoodIn wsX0_isAdvertiser (va_wsS RX0 56 yX0_isWithin wsX0_isWithin) := goodIn_app (goodIn_of _ (by decide +kernel)) ggX0_isAdvertiser_X0_isWithin
theorem dX0_isAdvertiser_0 : decode cX0_isAdvertiser 0 = .ok (.iload_n 0, 1) := by decide +kernel
theorem dX0_isAdvertiser_1 : decode cX0_isAdvertiser 1 = .ok (.iconst 0, 1) := by decide +kernel
theorem dX0_isAdvertiser_2 : decode cX0_isAdvertiser 2 = .ok (.bipush 9, 2) := by decide +kernel
theorem dX0_isAdvertiser_4 : decode cX0_isAdvertiser 4 = .ok (.invokestatic 56, 3) := by decide +kernel
theorem dX0_isAdvertiser_7 : decode cX0_isAdvertiser 7 = .ok (.ireturn, 1) := by decide +kernel
theorem dX0_isSpotLength_0 : decode cX0_isSpotLength 0 = .ok (.iload_n 0, 1) := by decide +kernel
theorem dX0_isSpotLength_1 : decode cX0_isSpotLength 1 = .ok (.bipush 15, 2) := by decide +kernel
theorem dX0_isSpotLength_3 : decode cX0_isSpotLength 3 = .ok (.if_icmp .eq 15, 3) := by decide +kernel
theorem dX0_isSpotLength_6 : decode cX0_isSpotLength 6 = .ok (.iload_n 0, 1) := by decide +kernel
theorem dX0_isSpotLength_7 : decode cX0_isSpotLength 7 = .ok (.bipush 30, 2) := by decide +kernel
theorem dX0_isSpotLength_9 : decode cX0_isSpotLength 9 = .ok (.if_icmp .eq 9, 3) := by decide +kernel
theorem dX0_isSpotLength_12 : decode cX0_isSpotLength 12 = .ok (.iload_n 0, 1) := by decide +kernel
theorem dX0_isSpotLength_13 : decode cX0_isSpotLength 13 = .ok (.bipush 60, 2) := by decide +kernel
theorem dX0_isSpotLength_15 : decode cX0_isSpotLength 15 = .ok (.if_icmp .ne 7, 3) := by decide +kernel
theorem dX0_isSpotLength_18 : decode cX0_isSpotLength 18 = .ok (.iconst 1, 1) := by decide +kernel
theorem dX0_isSpotLength_19 : decode cX0_isSpotLength 19 = .ok (.goto 4, 3) := by decide +kernel
theorem dX0_isSpotLength_22 : decode cX0_isSpotLength 22 = .ok (.iconst 0, 1) := by decide +kernel
theorem dX0_isSpotLength_23 : decode cX0_isSpotLength 23 = .ok (.ireturn, 1) := by decide +kernel
set_option maxRecDepth 20000 in
theorem ggX0_obstacle_X0_secondsLeft : GoodIn wsX0_obstacle wsX0_secondsLeft := goodIn_r _ [9, 10, 11, 12, 2, 13, 14, 15, 16, 8, 17, 18, 41, 42, 43, 44, 45, 46, 47, 48, 49, 50, 51, 52, 53, 54, 55, 56, 57, 58] (by decide +kernel) (by decide +kernel)
set_option maxRecDepth 20000 in
theorem gX0_obstacle_X0_secondsLeft : GoodIn wsX0_obstacle (wsV RX0 87 RX0 yX0_secondsLeft wsX0_secondsLeft) := goodIn_app (goodIn_of _ (by decide +kernel)) ggX0_obstacle_X0_secondsLeft
set_option maxRecDepth 20000 in
theorem ggX0_obstacle_X0_ratingFor : GoodIn wsX0_obstacle wsX0_ratingFor := goodIn_r _ [22, 23, 24, 25, 26, 8, 27, 41, 42, 43, 44, 45, 46, 47, 48, 49, 50, 51, 52, 53, 54, 55, 56, 57, 58] (by decide +kernel) (by decide +kernel)
set_option maxRecDepth 20000 in
theorem gX0_obstacle_X0_ratingFor : GoodIn wsX0_obstacle (wsV RX0 156 RX0 yX0_ratingFor wsX0_ratingFor) := goodIn_app (goodIn_of _ (by decide +kernel)) ggX0_obstacle_X0_ratingFor
set_option maxRecDepth 20000 in
theorem ggX0_obstacle_X0_holdsAdvertiser : GoodIn wsX0_obstacle wsX0_holdsAdvertiser := goodIn_r _ [31, 11, 12, 4, 13, 14, 15, 16, 8, 17, 18, 41, 42, 43, 44, 45, 46, 47, 48, 49, 50, 51, 52, 53, 54, 55, 56, 57, 58] (by decide +kernel) (by decide +kernel)
set_option maxRecDepth 20000 in
theorem gX0_obstacle_X0_holdsAdvertiser : GoodIn wsX0_obstacle (wsV RX0 159 RX0 yX0_holdsAdvertiser wsX0_holdsAdvertiser) := goodIn_app (goodIn_of _ (by decide +kernel)) ggX0_obstacle_X0_holdsAdvertiser
set_option maxRecDepth 20000 in
theorem ggX0_obstacle_X0_holdsRival : GoodIn wsX0_obstacle wsX0_holdsRival := goodIn_r _ [35, 11, 12, 13, 14, 15, 16, 8, 17, 18, 36, 37, 38, 39, 40, 4, 41, 42, 43, 44, 45, 46, 47, 48, 49, 50, 51, 52, 53, 54, 55, 56, 57, 58] (by decide +kernel) (by decide +kernel)
set_option maxRecDepth 20000 in
theorem gX0_obstacle_X0_holdsRival : GoodIn wsX0_obstacle (wsV RX0 163 RX0 yX0_holdsRival wsX0_holdsRival) := goodIn_app (goodIn_of _ (by decide +kernel)) ggX0_obstacle_X0_holdsRival
theorem dX0_obstacle_0 : decode cX0_obstacle 0 = .ok (.aload_n 0, 1) := by decide +kernel
theorem dX0_obstacle_1 : decode cX0_obstacle 1 = .ok (.getfield 13, 3) := by decide +kernel
theorem dX0_obstacle_4 : decode cX0_obstacle 4 = .ok (.iload_n 2, 1) := by decide +kernel
theorem dX0_obstacle_5 : decode cX0_obstacle 5 = .ok (.baload, 1) := by decide +kernel
theorem dX0_obstacle_6 : decode cX0_obstacle 6 = .ok (.ifCond .eq 5, 3) := by decide +kernel
theorem dX0_obstacle_9 : decode cX0_obstacle 9 = .ok (.iconst 1, 1) := by decide +kernel
theorem dX0_obstacle_10 : decode cX0_obstacle 10 = .ok (.ireturn, 1) := by decide +kernel
theorem dX0_obstacle_11 : decode cX0_obstacle 11 = .ok (.aload_n 0, 1) := by decide +kernel
theorem dX0_obstacle_12 : decode cX0_obstacle 12 = .ok (.iload_n 2, 1) := by decide +kernel
theorem dX0_obstacle_13 : decode cX0_obstacle 13 = .ok (.invokevirtual 87, 3) := by decide +kernel
theorem dX0_obstacle_16 : decode cX0_obstacle 16 = .ok (.aload_n 0, 1) := by decide +kernel
theorem dX0_obstacle_17 : decode cX0_obstacle 17 = .ok (.getfield 29, 3) := by decide +kernel
theorem dX0_obstacle_20 : decode cX0_obstacle 20 = .ok (.iload_n 1, 1) := by decide +kernel
theorem dX0_obstacle_21 : decode cX0_obstacle 21 = .ok (.iaload, 1) := by decide +kernel
theorem dX0_obstacle_22 : decode cX0_obstacle 22 = .ok (.if_icmp .ge 5, 3) := by decide +kernel
theorem dX0_obstacle_25 : decode cX0_obstacle 25 = .ok (.iconst 2, 1) := by decide +kernel
theorem dX0_obstacle_26 : decode cX0_obstacle 26 = .ok (.ireturn, 1) := by decide +kernel
theorem dX0_obstacle_27 : decode cX0_obstacle 27 = .ok (.aload_n 0, 1) := by decide +kernel
theorem dX0_obstacle_28 : decode cX0_obstacle 28 = .ok (.iload_n 1, 1) := by decide +kernel
theorem dX0_obstacle_29 : decode cX0_obstacle 29 = .ok (.iload_n 2, 1) := by decide +kernel
theorem dX0_obstacle_30 : decode cX0_obstacle 30 = .ok (.invokevirtual 156, 3) := by decide +kernel
theorem dX0_obstacle_33 : decode cX0_obstacle 33 = .ok (.aload_n 0, 1) := by decide +kernel
theorem dX0_obstacle_34 : decode cX0_obstacle 34 = .ok (.getfield 38, 3) := by decide +kernel
theorem dX0_obstacle_37 : decode cX0_obstacle 37 = .ok (.iload_n 1, 1) := by decide +kernel
theorem dX0_obstacle_38 : decode cX0_obstacle 38 = .ok (.iaload, 1) := by decide +kernel
theorem dX0_obstacle_39 : decode cX0_obstacle 39 = .ok (.if_icmp .ge 5, 3) := by decide +kernel
theorem dX0_obstacle_42 : decode cX0_obstacle 42 = .ok (.iconst 3, 1) := by decide +kernel
theorem dX0_obstacle_43 : decode cX0_obstacle 43 = .ok (.ireturn, 1) := by decide +kernel
theorem dX0_obstacle_44 : decode cX0_obstacle 44 = .ok (.aload_n 0, 1) := by decide +kernel
theorem dX0_obstacle_45 : decode cX0_obstacle 45 = .ok (.iload_n 2, 1) := by decide +kernel
theorem dX0_obstacle_46 : decode cX0_obstacle 46 = .ok (.aload_n 0, 1) := by decide +kernel
theorem dX0_obstacle_47 : decode cX0_obstacle 47 = .ok (.getfield 20, 3) := by decide +kernel
theorem dX0_obstacle_50 : decode cX0_obstacle 50 = .ok (.iload_n 1, 1) := by decide +kernel
theorem dX0_obstacle_51 : decode cX0_obstacle 51 = .ok (.iaload, 1) := by decide +kernel
theorem dX0_obstacle_52 : decode cX0_obstacle 52 = .ok (.invokevirtual 159, 3) := by decide +kernel
theorem dX0_obstacle_55 : decode cX0_obstacle 55 = .ok (.ifCond .eq 5, 3) := by decide +kernel
theorem dX0_obstacle_58 : decode cX0_obstacle 58 = .ok (.iconst 4, 1) := by decide +kernel
theorem dX0_obstacle_59 : decode cX0_obstacle 59 = .ok (.ireturn, 1) := by decide +kernel
theorem dX0_obstacle_60 : decode cX0_obstacle 60 = .ok (.aload_n 0, 1) := by decide +kernel
theorem dX0_obstacle_61 : decode cX0_obstacle 61 = .ok (.iload_n 2, 1) := by decide +kernel
theorem dX0_obstacle_62 : decode cX0_obstacle 62 = .ok (.iload_n 1, 1) := by decide +kernel
theorem dX0_obstacle_63 : decode cX0_obstacle 63 = .ok (.invokevirtual 163, 3) := by decide +kernel
theorem dX0_obstacle_66 : decode cX0_obstacle 66 = .ok (.ifCond .eq 5, 3) := by decide +kernel
theorem dX0_obstacle_69 : decode cX0_obstacle 69 = .ok (.iconst 5, 1) := by decide +kernel
theorem dX0_obstacle_70 : decode cX0_obstacle 70 = .ok (.ireturn, 1) := by decide +kernel
theorem dX0_obstacle_71 : decode cX0_obstacle 71 = .ok (.aload_n 0, 1) := by decide +kernel
theorem dX0_obstacle_72 : decode cX0_obstacle 72 = .ok (.iload_n 2, 1) := by decide +kernel
theorem dX0_obstacle_73 : decode cX0_obstacle 73 = .ok (.iconst 1, 1) := by decide +kernel
theorem dX0_obstacle_74 : decode cX0_obstacle 74 = .ok (.isub, 1) := by decide +kernel
theorem dX0_obstacle_75 : decode cX0_obstacle 75 = .ok (.iload_n 1, 1) := by decide +kernel
theorem dX0_obstacle_76 : decode cX0_obstacle 76 = .ok (.invokevirtual 163, 3) := by decide +kernel
theorem dX0_obstacle_79 : decode cX0_obstacle 79 = .ok (.ifCond .ne 14, 3) := by decide +kernel
theorem dX0_obstacle_82 : decode cX0_obstacle 82 = .ok (.aload_n 0, 1) := by decide +kernel
theorem dX0_obstacle_83 : decode cX0_obstacle 83 = .ok (.iload_n 2, 1) := by decide +kernel
theorem dX0_obstacle_84 : decode cX0_obstacle 84 = .ok (.iconst 1, 1) := by decide +kernel
theorem dX0_obstacle_85 : decode cX0_obstacle 85 = .ok (.iadd, 1) := by decide +kernel
theorem dX0_obstacle_86 : decode cX0_obstacle 86 = .ok (.iload_n 1, 1) := by decide +kernel
theorem dX0_obstacle_87 : decode cX0_obstacle 87 = .ok (.invokevirtual 163, 3) := by decide +kernel
theorem dX0_obstacle_90 : decode cX0_obstacle 90 = .ok (.ifCond .eq 6, 3) := by decide +kernel
theorem dX0_obstacle_93 : decode cX0_obstacle 93 = .ok (.bipush 6, 2) := by decide +kernel
theorem dX0_obstacle_95 : decode cX0_obstacle 95 = .ok (.ireturn, 1) := by decide +kernel
theorem dX0_obstacle_96 : decode cX0_obstacle 96 = .ok (.iconst 0, 1) := by decide +kernel
theorem dX0_obstacle_97 : decode cX0_obstacle 97 = .ok (.ireturn, 1) := by decide +kernel
set_option maxRecDepth 20000 in
theorem ggX0_bestBreak_X0_ratingFor : GoodIn wsX0_bestBreak wsX0_ratingFor := goodIn_r _ [6, 7, 8, 9, 10, 5, 11, 46, 47, 48, 49, 50, 51, 52, 53, 54, 55, 56, 57, 58, 59, 60, 61, 62, 63] (by decide +kernel) (by decide +kernel)
set_option maxRecDepth 20000 in
theorem gX0_bestBreak_X0_ratingFor : GoodIn wsX0_bestBreak (wsV RX0 156 RX0 yX0_ratingFor wsX0_ratingFor) := goodIn_app (goodIn_of _ (by decide +kernel)) ggX0_bestBreak_X0_ratingFor
set_option maxRecDepth 20000 in
theorem ggX0_bestBreak_X0_obstacle : GoodIn wsX0_bestBreak wsX0_obstacle := goodIn_r _ [15, 16, 17, 18, 19, 20, 21, 22, 5, 23, 24, 25, 26, 27, 28, 29, 30, 31, 32, 2, 3, 4, 6, 7, 8, 9, 10, 11, 33, 34, 35, 36, 37, 38, 39, 40, 41, 42, 43, 44, 45, 46, 47, 48, 49, 50, 51, 52, 53, 54, 55, 56, 57, 58, 59, 60, 61, 62, 63] (by decide +kernel) (by decide +kernel)
set_option maxRecDepth 20000 in
theorem gX0_bestBreak_X0_obstacle : GoodIn wsX0_bestBreak (wsV RX0 107 RX0 yX0_obstacle wsX0_obstacle) := goodIn_app (goodIn_of _ (by decide +kernel)) ggX0_bestBreak_X0_obstacle
theorem dX0_bestBreak_0 : decode cX0_bestBreak 0 = .ok (.iconst (-1), 1) := by decide +kernel
theorem dX0_bestBreak_1 : decode cX0_bestBreak 1 = .ok (.istore_n 2, 1) := by decide +kernel
theorem dX0_bestBreak_2 : decode cX0_bestBreak 2 = .ok (.iconst 0, 1) := by decide +kernel
theorem dX0_bestBreak_3 : decode cX0_bestBreak 3 = .ok (.istore_n 3, 1) := by decide +kernel
theorem dX0_bestBreak_4 : decode cX0_bestBreak 4 = .ok (.iconst 0, 1) := by decide +kernel
theorem dX0_bestBreak_5 : decode cX0_bestBreak 5 = .ok (.istore 4, 2) := by decide +kernel
theorem dX0_bestBreak_7 : decode cX0_bestBreak 7 = .ok (.iload 4, 2) := by decide +kernel
theorem dX0_bestBreak_9 : decode cX0_bestBreak 9 = .ok (.aload_n 0, 1) := by decide +kernel
theorem dX0_bestBreak_10 : decode cX0_bestBreak 10 = .ok (.getfield 64, 3) := by decide +kernel
theorem dX0_bestBreak_13 : decode cX0_bestBreak 13 = .ok (.if_icmp .ge 45, 3) := by decide +kernel
theorem dX0_bestBreak_16 : decode cX0_bestBreak 16 = .ok (.aload_n 0, 1) := by decide +kernel
theorem dX0_bestBreak_17 : decode cX0_bestBreak 17 = .ok (.iload_n 1, 1) := by decide +kernel
theorem dX0_bestBreak_18 : decode cX0_bestBreak 18 = .ok (.iload 4, 2) := by decide +kernel
theorem dX0_bestBreak_20 : decode cX0_bestBreak 20 = .ok (.invokevirtual 156, 3) := by decide +kernel
theorem dX0_bestBreak_23 : decode cX0_bestBreak 23 = .ok (.istore 5, 2) := by decide +kernel
theorem dX0_bestBreak_25 : decode cX0_bestBreak 25 = .ok (.iload_n 2, 1) := by decide +kernel
theorem dX0_bestBreak_26 : decode cX0_bestBreak 26 = .ok (.iconst (-1), 1) := by decide +kernel
theorem dX0_bestBreak_27 : decode cX0_bestBreak 27 = .ok (.if_icmp .eq 9, 3) := by decide +kernel
theorem dX0_bestBreak_30 : decode cX0_bestBreak 30 = .ok (.iload 5, 2) := by decide +kernel
theorem dX0_bestBreak_32 : decode cX0_bestBreak 32 = .ok (.iload_n 3, 1) := by decide +kernel
theorem dX0_bestBreak_33 : decode cX0_bestBreak 33 = .ok (.if_icmp .le 19, 3) := by decide +kernel
theorem dX0_bestBreak_36 : decode cX0_bestBreak 36 = .ok (.aload_n 0, 1) := by decide +kernel
theorem dX0_bestBreak_37 : decode cX0_bestBreak 37 = .ok (.iload_n 1, 1) := by decide +kernel
theorem dX0_bestBreak_38 : decode cX0_bestBreak 38 = .ok (.iload 4, 2) := by decide +kernel
theorem dX0_bestBreak_40 : decode cX0_bestBreak 40 = .ok (.invokevirtual 107, 3) := by decide +kernel
theorem dX0_bestBreak_43 : decode cX0_bestBreak 43 = .ok (.ifCond .ne 9, 3) := by decide +kernel
theorem dX0_bestBreak_46 : decode cX0_bestBreak 46 = .ok (.iload 5, 2) := by decide +kernel
theorem dX0_bestBreak_48 : decode cX0_bestBreak 48 = .ok (.istore_n 3, 1) := by decide +kernel
theorem dX0_bestBreak_49 : decode cX0_bestBreak 49 = .ok (.iload 4, 2) := by decide +kernel
theorem dX0_bestBreak_51 : decode cX0_bestBreak 51 = .ok (.istore_n 2, 1) := by decide +kernel
theorem dX0_bestBreak_52 : decode cX0_bestBreak 52 = .ok (.iinc 4 1, 3) := by decide +kernel
theorem dX0_bestBreak_55 : decode cX0_bestBreak 55 = .ok (.goto (-48), 3) := by decide +kernel
theorem dX0_bestBreak_58 : decode cX0_bestBreak 58 = .ok (.iload_n 2, 1) := by decide +kernel
theorem dX0_bestBreak_59 : decode cX0_bestBreak 59 = .ok (.ireturn, 1) := by decide +kernel
theorem dX0_addSpot_0 : decode cX0_addSpot 0 = .ok (.aload_n 0, 1) := by decide +kernel
theorem dX0_addSpot_1 : decode cX0_addSpot 1 = .ok (.getfield 84, 3) := by decide +kernel
theorem dX0_addSpot_4 : decode cX0_addSpot 4 = .ok (.istore 4, 2) := by decide +kernel
theorem dX0_addSpot_6 : decode cX0_addSpot 6 = .ok (.aload_n 0, 1) := by decide +kernel
theorem dX0_addSpot_7 : decode cX0_addSpot 7 = .ok (.getfield 44, 3) := by decide +kernel
theorem dX0_addSpot_10 : decode cX0_addSpot 10 = .ok (.iload 4, 2) := by decide +kernel
theorem dX0_addSpot_12 : decode cX0_addSpot 12 = .ok (.iload_n 1, 1) := by decide +kernel
theorem dX0_addSpot_13 : decode cX0_addSpot 13 = .ok (.iastore, 1) := by decide +kernel
theorem dX0_addSpot_14 : decode cX0_addSpot 14 = .ok (.aload_n 0, 1) := by decide +kernel
theorem dX0_addSpot_15 : decode cX0_addSpot 15 = .ok (.getfield 47, 3) := by decide +kernel
theorem dX0_addSpot_18 : decode cX0_addSpot 18 = .ok (.iload 4, 2) := by decide +kernel
theorem dX0_addSpot_20 : decode cX0_addSpot 20 = .ok (.iload_n 2, 1) := by decide +kernel
theorem dX0_addSpot_21 : decode cX0_addSpot 21 = .ok (.iastore, 1) := by decide +kernel
theorem dX0_addSpot_22 : decode cX0_addSpot 22 = .ok (.aload_n 0, 1) := by decide +kernel
theorem dX0_addSpot_23 : decode cX0_addSpot 23 = .ok (.getfield 50, 3) := by decide +kernel
theorem dX0_addSpot_26 : decode cX0_addSpot 26 = .ok (.iload 4, 2) := by decide +kernel
theorem dX0_addSpot_28 : decode cX0_addSpot 28 = .ok (.iconst 0, 1) := by decide +kernel
theorem dX0_addSpot_29 : decode cX0_addSpot 29 = .ok (.iastore, 1) := by decide +kernel
theorem dX0_addSpot_30 : decode cX0_addSpot 30 = .ok (.aload_n 0, 1) := by decide +kernel
theorem dX0_addSpot_31 : decode cX0_addSpot 31 = .ok (.getfield 53, 3) := by decide +kernel
theorem dX0_addSpot_34 : decode cX0_addSpot 34 = .ok (.iload 4, 2) := by decide +kernel
theorem dX0_addSpot_36 : decode cX0_addSpot 36 = .ok (.iload_n 3, 1) := by decide +kernel
theorem dX0_addSpot_37 : decode cX0_addSpot 37 = .ok (.bastore, 1) := by decide +kernel
theorem dX0_addSpot_38 : decode cX0_addSpot 38 = .ok (.aload_n 0, 1) := by decide +kernel
theorem dX0_addSpot_39 : decode cX0_addSpot 39 = .ok (.dup, 1) := by decide +kernel
theorem dX0_addSpot_40 : decode cX0_addSpot 40 = .ok (.getfield 84, 3) := by decide +kernel
theorem dX0_addSpot_43 : decode cX0_addSpot 43 = .ok (.iconst 1, 1) := by decide +kernel
theorem dX0_addSpot_44 : decode cX0_addSpot 44 = .ok (.iadd, 1) := by decide +kernel
theorem dX0_addSpot_45 : decode cX0_addSpot 45 = .ok (.putfield 84, 3) := by decide +kernel
theorem dX0_addSpot_48 : decode cX0_addSpot 48 = .ok (.iload 4, 2) := by decide +kernel
theorem dX0_addSpot_50 : decode cX0_addSpot 50 = .ok (.ireturn, 1) := by decide +kernel
theorem dX0_isInBreak_0 : decode cX0_isInBreak 0 = .ok (.aload_n 0, 1) := by decide +kernel
theorem dX0_isInBreak_1 : decode cX0_isInBreak 1 = .ok (.getfield 50, 3) := by decide +kernel
theorem dX0_isInBreak_4 : decode cX0_isInBreak 4 = .ok (.iload_n 1, 1) := by decide +kernel
theorem dX0_isInBreak_5 : decode cX0_isInBreak 5 = .ok (.iaload, 1) := by decide +kernel
theorem dX0_isInBreak_6 : decode cX0_isInBreak 6 = .ok (.ifCond .eq 13, 3) := by decide +kernel
theorem dX0_isInBreak_9 : decode cX0_isInBreak 9 = .ok (.aload_n 0, 1) := by decide +kernel
theorem dX0_isInBreak_10 : decode cX0_isInBreak 10 = .ok (.getfield 50, 3) := by decide +kernel
theorem dX0_isInBreak_13 : decode cX0_isInBreak 13 = .ok (.iload_n 1, 1) := by decide +kernel
theorem dX0_isInBreak_14 : decode cX0_isInBreak 14 = .ok (.iaload, 1) := by decide +kernel
theorem dX0_isInBreak_15 : decode cX0_isInBreak 15 = .ok (.iconst 1, 1) := by decide +kernel
theorem dX0_isInBreak_16 : decode cX0_isInBreak 16 = .ok (.if_icmp .ne 7, 3) := by decide +kernel
theorem dX0_isInBreak_19 : decode cX0_isInBreak 19 = .ok (.iconst 1, 1) := by decide +kernel
theorem dX0_isInBreak_20 : decode cX0_isInBreak 20 = .ok (.goto 4, 3) := by decide +kernel
theorem dX0_isInBreak_23 : decode cX0_isInBreak 23 = .ok (.iconst 0, 1) := by decide +kernel
theorem dX0_isInBreak_24 : decode cX0_isInBreak 24 = .ok (.ireturn, 1) := by decide +kernel
set_option maxRecDepth 20000 in
theorem ggX0_secondsLeft_X0_isInBreak : GoodIn wsX0_secondsLeft wsX0_isInBreak := goodIn_r _ [10, 11, 12, 13, 14, 15, 16, 17, 18, 19, 20, 21, 22, 23, 24, 25, 26, 27, 28, 29] (by decide +kernel) (by decide +kernel)
set_option maxRecDepth 20000 in
theorem gX0_secondsLeft_X0_isInBreak : GoodIn wsX0_secondsLeft (wsV RX0 126 RX0 yX0_isInBreak wsX0_isInBreak) := goodIn_app (goodIn_of _ (by decide +kernel)) ggX0_secondsLeft_X0_isInBreak
theorem dX0_secondsLeft_0 : decode cX0_secondsLeft 0 = .ok (.aload_n 0, 1) := by decide +kernel
theorem dX0_secondsLeft_1 : decode cX0_secondsLeft 1 = .ok (.getfield 9, 3) := by decide +kernel
theorem dX0_secondsLeft_4 : decode cX0_secondsLeft 4 = .ok (.iload_n 1, 1) := by decide +kernel
theorem dX0_secondsLeft_5 : decode cX0_secondsLeft 5 = .ok (.iaload, 1) := by decide +kernel
theorem dX0_secondsLeft_6 : decode cX0_secondsLeft 6 = .ok (.istore_n 2, 1) := by decide +kernel
theorem dX0_secondsLeft_7 : decode cX0_secondsLeft 7 = .ok (.iconst 0, 1) := by decide +kernel
theorem dX0_secondsLeft_8 : decode cX0_secondsLeft 8 = .ok (.istore_n 3, 1) := by decide +kernel
theorem dX0_secondsLeft_9 : decode cX0_secondsLeft 9 = .ok (.iload_n 3, 1) := by decide +kernel
theorem dX0_secondsLeft_10 : decode cX0_secondsLeft 10 = .ok (.aload_n 0, 1) := by decide +kernel
theorem dX0_secondsLeft_11 : decode cX0_secondsLeft 11 = .ok (.getfield 84, 3) := by decide +kernel
theorem dX0_secondsLeft_14 : decode cX0_secondsLeft 14 = .ok (.if_icmp .ge 41, 3) := by decide +kernel
theorem dX0_secondsLeft_17 : decode cX0_secondsLeft 17 = .ok (.aload_n 0, 1) := by decide +kernel
theorem dX0_secondsLeft_18 : decode cX0_secondsLeft 18 = .ok (.getfield 47, 3) := by decide +kernel
theorem dX0_secondsLeft_21 : decode cX0_secondsLeft 21 = .ok (.iload_n 3, 1) := by decide +kernel
theorem dX0_secondsLeft_22 : decode cX0_secondsLeft 22 = .ok (.iaload, 1) := by decide +kernel
theorem dX0_secondsLeft_23 : decode cX0_secondsLeft 23 = .ok (.iload_n 1, 1) := by decide +kernel
theorem dX0_secondsLeft_24 : decode cX0_secondsLeft 24 = .ok (.if_icmp .ne 25, 3) := by decide +kernel
theorem dX0_secondsLeft_27 : decode cX0_secondsLeft 27 = .ok (.aload_n 0, 1) := by decide +kernel
theorem dX0_secondsLeft_28 : decode cX0_secondsLeft 28 = .ok (.iload_n 3, 1) := by decide +kernel
theorem dX0_secondsLeft_29 : decode cX0_secondsLeft 29 = .ok (.invokevirtual 126, 3) := by decide +kernel
theorem dX0_secondsLeft_32 : decode cX0_secondsLeft 32 = .ok (.ifCond .eq 17, 3) := by decide +kernel
theorem dX0_secondsLeft_35 : decode cX0_secondsLeft 35 = .ok (.iload_n 2, 1) := by decide +kernel
theorem dX0_secondsLeft_36 : decode cX0_secondsLeft 36 = .ok (.aload_n 0, 1) := by decide +kernel
theorem dX0_secondsLeft_37 : decode cX0_secondsLeft 37 = .ok (.getfield 29, 3) := by decide +kernel
theorem dX0_secondsLeft_40 : decode cX0_secondsLeft 40 = .ok (.aload_n 0, 1) := by decide +kernel
theorem dX0_secondsLeft_41 : decode cX0_secondsLeft 41 = .ok (.getfield 44, 3) := by decide +kernel
theorem dX0_secondsLeft_44 : decode cX0_secondsLeft 44 = .ok (.iload_n 3, 1) := by decide +kernel
theorem dX0_secondsLeft_45 : decode cX0_secondsLeft 45 = .ok (.iaload, 1) := by decide +kernel
theorem dX0_secondsLeft_46 : decode cX0_secondsLeft 46 = .ok (.iaload, 1) := by decide +kernel
theorem dX0_secondsLeft_47 : decode cX0_secondsLeft 47 = .ok (.isub, 1) := by decide +kernel
theorem dX0_secondsLeft_48 : decode cX0_secondsLeft 48 = .ok (.istore_n 2, 1) := by decide +kernel
theorem dX0_secondsLeft_49 : decode cX0_secondsLeft 49 = .ok (.iinc 3 1, 3) := by decide +kernel
theorem dX0_secondsLeft_52 : decode cX0_secondsLeft 52 = .ok (.goto (-43), 3) := by decide +kernel
theorem dX0_secondsLeft_55 : decode cX0_secondsLeft 55 = .ok (.iload_n 2, 1) := by decide +kernel
theorem dX0_secondsLeft_56 : decode cX0_secondsLeft 56 = .ok (.ireturn, 1) := by decide +kernel
set_option maxRecDepth 20000 in
theorem ggX0_holdsAdvertiser_X0_isInBreak : GoodIn wsX0_holdsAdvertiser wsX0_isInBreak := goodIn_r _ [9, 10, 11, 12, 13, 14, 15, 16, 17, 18, 19, 20, 21, 22, 23, 24, 25, 26, 27, 28] (by decide +kernel) (by decide +kernel)
set_option maxRecDepth 20000 in
theorem gX0_holdsAdvertiser_X0_isInBreak : GoodIn wsX0_holdsAdvertiser (wsV RX0 126 RX0 yX0_isInBreak wsX0_isInBreak) := goodIn_app (goodIn_of _ (by decide +kernel)) ggX0_holdsAdvertiser_X0_isInBreak
theorem dX0_holdsAdvertiser_0 : decode cX0_holdsAdvertiser 0 = .ok (.iconst 0, 1) := by decide +kernel
theorem dX0_holdsAdvertiser_1 : decode cX0_holdsAdvertiser 1 = .ok (.istore_n 3, 1) := by decide +kernel
theorem dX0_holdsAdvertiser_2 : decode cX0_holdsAdvertiser 2 = .ok (.iload_n 3, 1) := by decide +kernel
theorem dX0_holdsAdvertiser_3 : decode cX0_holdsAdvertiser 3 = .ok (.aload_n 0, 1) := by decide +kernel
theorem dX0_holdsAdvertiser_4 : decode cX0_holdsAdvertiser 4 = .ok (.getfield 84, 3) := by decide +kernel
theorem dX0_holdsAdvertiser_7 : decode cX0_holdsAdvertiser 7 = .ok (.if_icmp .ge 44, 3) := by decide +kernel
theorem dX0_holdsAdvertiser_10 : decode cX0_holdsAdvertiser 10 = .ok (.aload_n 0, 1) := by decide +kernel
theorem dX0_holdsAdvertiser_11 : decode cX0_holdsAdvertiser 11 = .ok (.getfield 47, 3) := by decide +kernel
theorem dX0_holdsAdvertiser_14 : decode cX0_holdsAdvertiser 14 = .ok (.iload_n 3, 1) := by decide +kernel
theorem dX0_holdsAdvertiser_15 : decode cX0_holdsAdvertiser 15 = .ok (.iaload, 1) := by decide +kernel
theorem dX0_holdsAdvertiser_16 : decode cX0_holdsAdvertiser 16 = .ok (.iload_n 1, 1) := by decide +kernel
theorem dX0_holdsAdvertiser_17 : decode cX0_holdsAdvertiser 17 = .ok (.if_icmp .ne 28, 3) := by decide +kernel
theorem dX0_holdsAdvertiser_20 : decode cX0_holdsAdvertiser 20 = .ok (.aload_n 0, 1) := by decide +kernel
theorem dX0_holdsAdvertiser_21 : decode cX0_holdsAdvertiser 21 = .ok (.iload_n 3, 1) := by decide +kernel
theorem dX0_holdsAdvertiser_22 : decode cX0_holdsAdvertiser 22 = .ok (.invokevirtual 126, 3) := by decide +kernel
theorem dX0_holdsAdvertiser_25 : decode cX0_holdsAdvertiser 25 = .ok (.ifCond .eq 20, 3) := by decide +kernel
theorem dX0_holdsAdvertiser_28 : decode cX0_holdsAdvertiser 28 = .ok (.aload_n 0, 1) := by decide +kernel
theorem dX0_holdsAdvertiser_29 : decode cX0_holdsAdvertiser 29 = .ok (.getfield 20, 3) := by decide +kernel
theorem dX0_holdsAdvertiser_32 : decode cX0_holdsAdvertiser 32 = .ok (.aload_n 0, 1) := by decide +kernel
theorem dX0_holdsAdvertiser_33 : decode cX0_holdsAdvertiser 33 = .ok (.getfield 44, 3) := by decide +kernel
theorem dX0_holdsAdvertiser_36 : decode cX0_holdsAdvertiser 36 = .ok (.iload_n 3, 1) := by decide +kernel
theorem dX0_holdsAdvertiser_37 : decode cX0_holdsAdvertiser 37 = .ok (.iaload, 1) := by decide +kernel
theorem dX0_holdsAdvertiser_38 : decode cX0_holdsAdvertiser 38 = .ok (.iaload, 1) := by decide +kernel
theorem dX0_holdsAdvertiser_39 : decode cX0_holdsAdvertiser 39 = .ok (.iload_n 2, 1) := by decide +kernel
theorem dX0_holdsAdvertiser_40 : decode cX0_holdsAdvertiser 40 = .ok (.if_icmp .ne 5, 3) := by decide +kernel
theorem dX0_holdsAdvertiser_43 : decode cX0_holdsAdvertiser 43 = .ok (.iconst 1, 1) := by decide +kernel
theorem dX0_holdsAdvertiser_44 : decode cX0_holdsAdvertiser 44 = .ok (.ireturn, 1) := by decide +kernel
theorem dX0_holdsAdvertiser_45 : decode cX0_holdsAdvertiser 45 = .ok (.iinc 3 1, 3) := by decide +kernel
theorem dX0_holdsAdvertiser_48 : decode cX0_holdsAdvertiser 48 = .ok (.goto (-46), 3) := by decide +kernel
theorem dX0_holdsAdvertiser_51 : decode cX0_holdsAdvertiser 51 = .ok (.iconst 0, 1) := by decide +kernel
theorem dX0_holdsAdvertiser_52 : decode cX0_holdsAdvertiser 52 = .ok (.ireturn, 1) := by decide +kernel
set_option maxRecDepth 20000 in
theorem ggX0_holdsRival_X0_isInBreak : GoodIn wsX0_holdsRival wsX0_isInBreak := goodIn_r _ [8, 9, 16, 17, 18, 19, 20, 21, 22, 23, 24, 25, 26, 27, 28, 29, 30, 31, 32, 33] (by decide +kernel) (by decide +kernel)
set_option maxRecDepth 20000 in
theorem gX0_holdsRival_X0_isInBreak : GoodIn wsX0_holdsRival (wsV RX0 126 RX0 yX0_isInBreak wsX0_isInBreak) := goodIn_app (goodIn_of _ (by decide +kernel)) ggX0_holdsRival_X0_isInBreak
set_option maxRecDepth 20000 in
theorem ggX0_holdsRival_X0_areRivals : GoodIn wsX0_holdsRival wsX0_areRivals := goodIn_r _ [13, 14, 15, 16, 17, 18, 19, 20, 21, 22, 23, 24, 25, 26, 27, 28, 29, 30, 31, 32, 33] (by decide +kernel) (by decide +kernel)
set_option maxRecDepth 20000 in
theorem gX0_holdsRival_X0_areRivals : GoodIn wsX0_holdsRival (wsV RX0 166 RX0 yX0_areRivals wsX0_areRivals) := goodIn_app (goodIn_of _ (by decide +kernel)) ggX0_holdsRival_X0_areRivals
theorem dX0_holdsRival_0 : decode cX0_holdsRival 0 = .ok (.iconst 0, 1) := by decide +kernel
theorem dX0_holdsRival_1 : decode cX0_holdsRival 1 = .ok (.istore_n 3, 1) := by decide +kernel
theorem dX0_holdsRival_2 : decode cX0_holdsRival 2 = .ok (.iload_n 3, 1) := by decide +kernel
theorem dX0_holdsRival_3 : decode cX0_holdsRival 3 = .ok (.aload_n 0, 1) := by decide +kernel
theorem dX0_holdsRival_4 : decode cX0_holdsRival 4 = .ok (.getfield 84, 3) := by decide +kernel
theorem dX0_holdsRival_7 : decode cX0_holdsRival 7 = .ok (.if_icmp .ge 43, 3) := by decide +kernel
theorem dX0_holdsRival_10 : decode cX0_holdsRival 10 = .ok (.aload_n 0, 1) := by decide +kernel
theorem dX0_holdsRival_11 : decode cX0_holdsRival 11 = .ok (.getfield 47, 3) := by decide +kernel
theorem dX0_holdsRival_14 : decode cX0_holdsRival 14 = .ok (.iload_n 3, 1) := by decide +kernel
theorem dX0_holdsRival_15 : decode cX0_holdsRival 15 = .ok (.iaload, 1) := by decide +kernel
theorem dX0_holdsRival_16 : decode cX0_holdsRival 16 = .ok (.iload_n 1, 1) := by decide +kernel
theorem dX0_holdsRival_17 : decode cX0_holdsRival 17 = .ok (.if_icmp .ne 27, 3) := by decide +kernel
theorem dX0_holdsRival_20 : decode cX0_holdsRival 20 = .ok (.aload_n 0, 1) := by decide +kernel
theorem dX0_holdsRival_21 : decode cX0_holdsRival 21 = .ok (.iload_n 3, 1) := by decide +kernel
theorem dX0_holdsRival_22 : decode cX0_holdsRival 22 = .ok (.invokevirtual 126, 3) := by decide +kernel
theorem dX0_holdsRival_25 : decode cX0_holdsRival 25 = .ok (.ifCond .eq 19, 3) := by decide +kernel
theorem dX0_holdsRival_28 : decode cX0_holdsRival 28 = .ok (.aload_n 0, 1) := by decide +kernel
theorem dX0_holdsRival_29 : decode cX0_holdsRival 29 = .ok (.aload_n 0, 1) := by decide +kernel
theorem dX0_holdsRival_30 : decode cX0_holdsRival 30 = .ok (.getfield 44, 3) := by decide +kernel
theorem dX0_holdsRival_33 : decode cX0_holdsRival 33 = .ok (.iload_n 3, 1) := by decide +kernel
theorem dX0_holdsRival_34 : decode cX0_holdsRival 34 = .ok (.iaload, 1) := by decide +kernel
theorem dX0_holdsRival_35 : decode cX0_holdsRival 35 = .ok (.iload_n 2, 1) := by decide +kernel
theorem dX0_holdsRival_36 : decode cX0_holdsRival 36 = .ok (.invokevirtual 166, 3) := by decide +kernel
theorem dX0_holdsRival_39 : decode cX0_holdsRival 39 = .ok (.ifCond .eq 5, 3) := by decide +kernel
theorem dX0_holdsRival_42 : decode cX0_holdsRival 42 = .ok (.iconst 1, 1) := by decide +kernel
theorem dX0_holdsRival_43 : decode cX0_holdsRival 43 = .ok (.ireturn, 1) := by decide +kernel
theorem dX0_holdsRival_44 : decode cX0_holdsRival 44 = .ok (.iinc 3 1, 3) := by decide +kernel
theorem dX0_holdsRival_47 : decode cX0_holdsRival 47 = .ok (.goto (-45), 3) := by decide +kernel
theorem dX0_holdsRival_50 : decode cX0_holdsRival 50 = .ok (.iconst 0, 1) := by decide +kernel
theorem dX0_holdsRival_51 : decode cX0_holdsRival 51 = .ok (.ireturn, 1) := by decide +kernel
theorem dX0_areRivals_0 : decode cX0_areRivals 0 = .ok (.aload_n 0, 1) := by decide +kernel
theorem dX0_areRivals_1 : decode cX0_areRivals 1 = .ok (.getfield 23, 3) := by decide +kernel
theorem dX0_areRivals_4 : decode cX0_areRivals 4 = .ok (.iload_n 1, 1) := by decide +kernel
theorem dX0_areRivals_5 : decode cX0_areRivals 5 = .ok (.iaload, 1) := by decide +kernel
theorem dX0_areRivals_6 : decode cX0_areRivals 6 = .ok (.aload_n 0, 1) := by decide +kernel
theorem dX0_areRivals_7 : decode cX0_areRivals 7 = .ok (.getfield 23, 3) := by decide +kernel
theorem dX0_areRivals_10 : decode cX0_areRivals 10 = .ok (.iload_n 2, 1) := by decide +kernel
theorem dX0_areRivals_11 : decode cX0_areRivals 11 = .ok (.iaload, 1) := by decide +kernel
theorem dX0_areRivals_12 : decode cX0_areRivals 12 = .ok (.if_icmp .ne 22, 3) := by decide +kernel
theorem dX0_areRivals_15 : decode cX0_areRivals 15 = .ok (.aload_n 0, 1) := by decide +kernel
theorem dX0_areRivals_16 : decode cX0_areRivals 16 = .ok (.getfield 20, 3) := by decide +kernel
theorem dX0_areRivals_19 : decode cX0_areRivals 19 = .ok (.iload_n 1, 1) := by decide +kernel
theorem dX0_areRivals_20 : decode cX0_areRivals 20 = .ok (.iaload, 1) := by decide +kernel
theorem dX0_areRivals_21 : decode cX0_areRivals 21 = .ok (.aload_n 0, 1) := by decide +kernel
theorem dX0_areRivals_22 : decode cX0_areRivals 22 = .ok (.getfield 20, 3) := by decide +kernel
theorem dX0_areRivals_25 : decode cX0_areRivals 25 = .ok (.iload_n 2, 1) := by decide +kernel
theorem dX0_areRivals_26 : decode cX0_areRivals 26 = .ok (.iaload, 1) := by decide +kernel
theorem dX0_areRivals_27 : decode cX0_areRivals 27 = .ok (.if_icmp .eq 7, 3) := by decide +kernel
theorem dX0_areRivals_30 : decode cX0_areRivals 30 = .ok (.iconst 1, 1) := by decide +kernel
theorem dX0_areRivals_31 : decode cX0_areRivals 31 = .ok (.goto 4, 3) := by decide +kernel
theorem dX0_areRivals_34 : decode cX0_areRivals 34 = .ok (.iconst 0, 1) := by decide +kernel
theorem dX0_areRivals_35 : decode cX0_areRivals 35 = .ok (.ireturn, 1) := by decide +kernel
theorem dX0_ratingCell_0 : decode cX0_ratingCell 0 = .ok (.iload_n 0, 1) := by decide +kernel
theorem dX0_ratingCell_1 : decode cX0_ratingCell 1 = .ok (.iconst 3, 1) := by decide +kernel
theorem dX0_ratingCell_2 : decode cX0_ratingCell 2 = .ok (.imul, 1) := by decide +kernel
theorem dX0_ratingCell_3 : decode cX0_ratingCell 3 = .ok (.iload_n 1, 1) := by decide +kernel
theorem dX0_ratingCell_4 : decode cX0_ratingCell 4 = .ok (.iadd, 1) := by decide +kernel
theorem dX0_ratingCell_5 : decode cX0_ratingCell 5 = .ok (.ireturn, 1) := by decide +kernel
set_option maxRecDepth 20000 in
theorem ggX0_ratingFor_X0_ratingCell : GoodIn wsX0_ratingFor wsX0_ratingCell := goodIn_r _ [6] (by decide +kernel) (by decide +kernel)
set_option maxRecDepth 20000 in
theorem gX0_ratingFor_X0_ratingCell : GoodIn wsX0_ratingFor (va_wsS RX0 80 yX0_ratingCell wsX0_ratingCell) := goodIn_app (goodIn_of _ (by decide +kernel)) ggX0_ratingFor_X0_ratingCell
theorem dX0_ratingFor_0 : decode cX0_ratingFor 0 = .ok (.aload_n 0, 1) := by decide +kernel
theorem dX0_ratingFor_1 : decode cX0_ratingFor 1 = .ok (.getfield 17, 3) := by decide +kernel
theorem dX0_ratingFor_4 : decode cX0_ratingFor 4 = .ok (.iload_n 2, 1) := by decide +kernel
theorem dX0_ratingFor_5 : decode cX0_ratingFor 5 = .ok (.aload_n 0, 1) := by decide +kernel
theorem dX0_ratingFor_6 : decode cX0_ratingFor 6 = .ok (.getfield 26, 3) := by decide +kernel
theorem dX0_ratingFor_9 : decode cX0_ratingFor 9 = .ok (.iload_n 1, 1) := by decide +kernel
theorem dX0_ratingFor_10 : decode cX0_ratingFor 10 = .ok (.iaload, 1) := by decide +kernel
theorem dX0_ratingFor_11 : decode cX0_ratingFor 11 = .ok (.invokestatic 80, 3) := by decide +kernel
theorem dX0_ratingFor_14 : decode cX0_ratingFor 14 = .ok (.iaload, 1) := by decide +kernel
theorem dX0_ratingFor_15 : decode cX0_ratingFor 15 = .ok (.ireturn, 1) := by decide +kernel
set_option maxRecDepth 20000 in
theorem ggX0_audience_X0_ratingFor : GoodIn wsX0_audience wsX0_ratingFor := goodIn_r _ [9, 10, 11, 12, 13, 8, 14, 15, 16, 17, 18, 19, 20, 21, 22, 23, 24, 25, 26, 27, 28, 29, 30, 31, 32] (by decide +kernel) (by decide +kernel)
set_option maxRecDepth 20000 in
theorem gX0_audience_X0_ratingFor : GoodIn wsX0_audience (wsV RX0 156 RX0 yX0_ratingFor wsX0_ratingFor) := goodIn_app (goodIn_of _ (by decide +kernel)) ggX0_audience_X0_ratingFor
theorem dX0_audience_0 : decode cX0_audience 0 = .ok (.iconst 0, 1) := by decide +kernel
theorem dX0_audience_1 : decode cX0_audience 1 = .ok (.istore_n 3, 1) := by decide +kernel
theorem dX0_audience_2 : decode cX0_audience 2 = .ok (.iconst 0, 1) := by decide +kernel
theorem dX0_audience_3 : decode cX0_audience 3 = .ok (.istore 4, 2) := by decide +kernel
theorem dX0_audience_5 : decode cX0_audience 5 = .ok (.iload 4, 2) := by decide +kernel
theorem dX0_audience_7 : decode cX0_audience 7 = .ok (.aload_n 0, 1) := by decide +kernel
theorem dX0_audience_8 : decode cX0_audience 8 = .ok (.getfield 84, 3) := by decide +kernel
theorem dX0_audience_11 : decode cX0_audience 11 = .ok (.if_icmp .ge 46, 3) := by decide +kernel
theorem dX0_audience_14 : decode cX0_audience 14 = .ok (.aload_n 0, 1) := by decide +kernel
theorem dX0_audience_15 : decode cX0_audience 15 = .ok (.getfield 44, 3) := by decide +kernel
theorem dX0_audience_18 : decode cX0_audience 18 = .ok (.iload 4, 2) := by decide +kernel
theorem dX0_audience_20 : decode cX0_audience 20 = .ok (.iaload, 1) := by decide +kernel
theorem dX0_audience_21 : decode cX0_audience 21 = .ok (.iload_n 1, 1) := by decide +kernel
theorem dX0_audience_22 : decode cX0_audience 22 = .ok (.if_icmp .ne 29, 3) := by decide +kernel
theorem dX0_audience_25 : decode cX0_audience 25 = .ok (.aload_n 0, 1) := by decide +kernel
theorem dX0_audience_26 : decode cX0_audience 26 = .ok (.getfield 50, 3) := by decide +kernel
theorem dX0_audience_29 : decode cX0_audience 29 = .ok (.iload 4, 2) := by decide +kernel
theorem dX0_audience_31 : decode cX0_audience 31 = .ok (.iaload, 1) := by decide +kernel
theorem dX0_audience_32 : decode cX0_audience 32 = .ok (.iload_n 2, 1) := by decide +kernel
theorem dX0_audience_33 : decode cX0_audience 33 = .ok (.if_icmp .ne 18, 3) := by decide +kernel
theorem dX0_audience_36 : decode cX0_audience 36 = .ok (.iload_n 3, 1) := by decide +kernel
theorem dX0_audience_37 : decode cX0_audience 37 = .ok (.aload_n 0, 1) := by decide +kernel
theorem dX0_audience_38 : decode cX0_audience 38 = .ok (.iload_n 1, 1) := by decide +kernel
theorem dX0_audience_39 : decode cX0_audience 39 = .ok (.aload_n 0, 1) := by decide +kernel
theorem dX0_audience_40 : decode cX0_audience 40 = .ok (.getfield 47, 3) := by decide +kernel
theorem dX0_audience_43 : decode cX0_audience 43 = .ok (.iload 4, 2) := by decide +kernel
theorem dX0_audience_45 : decode cX0_audience 45 = .ok (.iaload, 1) := by decide +kernel
theorem dX0_audience_46 : decode cX0_audience 46 = .ok (.invokevirtual 156, 3) := by decide +kernel
theorem dX0_audience_49 : decode cX0_audience 49 = .ok (.iadd, 1) := by decide +kernel
theorem dX0_audience_50 : decode cX0_audience 50 = .ok (.istore_n 3, 1) := by decide +kernel
theorem dX0_audience_51 : decode cX0_audience 51 = .ok (.iinc 4 1, 3) := by decide +kernel
theorem dX0_audience_54 : decode cX0_audience 54 = .ok (.goto (-49), 3) := by decide +kernel
theorem dX0_audience_57 : decode cX0_audience 57 = .ok (.iload_n 3, 1) := by decide +kernel
theorem dX0_audience_58 : decode cX0_audience 58 = .ok (.ireturn, 1) := by decide +kernel
set_option maxRecDepth 20000 in
theorem ggX0_isShortOfPromise_X0_audience : GoodIn wsX0_isShortOfPromise wsX0_audience := goodIn_r _ [6, 7, 8, 9, 10, 11, 12, 13, 5, 14, 15, 16, 17, 18, 19, 20, 21, 22, 23, 24, 25, 26, 27, 28, 29, 30, 31, 32, 33, 34, 35, 36, 37] (by decide +kernel) (by decide +kernel)
set_option maxRecDepth 20000 in
theorem gX0_isShortOfPromise_X0_audience : GoodIn wsX0_isShortOfPromise (wsV RX0 129 RX0 yX0_audience wsX0_audience) := goodIn_app (goodIn_of _ (by decide +kernel)) ggX0_isShortOfPromise_X0_audience
theorem dX0_isShortOfPromise_0 : decode cX0_isShortOfPromise 0 = .ok (.aload_n 0, 1) := by decide +kernel
theorem dX0_isShortOfPromise_1 : decode cX0_isShortOfPromise 1 = .ok (.iload_n 1, 1) := by decide +kernel
theorem dX0_isShortOfPromise_2 : decode cX0_isShortOfPromise 2 = .ok (.iconst 1, 1) := by decide +kernel
theorem dX0_isShortOfPromise_3 : decode cX0_isShortOfPromise 3 = .ok (.invokevirtual 129, 3) := by decide +kernel
theorem dX0_isShortOfPromise_6 : decode cX0_isShortOfPromise 6 = .ok (.aload_n 0, 1) := by decide +kernel
theorem dX0_isShortOfPromise_7 : decode cX0_isShortOfPromise 7 = .ok (.iload_n 1, 1) := by decide +kernel
theorem dX0_isShortOfPromise_8 : decode cX0_isShortOfPromise 8 = .ok (.iconst 0, 1) := by decide +kernel
theorem dX0_isShortOfPromise_9 : decode cX0_isShortOfPromise 9 = .ok (.invokevirtual 129, 3) := by decide +kernel
theorem dX0_isShortOfPromise_12 : decode cX0_isShortOfPromise 12 = .ok (.iadd, 1) := by decide +kernel
theorem dX0_isShortOfPromise_13 : decode cX0_isShortOfPromise 13 = .ok (.aload_n 0, 1) := by decide +kernel
theorem dX0_isShortOfPromise_14 : decode cX0_isShortOfPromise 14 = .ok (.getfield 35, 3) := by decide +kernel
theorem dX0_isShortOfPromise_17 : decode cX0_isShortOfPromise 17 = .ok (.iload_n 1, 1) := by decide +kernel
theorem dX0_isShortOfPromise_18 : decode cX0_isShortOfPromise 18 = .ok (.iaload, 1) := by decide +kernel
theorem dX0_isShortOfPromise_19 : decode cX0_isShortOfPromise 19 = .ok (.if_icmp .ge 7, 3) := by decide +kernel
theorem dX0_isShortOfPromise_22 : decode cX0_isShortOfPromise 22 = .ok (.iconst 1, 1) := by decide +kernel
theorem dX0_isShortOfPromise_23 : decode cX0_isShortOfPromise 23 = .ok (.goto 4, 3) := by decide +kernel
theorem dX0_isShortOfPromise_26 : decode cX0_isShortOfPromise 26 = .ok (.iconst 0, 1) := by decide +kernel
theorem dX0_isShortOfPromise_27 : decode cX0_isShortOfPromise 27 = .ok (.ireturn, 1) := by decide +kernel
set_option maxRecDepth 20000 in
theorem ggX0_owedTo_X0_audience : GoodIn wsX0_owedTo wsX0_audience := goodIn_r _ [11, 12, 13, 14, 15, 16, 17, 18, 10, 19, 20, 21, 22, 23, 24, 25, 26, 27, 28, 29, 30, 31, 32, 33, 34, 35, 36, 37, 38, 39, 40, 41, 42] (by decide +kernel) (by decide +kernel)
set_option maxRecDepth 20000 in
theorem gX0_owedTo_X0_audience : GoodIn wsX0_owedTo (wsV RX0 129 RX0 yX0_audience wsX0_audience) := goodIn_app (goodIn_of _ (by decide +kernel)) ggX0_owedTo_X0_audience
theorem dX0_owedTo_0 : decode cX0_owedTo 0 = .ok (.aload_n 0, 1) := by decide +kernel
theorem dX0_owedTo_1 : decode cX0_owedTo 1 = .ok (.getfield 41, 3) := by decide +kernel
theorem dX0_owedTo_4 : decode cX0_owedTo 4 = .ok (.iload_n 1, 1) := by decide +kernel
theorem dX0_owedTo_5 : decode cX0_owedTo 5 = .ok (.baload, 1) := by decide +kernel
theorem dX0_owedTo_6 : decode cX0_owedTo 6 = .ok (.ifCond .ne 5, 3) := by decide +kernel
theorem dX0_owedTo_9 : decode cX0_owedTo 9 = .ok (.iconst 0, 1) := by decide +kernel
theorem dX0_owedTo_10 : decode cX0_owedTo 10 = .ok (.ireturn, 1) := by decide +kernel
theorem dX0_owedTo_11 : decode cX0_owedTo 11 = .ok (.aload_n 0, 1) := by decide +kernel
theorem dX0_owedTo_12 : decode cX0_owedTo 12 = .ok (.getfield 35, 3) := by decide +kernel
theorem dX0_owedTo_15 : decode cX0_owedTo 15 = .ok (.iload_n 1, 1) := by decide +kernel
theorem dX0_owedTo_16 : decode cX0_owedTo 16 = .ok (.iaload, 1) := by decide +kernel
theorem dX0_owedTo_17 : decode cX0_owedTo 17 = .ok (.aload_n 0, 1) := by decide +kernel
theorem dX0_owedTo_18 : decode cX0_owedTo 18 = .ok (.iload_n 1, 1) := by decide +kernel
theorem dX0_owedTo_19 : decode cX0_owedTo 19 = .ok (.iconst 1, 1) := by decide +kernel
theorem dX0_owedTo_20 : decode cX0_owedTo 20 = .ok (.invokevirtual 129, 3) := by decide +kernel
theorem dX0_owedTo_23 : decode cX0_owedTo 23 = .ok (.isub, 1) := by decide +kernel
theorem dX0_owedTo_24 : decode cX0_owedTo 24 = .ok (.iconst 0, 1) := by decide +kernel
theorem dX0_owedTo_25 : decode cX0_owedTo 25 = .ok (.invokestatic 169, 3) := by decide +kernel
theorem dX0_owedTo_28 : decode cX0_owedTo 28 = .ok (.ireturn, 1) := by decide +kernel
set_option maxRecDepth 20000 in
theorem ggX0_restOf_X0_owedTo : GoodIn wsX0_restOf wsX0_owedTo := goodIn_r _ [14, 15, 16, 6, 7, 8, 9, 17, 18, 19, 13, 20, 1, 2, 4, 5, 21, 22, 23, 24, 25, 26, 27, 28, 29, 30, 31, 32, 33, 34, 35, 36, 37, 38, 39, 40, 41, 42, 43, 44, 45, 46, 47] (by decide +kernel) (by decide +kernel)
set_option maxRecDepth 20000 in
theorem gX0_restOf_X0_owedTo : GoodIn wsX0_restOf (wsV RX0 104 RX0 yX0_owedTo wsX0_owedTo) := goodIn_app (goodIn_of _ (by decide +kernel)) ggX0_restOf_X0_owedTo
set_option maxRecDepth 20000 in
theorem ggX0_restOf_X0_ratingFor : GoodIn wsX0_restOf wsX0_ratingFor := goodIn_r _ [24, 25, 26, 27, 28, 13, 29, 30, 31, 32, 33, 34, 35, 36, 37, 38, 39, 40, 41, 42, 43, 44, 45, 46, 47] (by decide +kernel) (by decide +kernel)
set_option maxRecDepth 20000 in
theorem gX0_restOf_X0_ratingFor : GoodIn wsX0_restOf (wsV RX0 156 RX0 yX0_ratingFor wsX0_ratingFor) := goodIn_app (goodIn_of _ (by decide +kernel)) ggX0_restOf_X0_ratingFor
theorem dX0_restOf_0 : decode cX0_restOf 0 = .ok (.aload_n 0, 1) := by decide +kernel
theorem dX0_restOf_1 : decode cX0_restOf 1 = .ok (.iload_n 1, 1) := by decide +kernel
theorem dX0_restOf_2 : decode cX0_restOf 2 = .ok (.invokevirtual 104, 3) := by decide +kernel
theorem dX0_restOf_5 : decode cX0_restOf 5 = .ok (.istore_n 2, 1) := by decide +kernel
theorem dX0_restOf_6 : decode cX0_restOf 6 = .ok (.iconst 0, 1) := by decide +kernel
theorem dX0_restOf_7 : decode cX0_restOf 7 = .ok (.istore_n 3, 1) := by decide +kernel
theorem dX0_restOf_8 : decode cX0_restOf 8 = .ok (.iload_n 3, 1) := by decide +kernel
theorem dX0_restOf_9 : decode cX0_restOf 9 = .ok (.aload_n 0, 1) := by decide +kernel
theorem dX0_restOf_10 : decode cX0_restOf 10 = .ok (.getfield 84, 3) := by decide +kernel
theorem dX0_restOf_13 : decode cX0_restOf 13 = .ok (.if_icmp .ge 51, 3) := by decide +kernel
theorem dX0_restOf_16 : decode cX0_restOf 16 = .ok (.aload_n 0, 1) := by decide +kernel
theorem dX0_restOf_17 : decode cX0_restOf 17 = .ok (.getfield 44, 3) := by decide +kernel
theorem dX0_restOf_20 : decode cX0_restOf 20 = .ok (.iload_n 3, 1) := by decide +kernel
theorem dX0_restOf_21 : decode cX0_restOf 21 = .ok (.iaload, 1) := by decide +kernel
theorem dX0_restOf_22 : decode cX0_restOf 22 = .ok (.iload_n 1, 1) := by decide +kernel
theorem dX0_restOf_23 : decode cX0_restOf 23 = .ok (.if_icmp .ne 35, 3) := by decide +kernel
theorem dX0_restOf_26 : decode cX0_restOf 26 = .ok (.aload_n 0, 1) := by decide +kernel
theorem dX0_restOf_27 : decode cX0_restOf 27 = .ok (.getfield 53, 3) := by decide +kernel
theorem dX0_restOf_30 : decode cX0_restOf 30 = .ok (.iload_n 3, 1) := by decide +kernel
theorem dX0_restOf_31 : decode cX0_restOf 31 = .ok (.baload, 1) := by decide +kernel
theorem dX0_restOf_32 : decode cX0_restOf 32 = .ok (.ifCond .eq 26, 3) := by decide +kernel
theorem dX0_restOf_35 : decode cX0_restOf 35 = .ok (.aload_n 0, 1) := by decide +kernel
theorem dX0_restOf_36 : decode cX0_restOf 36 = .ok (.getfield 50, 3) := by decide +kernel
theorem dX0_restOf_39 : decode cX0_restOf 39 = .ok (.iload_n 3, 1) := by decide +kernel
theorem dX0_restOf_40 : decode cX0_restOf 40 = .ok (.iaload, 1) := by decide +kernel
theorem dX0_restOf_41 : decode cX0_restOf 41 = .ok (.ifCond .ne 17, 3) := by decide +kernel
theorem dX0_restOf_44 : decode cX0_restOf 44 = .ok (.iload_n 2, 1) := by decide +kernel
theorem dX0_restOf_45 : decode cX0_restOf 45 = .ok (.aload_n 0, 1) := by decide +kernel
theorem dX0_restOf_46 : decode cX0_restOf 46 = .ok (.iload_n 1, 1) := by decide +kernel
theorem dX0_restOf_47 : decode cX0_restOf 47 = .ok (.aload_n 0, 1) := by decide +kernel
theorem dX0_restOf_48 : decode cX0_restOf 48 = .ok (.getfield 47, 3) := by decide +kernel
theorem dX0_restOf_51 : decode cX0_restOf 51 = .ok (.iload_n 3, 1) := by decide +kernel
theorem dX0_restOf_52 : decode cX0_restOf 52 = .ok (.iaload, 1) := by decide +kernel
theorem dX0_restOf_53 : decode cX0_restOf 53 = .ok (.invokevirtual 156, 3) := by decide +kernel
theorem dX0_restOf_56 : decode cX0_restOf 56 = .ok (.isub, 1) := by decide +kernel
theorem dX0_restOf_57 : decode cX0_restOf 57 = .ok (.istore_n 2, 1) := by decide +kernel
theorem dX0_restOf_58 : decode cX0_restOf 58 = .ok (.iinc 3 1, 3) := by decide +kernel
theorem dX0_restOf_61 : decode cX0_restOf 61 = .ok (.goto (-53), 3) := by decide +kernel
theorem dX0_restOf_64 : decode cX0_restOf 64 = .ok (.iload_n 2, 1) := by decide +kernel
theorem dX0_restOf_65 : decode cX0_restOf 65 = .ok (.iconst 0, 1) := by decide +kernel
theorem dX0_restOf_66 : decode cX0_restOf 66 = .ok (.invokestatic 169, 3) := by decide +kernel
theorem dX0_restOf_69 : decode cX0_restOf 69 = .ok (.ireturn, 1) := by decide +kernel
theorem dX0_billOf_0 : decode cX0_billOf 0 = .ok (.iconst 0, 1) := by decide +kernel
theorem dX0_billOf_1 : decode cX0_billOf 1 = .ok (.istore_n 2, 1) := by decide +kernel
theorem dX0_billOf_2 : decode cX0_billOf 2 = .ok (.iconst 0, 1) := by decide +kernel
theorem dX0_billOf_3 : decode cX0_billOf 3 = .ok (.istore_n 3, 1) := by decide +kernel
theorem dX0_billOf_4 : decode cX0_billOf 4 = .ok (.iload_n 3, 1) := by decide +kernel
theorem dX0_billOf_5 : decode cX0_billOf 5 = .ok (.aload_n 0, 1) := by decide +kernel
theorem dX0_billOf_6 : decode cX0_billOf 6 = .ok (.getfield 84, 3) := by decide +kernel
theorem dX0_billOf_9 : decode cX0_billOf 9 = .ok (.if_icmp .ge 47, 3) := by decide +kernel
theorem dX0_billOf_12 : decode cX0_billOf 12 = .ok (.aload_n 0, 1) := by decide +kernel
theorem dX0_billOf_13 : decode cX0_billOf 13 = .ok (.getfield 44, 3) := by decide +kernel
theorem dX0_billOf_16 : decode cX0_billOf 16 = .ok (.iload_n 3, 1) := by decide +kernel
theorem dX0_billOf_17 : decode cX0_billOf 17 = .ok (.iaload, 1) := by decide +kernel
theorem dX0_billOf_18 : decode cX0_billOf 18 = .ok (.iload_n 1, 1) := by decide +kernel
theorem dX0_billOf_19 : decode cX0_billOf 19 = .ok (.if_icmp .ne 31, 3) := by decide +kernel
theorem dX0_billOf_22 : decode cX0_billOf 22 = .ok (.aload_n 0, 1) := by decide +kernel
theorem dX0_billOf_23 : decode cX0_billOf 23 = .ok (.getfield 53, 3) := by decide +kernel
theorem dX0_billOf_26 : decode cX0_billOf 26 = .ok (.iload_n 3, 1) := by decide +kernel
theorem dX0_billOf_27 : decode cX0_billOf 27 = .ok (.baload, 1) := by decide +kernel
theorem dX0_billOf_28 : decode cX0_billOf 28 = .ok (.ifCond .ne 22, 3) := by decide +kernel
theorem dX0_billOf_31 : decode cX0_billOf 31 = .ok (.aload_n 0, 1) := by decide +kernel
theorem dX0_billOf_32 : decode cX0_billOf 32 = .ok (.getfield 50, 3) := by decide +kernel
theorem dX0_billOf_35 : decode cX0_billOf 35 = .ok (.iload_n 3, 1) := by decide +kernel
theorem dX0_billOf_36 : decode cX0_billOf 36 = .ok (.iaload, 1) := by decide +kernel
theorem dX0_billOf_37 : decode cX0_billOf 37 = .ok (.iconst 1, 1) := by decide +kernel
theorem dX0_billOf_38 : decode cX0_billOf 38 = .ok (.if_icmp .ne 12, 3) := by decide +kernel
theorem dX0_billOf_41 : decode cX0_billOf 41 = .ok (.iload_n 2, 1) := by decide +kernel
theorem dX0_billOf_42 : decode cX0_billOf 42 = .ok (.aload_n 0, 1) := by decide +kernel
theorem dX0_billOf_43 : decode cX0_billOf 43 = .ok (.getfield 32, 3) := by decide +kernel
theorem dX0_billOf_46 : decode cX0_billOf 46 = .ok (.iload_n 1, 1) := by decide +kernel
theorem dX0_billOf_47 : decode cX0_billOf 47 = .ok (.iaload, 1) := by decide +kernel
theorem dX0_billOf_48 : decode cX0_billOf 48 = .ok (.iadd, 1) := by decide +kernel
theorem dX0_billOf_49 : decode cX0_billOf 49 = .ok (.istore_n 2, 1) := by decide +kernel
theorem dX0_billOf_50 : decode cX0_billOf 50 = .ok (.iinc 3 1, 3) := by decide +kernel
theorem dX0_billOf_53 : decode cX0_billOf 53 = .ok (.goto (-49), 3) := by decide +kernel
theorem dX0_billOf_56 : decode cX0_billOf 56 = .ok (.iload_n 2, 1) := by decide +kernel
theorem dX0_billOf_57 : decode cX0_billOf 57 = .ok (.ireturn, 1) := by decide +kernel
end
section
theorem dX1_init_0 : decode cX1_init 0 = .ok (.aload_n 0, 1) := by decide +kernel
theorem dX1_init_1 : decode cX1_init 1 = .ok (.invokespecial 1, 3) := by decide +kernel
theorem dX1_init_4 : decode cX1_init 4 = .ok (.aload_n 0, 1) := by decide +kernel
theorem dX1_init_5 : decode cX1_init 5 = .ok (.bipush 24, 2) := by decide +kernel
theorem dX1_init_7 : decode cX1_init 7 = .ok (.newarray .int, 2) := by decide +kernel
theorem dX1_init_9 : decode cX1_init 9 = .ok (.putfield 7, 3) := by decide +kernel
theorem dX1_init_12 : decode cX1_init 12 = .ok (.aload_n 0, 1) := by decide +kernel
theorem dX1_init_13 : decode cX1_init 13 = .ok (.bipush 24, 2) := by decide +kernel
theorem dX1_init_15 : decode cX1_init 15 = .ok (.newarray .boolean, 2) := by decide +kernel
theorem dX1_init_17 : decode cX1_init 17 = .ok (.putfield 13, 3) := by decide +kernel
theorem dX1_init_20 : decode cX1_init 20 = .ok (.aload_n 0, 1) := by decide +kernel
theorem dX1_init_21 : decode cX1_init 21 = .ok (.bipush 72, 2) := by decide +kernel
theorem dX1_init_23 : decode cX1_init 23 = .ok (.newarray .int, 2) := by decide +kernel
theorem dX1_init_25 : decode cX1_init 25 = .ok (.putfield 17, 3) := by decide +kernel
theorem dX1_init_28 : decode cX1_init 28 = .ok (.aload_n 0, 1) := by decide +kernel
theorem dX1_init_29 : decode cX1_init 29 = .ok (.bipush 20, 2) := by decide +kernel
theorem dX1_init_31 : decode cX1_init 31 = .ok (.newarray .int, 2) := by decide +kernel
theorem dX1_init_33 : decode cX1_init 33 = .ok (.putfield 20, 3) := by decide +kernel
theorem dX1_init_36 : decode cX1_init 36 = .ok (.aload_n 0, 1) := by decide +kernel
theorem dX1_init_37 : decode cX1_init 37 = .ok (.bipush 20, 2) := by decide +kernel
theorem dX1_init_39 : decode cX1_init 39 = .ok (.newarray .int, 2) := by decide +kernel
theorem dX1_init_41 : decode cX1_init 41 = .ok (.putfield 23, 3) := by decide +kernel
theorem dX1_init_44 : decode cX1_init 44 = .ok (.aload_n 0, 1) := by decide +kernel
theorem dX1_init_45 : decode cX1_init 45 = .ok (.bipush 20, 2) := by decide +kernel
theorem dX1_init_47 : decode cX1_init 47 = .ok (.newarray .int, 2) := by decide +kernel
theorem dX1_init_49 : decode cX1_init 49 = .ok (.putfield 26, 3) := by decide +kernel
theorem dX1_init_52 : decode cX1_init 52 = .ok (.aload_n 0, 1) := by decide +kernel
theorem dX1_init_53 : decode cX1_init 53 = .ok (.bipush 20, 2) := by decide +kernel
theorem dX1_init_55 : decode cX1_init 55 = .ok (.newarray .int, 2) := by decide +kernel
theorem dX1_init_57 : decode cX1_init 57 = .ok (.putfield 29, 3) := by decide +kernel
theorem dX1_init_60 : decode cX1_init 60 = .ok (.aload_n 0, 1) := by decide +kernel
theorem dX1_init_61 : decode cX1_init 61 = .ok (.bipush 20, 2) := by decide +kernel
theorem dX1_init_63 : decode cX1_init 63 = .ok (.newarray .int, 2) := by decide +kernel
theorem dX1_init_65 : decode cX1_init 65 = .ok (.putfield 32, 3) := by decide +kernel
theorem dX1_init_68 : decode cX1_init 68 = .ok (.aload_n 0, 1) := by decide +kernel
theorem dX1_init_69 : decode cX1_init 69 = .ok (.bipush 20, 2) := by decide +kernel
theorem dX1_init_71 : decode cX1_init 71 = .ok (.newarray .int, 2) := by decide +kernel
theorem dX1_init_73 : decode cX1_init 73 = .ok (.putfield 35, 3) := by decide +kernel
theorem dX1_init_76 : decode cX1_init 76 = .ok (.aload_n 0, 1) := by decide +kernel
theorem dX1_init_77 : decode cX1_init 77 = .ok (.bipush 20, 2) := by decide +kernel
theorem dX1_init_79 : decode cX1_init 79 = .ok (.newarray .int, 2) := by decide +kernel
theorem dX1_init_81 : decode cX1_init 81 = .ok (.putfield 38, 3) := by decide +kernel
theorem dX1_init_84 : decode cX1_init 84 = .ok (.aload_n 0, 1) := by decide +kernel
theorem dX1_init_85 : decode cX1_init 85 = .ok (.bipush 20, 2) := by decide +kernel
theorem dX1_init_87 : decode cX1_init 87 = .ok (.newarray .boolean, 2) := by decide +kernel
theorem dX1_init_89 : decode cX1_init 89 = .ok (.putfield 41, 3) := by decide +kernel
theorem dX1_init_92 : decode cX1_init 92 = .ok (.aload_n 0, 1) := by decide +kernel
theorem dX1_init_93 : decode cX1_init 93 = .ok (.sipush 150, 3) := by decide +kernel
theorem dX1_init_96 : decode cX1_init 96 = .ok (.newarray .int, 2) := by decide +kernel
theorem dX1_init_98 : decode cX1_init 98 = .ok (.putfield 44, 3) := by decide +kernel
theorem dX1_init_101 : decode cX1_init 101 = .ok (.aload_n 0, 1) := by decide +kernel
theorem dX1_init_102 : decode cX1_init 102 = .ok (.sipush 150, 3) := by decide +kernel
theorem dX1_init_105 : decode cX1_init 105 = .ok (.newarray .int, 2) := by decide +kernel
theorem dX1_init_107 : decode cX1_init 107 = .ok (.putfield 47, 3) := by decide +kernel
theorem dX1_init_110 : decode cX1_init 110 = .ok (.aload_n 0, 1) := by decide +kernel
theorem dX1_init_111 : decode cX1_init 111 = .ok (.sipush 150, 3) := by decide +kernel
theorem dX1_init_114 : decode cX1_init 114 = .ok (.newarray .int, 2) := by decide +kernel
theorem dX1_init_116 : decode cX1_init 116 = .ok (.putfield 50, 3) := by decide +kernel
theorem dX1_init_119 : decode cX1_init 119 = .ok (.aload_n 0, 1) := by decide +kernel
theorem dX1_init_120 : decode cX1_init 120 = .ok (.sipush 150, 3) := by decide +kernel
theorem dX1_init_123 : decode cX1_init 123 = .ok (.newarray .boolean, 2) := by decide +kernel
theorem dX1_init_125 : decode cX1_init 125 = .ok (.putfield 53, 3) := by decide +kernel
theorem dX1_init_128 : decode cX1_init 128 = .ok (.return_, 1) := by decide +kernel
theorem dX1_thrown_0 : decode cX1_thrown 0 = .ok (.aload_n 0, 1) := by decide +kernel
theorem dX1_thrown_1 : decode cX1_thrown 1 = .ok (.getfield 56, 3) := by decide +kernel
theorem dX1_thrown_4 : decode cX1_thrown 4 = .ok (.ireturn, 1) := by decide +kernel
theorem dX1_in_0 : decode cX1_in 0 = .ok (.iload_n 0, 1) := by decide +kernel
theorem dX1_in_1 : decode cX1_in 1 = .ok (.iload_n 1, 1) := by decide +kernel
theorem dX1_in_2 : decode cX1_in 2 = .ok (.if_icmp .lt 12, 3) := by decide +kernel
theorem dX1_in_5 : decode cX1_in 5 = .ok (.iload_n 0, 1) := by decide +kernel
theorem dX1_in_6 : decode cX1_in 6 = .ok (.iload_n 2, 1) := by decide +kernel
theorem dX1_in_7 : decode cX1_in 7 = .ok (.if_icmp .gt 7, 3) := by decide +kernel
theorem dX1_in_10 : decode cX1_in 10 = .ok (.iconst 1, 1) := by decide +kernel
theorem dX1_in_11 : decode cX1_in 11 = .ok (.goto 4, 3) := by decide +kernel
theorem dX1_in_14 : decode cX1_in 14 = .ok (.iconst 0, 1) := by decide +kernel
theorem dX1_in_15 : decode cX1_in 15 = .ok (.ireturn, 1) := by decide +kernel
theorem dX1_goes_0 : decode cX1_goes 0 = .ok (.aload_n 0, 1) := by decide +kernel
theorem dX1_goes_1 : decode cX1_goes 1 = .ok (.iload_n 1, 1) := by decide +kernel
theorem dX1_goes_2 : decode cX1_goes 2 = .ok (.ifCond .ne 7, 3) := by decide +kernel
theorem dX1_goes_5 : decode cX1_goes 5 = .ok (.iconst 1, 1) := by decide +kernel
theorem dX1_goes_6 : decode cX1_goes 6 = .ok (.goto 20, 3) := by decide +kernel
theorem dX1_goes_9 : decode cX1_goes 9 = .ok (.iload_n 2, 1) := by decide +kernel
theorem dX1_goes_10 : decode cX1_goes 10 = .ok (.ifCond .ne 7, 3) := by decide +kernel
theorem dX1_goes_13 : decode cX1_goes 13 = .ok (.iconst 2, 1) := by decide +kernel
theorem dX1_goes_14 : decode cX1_goes 14 = .ok (.goto 12, 3) := by decide +kernel
theorem dX1_goes_17 : decode cX1_goes 17 = .ok (.iload_n 3, 1) := by decide +kernel
theorem dX1_goes_18 : decode cX1_goes 18 = .ok (.ifCond .ne 7, 3) := by decide +kernel
theorem dX1_goes_21 : decode cX1_goes 21 = .ok (.iconst 3, 1) := by decide +kernel
theorem dX1_goes_22 : decode cX1_goes 22 = .ok (.goto 4, 3) := by decide +kernel
theorem dX1_goes_25 : decode cX1_goes 25 = .ok (.iconst 0, 1) := by decide +kernel
theorem dX1_goes_26 : decode cX1_goes 26 = .ok (.putfield 56, 3) := by decide +kernel
theorem dX1_goes_29 : decode cX1_goes 29 = .ok (.aload_n 0, 1) := by decide +kernel
theorem dX1_goes_30 : decode cX1_goes 30 = .ok (.getfield 56, 3) := by decide +kernel
theorem dX1_goes_33 : decode cX1_goes 33 = .ok (.ifCond .ne 7, 3) := by decide +kernel
theorem dX1_goes_36 : decode cX1_goes 36 = .ok (.iconst 1, 1) := by decide +kernel
theorem dX1_goes_37 : decode cX1_goes 37 = .ok (.goto 4, 3) := by decide +kernel
theorem dX1_goes_40 : decode cX1_goes 40 = .ok (.iconst 0, 1) := by decide +kernel
theorem dX1_goes_41 : decode cX1_goes 41 = .ok (.ireturn, 1) := by decide +kernel
theorem dX1_told_0 : decode cX1_told 0 = .ok (.aload_n 0, 1) := by decide +kernel
theorem dX1_told_1 : decode cX1_told 1 = .ok (.iconst 0, 1) := by decide +kernel
theorem dX1_told_2 : decode cX1_told 2 = .ok (.putfield 56, 3) := by decide +kernel
theorem dX1_told_5 : decode cX1_told 5 = .ok (.iload_n 1, 1) := by decide +kernel
theorem dX1_told_6 : decode cX1_told 6 = .ok (.ireturn, 1) := by decide +kernel
set_option maxRecDepth 20000 in
theorem ggX1_isBreak_X1_in : GoodIn wsX1_isBreak wsX1_in := goodIn_r _ [5] (by decide +kernel) (by decide +kernel)
set_option maxRecDepth 20000 in
theorem gX1_isBreak_X1_in : GoodIn wsX1_isBreak (va_wsS RX1 63 yX1_in wsX1_in) := goodIn_app (goodIn_of _ (by decide +kernel)) ggX1_isBreak_X1_in
theorem dX1_isBreak_0 : decode cX1_isBreak 0 = .ok (.iload_n 1, 1) := by decide +kernel
theorem dX1_isBreak_1 : decode cX1_isBreak 1 = .ok (.iconst 0, 1) := by decide +kernel
theorem dX1_isBreak_2 : decode cX1_isBreak 2 = .ok (.aload_n 0, 1) := by decide +kernel
theorem dX1_isBreak_3 : decode cX1_isBreak 3 = .ok (.getfield 60, 3) := by decide +kernel
theorem dX1_isBreak_6 : decode cX1_isBreak 6 = .ok (.iconst 1, 1) := by decide +kernel
theorem dX1_isBreak_7 : decode cX1_isBreak 7 = .ok (.isub, 1) := by decide +kernel
theorem dX1_isBreak_8 : decode cX1_isBreak 8 = .ok (.invokestatic 63, 3) := by decide +kernel
theorem dX1_isBreak_11 : decode cX1_isBreak 11 = .ok (.ireturn, 1) := by decide +kernel
set_option maxRecDepth 20000 in
theorem ggX1_isOrder_X1_in : GoodIn wsX1_isOrder wsX1_in := goodIn_r _ [5] (by decide +kernel) (by decide +kernel)
set_option maxRecDepth 20000 in
theorem gX1_isOrder_X1_in : GoodIn wsX1_isOrder (va_wsS RX1 63 yX1_in wsX1_in) := goodIn_app (goodIn_of _ (by decide +kernel)) ggX1_isOrder_X1_in
theorem dX1_isOrder_0 : decode cX1_isOrder 0 = .ok (.iload_n 1, 1) := by decide +kernel
theorem dX1_isOrder_1 : decode cX1_isOrder 1 = .ok (.iconst 0, 1) := by decide +kernel
theorem dX1_isOrder_2 : decode cX1_isOrder 2 = .ok (.aload_n 0, 1) := by decide +kernel
theorem dX1_isOrder_3 : decode cX1_isOrder 3 = .ok (.getfield 67, 3) := by decide +kernel
theorem dX1_isOrder_6 : decode cX1_isOrder 6 = .ok (.iconst 1, 1) := by decide +kernel
theorem dX1_isOrder_7 : decode cX1_isOrder 7 = .ok (.isub, 1) := by decide +kernel
theorem dX1_isOrder_8 : decode cX1_isOrder 8 = .ok (.invokestatic 63, 3) := by decide +kernel
theorem dX1_isOrder_11 : decode cX1_isOrder 11 = .ok (.ireturn, 1) := by decide +kernel
set_option maxRecDepth 20000 in
theorem ggX1_isSpot_X1_in : GoodIn wsX1_isSpot wsX1_in := goodIn_r _ [5] (by decide +kernel) (by decide +kernel)
set_option maxRecDepth 20000 in
theorem gX1_isSpot_X1_in : GoodIn wsX1_isSpot (va_wsS RX1 63 yX1_in wsX1_in) := goodIn_app (goodIn_of _ (by decide +kernel)) ggX1_isSpot_X1_in
theorem dX1_isSpot_0 : decode cX1_isSpot 0 = .ok (.iload_n 1, 1) := by decide +kernel
theorem dX1_isSpot_1 : decode cX1_isSpot 1 = .ok (.iconst 0, 1) := by decide +kernel
theorem dX1_isSpot_2 : decode cX1_isSpot 2 = .ok (.aload_n 0, 1) := by decide +kernel
theorem dX1_isSpot_3 : decode cX1_isSpot 3 = .ok (.getfield 70, 3) := by decide +kernel
theorem dX1_isSpot_6 : decode cX1_isSpot 6 = .ok (.iconst 1, 1) := by decide +kernel
theorem dX1_isSpot_7 : decode cX1_isSpot 7 = .ok (.isub, 1) := by decide +kernel
theorem dX1_isSpot_8 : decode cX1_isSpot 8 = .ok (.invokestatic 63, 3) := by decide +kernel
theorem dX1_isSpot_11 : decode cX1_isSpot 11 = .ok (.ireturn, 1) := by decide +kernel
set_option maxRecDepth 20000 in
theorem ggX1_addBreak_X1_in : GoodIn wsX1_addBreak wsX1_in := goodIn_r _ [6] (by decide +kernel) (by decide +kernel)
set_option maxRecDepth 20000 in
theorem gX1_addBreak_X1_in : GoodIn wsX1_addBreak (va_wsS RX1 63 yX1_in wsX1_in) := goodIn_app (goodIn_of _ (by decide +kernel)) ggX1_addBreak_X1_in
set_option maxRecDepth 20000 in
theorem ggX1_addBreak_X1_goes : GoodIn wsX1_addBreak wsX1_goes := goodIn_r _ [10, 11, 12, 13, 14, 15, 16, 17, 18, 19, 20, 21, 22, 23, 24, 25, 26, 27, 28, 29, 30] (by decide +kernel) (by decide +kernel)
set_option maxRecDepth 20000 in
theorem gX1_addBreak_X1_goes : GoodIn wsX1_addBreak (wsV RX1 73 RX1 yX1_goes wsX1_goes) := goodIn_app (goodIn_of _ (by decide +kernel)) ggX1_addBreak_X1_goes
theorem dX1_addBreak_0 : decode cX1_addBreak 0 = .ok (.aload_n 0, 1) := by decide +kernel
theorem dX1_addBreak_1 : decode cX1_addBreak 1 = .ok (.iload_n 1, 1) := by decide +kernel
theorem dX1_addBreak_2 : decode cX1_addBreak 2 = .ok (.bipush 15, 2) := by decide +kernel
theorem dX1_addBreak_4 : decode cX1_addBreak 4 = .ok (.sipush 600, 3) := by decide +kernel
theorem dX1_addBreak_7 : decode cX1_addBreak 7 = .ok (.invokestatic 63, 3) := by decide +kernel
theorem dX1_addBreak_10 : decode cX1_addBreak 10 = .ok (.aload_n 0, 1) := by decide +kernel
theorem dX1_addBreak_11 : decode cX1_addBreak 11 = .ok (.getfield 60, 3) := by decide +kernel
theorem dX1_addBreak_14 : decode cX1_addBreak 14 = .ok (.bipush 24, 2) := by decide +kernel
theorem dX1_addBreak_16 : decode cX1_addBreak 16 = .ok (.if_icmp .ge 7, 3) := by decide +kernel
theorem dX1_addBreak_19 : decode cX1_addBreak 19 = .ok (.iconst 1, 1) := by decide +kernel
theorem dX1_addBreak_20 : decode cX1_addBreak 20 = .ok (.goto 4, 3) := by decide +kernel
theorem dX1_addBreak_23 : decode cX1_addBreak 23 = .ok (.iconst 0, 1) := by decide +kernel
theorem dX1_addBreak_24 : decode cX1_addBreak 24 = .ok (.iconst 1, 1) := by decide +kernel
theorem dX1_addBreak_25 : decode cX1_addBreak 25 = .ok (.invokevirtual 73, 3) := by decide +kernel
theorem dX1_addBreak_28 : decode cX1_addBreak 28 = .ok (.ifCond .ne 5, 3) := by decide +kernel
theorem dX1_addBreak_31 : decode cX1_addBreak 31 = .ok (.iconst 0, 1) := by decide +kernel
theorem dX1_addBreak_32 : decode cX1_addBreak 32 = .ok (.ireturn, 1) := by decide +kernel
theorem dX1_addBreak_33 : decode cX1_addBreak 33 = .ok (.aload_n 0, 1) := by decide +kernel
theorem dX1_addBreak_34 : decode cX1_addBreak 34 = .ok (.getfield 7, 3) := by decide +kernel
theorem dX1_addBreak_37 : decode cX1_addBreak 37 = .ok (.aload_n 0, 1) := by decide +kernel
theorem dX1_addBreak_38 : decode cX1_addBreak 38 = .ok (.getfield 60, 3) := by decide +kernel
theorem dX1_addBreak_41 : decode cX1_addBreak 41 = .ok (.iload_n 1, 1) := by decide +kernel
theorem dX1_addBreak_42 : decode cX1_addBreak 42 = .ok (.iastore, 1) := by decide +kernel
theorem dX1_addBreak_43 : decode cX1_addBreak 43 = .ok (.aload_n 0, 1) := by decide +kernel
theorem dX1_addBreak_44 : decode cX1_addBreak 44 = .ok (.dup, 1) := by decide +kernel
theorem dX1_addBreak_45 : decode cX1_addBreak 45 = .ok (.getfield 60, 3) := by decide +kernel
theorem dX1_addBreak_48 : decode cX1_addBreak 48 = .ok (.iconst 1, 1) := by decide +kernel
theorem dX1_addBreak_49 : decode cX1_addBreak 49 = .ok (.iadd, 1) := by decide +kernel
theorem dX1_addBreak_50 : decode cX1_addBreak 50 = .ok (.putfield 60, 3) := by decide +kernel
theorem dX1_addBreak_53 : decode cX1_addBreak 53 = .ok (.aload_n 0, 1) := by decide +kernel
theorem dX1_addBreak_54 : decode cX1_addBreak 54 = .ok (.getfield 60, 3) := by decide +kernel
theorem dX1_addBreak_57 : decode cX1_addBreak 57 = .ok (.iconst 1, 1) := by decide +kernel
theorem dX1_addBreak_58 : decode cX1_addBreak 58 = .ok (.isub, 1) := by decide +kernel
theorem dX1_addBreak_59 : decode cX1_addBreak 59 = .ok (.ireturn, 1) := by decide +kernel
set_option maxRecDepth 20000 in
theorem ggX1_rate_X1_isBreak : GoodIn wsX1_rate wsX1_isBreak := goodIn_r _ [7, 8, 9, 10, 6, 11, 17, 18, 19, 20, 21, 22, 23, 24, 25, 26, 27, 28, 29, 30, 31, 32, 33, 34, 35] (by decide +kernel) (by decide +kernel)
set_option maxRecDepth 20000 in
theorem gX1_rate_X1_isBreak : GoodIn wsX1_rate (wsV RX1 77 RX1 yX1_isBreak wsX1_isBreak) := goodIn_app (goodIn_of _ (by decide +kernel)) ggX1_rate_X1_isBreak
set_option maxRecDepth 20000 in
theorem ggX1_rate_X1_in : GoodIn wsX1_rate wsX1_in := goodIn_r _ [11] (by decide +kernel) (by decide +kernel)
set_option maxRecDepth 20000 in
theorem gX1_rate_X1_in : GoodIn wsX1_rate (va_wsS RX1 63 yX1_in wsX1_in) := goodIn_app (goodIn_of _ (by decide +kernel)) ggX1_rate_X1_in
set_option maxRecDepth 20000 in
theorem ggX1_rate_X1_goes : GoodIn wsX1_rate wsX1_goes := goodIn_r _ [15, 16, 17, 18, 19, 20, 21, 22, 23, 24, 25, 26, 27, 28, 29, 30, 31, 32, 33, 34, 35] (by decide +kernel) (by decide +kernel)
set_option maxRecDepth 20000 in
theorem gX1_rate_X1_goes : GoodIn wsX1_rate (wsV RX1 73 RX1 yX1_goes wsX1_goes) := goodIn_app (goodIn_of _ (by decide +kernel)) ggX1_rate_X1_goes
theorem dX1_rate_0 : decode cX1_rate 0 = .ok (.aload_n 0, 1) := by decide +kernel
theorem dX1_rate_1 : decode cX1_rate 1 = .ok (.aload_n 0, 1) := by decide +kernel
theorem dX1_rate_2 : decode cX1_rate 2 = .ok (.iload_n 1, 1) := by decide +kernel
theorem dX1_rate_3 : decode cX1_rate 3 = .ok (.invokevirtual 77, 3) := by decide +kernel
theorem dX1_rate_6 : decode cX1_rate 6 = .ok (.iload_n 2, 1) := by decide +kernel
theorem dX1_rate_7 : decode cX1_rate 7 = .ok (.iconst 0, 1) := by decide +kernel
theorem dX1_rate_8 : decode cX1_rate 8 = .ok (.iconst 2, 1) := by decide +kernel
theorem dX1_rate_9 : decode cX1_rate 9 = .ok (.invokestatic 63, 3) := by decide +kernel
theorem dX1_rate_12 : decode cX1_rate 12 = .ok (.ifCond .eq 17, 3) := by decide +kernel
theorem dX1_rate_15 : decode cX1_rate 15 = .ok (.iload_n 3, 1) := by decide +kernel
theorem dX1_rate_16 : decode cX1_rate 16 = .ok (.iconst 0, 1) := by decide +kernel
theorem dX1_rate_17 : decode cX1_rate 17 = .ok (.ldc 81, 2) := by decide +kernel
theorem dX1_rate_19 : decode cX1_rate 19 = .ok (.invokestatic 63, 3) := by decide +kernel
theorem dX1_rate_22 : decode cX1_rate 22 = .ok (.ifCond .eq 7, 3) := by decide +kernel
theorem dX1_rate_25 : decode cX1_rate 25 = .ok (.iconst 1, 1) := by decide +kernel
theorem dX1_rate_26 : decode cX1_rate 26 = .ok (.goto 4, 3) := by decide +kernel
theorem dX1_rate_29 : decode cX1_rate 29 = .ok (.iconst 0, 1) := by decide +kernel
theorem dX1_rate_30 : decode cX1_rate 30 = .ok (.iconst 1, 1) := by decide +kernel
theorem dX1_rate_31 : decode cX1_rate 31 = .ok (.invokevirtual 73, 3) := by decide +kernel
theorem dX1_rate_34 : decode cX1_rate 34 = .ok (.ifCond .ne 5, 3) := by decide +kernel
theorem dX1_rate_37 : decode cX1_rate 37 = .ok (.iconst 0, 1) := by decide +kernel
theorem dX1_rate_38 : decode cX1_rate 38 = .ok (.ireturn, 1) := by decide +kernel
theorem dX1_rate_39 : decode cX1_rate 39 = .ok (.aload_n 0, 1) := by decide +kernel
theorem dX1_rate_40 : decode cX1_rate 40 = .ok (.getfield 17, 3) := by decide +kernel
theorem dX1_rate_43 : decode cX1_rate 43 = .ok (.iconst 3, 1) := by decide +kernel
theorem dX1_rate_44 : decode cX1_rate 44 = .ok (.iload_n 1, 1) := by decide +kernel
theorem dX1_rate_45 : decode cX1_rate 45 = .ok (.imul, 1) := by decide +kernel
theorem dX1_rate_46 : decode cX1_rate 46 = .ok (.iload_n 2, 1) := by decide +kernel
theorem dX1_rate_47 : decode cX1_rate 47 = .ok (.iadd, 1) := by decide +kernel
theorem dX1_rate_48 : decode cX1_rate 48 = .ok (.iaload, 1) := by decide +kernel
theorem dX1_rate_49 : decode cX1_rate 49 = .ok (.istore 4, 2) := by decide +kernel
theorem dX1_rate_51 : decode cX1_rate 51 = .ok (.aload_n 0, 1) := by decide +kernel
theorem dX1_rate_52 : decode cX1_rate 52 = .ok (.getfield 17, 3) := by decide +kernel
theorem dX1_rate_55 : decode cX1_rate 55 = .ok (.iconst 3, 1) := by decide +kernel
theorem dX1_rate_56 : decode cX1_rate 56 = .ok (.iload_n 1, 1) := by decide +kernel
theorem dX1_rate_57 : decode cX1_rate 57 = .ok (.imul, 1) := by decide +kernel
theorem dX1_rate_58 : decode cX1_rate 58 = .ok (.iload_n 2, 1) := by decide +kernel
theorem dX1_rate_59 : decode cX1_rate 59 = .ok (.iadd, 1) := by decide +kernel
theorem dX1_rate_60 : decode cX1_rate 60 = .ok (.iload_n 3, 1) := by decide +kernel
theorem dX1_rate_61 : decode cX1_rate 61 = .ok (.iastore, 1) := by decide +kernel
theorem dX1_rate_62 : decode cX1_rate 62 = .ok (.iload 4, 2) := by decide +kernel
theorem dX1_rate_64 : decode cX1_rate 64 = .ok (.ireturn, 1) := by decide +kernel
set_option maxRecDepth 20000 in
theorem ggX1_air_X1_isBreak : GoodIn wsX1_air wsX1_isBreak := goodIn_r _ [9, 10, 11, 12, 8, 13, 19, 20, 21, 22, 23, 24, 25, 26, 27, 28, 29, 30, 31, 32, 33, 34, 35, 36, 37] (by decide +kernel) (by decide +kernel)
set_option maxRecDepth 20000 in
theorem gX1_air_X1_isBreak : GoodIn wsX1_air (wsV RX1 77 RX1 yX1_isBreak wsX1_isBreak) := goodIn_app (goodIn_of _ (by decide +kernel)) ggX1_air_X1_isBreak
set_option maxRecDepth 20000 in
theorem ggX1_air_X1_goes : GoodIn wsX1_air wsX1_goes := goodIn_r _ [17, 18, 19, 20, 21, 22, 23, 24, 25, 26, 27, 28, 29, 30, 31, 32, 33, 34, 35, 36, 37] (by decide +kernel) (by decide +kernel)
set_option maxRecDepth 20000 in
theorem gX1_air_X1_goes : GoodIn wsX1_air (wsV RX1 73 RX1 yX1_goes wsX1_goes) := goodIn_app (goodIn_of _ (by decide +kernel)) ggX1_air_X1_goes
theorem dX1_air_0 : decode cX1_air 0 = .ok (.aload_n 0, 1) := by decide +kernel
theorem dX1_air_1 : decode cX1_air 1 = .ok (.iload_n 1, 1) := by decide +kernel
theorem dX1_air_2 : decode cX1_air 2 = .ok (.invokevirtual 77, 3) := by decide +kernel
theorem dX1_air_5 : decode cX1_air 5 = .ok (.istore_n 2, 1) := by decide +kernel
theorem dX1_air_6 : decode cX1_air 6 = .ok (.aload_n 0, 1) := by decide +kernel
theorem dX1_air_7 : decode cX1_air 7 = .ok (.iload_n 2, 1) := by decide +kernel
theorem dX1_air_8 : decode cX1_air 8 = .ok (.iload_n 2, 1) := by decide +kernel
theorem dX1_air_9 : decode cX1_air 9 = .ok (.ifCond .eq 16, 3) := by decide +kernel
theorem dX1_air_12 : decode cX1_air 12 = .ok (.aload_n 0, 1) := by decide +kernel
theorem dX1_air_13 : decode cX1_air 13 = .ok (.getfield 13, 3) := by decide +kernel
theorem dX1_air_16 : decode cX1_air 16 = .ok (.iload_n 1, 1) := by decide +kernel
theorem dX1_air_17 : decode cX1_air 17 = .ok (.baload, 1) := by decide +kernel
theorem dX1_air_18 : decode cX1_air 18 = .ok (.ifCond .ne 7, 3) := by decide +kernel
theorem dX1_air_21 : decode cX1_air 21 = .ok (.iconst 1, 1) := by decide +kernel
theorem dX1_air_22 : decode cX1_air 22 = .ok (.goto 4, 3) := by decide +kernel
theorem dX1_air_25 : decode cX1_air 25 = .ok (.iconst 0, 1) := by decide +kernel
theorem dX1_air_26 : decode cX1_air 26 = .ok (.iconst 1, 1) := by decide +kernel
theorem dX1_air_27 : decode cX1_air 27 = .ok (.invokevirtual 73, 3) := by decide +kernel
theorem dX1_air_30 : decode cX1_air 30 = .ok (.ifCond .ne 5, 3) := by decide +kernel
theorem dX1_air_33 : decode cX1_air 33 = .ok (.iconst 0, 1) := by decide +kernel
theorem dX1_air_34 : decode cX1_air 34 = .ok (.ireturn, 1) := by decide +kernel
theorem dX1_air_35 : decode cX1_air 35 = .ok (.iconst 0, 1) := by decide +kernel
theorem dX1_air_36 : decode cX1_air 36 = .ok (.istore_n 3, 1) := by decide +kernel
theorem dX1_air_37 : decode cX1_air 37 = .ok (.aload_n 0, 1) := by decide +kernel
theorem dX1_air_38 : decode cX1_air 38 = .ok (.getfield 13, 3) := by decide +kernel
theorem dX1_air_41 : decode cX1_air 41 = .ok (.iload_n 1, 1) := by decide +kernel
theorem dX1_air_42 : decode cX1_air 42 = .ok (.iconst 1, 1) := by decide +kernel
theorem dX1_air_43 : decode cX1_air 43 = .ok (.bastore, 1) := by decide +kernel
theorem dX1_air_44 : decode cX1_air 44 = .ok (.iconst 0, 1) := by decide +kernel
theorem dX1_air_45 : decode cX1_air 45 = .ok (.istore 4, 2) := by decide +kernel
theorem dX1_air_47 : decode cX1_air 47 = .ok (.iload 4, 2) := by decide +kernel
theorem dX1_air_49 : decode cX1_air 49 = .ok (.aload_n 0, 1) := by decide +kernel
theorem dX1_air_50 : decode cX1_air 50 = .ok (.getfield 70, 3) := by decide +kernel
theorem dX1_air_53 : decode cX1_air 53 = .ok (.if_icmp .ge 41, 3) := by decide +kernel
theorem dX1_air_56 : decode cX1_air 56 = .ok (.aload_n 0, 1) := by decide +kernel
theorem dX1_air_57 : decode cX1_air 57 = .ok (.getfield 47, 3) := by decide +kernel
theorem dX1_air_60 : decode cX1_air 60 = .ok (.iload 4, 2) := by decide +kernel
theorem dX1_air_62 : decode cX1_air 62 = .ok (.iaload, 1) := by decide +kernel
theorem dX1_air_63 : decode cX1_air 63 = .ok (.iload_n 1, 1) := by decide +kernel
theorem dX1_air_64 : decode cX1_air 64 = .ok (.if_icmp .ne 24, 3) := by decide +kernel
theorem dX1_air_67 : decode cX1_air 67 = .ok (.aload_n 0, 1) := by decide +kernel
theorem dX1_air_68 : decode cX1_air 68 = .ok (.getfield 50, 3) := by decide +kernel
theorem dX1_air_71 : decode cX1_air 71 = .ok (.iload 4, 2) := by decide +kernel
theorem dX1_air_73 : decode cX1_air 73 = .ok (.iaload, 1) := by decide +kernel
theorem dX1_air_74 : decode cX1_air 74 = .ok (.ifCond .ne 14, 3) := by decide +kernel
theorem dX1_air_77 : decode cX1_air 77 = .ok (.aload_n 0, 1) := by decide +kernel
theorem dX1_air_78 : decode cX1_air 78 = .ok (.getfield 50, 3) := by decide +kernel
theorem dX1_air_81 : decode cX1_air 81 = .ok (.iload 4, 2) := by decide +kernel
theorem dX1_air_83 : decode cX1_air 83 = .ok (.iconst 1, 1) := by decide +kernel
theorem dX1_air_84 : decode cX1_air 84 = .ok (.iastore, 1) := by decide +kernel
theorem dX1_air_85 : decode cX1_air 85 = .ok (.iinc 3 1, 3) := by decide +kernel
theorem dX1_air_88 : decode cX1_air 88 = .ok (.iinc 4 1, 3) := by decide +kernel
theorem dX1_air_91 : decode cX1_air 91 = .ok (.goto (-44), 3) := by decide +kernel
theorem dX1_air_94 : decode cX1_air 94 = .ok (.iload_n 3, 1) := by decide +kernel
theorem dX1_air_95 : decode cX1_air 95 = .ok (.ireturn, 1) := by decide +kernel
set_option maxRecDepth 20000 in
theorem ggX1_breaks_X1_told : GoodIn wsX1_breaks wsX1_told := goodIn_r _ [6, 7, 8, 9, 10, 11, 12, 13, 14, 15, 16, 17, 18, 19, 20, 21, 22, 23, 24, 25, 26] (by decide +kernel) (by decide +kernel)
set_option maxRecDepth 20000 in
theorem gX1_breaks_X1_told : GoodIn wsX1_breaks (wsV RX1 82 RX1 yX1_told wsX1_told) := goodIn_app (goodIn_of _ (by decide +kernel)) ggX1_breaks_X1_told
theorem dX1_breaks_0 : decode cX1_breaks 0 = .ok (.aload_n 0, 1) := by decide +kernel
theorem dX1_breaks_1 : decode cX1_breaks 1 = .ok (.aload_n 0, 1) := by decide +kernel
theorem dX1_breaks_2 : decode cX1_breaks 2 = .ok (.getfield 60, 3) := by decide +kernel
theorem dX1_breaks_5 : decode cX1_breaks 5 = .ok (.invokevirtual 82, 3) := by decide +kernel
theorem dX1_breaks_8 : decode cX1_breaks 8 = .ok (.ireturn, 1) := by decide +kernel
set_option maxRecDepth 20000 in
theorem ggX1_isAired_X1_isBreak : GoodIn wsX1_isAired wsX1_isBreak := goodIn_r _ [6, 7, 8, 9, 5, 10, 16, 17, 18, 19, 20, 21, 22, 23, 24, 25, 26, 27, 28, 29, 30, 31, 32, 33, 34] (by decide +kernel) (by decide +kernel)
set_option maxRecDepth 20000 in
theorem gX1_isAired_X1_isBreak : GoodIn wsX1_isAired (wsV RX1 77 RX1 yX1_isBreak wsX1_isBreak) := goodIn_app (goodIn_of _ (by decide +kernel)) ggX1_isAired_X1_isBreak
set_option maxRecDepth 20000 in
theorem ggX1_isAired_X1_goes : GoodIn wsX1_isAired wsX1_goes := goodIn_r _ [14, 15, 16, 17, 18, 19, 20, 21, 22, 23, 24, 25, 26, 27, 28, 29, 30, 31, 32, 33, 34] (by decide +kernel) (by decide +kernel)
set_option maxRecDepth 20000 in
theorem gX1_isAired_X1_goes : GoodIn wsX1_isAired (wsV RX1 73 RX1 yX1_goes wsX1_goes) := goodIn_app (goodIn_of _ (by decide +kernel)) ggX1_isAired_X1_goes
theorem dX1_isAired_0 : decode cX1_isAired 0 = .ok (.aload_n 0, 1) := by decide +kernel
theorem dX1_isAired_1 : decode cX1_isAired 1 = .ok (.aload_n 0, 1) := by decide +kernel
theorem dX1_isAired_2 : decode cX1_isAired 2 = .ok (.iload_n 1, 1) := by decide +kernel
theorem dX1_isAired_3 : decode cX1_isAired 3 = .ok (.invokevirtual 77, 3) := by decide +kernel
theorem dX1_isAired_6 : decode cX1_isAired 6 = .ok (.iconst 1, 1) := by decide +kernel
theorem dX1_isAired_7 : decode cX1_isAired 7 = .ok (.iconst 1, 1) := by decide +kernel
theorem dX1_isAired_8 : decode cX1_isAired 8 = .ok (.invokevirtual 73, 3) := by decide +kernel
theorem dX1_isAired_11 : decode cX1_isAired 11 = .ok (.ifCond .eq 16, 3) := by decide +kernel
theorem dX1_isAired_14 : decode cX1_isAired 14 = .ok (.aload_n 0, 1) := by decide +kernel
theorem dX1_isAired_15 : decode cX1_isAired 15 = .ok (.getfield 13, 3) := by decide +kernel
theorem dX1_isAired_18 : decode cX1_isAired 18 = .ok (.iload_n 1, 1) := by decide +kernel
theorem dX1_isAired_19 : decode cX1_isAired 19 = .ok (.baload, 1) := by decide +kernel
theorem dX1_isAired_20 : decode cX1_isAired 20 = .ok (.ifCond .eq 7, 3) := by decide +kernel
theorem dX1_isAired_23 : decode cX1_isAired 23 = .ok (.iconst 1, 1) := by decide +kernel
theorem dX1_isAired_24 : decode cX1_isAired 24 = .ok (.goto 4, 3) := by decide +kernel
theorem dX1_isAired_27 : decode cX1_isAired 27 = .ok (.iconst 0, 1) := by decide +kernel
theorem dX1_isAired_28 : decode cX1_isAired 28 = .ok (.ireturn, 1) := by decide +kernel
theorem dX1_stands_0 : decode cX1_stands 0 = .ok (.aload_n 0, 1) := by decide +kernel
theorem dX1_stands_1 : decode cX1_stands 1 = .ok (.getfield 47, 3) := by decide +kernel
theorem dX1_stands_4 : decode cX1_stands 4 = .ok (.iload_n 1, 1) := by decide +kernel
theorem dX1_stands_5 : decode cX1_stands 5 = .ok (.iaload, 1) := by decide +kernel
theorem dX1_stands_6 : decode cX1_stands 6 = .ok (.iload_n 2, 1) := by decide +kernel
theorem dX1_stands_7 : decode cX1_stands 7 = .ok (.if_icmp .ne 26, 3) := by decide +kernel
theorem dX1_stands_10 : decode cX1_stands 10 = .ok (.aload_n 0, 1) := by decide +kernel
theorem dX1_stands_11 : decode cX1_stands 11 = .ok (.getfield 50, 3) := by decide +kernel
theorem dX1_stands_14 : decode cX1_stands 14 = .ok (.iload_n 1, 1) := by decide +kernel
theorem dX1_stands_15 : decode cX1_stands 15 = .ok (.iaload, 1) := by decide +kernel
theorem dX1_stands_16 : decode cX1_stands 16 = .ok (.ifCond .eq 13, 3) := by decide +kernel
theorem dX1_stands_19 : decode cX1_stands 19 = .ok (.aload_n 0, 1) := by decide +kernel
theorem dX1_stands_20 : decode cX1_stands 20 = .ok (.getfield 50, 3) := by decide +kernel
theorem dX1_stands_23 : decode cX1_stands 23 = .ok (.iload_n 1, 1) := by decide +kernel
theorem dX1_stands_24 : decode cX1_stands 24 = .ok (.iaload, 1) := by decide +kernel
theorem dX1_stands_25 : decode cX1_stands 25 = .ok (.iconst 1, 1) := by decide +kernel
theorem dX1_stands_26 : decode cX1_stands 26 = .ok (.if_icmp .ne 7, 3) := by decide +kernel
theorem dX1_stands_29 : decode cX1_stands 29 = .ok (.iconst 1, 1) := by decide +kernel
theorem dX1_stands_30 : decode cX1_stands 30 = .ok (.goto 4, 3) := by decide +kernel
theorem dX1_stands_33 : decode cX1_stands 33 = .ok (.iconst 0, 1) := by decide +kernel
theorem dX1_stands_34 : decode cX1_stands 34 = .ok (.ireturn, 1) := by decide +kernel
set_option maxRecDepth 20000 in
theorem ggX1_roomWithout_X1_stands : GoodIn wsX1_roomWithout wsX1_stands := goodIn_r _ [9, 10, 11, 12, 13, 14, 15, 16, 17, 18, 19, 20, 21, 22, 23, 24, 25, 26, 27, 28, 29, 30] (by decide +kernel) (by decide +kernel)
set_option maxRecDepth 20000 in
theorem gX1_roomWithout_X1_stands : GoodIn wsX1_roomWithout (wsV RX1 86 RX1 yX1_stands wsX1_stands) := goodIn_app (goodIn_of _ (by decide +kernel)) ggX1_roomWithout_X1_stands
theorem dX1_roomWithout_0 : decode cX1_roomWithout 0 = .ok (.aload_n 0, 1) := by decide +kernel
theorem dX1_roomWithout_1 : decode cX1_roomWithout 1 = .ok (.getfield 7, 3) := by decide +kernel
theorem dX1_roomWithout_4 : decode cX1_roomWithout 4 = .ok (.iload_n 1, 1) := by decide +kernel
theorem dX1_roomWithout_5 : decode cX1_roomWithout 5 = .ok (.iaload, 1) := by decide +kernel
theorem dX1_roomWithout_6 : decode cX1_roomWithout 6 = .ok (.istore_n 3, 1) := by decide +kernel
theorem dX1_roomWithout_7 : decode cX1_roomWithout 7 = .ok (.iconst 0, 1) := by decide +kernel
theorem dX1_roomWithout_8 : decode cX1_roomWithout 8 = .ok (.istore 4, 2) := by decide +kernel
theorem dX1_roomWithout_10 : decode cX1_roomWithout 10 = .ok (.iload 4, 2) := by decide +kernel
theorem dX1_roomWithout_12 : decode cX1_roomWithout 12 = .ok (.aload_n 0, 1) := by decide +kernel
theorem dX1_roomWithout_13 : decode cX1_roomWithout 13 = .ok (.getfield 70, 3) := by decide +kernel
theorem dX1_roomWithout_16 : decode cX1_roomWithout 16 = .ok (.if_icmp .ge 44, 3) := by decide +kernel
theorem dX1_roomWithout_19 : decode cX1_roomWithout 19 = .ok (.iload_n 3, 1) := by decide +kernel
theorem dX1_roomWithout_20 : decode cX1_roomWithout 20 = .ok (.iload 4, 2) := by decide +kernel
theorem dX1_roomWithout_22 : decode cX1_roomWithout 22 = .ok (.iload_n 2, 1) := by decide +kernel
theorem dX1_roomWithout_23 : decode cX1_roomWithout 23 = .ok (.if_icmp .eq 28, 3) := by decide +kernel
theorem dX1_roomWithout_26 : decode cX1_roomWithout 26 = .ok (.aload_n 0, 1) := by decide +kernel
theorem dX1_roomWithout_27 : decode cX1_roomWithout 27 = .ok (.iload 4, 2) := by decide +kernel
theorem dX1_roomWithout_29 : decode cX1_roomWithout 29 = .ok (.iload_n 1, 1) := by decide +kernel
theorem dX1_roomWithout_30 : decode cX1_roomWithout 30 = .ok (.invokevirtual 86, 3) := by decide +kernel
theorem dX1_roomWithout_33 : decode cX1_roomWithout 33 = .ok (.ifCond .eq 18, 3) := by decide +kernel
theorem dX1_roomWithout_36 : decode cX1_roomWithout 36 = .ok (.aload_n 0, 1) := by decide +kernel
theorem dX1_roomWithout_37 : decode cX1_roomWithout 37 = .ok (.getfield 29, 3) := by decide +kernel
theorem dX1_roomWithout_40 : decode cX1_roomWithout 40 = .ok (.aload_n 0, 1) := by decide +kernel
theorem dX1_roomWithout_41 : decode cX1_roomWithout 41 = .ok (.getfield 44, 3) := by decide +kernel
theorem dX1_roomWithout_44 : decode cX1_roomWithout 44 = .ok (.iload 4, 2) := by decide +kernel
theorem dX1_roomWithout_46 : decode cX1_roomWithout 46 = .ok (.iaload, 1) := by decide +kernel
theorem dX1_roomWithout_47 : decode cX1_roomWithout 47 = .ok (.iaload, 1) := by decide +kernel
theorem dX1_roomWithout_48 : decode cX1_roomWithout 48 = .ok (.goto 4, 3) := by decide +kernel
theorem dX1_roomWithout_51 : decode cX1_roomWithout 51 = .ok (.iconst 0, 1) := by decide +kernel
theorem dX1_roomWithout_52 : decode cX1_roomWithout 52 = .ok (.isub, 1) := by decide +kernel
theorem dX1_roomWithout_53 : decode cX1_roomWithout 53 = .ok (.istore_n 3, 1) := by decide +kernel
theorem dX1_roomWithout_54 : decode cX1_roomWithout 54 = .ok (.iinc 4 1, 3) := by decide +kernel
theorem dX1_roomWithout_57 : decode cX1_roomWithout 57 = .ok (.goto (-47), 3) := by decide +kernel
theorem dX1_roomWithout_60 : decode cX1_roomWithout 60 = .ok (.iload_n 3, 1) := by decide +kernel
theorem dX1_roomWithout_61 : decode cX1_roomWithout 61 = .ok (.ireturn, 1) := by decide +kernel
set_option maxRecDepth 20000 in
theorem ggX1_room_X1_isBreak : GoodIn wsX1_room wsX1_isBreak := goodIn_r _ [5, 6, 7, 8, 4, 9, 29, 30, 31, 32, 33, 34, 35, 36, 37, 38, 39, 40, 41, 42, 43, 44, 45, 46, 47] (by decide +kernel) (by decide +kernel)
set_option maxRecDepth 20000 in
theorem gX1_room_X1_isBreak : GoodIn wsX1_room (wsV RX1 77 RX1 yX1_isBreak wsX1_isBreak) := goodIn_app (goodIn_of _ (by decide +kernel)) ggX1_room_X1_isBreak
set_option maxRecDepth 20000 in
theorem ggX1_room_X1_goes : GoodIn wsX1_room wsX1_goes := goodIn_r _ [13, 14, 29, 30, 31, 32, 33, 34, 35, 36, 37, 38, 39, 40, 41, 42, 43, 44, 45, 46, 47] (by decide +kernel) (by decide +kernel)
set_option maxRecDepth 20000 in
theorem gX1_room_X1_goes : GoodIn wsX1_room (wsV RX1 73 RX1 yX1_goes wsX1_goes) := goodIn_app (goodIn_of _ (by decide +kernel)) ggX1_room_X1_goes
set_option maxRecDepth 20000 in
theorem ggX1_room_X1_roomWithout : GoodIn wsX1_room wsX1_roomWithout := goodIn_r _ [18, 19, 20, 21, 22, 23, 24, 25, 4, 26, 27, 28, 29, 30, 31, 32, 33, 34, 35, 36, 37, 38, 39, 40, 41, 42, 43, 44, 45, 46, 47] (by decide +kernel) (by decide +kernel)
set_option maxRecDepth 20000 in
theorem gX1_room_X1_roomWithout : GoodIn wsX1_room (wsV RX1 90 RX1 yX1_roomWithout wsX1_roomWithout) := goodIn_app (goodIn_of _ (by decide +kernel)) ggX1_room_X1_roomWithout
theorem dX1_room_0 : decode cX1_room 0 = .ok (.aload_n 0, 1) := by decide +kernel
theorem dX1_room_1 : decode cX1_room 1 = .ok (.aload_n 0, 1) := by decide +kernel
theorem dX1_room_2 : decode cX1_room 2 = .ok (.iload_n 1, 1) := by decide +kernel
theorem dX1_room_3 : decode cX1_room 3 = .ok (.invokevirtual 77, 3) := by decide +kernel
theorem dX1_room_6 : decode cX1_room 6 = .ok (.iconst 1, 1) := by decide +kernel
theorem dX1_room_7 : decode cX1_room 7 = .ok (.iconst 1, 1) := by decide +kernel
theorem dX1_room_8 : decode cX1_room 8 = .ok (.invokevirtual 73, 3) := by decide +kernel
theorem dX1_room_11 : decode cX1_room 11 = .ok (.ifCond .eq 12, 3) := by decide +kernel
theorem dX1_room_14 : decode cX1_room 14 = .ok (.aload_n 0, 1) := by decide +kernel
theorem dX1_room_15 : decode cX1_room 15 = .ok (.iload_n 1, 1) := by decide +kernel
theorem dX1_room_16 : decode cX1_room 16 = .ok (.iconst (-1), 1) := by decide +kernel
theorem dX1_room_17 : decode cX1_room 17 = .ok (.invokevirtual 90, 3) := by decide +kernel
theorem dX1_room_20 : decode cX1_room 20 = .ok (.goto 4, 3) := by decide +kernel
theorem dX1_room_23 : decode cX1_room 23 = .ok (.iconst 0, 1) := by decide +kernel
theorem dX1_room_24 : decode cX1_room 24 = .ok (.ireturn, 1) := by decide +kernel
set_option maxRecDepth 20000 in
theorem ggX1_rating_X1_isBreak : GoodIn wsX1_rating wsX1_isBreak := goodIn_r _ [6, 7, 8, 9, 5, 10, 16, 17, 18, 19, 20, 21, 22, 23, 24, 25, 26, 27, 28, 29, 30, 31, 32, 33, 34] (by decide +kernel) (by decide +kernel)
set_option maxRecDepth 20000 in
theorem gX1_rating_X1_isBreak : GoodIn wsX1_rating (wsV RX1 77 RX1 yX1_isBreak wsX1_isBreak) := goodIn_app (goodIn_of _ (by decide +kernel)) ggX1_rating_X1_isBreak
set_option maxRecDepth 20000 in
theorem ggX1_rating_X1_in : GoodIn wsX1_rating wsX1_in := goodIn_r _ [10] (by decide +kernel) (by decide +kernel)
set_option maxRecDepth 20000 in
theorem gX1_rating_X1_in : GoodIn wsX1_rating (va_wsS RX1 63 yX1_in wsX1_in) := goodIn_app (goodIn_of _ (by decide +kernel)) ggX1_rating_X1_in
set_option maxRecDepth 20000 in
theorem ggX1_rating_X1_goes : GoodIn wsX1_rating wsX1_goes := goodIn_r _ [14, 15, 16, 17, 18, 19, 20, 21, 22, 23, 24, 25, 26, 27, 28, 29, 30, 31, 32, 33, 34] (by decide +kernel) (by decide +kernel)
set_option maxRecDepth 20000 in
theorem gX1_rating_X1_goes : GoodIn wsX1_rating (wsV RX1 73 RX1 yX1_goes wsX1_goes) := goodIn_app (goodIn_of _ (by decide +kernel)) ggX1_rating_X1_goes
theorem dX1_rating_0 : decode cX1_rating 0 = .ok (.aload_n 0, 1) := by decide +kernel
theorem dX1_rating_1 : decode cX1_rating 1 = .ok (.aload_n 0, 1) := by decide +kernel
theorem dX1_rating_2 : decode cX1_rating 2 = .ok (.iload_n 1, 1) := by decide +kernel
theorem dX1_rating_3 : decode cX1_rating 3 = .ok (.invokevirtual 77, 3) := by decide +kernel
theorem dX1_rating_6 : decode cX1_rating 6 = .ok (.iload_n 2, 1) := by decide +kernel
theorem dX1_rating_7 : decode cX1_rating 7 = .ok (.iconst 0, 1) := by decide +kernel
theorem dX1_rating_8 : decode cX1_rating 8 = .ok (.iconst 2, 1) := by decide +kernel
theorem dX1_rating_9 : decode cX1_rating 9 = .ok (.invokestatic 63, 3) := by decide +kernel
theorem dX1_rating_12 : decode cX1_rating 12 = .ok (.iconst 1, 1) := by decide +kernel
theorem dX1_rating_13 : decode cX1_rating 13 = .ok (.invokevirtual 73, 3) := by decide +kernel
theorem dX1_rating_16 : decode cX1_rating 16 = .ok (.ifCond .eq 16, 3) := by decide +kernel
theorem dX1_rating_19 : decode cX1_rating 19 = .ok (.aload_n 0, 1) := by decide +kernel
theorem dX1_rating_20 : decode cX1_rating 20 = .ok (.getfield 17, 3) := by decide +kernel
theorem dX1_rating_23 : decode cX1_rating 23 = .ok (.iconst 3, 1) := by decide +kernel
theorem dX1_rating_24 : decode cX1_rating 24 = .ok (.iload_n 1, 1) := by decide +kernel
theorem dX1_rating_25 : decode cX1_rating 25 = .ok (.imul, 1) := by decide +kernel
theorem dX1_rating_26 : decode cX1_rating 26 = .ok (.iload_n 2, 1) := by decide +kernel
theorem dX1_rating_27 : decode cX1_rating 27 = .ok (.iadd, 1) := by decide +kernel
theorem dX1_rating_28 : decode cX1_rating 28 = .ok (.iaload, 1) := by decide +kernel
theorem dX1_rating_29 : decode cX1_rating 29 = .ok (.goto 4, 3) := by decide +kernel
theorem dX1_rating_32 : decode cX1_rating 32 = .ok (.iconst 0, 1) := by decide +kernel
theorem dX1_rating_33 : decode cX1_rating 33 = .ok (.ireturn, 1) := by decide +kernel
set_option maxRecDepth 20000 in
theorem ggX1_addOrder_X1_in : GoodIn wsX1_addOrder wsX1_in := goodIn_r _ [14] (by decide +kernel) (by decide +kernel)
set_option maxRecDepth 20000 in
theorem gX1_addOrder_X1_in : GoodIn wsX1_addOrder (va_wsS RX1 63 yX1_in wsX1_in) := goodIn_app (goodIn_of _ (by decide +kernel)) ggX1_addOrder_X1_in
set_option maxRecDepth 20000 in
theorem ggX1_addOrder_X1_goes : GoodIn wsX1_addOrder wsX1_goes := goodIn_r _ [18, 19, 20, 21, 22, 23, 24, 25, 26, 27, 28, 29, 30, 31, 32, 33, 34, 35, 36, 37, 38] (by decide +kernel) (by decide +kernel)
set_option maxRecDepth 20000 in
theorem gX1_addOrder_X1_goes : GoodIn wsX1_addOrder (wsV RX1 73 RX1 yX1_goes wsX1_goes) := goodIn_app (goodIn_of _ (by decide +kernel)) ggX1_addOrder_X1_goes
theorem dX1_addOrder_0 : decode cX1_addOrder 0 = .ok (.iload_n 1, 1) := by decide +kernel
theorem dX1_addOrder_1 : decode cX1_addOrder 1 = .ok (.iconst 0, 1) := by decide +kernel
theorem dX1_addOrder_2 : decode cX1_addOrder 2 = .ok (.bipush 9, 2) := by decide +kernel
theorem dX1_addOrder_4 : decode cX1_addOrder 4 = .ok (.invokestatic 63, 3) := by decide +kernel
theorem dX1_addOrder_7 : decode cX1_addOrder 7 = .ok (.ifCond .eq 47, 3) := by decide +kernel
theorem dX1_addOrder_10 : decode cX1_addOrder 10 = .ok (.iload_n 2, 1) := by decide +kernel
theorem dX1_addOrder_11 : decode cX1_addOrder 11 = .ok (.iconst 0, 1) := by decide +kernel
theorem dX1_addOrder_12 : decode cX1_addOrder 12 = .ok (.bipush 7, 2) := by decide +kernel
theorem dX1_addOrder_14 : decode cX1_addOrder 14 = .ok (.invokestatic 63, 3) := by decide +kernel
theorem dX1_addOrder_17 : decode cX1_addOrder 17 = .ok (.ifCond .eq 37, 3) := by decide +kernel
theorem dX1_addOrder_20 : decode cX1_addOrder 20 = .ok (.iload_n 3, 1) := by decide +kernel
theorem dX1_addOrder_21 : decode cX1_addOrder 21 = .ok (.iconst 0, 1) := by decide +kernel
theorem dX1_addOrder_22 : decode cX1_addOrder 22 = .ok (.iconst 2, 1) := by decide +kernel
theorem dX1_addOrder_23 : decode cX1_addOrder 23 = .ok (.invokestatic 63, 3) := by decide +kernel
theorem dX1_addOrder_26 : decode cX1_addOrder 26 = .ok (.ifCond .eq 28, 3) := by decide +kernel
theorem dX1_addOrder_29 : decode cX1_addOrder 29 = .ok (.iload 4, 2) := by decide +kernel
theorem dX1_addOrder_31 : decode cX1_addOrder 31 = .ok (.bipush 15, 2) := by decide +kernel
theorem dX1_addOrder_33 : decode cX1_addOrder 33 = .ok (.if_icmp .eq 17, 3) := by decide +kernel
theorem dX1_addOrder_36 : decode cX1_addOrder 36 = .ok (.iload 4, 2) := by decide +kernel
theorem dX1_addOrder_38 : decode cX1_addOrder 38 = .ok (.bipush 30, 2) := by decide +kernel
theorem dX1_addOrder_40 : decode cX1_addOrder 40 = .ok (.if_icmp .eq 10, 3) := by decide +kernel
theorem dX1_addOrder_43 : decode cX1_addOrder 43 = .ok (.iload 4, 2) := by decide +kernel
theorem dX1_addOrder_45 : decode cX1_addOrder 45 = .ok (.bipush 60, 2) := by decide +kernel
theorem dX1_addOrder_47 : decode cX1_addOrder 47 = .ok (.if_icmp .ne 7, 3) := by decide +kernel
theorem dX1_addOrder_50 : decode cX1_addOrder 50 = .ok (.iconst 1, 1) := by decide +kernel
theorem dX1_addOrder_51 : decode cX1_addOrder 51 = .ok (.goto 4, 3) := by decide +kernel
theorem dX1_addOrder_54 : decode cX1_addOrder 54 = .ok (.iconst 0, 1) := by decide +kernel
theorem dX1_addOrder_55 : decode cX1_addOrder 55 = .ok (.istore 8, 2) := by decide +kernel
theorem dX1_addOrder_57 : decode cX1_addOrder 57 = .ok (.aload_n 0, 1) := by decide +kernel
theorem dX1_addOrder_58 : decode cX1_addOrder 58 = .ok (.iload 8, 2) := by decide +kernel
theorem dX1_addOrder_60 : decode cX1_addOrder 60 = .ok (.ifCond .eq 40, 3) := by decide +kernel
theorem dX1_addOrder_63 : decode cX1_addOrder 63 = .ok (.iload 5, 2) := by decide +kernel
theorem dX1_addOrder_65 : decode cX1_addOrder 65 = .ok (.iconst 0, 1) := by decide +kernel
theorem dX1_addOrder_66 : decode cX1_addOrder 66 = .ok (.ldc 94, 2) := by decide +kernel
theorem dX1_addOrder_68 : decode cX1_addOrder 68 = .ok (.invokestatic 63, 3) := by decide +kernel
theorem dX1_addOrder_71 : decode cX1_addOrder 71 = .ok (.ifCond .eq 29, 3) := by decide +kernel
theorem dX1_addOrder_74 : decode cX1_addOrder 74 = .ok (.iload 6, 2) := by decide +kernel
theorem dX1_addOrder_76 : decode cX1_addOrder 76 = .ok (.iconst 0, 1) := by decide +kernel
theorem dX1_addOrder_77 : decode cX1_addOrder 77 = .ok (.ldc 94, 2) := by decide +kernel
theorem dX1_addOrder_79 : decode cX1_addOrder 79 = .ok (.invokestatic 63, 3) := by decide +kernel
theorem dX1_addOrder_82 : decode cX1_addOrder 82 = .ok (.ifCond .eq 18, 3) := by decide +kernel
theorem dX1_addOrder_85 : decode cX1_addOrder 85 = .ok (.iload 7, 2) := by decide +kernel
theorem dX1_addOrder_87 : decode cX1_addOrder 87 = .ok (.iconst 0, 1) := by decide +kernel
theorem dX1_addOrder_88 : decode cX1_addOrder 88 = .ok (.ldc 81, 2) := by decide +kernel
theorem dX1_addOrder_90 : decode cX1_addOrder 90 = .ok (.invokestatic 63, 3) := by decide +kernel
theorem dX1_addOrder_93 : decode cX1_addOrder 93 = .ok (.ifCond .eq 7, 3) := by decide +kernel
theorem dX1_addOrder_96 : decode cX1_addOrder 96 = .ok (.iconst 1, 1) := by decide +kernel
theorem dX1_addOrder_97 : decode cX1_addOrder 97 = .ok (.goto 4, 3) := by decide +kernel
theorem dX1_addOrder_100 : decode cX1_addOrder 100 = .ok (.iconst 0, 1) := by decide +kernel
theorem dX1_addOrder_101 : decode cX1_addOrder 101 = .ok (.aload_n 0, 1) := by decide +kernel
theorem dX1_addOrder_102 : decode cX1_addOrder 102 = .ok (.getfield 67, 3) := by decide +kernel
theorem dX1_addOrder_105 : decode cX1_addOrder 105 = .ok (.bipush 20, 2) := by decide +kernel
theorem dX1_addOrder_107 : decode cX1_addOrder 107 = .ok (.if_icmp .ge 7, 3) := by decide +kernel
theorem dX1_addOrder_110 : decode cX1_addOrder 110 = .ok (.iconst 1, 1) := by decide +kernel
theorem dX1_addOrder_111 : decode cX1_addOrder 111 = .ok (.goto 4, 3) := by decide +kernel
theorem dX1_addOrder_114 : decode cX1_addOrder 114 = .ok (.iconst 0, 1) := by decide +kernel
theorem dX1_addOrder_115 : decode cX1_addOrder 115 = .ok (.iconst 1, 1) := by decide +kernel
theorem dX1_addOrder_116 : decode cX1_addOrder 116 = .ok (.invokevirtual 73, 3) := by decide +kernel
theorem dX1_addOrder_119 : decode cX1_addOrder 119 = .ok (.ifCond .ne 5, 3) := by decide +kernel
theorem dX1_addOrder_122 : decode cX1_addOrder 122 = .ok (.iconst 0, 1) := by decide +kernel
theorem dX1_addOrder_123 : decode cX1_addOrder 123 = .ok (.ireturn, 1) := by decide +kernel
theorem dX1_addOrder_124 : decode cX1_addOrder 124 = .ok (.aload_n 0, 1) := by decide +kernel
theorem dX1_addOrder_125 : decode cX1_addOrder 125 = .ok (.getfield 20, 3) := by decide +kernel
theorem dX1_addOrder_128 : decode cX1_addOrder 128 = .ok (.aload_n 0, 1) := by decide +kernel
theorem dX1_addOrder_129 : decode cX1_addOrder 129 = .ok (.getfield 67, 3) := by decide +kernel
theorem dX1_addOrder_132 : decode cX1_addOrder 132 = .ok (.iload_n 1, 1) := by decide +kernel
theorem dX1_addOrder_133 : decode cX1_addOrder 133 = .ok (.iastore, 1) := by decide +kernel
theorem dX1_addOrder_134 : decode cX1_addOrder 134 = .ok (.aload_n 0, 1) := by decide +kernel
theorem dX1_addOrder_135 : decode cX1_addOrder 135 = .ok (.getfield 23, 3) := by decide +kernel
theorem dX1_addOrder_138 : decode cX1_addOrder 138 = .ok (.aload_n 0, 1) := by decide +kernel
theorem dX1_addOrder_139 : decode cX1_addOrder 139 = .ok (.getfield 67, 3) := by decide +kernel
theorem dX1_addOrder_142 : decode cX1_addOrder 142 = .ok (.iload_n 2, 1) := by decide +kernel
theorem dX1_addOrder_143 : decode cX1_addOrder 143 = .ok (.iastore, 1) := by decide +kernel
theorem dX1_addOrder_144 : decode cX1_addOrder 144 = .ok (.aload_n 0, 1) := by decide +kernel
theorem dX1_addOrder_145 : decode cX1_addOrder 145 = .ok (.getfield 26, 3) := by decide +kernel
theorem dX1_addOrder_148 : decode cX1_addOrder 148 = .ok (.aload_n 0, 1) := by decide +kernel
theorem dX1_addOrder_149 : decode cX1_addOrder 149 = .ok (.getfield 67, 3) := by decide +kernel
theorem dX1_addOrder_152 : decode cX1_addOrder 152 = .ok (.iload_n 3, 1) := by decide +kernel
theorem dX1_addOrder_153 : decode cX1_addOrder 153 = .ok (.iastore, 1) := by decide +kernel
theorem dX1_addOrder_154 : decode cX1_addOrder 154 = .ok (.aload_n 0, 1) := by decide +kernel
theorem dX1_addOrder_155 : decode cX1_addOrder 155 = .ok (.getfield 29, 3) := by decide +kernel
theorem dX1_addOrder_158 : decode cX1_addOrder 158 = .ok (.aload_n 0, 1) := by decide +kernel
theorem dX1_addOrder_159 : decode cX1_addOrder 159 = .ok (.getfield 67, 3) := by decide +kernel
theorem dX1_addOrder_162 : decode cX1_addOrder 162 = .ok (.iload 4, 2) := by decide +kernel
theorem dX1_addOrder_164 : decode cX1_addOrder 164 = .ok (.iastore, 1) := by decide +kernel
theorem dX1_addOrder_165 : decode cX1_addOrder 165 = .ok (.aload_n 0, 1) := by decide +kernel
theorem dX1_addOrder_166 : decode cX1_addOrder 166 = .ok (.getfield 32, 3) := by decide +kernel
theorem dX1_addOrder_169 : decode cX1_addOrder 169 = .ok (.aload_n 0, 1) := by decide +kernel
theorem dX1_addOrder_170 : decode cX1_addOrder 170 = .ok (.getfield 67, 3) := by decide +kernel
theorem dX1_addOrder_173 : decode cX1_addOrder 173 = .ok (.iload 5, 2) := by decide +kernel
theorem dX1_addOrder_175 : decode cX1_addOrder 175 = .ok (.iastore, 1) := by decide +kernel
theorem dX1_addOrder_176 : decode cX1_addOrder 176 = .ok (.aload_n 0, 1) := by decide +kernel
theorem dX1_addOrder_177 : decode cX1_addOrder 177 = .ok (.getfield 35, 3) := by decide +kernel
theorem dX1_addOrder_180 : decode cX1_addOrder 180 = .ok (.aload_n 0, 1) := by decide +kernel
theorem dX1_addOrder_181 : decode cX1_addOrder 181 = .ok (.getfield 67, 3) := by decide +kernel
theorem dX1_addOrder_184 : decode cX1_addOrder 184 = .ok (.iload 6, 2) := by decide +kernel
theorem dX1_addOrder_186 : decode cX1_addOrder 186 = .ok (.iastore, 1) := by decide +kernel
theorem dX1_addOrder_187 : decode cX1_addOrder 187 = .ok (.aload_n 0, 1) := by decide +kernel
theorem dX1_addOrder_188 : decode cX1_addOrder 188 = .ok (.getfield 38, 3) := by decide +kernel
theorem dX1_addOrder_191 : decode cX1_addOrder 191 = .ok (.aload_n 0, 1) := by decide +kernel
theorem dX1_addOrder_192 : decode cX1_addOrder 192 = .ok (.getfield 67, 3) := by decide +kernel
theorem dX1_addOrder_195 : decode cX1_addOrder 195 = .ok (.iload 7, 2) := by decide +kernel
theorem dX1_addOrder_197 : decode cX1_addOrder 197 = .ok (.iastore, 1) := by decide +kernel
theorem dX1_addOrder_198 : decode cX1_addOrder 198 = .ok (.aload_n 0, 1) := by decide +kernel
theorem dX1_addOrder_199 : decode cX1_addOrder 199 = .ok (.dup, 1) := by decide +kernel
theorem dX1_addOrder_200 : decode cX1_addOrder 200 = .ok (.getfield 67, 3) := by decide +kernel
theorem dX1_addOrder_203 : decode cX1_addOrder 203 = .ok (.iconst 1, 1) := by decide +kernel
theorem dX1_addOrder_204 : decode cX1_addOrder 204 = .ok (.iadd, 1) := by decide +kernel
theorem dX1_addOrder_205 : decode cX1_addOrder 205 = .ok (.putfield 67, 3) := by decide +kernel
theorem dX1_addOrder_208 : decode cX1_addOrder 208 = .ok (.aload_n 0, 1) := by decide +kernel
theorem dX1_addOrder_209 : decode cX1_addOrder 209 = .ok (.getfield 67, 3) := by decide +kernel
theorem dX1_addOrder_212 : decode cX1_addOrder 212 = .ok (.iconst 1, 1) := by decide +kernel
theorem dX1_addOrder_213 : decode cX1_addOrder 213 = .ok (.isub, 1) := by decide +kernel
theorem dX1_addOrder_214 : decode cX1_addOrder 214 = .ok (.ireturn, 1) := by decide +kernel
theorem dX1_ratingFor_0 : decode cX1_ratingFor 0 = .ok (.aload_n 0, 1) := by decide +kernel
theorem dX1_ratingFor_1 : decode cX1_ratingFor 1 = .ok (.getfield 17, 3) := by decide +kernel
theorem dX1_ratingFor_4 : decode cX1_ratingFor 4 = .ok (.iconst 3, 1) := by decide +kernel
theorem dX1_ratingFor_5 : decode cX1_ratingFor 5 = .ok (.iload_n 2, 1) := by decide +kernel
theorem dX1_ratingFor_6 : decode cX1_ratingFor 6 = .ok (.imul, 1) := by decide +kernel
theorem dX1_ratingFor_7 : decode cX1_ratingFor 7 = .ok (.aload_n 0, 1) := by decide +kernel
theorem dX1_ratingFor_8 : decode cX1_ratingFor 8 = .ok (.getfield 26, 3) := by decide +kernel
theorem dX1_ratingFor_11 : decode cX1_ratingFor 11 = .ok (.iload_n 1, 1) := by decide +kernel
theorem dX1_ratingFor_12 : decode cX1_ratingFor 12 = .ok (.iaload, 1) := by decide +kernel
theorem dX1_ratingFor_13 : decode cX1_ratingFor 13 = .ok (.iadd, 1) := by decide +kernel
theorem dX1_ratingFor_14 : decode cX1_ratingFor 14 = .ok (.iaload, 1) := by decide +kernel
theorem dX1_ratingFor_15 : decode cX1_ratingFor 15 = .ok (.ireturn, 1) := by decide +kernel
set_option maxRecDepth 20000 in
theorem ggX1_sums_X1_ratingFor : GoodIn wsX1_sums wsX1_ratingFor := goodIn_r _ [10, 11, 12, 13, 14, 15, 16, 17, 18, 19, 20, 21, 22, 23, 24, 25, 26, 27, 28, 29, 30, 31] (by decide +kernel) (by decide +kernel)
set_option maxRecDepth 20000 in
theorem gX1_sums_X1_ratingFor : GoodIn wsX1_sums (wsV RX1 95 RX1 yX1_ratingFor wsX1_ratingFor) := goodIn_app (goodIn_of _ (by decide +kernel)) ggX1_sums_X1_ratingFor
theorem dX1_sums_0 : decode cX1_sums 0 = .ok (.iconst 0, 1) := by decide +kernel
theorem dX1_sums_1 : decode cX1_sums 1 = .ok (.istore 4, 2) := by decide +kernel
theorem dX1_sums_3 : decode cX1_sums 3 = .ok (.iconst 0, 1) := by decide +kernel
theorem dX1_sums_4 : decode cX1_sums 4 = .ok (.istore 5, 2) := by decide +kernel
theorem dX1_sums_6 : decode cX1_sums 6 = .ok (.iload 5, 2) := by decide +kernel
theorem dX1_sums_8 : decode cX1_sums 8 = .ok (.aload_n 0, 1) := by decide +kernel
theorem dX1_sums_9 : decode cX1_sums 9 = .ok (.getfield 70, 3) := by decide +kernel
theorem dX1_sums_12 : decode cX1_sums 12 = .ok (.if_icmp .ge 66, 3) := by decide +kernel
theorem dX1_sums_15 : decode cX1_sums 15 = .ok (.iload 4, 2) := by decide +kernel
theorem dX1_sums_17 : decode cX1_sums 17 = .ok (.aload_n 0, 1) := by decide +kernel
theorem dX1_sums_18 : decode cX1_sums 18 = .ok (.getfield 44, 3) := by decide +kernel
theorem dX1_sums_21 : decode cX1_sums 21 = .ok (.iload 5, 2) := by decide +kernel
theorem dX1_sums_23 : decode cX1_sums 23 = .ok (.iaload, 1) := by decide +kernel
theorem dX1_sums_24 : decode cX1_sums 24 = .ok (.iload_n 1, 1) := by decide +kernel
theorem dX1_sums_25 : decode cX1_sums 25 = .ok (.if_icmp .ne 43, 3) := by decide +kernel
theorem dX1_sums_28 : decode cX1_sums 28 = .ok (.aload_n 0, 1) := by decide +kernel
theorem dX1_sums_29 : decode cX1_sums 29 = .ok (.getfield 50, 3) := by decide +kernel
theorem dX1_sums_32 : decode cX1_sums 32 = .ok (.iload 5, 2) := by decide +kernel
theorem dX1_sums_34 : decode cX1_sums 34 = .ok (.iaload, 1) := by decide +kernel
theorem dX1_sums_35 : decode cX1_sums 35 = .ok (.iload_n 2, 1) := by decide +kernel
theorem dX1_sums_36 : decode cX1_sums 36 = .ok (.if_icmp .ne 32, 3) := by decide +kernel
theorem dX1_sums_39 : decode cX1_sums 39 = .ok (.aload_n 0, 1) := by decide +kernel
theorem dX1_sums_40 : decode cX1_sums 40 = .ok (.getfield 53, 3) := by decide +kernel
theorem dX1_sums_43 : decode cX1_sums 43 = .ok (.iload 5, 2) := by decide +kernel
theorem dX1_sums_45 : decode cX1_sums 45 = .ok (.baload, 1) := by decide +kernel
theorem dX1_sums_46 : decode cX1_sums 46 = .ok (.ifCond .ne 7, 3) := by decide +kernel
theorem dX1_sums_49 : decode cX1_sums 49 = .ok (.iload_n 3, 1) := by decide +kernel
theorem dX1_sums_50 : decode cX1_sums 50 = .ok (.ifCond .ne 18, 3) := by decide +kernel
theorem dX1_sums_53 : decode cX1_sums 53 = .ok (.aload_n 0, 1) := by decide +kernel
theorem dX1_sums_54 : decode cX1_sums 54 = .ok (.iload_n 1, 1) := by decide +kernel
theorem dX1_sums_55 : decode cX1_sums 55 = .ok (.aload_n 0, 1) := by decide +kernel
theorem dX1_sums_56 : decode cX1_sums 56 = .ok (.getfield 47, 3) := by decide +kernel
theorem dX1_sums_59 : decode cX1_sums 59 = .ok (.iload 5, 2) := by decide +kernel
theorem dX1_sums_61 : decode cX1_sums 61 = .ok (.iaload, 1) := by decide +kernel
theorem dX1_sums_62 : decode cX1_sums 62 = .ok (.invokevirtual 95, 3) := by decide +kernel
theorem dX1_sums_65 : decode cX1_sums 65 = .ok (.goto 4, 3) := by decide +kernel
theorem dX1_sums_68 : decode cX1_sums 68 = .ok (.iconst 0, 1) := by decide +kernel
theorem dX1_sums_69 : decode cX1_sums 69 = .ok (.iadd, 1) := by decide +kernel
theorem dX1_sums_70 : decode cX1_sums 70 = .ok (.istore 4, 2) := by decide +kernel
theorem dX1_sums_72 : decode cX1_sums 72 = .ok (.iinc 5 1, 3) := by decide +kernel
theorem dX1_sums_75 : decode cX1_sums 75 = .ok (.goto (-69), 3) := by decide +kernel
theorem dX1_sums_78 : decode cX1_sums 78 = .ok (.iload 4, 2) := by decide +kernel
theorem dX1_sums_80 : decode cX1_sums 80 = .ok (.ireturn, 1) := by decide +kernel
set_option maxRecDepth 20000 in
theorem ggX1_owes_X1_sums : GoodIn wsX1_owes wsX1_sums := goodIn_r _ [7, 8, 9, 10, 11, 12, 13, 14, 15, 6, 16, 17, 18, 19, 20, 21, 22, 23, 24, 25, 26, 27, 28, 29, 30, 31, 32, 33, 34, 35, 36, 37] (by decide +kernel) (by decide +kernel)
set_option maxRecDepth 20000 in
theorem gX1_owes_X1_sums : GoodIn wsX1_owes (wsV RX1 98 RX1 yX1_sums wsX1_sums) := goodIn_app (goodIn_of _ (by decide +kernel)) ggX1_owes_X1_sums
theorem dX1_owes_0 : decode cX1_owes 0 = .ok (.aload_n 0, 1) := by decide +kernel
theorem dX1_owes_1 : decode cX1_owes 1 = .ok (.getfield 35, 3) := by decide +kernel
theorem dX1_owes_4 : decode cX1_owes 4 = .ok (.iload_n 1, 1) := by decide +kernel
theorem dX1_owes_5 : decode cX1_owes 5 = .ok (.iaload, 1) := by decide +kernel
theorem dX1_owes_6 : decode cX1_owes 6 = .ok (.aload_n 0, 1) := by decide +kernel
theorem dX1_owes_7 : decode cX1_owes 7 = .ok (.iload_n 1, 1) := by decide +kernel
theorem dX1_owes_8 : decode cX1_owes 8 = .ok (.iconst 1, 1) := by decide +kernel
theorem dX1_owes_9 : decode cX1_owes 9 = .ok (.iconst 0, 1) := by decide +kernel
theorem dX1_owes_10 : decode cX1_owes 10 = .ok (.invokevirtual 98, 3) := by decide +kernel
theorem dX1_owes_13 : decode cX1_owes 13 = .ok (.isub, 1) := by decide +kernel
theorem dX1_owes_14 : decode cX1_owes 14 = .ok (.istore_n 2, 1) := by decide +kernel
theorem dX1_owes_15 : decode cX1_owes 15 = .ok (.aload_n 0, 1) := by decide +kernel
theorem dX1_owes_16 : decode cX1_owes 16 = .ok (.getfield 41, 3) := by decide +kernel
theorem dX1_owes_19 : decode cX1_owes 19 = .ok (.iload_n 1, 1) := by decide +kernel
theorem dX1_owes_20 : decode cX1_owes 20 = .ok (.baload, 1) := by decide +kernel
theorem dX1_owes_21 : decode cX1_owes 21 = .ok (.ifCond .eq 11, 3) := by decide +kernel
theorem dX1_owes_24 : decode cX1_owes 24 = .ok (.iload_n 2, 1) := by decide +kernel
theorem dX1_owes_25 : decode cX1_owes 25 = .ok (.ifCond .le 7, 3) := by decide +kernel
theorem dX1_owes_28 : decode cX1_owes 28 = .ok (.iload_n 2, 1) := by decide +kernel
theorem dX1_owes_29 : decode cX1_owes 29 = .ok (.goto 4, 3) := by decide +kernel
theorem dX1_owes_32 : decode cX1_owes 32 = .ok (.iconst 0, 1) := by decide +kernel
theorem dX1_owes_33 : decode cX1_owes 33 = .ok (.ireturn, 1) := by decide +kernel
set_option maxRecDepth 20000 in
theorem ggX1_left_X1_owes : GoodIn wsX1_left wsX1_owes := goodIn_r _ [5, 6, 7, 8, 9, 10, 4, 11, 12, 13, 14, 15, 16, 17, 18, 19, 20, 21, 22, 23, 24, 25, 26, 27, 28, 29, 30, 31, 32, 33, 34, 35, 36, 37, 38, 39, 40, 41] (by decide +kernel) (by decide +kernel)
set_option maxRecDepth 20000 in
theorem gX1_left_X1_owes : GoodIn wsX1_left (wsV RX1 102 RX1 yX1_owes wsX1_owes) := goodIn_app (goodIn_of _ (by decide +kernel)) ggX1_left_X1_owes
set_option maxRecDepth 20000 in
theorem ggX1_left_X1_sums : GoodIn wsX1_left wsX1_sums := goodIn_r _ [11, 12, 13, 14, 15, 16, 17, 18, 19, 4, 20, 21, 22, 23, 24, 25, 26, 27, 28, 29, 30, 31, 32, 33, 34, 35, 36, 37, 38, 39, 40, 41] (by decide +kernel) (by decide +kernel)
set_option maxRecDepth 20000 in
theorem gX1_left_X1_sums : GoodIn wsX1_left (wsV RX1 98 RX1 yX1_sums wsX1_sums) := goodIn_app (goodIn_of _ (by decide +kernel)) ggX1_left_X1_sums
theorem dX1_left_0 : decode cX1_left 0 = .ok (.aload_n 0, 1) := by decide +kernel
theorem dX1_left_1 : decode cX1_left 1 = .ok (.iload_n 1, 1) := by decide +kernel
theorem dX1_left_2 : decode cX1_left 2 = .ok (.invokevirtual 102, 3) := by decide +kernel
theorem dX1_left_5 : decode cX1_left 5 = .ok (.aload_n 0, 1) := by decide +kernel
theorem dX1_left_6 : decode cX1_left 6 = .ok (.iload_n 1, 1) := by decide +kernel
theorem dX1_left_7 : decode cX1_left 7 = .ok (.iconst 0, 1) := by decide +kernel
theorem dX1_left_8 : decode cX1_left 8 = .ok (.iconst 1, 1) := by decide +kernel
theorem dX1_left_9 : decode cX1_left 9 = .ok (.invokevirtual 98, 3) := by decide +kernel
theorem dX1_left_12 : decode cX1_left 12 = .ok (.isub, 1) := by decide +kernel
theorem dX1_left_13 : decode cX1_left 13 = .ok (.istore_n 2, 1) := by decide +kernel
theorem dX1_left_14 : decode cX1_left 14 = .ok (.iload_n 2, 1) := by decide +kernel
theorem dX1_left_15 : decode cX1_left 15 = .ok (.ifCond .le 7, 3) := by decide +kernel
theorem dX1_left_18 : decode cX1_left 18 = .ok (.iload_n 2, 1) := by decide +kernel
theorem dX1_left_19 : decode cX1_left 19 = .ok (.goto 4, 3) := by decide +kernel
theorem dX1_left_22 : decode cX1_left 22 = .ok (.iconst 0, 1) := by decide +kernel
theorem dX1_left_23 : decode cX1_left 23 = .ok (.ireturn, 1) := by decide +kernel
set_option maxRecDepth 20000 in
theorem ggX1_close_X1_isOrder : GoodIn wsX1_close wsX1_isOrder := goodIn_r _ [9, 10, 11, 12, 8, 13, 36, 37, 38, 39, 40, 41, 42, 43, 44, 45, 46, 47, 48, 49, 50, 51, 52, 53, 54] (by decide +kernel) (by decide +kernel)
set_option maxRecDepth 20000 in
theorem gX1_close_X1_isOrder : GoodIn wsX1_close (wsV RX1 105 RX1 yX1_isOrder wsX1_isOrder) := goodIn_app (goodIn_of _ (by decide +kernel)) ggX1_close_X1_isOrder
set_option maxRecDepth 20000 in
theorem ggX1_close_X1_goes : GoodIn wsX1_close wsX1_goes := goodIn_r _ [17, 18, 36, 37, 38, 39, 40, 41, 42, 43, 44, 45, 46, 47, 48, 49, 50, 51, 52, 53, 54] (by decide +kernel) (by decide +kernel)
set_option maxRecDepth 20000 in
theorem gX1_close_X1_goes : GoodIn wsX1_close (wsV RX1 73 RX1 yX1_goes wsX1_goes) := goodIn_app (goodIn_of _ (by decide +kernel)) ggX1_close_X1_goes
set_option maxRecDepth 20000 in
theorem ggX1_close_X1_owes : GoodIn wsX1_close wsX1_owes := goodIn_r _ [22, 23, 1, 24, 25, 26, 8, 27, 2, 4, 3, 28, 29, 30, 31, 32, 33, 34, 35, 36, 37, 38, 39, 40, 41, 42, 43, 44, 45, 46, 47, 48, 49, 50, 51, 52, 53, 54] (by decide +kernel) (by decide +kernel)
set_option maxRecDepth 20000 in
theorem gX1_close_X1_owes : GoodIn wsX1_close (wsV RX1 102 RX1 yX1_owes wsX1_owes) := goodIn_app (goodIn_of _ (by decide +kernel)) ggX1_close_X1_owes
theorem dX1_close_0 : decode cX1_close 0 = .ok (.aload_n 0, 1) := by decide +kernel
theorem dX1_close_1 : decode cX1_close 1 = .ok (.iload_n 1, 1) := by decide +kernel
theorem dX1_close_2 : decode cX1_close 2 = .ok (.invokevirtual 105, 3) := by decide +kernel
theorem dX1_close_5 : decode cX1_close 5 = .ok (.istore_n 2, 1) := by decide +kernel
theorem dX1_close_6 : decode cX1_close 6 = .ok (.aload_n 0, 1) := by decide +kernel
theorem dX1_close_7 : decode cX1_close 7 = .ok (.iload_n 2, 1) := by decide +kernel
theorem dX1_close_8 : decode cX1_close 8 = .ok (.iload_n 2, 1) := by decide +kernel
theorem dX1_close_9 : decode cX1_close 9 = .ok (.ifCond .eq 16, 3) := by decide +kernel
theorem dX1_close_12 : decode cX1_close 12 = .ok (.aload_n 0, 1) := by decide +kernel
theorem dX1_close_13 : decode cX1_close 13 = .ok (.getfield 41, 3) := by decide +kernel
theorem dX1_close_16 : decode cX1_close 16 = .ok (.iload_n 1, 1) := by decide +kernel
theorem dX1_close_17 : decode cX1_close 17 = .ok (.baload, 1) := by decide +kernel
theorem dX1_close_18 : decode cX1_close 18 = .ok (.ifCond .ne 7, 3) := by decide +kernel
theorem dX1_close_21 : decode cX1_close 21 = .ok (.iconst 1, 1) := by decide +kernel
theorem dX1_close_22 : decode cX1_close 22 = .ok (.goto 4, 3) := by decide +kernel
theorem dX1_close_25 : decode cX1_close 25 = .ok (.iconst 0, 1) := by decide +kernel
theorem dX1_close_26 : decode cX1_close 26 = .ok (.iconst 1, 1) := by decide +kernel
theorem dX1_close_27 : decode cX1_close 27 = .ok (.invokevirtual 73, 3) := by decide +kernel
theorem dX1_close_30 : decode cX1_close 30 = .ok (.ifCond .ne 5, 3) := by decide +kernel
theorem dX1_close_33 : decode cX1_close 33 = .ok (.iconst 0, 1) := by decide +kernel
theorem dX1_close_34 : decode cX1_close 34 = .ok (.ireturn, 1) := by decide +kernel
theorem dX1_close_35 : decode cX1_close 35 = .ok (.aload_n 0, 1) := by decide +kernel
theorem dX1_close_36 : decode cX1_close 36 = .ok (.getfield 41, 3) := by decide +kernel
theorem dX1_close_39 : decode cX1_close 39 = .ok (.iload_n 1, 1) := by decide +kernel
theorem dX1_close_40 : decode cX1_close 40 = .ok (.iconst 1, 1) := by decide +kernel
theorem dX1_close_41 : decode cX1_close 41 = .ok (.bastore, 1) := by decide +kernel
theorem dX1_close_42 : decode cX1_close 42 = .ok (.iconst 0, 1) := by decide +kernel
theorem dX1_close_43 : decode cX1_close 43 = .ok (.istore_n 3, 1) := by decide +kernel
theorem dX1_close_44 : decode cX1_close 44 = .ok (.iload_n 3, 1) := by decide +kernel
theorem dX1_close_45 : decode cX1_close 45 = .ok (.aload_n 0, 1) := by decide +kernel
theorem dX1_close_46 : decode cX1_close 46 = .ok (.getfield 70, 3) := by decide +kernel
theorem dX1_close_49 : decode cX1_close 49 = .ok (.if_icmp .ge 44, 3) := by decide +kernel
theorem dX1_close_52 : decode cX1_close 52 = .ok (.aload_n 0, 1) := by decide +kernel
theorem dX1_close_53 : decode cX1_close 53 = .ok (.getfield 50, 3) := by decide +kernel
theorem dX1_close_56 : decode cX1_close 56 = .ok (.iload_n 3, 1) := by decide +kernel
theorem dX1_close_57 : decode cX1_close 57 = .ok (.aload_n 0, 1) := by decide +kernel
theorem dX1_close_58 : decode cX1_close 58 = .ok (.getfield 44, 3) := by decide +kernel
theorem dX1_close_61 : decode cX1_close 61 = .ok (.iload_n 3, 1) := by decide +kernel
theorem dX1_close_62 : decode cX1_close 62 = .ok (.iaload, 1) := by decide +kernel
theorem dX1_close_63 : decode cX1_close 63 = .ok (.iload_n 1, 1) := by decide +kernel
theorem dX1_close_64 : decode cX1_close 64 = .ok (.if_icmp .ne 16, 3) := by decide +kernel
theorem dX1_close_67 : decode cX1_close 67 = .ok (.aload_n 0, 1) := by decide +kernel
theorem dX1_close_68 : decode cX1_close 68 = .ok (.getfield 50, 3) := by decide +kernel
theorem dX1_close_71 : decode cX1_close 71 = .ok (.iload_n 3, 1) := by decide +kernel
theorem dX1_close_72 : decode cX1_close 72 = .ok (.iaload, 1) := by decide +kernel
theorem dX1_close_73 : decode cX1_close 73 = .ok (.ifCond .ne 7, 3) := by decide +kernel
theorem dX1_close_76 : decode cX1_close 76 = .ok (.iconst 3, 1) := by decide +kernel
theorem dX1_close_77 : decode cX1_close 77 = .ok (.goto 9, 3) := by decide +kernel
theorem dX1_close_80 : decode cX1_close 80 = .ok (.aload_n 0, 1) := by decide +kernel
theorem dX1_close_81 : decode cX1_close 81 = .ok (.getfield 50, 3) := by decide +kernel
theorem dX1_close_84 : decode cX1_close 84 = .ok (.iload_n 3, 1) := by decide +kernel
theorem dX1_close_85 : decode cX1_close 85 = .ok (.iaload, 1) := by decide +kernel
theorem dX1_close_86 : decode cX1_close 86 = .ok (.iastore, 1) := by decide +kernel
theorem dX1_close_87 : decode cX1_close 87 = .ok (.iinc 3 1, 3) := by decide +kernel
theorem dX1_close_90 : decode cX1_close 90 = .ok (.goto (-46), 3) := by decide +kernel
theorem dX1_close_93 : decode cX1_close 93 = .ok (.aload_n 0, 1) := by decide +kernel
theorem dX1_close_94 : decode cX1_close 94 = .ok (.iload_n 1, 1) := by decide +kernel
theorem dX1_close_95 : decode cX1_close 95 = .ok (.invokevirtual 102, 3) := by decide +kernel
theorem dX1_close_98 : decode cX1_close 98 = .ok (.ireturn, 1) := by decide +kernel
set_option maxRecDepth 20000 in
theorem ggX1_orders_X1_told : GoodIn wsX1_orders wsX1_told := goodIn_r _ [6, 7, 8, 9, 10, 11, 12, 13, 14, 15, 16, 17, 18, 19, 20, 21, 22, 23, 24, 25, 26] (by decide +kernel) (by decide +kernel)
set_option maxRecDepth 20000 in
theorem gX1_orders_X1_told : GoodIn wsX1_orders (wsV RX1 82 RX1 yX1_told wsX1_told) := goodIn_app (goodIn_of _ (by decide +kernel)) ggX1_orders_X1_told
theorem dX1_orders_0 : decode cX1_orders 0 = .ok (.aload_n 0, 1) := by decide +kernel
theorem dX1_orders_1 : decode cX1_orders 1 = .ok (.aload_n 0, 1) := by decide +kernel
theorem dX1_orders_2 : decode cX1_orders 2 = .ok (.getfield 67, 3) := by decide +kernel
theorem dX1_orders_5 : decode cX1_orders 5 = .ok (.invokevirtual 82, 3) := by decide +kernel
theorem dX1_orders_8 : decode cX1_orders 8 = .ok (.ireturn, 1) := by decide +kernel
set_option maxRecDepth 20000 in
theorem ggX1_isThere_X1_stands : GoodIn wsX1_isThere wsX1_stands := goodIn_r _ [9, 10, 11, 12, 13, 14, 15, 16, 17, 18, 19, 20, 21, 22, 23, 24, 25, 26, 27, 28, 29, 30] (by decide +kernel) (by decide +kernel)
set_option maxRecDepth 20000 in
theorem gX1_isThere_X1_stands : GoodIn wsX1_isThere (wsV RX1 86 RX1 yX1_stands wsX1_stands) := goodIn_app (goodIn_of _ (by decide +kernel)) ggX1_isThere_X1_stands
theorem dX1_isThere_0 : decode cX1_isThere 0 = .ok (.iconst 0, 1) := by decide +kernel
theorem dX1_isThere_1 : decode cX1_isThere 1 = .ok (.istore 5, 2) := by decide +kernel
theorem dX1_isThere_3 : decode cX1_isThere 3 = .ok (.iconst 0, 1) := by decide +kernel
theorem dX1_isThere_4 : decode cX1_isThere 4 = .ok (.istore 6, 2) := by decide +kernel
theorem dX1_isThere_6 : decode cX1_isThere 6 = .ok (.iload 6, 2) := by decide +kernel
theorem dX1_isThere_8 : decode cX1_isThere 8 = .ok (.aload_n 0, 1) := by decide +kernel
theorem dX1_isThere_9 : decode cX1_isThere 9 = .ok (.getfield 70, 3) := by decide +kernel
theorem dX1_isThere_12 : decode cX1_isThere 12 = .ok (.if_icmp .ge 113, 3) := by decide +kernel
theorem dX1_isThere_15 : decode cX1_isThere 15 = .ok (.aload_n 0, 1) := by decide +kernel
theorem dX1_isThere_16 : decode cX1_isThere 16 = .ok (.getfield 20, 3) := by decide +kernel
theorem dX1_isThere_19 : decode cX1_isThere 19 = .ok (.aload_n 0, 1) := by decide +kernel
theorem dX1_isThere_20 : decode cX1_isThere 20 = .ok (.getfield 44, 3) := by decide +kernel
theorem dX1_isThere_23 : decode cX1_isThere 23 = .ok (.iload 6, 2) := by decide +kernel
theorem dX1_isThere_25 : decode cX1_isThere 25 = .ok (.iaload, 1) := by decide +kernel
theorem dX1_isThere_26 : decode cX1_isThere 26 = .ok (.iaload, 1) := by decide +kernel
theorem dX1_isThere_27 : decode cX1_isThere 27 = .ok (.aload_n 0, 1) := by decide +kernel
theorem dX1_isThere_28 : decode cX1_isThere 28 = .ok (.getfield 20, 3) := by decide +kernel
theorem dX1_isThere_31 : decode cX1_isThere 31 = .ok (.iload_n 1, 1) := by decide +kernel
theorem dX1_isThere_32 : decode cX1_isThere 32 = .ok (.iaload, 1) := by decide +kernel
theorem dX1_isThere_33 : decode cX1_isThere 33 = .ok (.if_icmp .ne 7, 3) := by decide +kernel
theorem dX1_isThere_36 : decode cX1_isThere 36 = .ok (.iconst 1, 1) := by decide +kernel
theorem dX1_isThere_37 : decode cX1_isThere 37 = .ok (.goto 4, 3) := by decide +kernel
theorem dX1_isThere_40 : decode cX1_isThere 40 = .ok (.iconst 0, 1) := by decide +kernel
theorem dX1_isThere_41 : decode cX1_isThere 41 = .ok (.istore 7, 2) := by decide +kernel
theorem dX1_isThere_43 : decode cX1_isThere 43 = .ok (.iload 4, 2) := by decide +kernel
theorem dX1_isThere_45 : decode cX1_isThere 45 = .ok (.ifCond .eq 37, 3) := by decide +kernel
theorem dX1_isThere_48 : decode cX1_isThere 48 = .ok (.iload 7, 2) := by decide +kernel
theorem dX1_isThere_50 : decode cX1_isThere 50 = .ok (.ifCond .ne 28, 3) := by decide +kernel
theorem dX1_isThere_53 : decode cX1_isThere 53 = .ok (.aload_n 0, 1) := by decide +kernel
theorem dX1_isThere_54 : decode cX1_isThere 54 = .ok (.getfield 23, 3) := by decide +kernel
theorem dX1_isThere_57 : decode cX1_isThere 57 = .ok (.aload_n 0, 1) := by decide +kernel
theorem dX1_isThere_58 : decode cX1_isThere 58 = .ok (.getfield 44, 3) := by decide +kernel
theorem dX1_isThere_61 : decode cX1_isThere 61 = .ok (.iload 6, 2) := by decide +kernel
theorem dX1_isThere_63 : decode cX1_isThere 63 = .ok (.iaload, 1) := by decide +kernel
theorem dX1_isThere_64 : decode cX1_isThere 64 = .ok (.iaload, 1) := by decide +kernel
theorem dX1_isThere_65 : decode cX1_isThere 65 = .ok (.aload_n 0, 1) := by decide +kernel
theorem dX1_isThere_66 : decode cX1_isThere 66 = .ok (.getfield 23, 3) := by decide +kernel
theorem dX1_isThere_69 : decode cX1_isThere 69 = .ok (.iload_n 1, 1) := by decide +kernel
theorem dX1_isThere_70 : decode cX1_isThere 70 = .ok (.iaload, 1) := by decide +kernel
theorem dX1_isThere_71 : decode cX1_isThere 71 = .ok (.if_icmp .ne 7, 3) := by decide +kernel
theorem dX1_isThere_74 : decode cX1_isThere 74 = .ok (.iconst 1, 1) := by decide +kernel
theorem dX1_isThere_75 : decode cX1_isThere 75 = .ok (.goto 9, 3) := by decide +kernel
theorem dX1_isThere_78 : decode cX1_isThere 78 = .ok (.iconst 0, 1) := by decide +kernel
theorem dX1_isThere_79 : decode cX1_isThere 79 = .ok (.goto 5, 3) := by decide +kernel
theorem dX1_isThere_82 : decode cX1_isThere 82 = .ok (.iload 7, 2) := by decide +kernel
theorem dX1_isThere_84 : decode cX1_isThere 84 = .ok (.istore 8, 2) := by decide +kernel
theorem dX1_isThere_86 : decode cX1_isThere 86 = .ok (.iload 5, 2) := by decide +kernel
theorem dX1_isThere_88 : decode cX1_isThere 88 = .ok (.ifCond .ne 24, 3) := by decide +kernel
theorem dX1_isThere_91 : decode cX1_isThere 91 = .ok (.iload 6, 2) := by decide +kernel
theorem dX1_isThere_93 : decode cX1_isThere 93 = .ok (.iload_n 3, 1) := by decide +kernel
theorem dX1_isThere_94 : decode cX1_isThere 94 = .ok (.if_icmp .eq 22, 3) := by decide +kernel
theorem dX1_isThere_97 : decode cX1_isThere 97 = .ok (.aload_n 0, 1) := by decide +kernel
theorem dX1_isThere_98 : decode cX1_isThere 98 = .ok (.iload 6, 2) := by decide +kernel
theorem dX1_isThere_100 : decode cX1_isThere 100 = .ok (.iload_n 2, 1) := by decide +kernel
theorem dX1_isThere_101 : decode cX1_isThere 101 = .ok (.invokevirtual 86, 3) := by decide +kernel
theorem dX1_isThere_104 : decode cX1_isThere 104 = .ok (.ifCond .eq 12, 3) := by decide +kernel
theorem dX1_isThere_107 : decode cX1_isThere 107 = .ok (.iload 8, 2) := by decide +kernel
theorem dX1_isThere_109 : decode cX1_isThere 109 = .ok (.ifCond .eq 7, 3) := by decide +kernel
theorem dX1_isThere_112 : decode cX1_isThere 112 = .ok (.iconst 1, 1) := by decide +kernel
theorem dX1_isThere_113 : decode cX1_isThere 113 = .ok (.goto 4, 3) := by decide +kernel
theorem dX1_isThere_116 : decode cX1_isThere 116 = .ok (.iconst 0, 1) := by decide +kernel
theorem dX1_isThere_117 : decode cX1_isThere 117 = .ok (.istore 5, 2) := by decide +kernel
theorem dX1_isThere_119 : decode cX1_isThere 119 = .ok (.iinc 6 1, 3) := by decide +kernel
theorem dX1_isThere_122 : decode cX1_isThere 122 = .ok (.goto (-116), 3) := by decide +kernel
theorem dX1_isThere_125 : decode cX1_isThere 125 = .ok (.iload 5, 2) := by decide +kernel
theorem dX1_isThere_127 : decode cX1_isThere 127 = .ok (.ireturn, 1) := by decide +kernel
set_option maxRecDepth 20000 in
theorem ggX1_why_X1_roomWithout : GoodIn wsX1_why wsX1_roomWithout := goodIn_r _ [9, 10, 11, 2, 12, 13, 14, 15, 8, 16, 17, 18, 31, 32, 33, 34, 35, 36, 37, 38, 39, 40, 41, 42, 43, 44, 45, 46, 47, 48, 49] (by decide +kernel) (by decide +kernel)
set_option maxRecDepth 20000 in
theorem gX1_why_X1_roomWithout : GoodIn wsX1_why (wsV RX1 90 RX1 yX1_roomWithout wsX1_roomWithout) := goodIn_app (goodIn_of _ (by decide +kernel)) ggX1_why_X1_roomWithout
set_option maxRecDepth 20000 in
theorem ggX1_why_X1_ratingFor : GoodIn wsX1_why wsX1_ratingFor := goodIn_r _ [22, 23, 24, 31, 32, 33, 34, 35, 36, 37, 38, 39, 40, 41, 42, 43, 44, 45, 46, 47, 48, 49] (by decide +kernel) (by decide +kernel)
set_option maxRecDepth 20000 in
theorem gX1_why_X1_ratingFor : GoodIn wsX1_why (wsV RX1 95 RX1 yX1_ratingFor wsX1_ratingFor) := goodIn_app (goodIn_of _ (by decide +kernel)) ggX1_why_X1_ratingFor
set_option maxRecDepth 20000 in
theorem ggX1_why_X1_isThere : GoodIn wsX1_why wsX1_isThere := goodIn_r _ [28, 11, 29, 12, 30, 13, 14, 15, 8, 16, 17, 18, 31, 32, 33, 34, 35, 36, 37, 38, 39, 40, 41, 42, 43, 44, 45, 46, 47, 48, 49] (by decide +kernel) (by decide +kernel)
set_option maxRecDepth 20000 in
theorem gX1_why_X1_isThere : GoodIn wsX1_why (wsV RX1 108 RX1 yX1_isThere wsX1_isThere) := goodIn_app (goodIn_of _ (by decide +kernel)) ggX1_why_X1_isThere
theorem dX1_why_0 : decode cX1_why 0 = .ok (.aload_n 0, 1) := by decide +kernel
theorem dX1_why_1 : decode cX1_why 1 = .ok (.getfield 13, 3) := by decide +kernel
theorem dX1_why_4 : decode cX1_why 4 = .ok (.iload_n 2, 1) := by decide +kernel
theorem dX1_why_5 : decode cX1_why 5 = .ok (.baload, 1) := by decide +kernel
theorem dX1_why_6 : decode cX1_why 6 = .ok (.ifCond .eq 5, 3) := by decide +kernel
theorem dX1_why_9 : decode cX1_why 9 = .ok (.iconst 1, 1) := by decide +kernel
theorem dX1_why_10 : decode cX1_why 10 = .ok (.ireturn, 1) := by decide +kernel
theorem dX1_why_11 : decode cX1_why 11 = .ok (.aload_n 0, 1) := by decide +kernel
theorem dX1_why_12 : decode cX1_why 12 = .ok (.iload_n 2, 1) := by decide +kernel
theorem dX1_why_13 : decode cX1_why 13 = .ok (.iload_n 3, 1) := by decide +kernel
theorem dX1_why_14 : decode cX1_why 14 = .ok (.invokevirtual 90, 3) := by decide +kernel
theorem dX1_why_17 : decode cX1_why 17 = .ok (.aload_n 0, 1) := by decide +kernel
theorem dX1_why_18 : decode cX1_why 18 = .ok (.getfield 29, 3) := by decide +kernel
theorem dX1_why_21 : decode cX1_why 21 = .ok (.iload_n 1, 1) := by decide +kernel
theorem dX1_why_22 : decode cX1_why 22 = .ok (.iaload, 1) := by decide +kernel
theorem dX1_why_23 : decode cX1_why 23 = .ok (.if_icmp .ge 5, 3) := by decide +kernel
theorem dX1_why_26 : decode cX1_why 26 = .ok (.iconst 2, 1) := by decide +kernel
theorem dX1_why_27 : decode cX1_why 27 = .ok (.ireturn, 1) := by decide +kernel
theorem dX1_why_28 : decode cX1_why 28 = .ok (.aload_n 0, 1) := by decide +kernel
theorem dX1_why_29 : decode cX1_why 29 = .ok (.iload_n 1, 1) := by decide +kernel
theorem dX1_why_30 : decode cX1_why 30 = .ok (.iload_n 2, 1) := by decide +kernel
theorem dX1_why_31 : decode cX1_why 31 = .ok (.invokevirtual 95, 3) := by decide +kernel
theorem dX1_why_34 : decode cX1_why 34 = .ok (.aload_n 0, 1) := by decide +kernel
theorem dX1_why_35 : decode cX1_why 35 = .ok (.getfield 38, 3) := by decide +kernel
theorem dX1_why_38 : decode cX1_why 38 = .ok (.iload_n 1, 1) := by decide +kernel
theorem dX1_why_39 : decode cX1_why 39 = .ok (.iaload, 1) := by decide +kernel
theorem dX1_why_40 : decode cX1_why 40 = .ok (.if_icmp .ge 5, 3) := by decide +kernel
theorem dX1_why_43 : decode cX1_why 43 = .ok (.iconst 3, 1) := by decide +kernel
theorem dX1_why_44 : decode cX1_why 44 = .ok (.ireturn, 1) := by decide +kernel
theorem dX1_why_45 : decode cX1_why 45 = .ok (.aload_n 0, 1) := by decide +kernel
theorem dX1_why_46 : decode cX1_why 46 = .ok (.iload_n 1, 1) := by decide +kernel
theorem dX1_why_47 : decode cX1_why 47 = .ok (.iload_n 2, 1) := by decide +kernel
theorem dX1_why_48 : decode cX1_why 48 = .ok (.iload_n 3, 1) := by decide +kernel
theorem dX1_why_49 : decode cX1_why 49 = .ok (.iconst 0, 1) := by decide +kernel
theorem dX1_why_50 : decode cX1_why 50 = .ok (.invokevirtual 108, 3) := by decide +kernel
theorem dX1_why_53 : decode cX1_why 53 = .ok (.ifCond .eq 5, 3) := by decide +kernel
theorem dX1_why_56 : decode cX1_why 56 = .ok (.iconst 4, 1) := by decide +kernel
theorem dX1_why_57 : decode cX1_why 57 = .ok (.ireturn, 1) := by decide +kernel
theorem dX1_why_58 : decode cX1_why 58 = .ok (.iload_n 2, 1) := by decide +kernel
theorem dX1_why_59 : decode cX1_why 59 = .ok (.ifCond .le 16, 3) := by decide +kernel
theorem dX1_why_62 : decode cX1_why 62 = .ok (.aload_n 0, 1) := by decide +kernel
theorem dX1_why_63 : decode cX1_why 63 = .ok (.iload_n 1, 1) := by decide +kernel
theorem dX1_why_64 : decode cX1_why 64 = .ok (.iload_n 2, 1) := by decide +kernel
theorem dX1_why_65 : decode cX1_why 65 = .ok (.iconst 1, 1) := by decide +kernel
theorem dX1_why_66 : decode cX1_why 66 = .ok (.isub, 1) := by decide +kernel
theorem dX1_why_67 : decode cX1_why 67 = .ok (.iload_n 3, 1) := by decide +kernel
theorem dX1_why_68 : decode cX1_why 68 = .ok (.iconst 1, 1) := by decide +kernel
theorem dX1_why_69 : decode cX1_why 69 = .ok (.invokevirtual 108, 3) := by decide +kernel
theorem dX1_why_72 : decode cX1_why 72 = .ok (.ifCond .ne 26, 3) := by decide +kernel
theorem dX1_why_75 : decode cX1_why 75 = .ok (.iload_n 2, 1) := by decide +kernel
theorem dX1_why_76 : decode cX1_why 76 = .ok (.iconst 1, 1) := by decide +kernel
theorem dX1_why_77 : decode cX1_why 77 = .ok (.iadd, 1) := by decide +kernel
theorem dX1_why_78 : decode cX1_why 78 = .ok (.aload_n 0, 1) := by decide +kernel
theorem dX1_why_79 : decode cX1_why 79 = .ok (.getfield 60, 3) := by decide +kernel
theorem dX1_why_82 : decode cX1_why 82 = .ok (.if_icmp .ge 20, 3) := by decide +kernel
theorem dX1_why_85 : decode cX1_why 85 = .ok (.aload_n 0, 1) := by decide +kernel
theorem dX1_why_86 : decode cX1_why 86 = .ok (.iload_n 1, 1) := by decide +kernel
theorem dX1_why_87 : decode cX1_why 87 = .ok (.iload_n 2, 1) := by decide +kernel
theorem dX1_why_88 : decode cX1_why 88 = .ok (.iconst 1, 1) := by decide +kernel
theorem dX1_why_89 : decode cX1_why 89 = .ok (.iadd, 1) := by decide +kernel
theorem dX1_why_90 : decode cX1_why 90 = .ok (.iload_n 3, 1) := by decide +kernel
theorem dX1_why_91 : decode cX1_why 91 = .ok (.iconst 1, 1) := by decide +kernel
theorem dX1_why_92 : decode cX1_why 92 = .ok (.invokevirtual 108, 3) := by decide +kernel
theorem dX1_why_95 : decode cX1_why 95 = .ok (.ifCond .eq 7, 3) := by decide +kernel
theorem dX1_why_98 : decode cX1_why 98 = .ok (.iconst 1, 1) := by decide +kernel
theorem dX1_why_99 : decode cX1_why 99 = .ok (.goto 4, 3) := by decide +kernel
theorem dX1_why_102 : decode cX1_why 102 = .ok (.iconst 0, 1) := by decide +kernel
theorem dX1_why_103 : decode cX1_why 103 = .ok (.istore 4, 2) := by decide +kernel
theorem dX1_why_105 : decode cX1_why 105 = .ok (.aload_n 0, 1) := by decide +kernel
theorem dX1_why_106 : decode cX1_why 106 = .ok (.iload_n 1, 1) := by decide +kernel
theorem dX1_why_107 : decode cX1_why 107 = .ok (.iload_n 2, 1) := by decide +kernel
theorem dX1_why_108 : decode cX1_why 108 = .ok (.iload_n 3, 1) := by decide +kernel
theorem dX1_why_109 : decode cX1_why 109 = .ok (.iconst 1, 1) := by decide +kernel
theorem dX1_why_110 : decode cX1_why 110 = .ok (.invokevirtual 108, 3) := by decide +kernel
theorem dX1_why_113 : decode cX1_why 113 = .ok (.ifCond .eq 7, 3) := by decide +kernel
theorem dX1_why_116 : decode cX1_why 116 = .ok (.iconst 5, 1) := by decide +kernel
theorem dX1_why_117 : decode cX1_why 117 = .ok (.goto 14, 3) := by decide +kernel
theorem dX1_why_120 : decode cX1_why 120 = .ok (.iload 4, 2) := by decide +kernel
theorem dX1_why_122 : decode cX1_why 122 = .ok (.ifCond .eq 8, 3) := by decide +kernel
theorem dX1_why_125 : decode cX1_why 125 = .ok (.bipush 6, 2) := by decide +kernel
theorem dX1_why_127 : decode cX1_why 127 = .ok (.goto 4, 3) := by decide +kernel
theorem dX1_why_130 : decode cX1_why 130 = .ok (.iconst 0, 1) := by decide +kernel
theorem dX1_why_131 : decode cX1_why 131 = .ok (.ireturn, 1) := by decide +kernel
set_option maxRecDepth 20000 in
theorem ggX1_whyNot_X1_isOrder : GoodIn wsX1_whyNot wsX1_isOrder := goodIn_r _ [5, 6, 7, 8, 4, 9, 52, 53, 54, 55, 56, 57, 58, 59, 60, 61, 62, 63, 64, 65, 66, 67, 68, 69, 70] (by decide +kernel) (by decide +kernel)
set_option maxRecDepth 20000 in
theorem gX1_whyNot_X1_isOrder : GoodIn wsX1_whyNot (wsV RX1 105 RX1 yX1_isOrder wsX1_isOrder) := goodIn_app (goodIn_of _ (by decide +kernel)) ggX1_whyNot_X1_isOrder
set_option maxRecDepth 20000 in
theorem ggX1_whyNot_X1_isBreak : GoodIn wsX1_whyNot wsX1_isBreak := goodIn_r _ [13, 14, 7, 8, 4, 9, 52, 53, 54, 55, 56, 57, 58, 59, 60, 61, 62, 63, 64, 65, 66, 67, 68, 69, 70] (by decide +kernel) (by decide +kernel)
set_option maxRecDepth 20000 in
theorem gX1_whyNot_X1_isBreak : GoodIn wsX1_whyNot (wsV RX1 77 RX1 yX1_isBreak wsX1_isBreak) := goodIn_app (goodIn_of _ (by decide +kernel)) ggX1_whyNot_X1_isBreak
set_option maxRecDepth 20000 in
theorem ggX1_whyNot_X1_goes : GoodIn wsX1_whyNot wsX1_goes := goodIn_r _ [18, 19, 52, 53, 54, 55, 56, 57, 58, 59, 60, 61, 62, 63, 64, 65, 66, 67, 68, 69, 70] (by decide +kernel) (by decide +kernel)
set_option maxRecDepth 20000 in
theorem gX1_whyNot_X1_goes : GoodIn wsX1_whyNot (wsV RX1 73 RX1 yX1_goes wsX1_goes) := goodIn_app (goodIn_of _ (by decide +kernel)) ggX1_whyNot_X1_goes
set_option maxRecDepth 20000 in
theorem ggX1_whyNot_X1_why : GoodIn wsX1_whyNot wsX1_why := goodIn_r _ [23, 24, 25, 26, 14, 27, 28, 29, 4, 30, 31, 32, 33, 34, 35, 36, 37, 38, 39, 40, 41, 42, 43, 44, 45, 46, 47, 48, 49, 50, 51, 52, 53, 54, 55, 56, 57, 58, 59, 60, 61, 62, 63, 64, 65, 66, 67, 68, 69, 70] (by decide +kernel) (by decide +kernel)
set_option maxRecDepth 20000 in
theorem gX1_whyNot_X1_why : GoodIn wsX1_whyNot (wsV RX1 112 RX1 yX1_why wsX1_why) := goodIn_app (goodIn_of _ (by decide +kernel)) ggX1_whyNot_X1_why
theorem dX1_whyNot_0 : decode cX1_whyNot 0 = .ok (.aload_n 0, 1) := by decide +kernel
theorem dX1_whyNot_1 : decode cX1_whyNot 1 = .ok (.aload_n 0, 1) := by decide +kernel
theorem dX1_whyNot_2 : decode cX1_whyNot 2 = .ok (.iload_n 1, 1) := by decide +kernel
theorem dX1_whyNot_3 : decode cX1_whyNot 3 = .ok (.invokevirtual 105, 3) := by decide +kernel
theorem dX1_whyNot_6 : decode cX1_whyNot 6 = .ok (.ifCond .eq 15, 3) := by decide +kernel
theorem dX1_whyNot_9 : decode cX1_whyNot 9 = .ok (.aload_n 0, 1) := by decide +kernel
theorem dX1_whyNot_10 : decode cX1_whyNot 10 = .ok (.iload_n 2, 1) := by decide +kernel
theorem dX1_whyNot_11 : decode cX1_whyNot 11 = .ok (.invokevirtual 77, 3) := by decide +kernel
theorem dX1_whyNot_14 : decode cX1_whyNot 14 = .ok (.ifCond .eq 7, 3) := by decide +kernel
theorem dX1_whyNot_17 : decode cX1_whyNot 17 = .ok (.iconst 1, 1) := by decide +kernel
theorem dX1_whyNot_18 : decode cX1_whyNot 18 = .ok (.goto 4, 3) := by decide +kernel
theorem dX1_whyNot_21 : decode cX1_whyNot 21 = .ok (.iconst 0, 1) := by decide +kernel
theorem dX1_whyNot_22 : decode cX1_whyNot 22 = .ok (.iconst 1, 1) := by decide +kernel
theorem dX1_whyNot_23 : decode cX1_whyNot 23 = .ok (.iconst 1, 1) := by decide +kernel
theorem dX1_whyNot_24 : decode cX1_whyNot 24 = .ok (.invokevirtual 73, 3) := by decide +kernel
theorem dX1_whyNot_27 : decode cX1_whyNot 27 = .ok (.ifCond .eq 13, 3) := by decide +kernel
theorem dX1_whyNot_30 : decode cX1_whyNot 30 = .ok (.aload_n 0, 1) := by decide +kernel
theorem dX1_whyNot_31 : decode cX1_whyNot 31 = .ok (.iload_n 1, 1) := by decide +kernel
theorem dX1_whyNot_32 : decode cX1_whyNot 32 = .ok (.iload_n 2, 1) := by decide +kernel
theorem dX1_whyNot_33 : decode cX1_whyNot 33 = .ok (.iconst (-1), 1) := by decide +kernel
theorem dX1_whyNot_34 : decode cX1_whyNot 34 = .ok (.invokevirtual 112, 3) := by decide +kernel
theorem dX1_whyNot_37 : decode cX1_whyNot 37 = .ok (.goto 4, 3) := by decide +kernel
theorem dX1_whyNot_40 : decode cX1_whyNot 40 = .ok (.iconst 0, 1) := by decide +kernel
theorem dX1_whyNot_41 : decode cX1_whyNot 41 = .ok (.ireturn, 1) := by decide +kernel
theorem dX1_adds_0 : decode cX1_adds 0 = .ok (.aload_n 0, 1) := by decide +kernel
theorem dX1_adds_1 : decode cX1_adds 1 = .ok (.getfield 44, 3) := by decide +kernel
theorem dX1_adds_4 : decode cX1_adds 4 = .ok (.aload_n 0, 1) := by decide +kernel
theorem dX1_adds_5 : decode cX1_adds 5 = .ok (.getfield 70, 3) := by decide +kernel
theorem dX1_adds_8 : decode cX1_adds 8 = .ok (.iload_n 1, 1) := by decide +kernel
theorem dX1_adds_9 : decode cX1_adds 9 = .ok (.iastore, 1) := by decide +kernel
theorem dX1_adds_10 : decode cX1_adds 10 = .ok (.aload_n 0, 1) := by decide +kernel
theorem dX1_adds_11 : decode cX1_adds 11 = .ok (.getfield 47, 3) := by decide +kernel
theorem dX1_adds_14 : decode cX1_adds 14 = .ok (.aload_n 0, 1) := by decide +kernel
theorem dX1_adds_15 : decode cX1_adds 15 = .ok (.getfield 70, 3) := by decide +kernel
theorem dX1_adds_18 : decode cX1_adds 18 = .ok (.iload_n 2, 1) := by decide +kernel
theorem dX1_adds_19 : decode cX1_adds 19 = .ok (.iastore, 1) := by decide +kernel
theorem dX1_adds_20 : decode cX1_adds 20 = .ok (.aload_n 0, 1) := by decide +kernel
theorem dX1_adds_21 : decode cX1_adds 21 = .ok (.getfield 50, 3) := by decide +kernel
theorem dX1_adds_24 : decode cX1_adds 24 = .ok (.aload_n 0, 1) := by decide +kernel
theorem dX1_adds_25 : decode cX1_adds 25 = .ok (.getfield 70, 3) := by decide +kernel
theorem dX1_adds_28 : decode cX1_adds 28 = .ok (.iconst 0, 1) := by decide +kernel
theorem dX1_adds_29 : decode cX1_adds 29 = .ok (.iastore, 1) := by decide +kernel
theorem dX1_adds_30 : decode cX1_adds 30 = .ok (.aload_n 0, 1) := by decide +kernel
theorem dX1_adds_31 : decode cX1_adds 31 = .ok (.getfield 53, 3) := by decide +kernel
theorem dX1_adds_34 : decode cX1_adds 34 = .ok (.aload_n 0, 1) := by decide +kernel
theorem dX1_adds_35 : decode cX1_adds 35 = .ok (.getfield 70, 3) := by decide +kernel
theorem dX1_adds_38 : decode cX1_adds 38 = .ok (.iload_n 3, 1) := by decide +kernel
theorem dX1_adds_39 : decode cX1_adds 39 = .ok (.bastore, 1) := by decide +kernel
theorem dX1_adds_40 : decode cX1_adds 40 = .ok (.aload_n 0, 1) := by decide +kernel
theorem dX1_adds_41 : decode cX1_adds 41 = .ok (.dup, 1) := by decide +kernel
theorem dX1_adds_42 : decode cX1_adds 42 = .ok (.getfield 70, 3) := by decide +kernel
theorem dX1_adds_45 : decode cX1_adds 45 = .ok (.iconst 1, 1) := by decide +kernel
theorem dX1_adds_46 : decode cX1_adds 46 = .ok (.iadd, 1) := by decide +kernel
theorem dX1_adds_47 : decode cX1_adds 47 = .ok (.putfield 70, 3) := by decide +kernel
theorem dX1_adds_50 : decode cX1_adds 50 = .ok (.aload_n 0, 1) := by decide +kernel
theorem dX1_adds_51 : decode cX1_adds 51 = .ok (.getfield 70, 3) := by decide +kernel
theorem dX1_adds_54 : decode cX1_adds 54 = .ok (.iconst 1, 1) := by decide +kernel
theorem dX1_adds_55 : decode cX1_adds 55 = .ok (.isub, 1) := by decide +kernel
theorem dX1_adds_56 : decode cX1_adds 56 = .ok (.ireturn, 1) := by decide +kernel
set_option maxRecDepth 20000 in
theorem ggX1_place_X1_isOrder : GoodIn wsX1_place wsX1_isOrder := goodIn_r _ [7, 8, 9, 10, 6, 11, 58, 59, 60, 61, 62, 63, 64, 65, 66, 67, 68, 69, 70, 71, 72, 73, 74, 75, 76] (by decide +kernel) (by decide +kernel)
set_option maxRecDepth 20000 in
theorem gX1_place_X1_isOrder : GoodIn wsX1_place (wsV RX1 105 RX1 yX1_isOrder wsX1_isOrder) := goodIn_app (goodIn_of _ (by decide +kernel)) ggX1_place_X1_isOrder
set_option maxRecDepth 20000 in
theorem ggX1_place_X1_isBreak : GoodIn wsX1_place wsX1_isBreak := goodIn_r _ [15, 16, 9, 10, 6, 11, 58, 59, 60, 61, 62, 63, 64, 65, 66, 67, 68, 69, 70, 71, 72, 73, 74, 75, 76] (by decide +kernel) (by decide +kernel)
set_option maxRecDepth 20000 in
theorem gX1_place_X1_isBreak : GoodIn wsX1_place (wsV RX1 77 RX1 yX1_isBreak wsX1_isBreak) := goodIn_app (goodIn_of _ (by decide +kernel)) ggX1_place_X1_isBreak
set_option maxRecDepth 20000 in
theorem ggX1_place_X1_why : GoodIn wsX1_place wsX1_why := goodIn_r _ [20, 21, 22, 23, 16, 24, 25, 26, 6, 27, 28, 2, 29, 30, 31, 32, 33, 34, 35, 36, 37, 38, 39, 40, 41, 42, 43, 44, 45, 46, 47, 58, 59, 60, 61, 62, 63, 64, 65, 66, 67, 68, 69, 70, 71, 72, 73, 74, 75, 76] (by decide +kernel) (by decide +kernel)
set_option maxRecDepth 20000 in
theorem gX1_place_X1_why : GoodIn wsX1_place (wsV RX1 112 RX1 yX1_why wsX1_why) := goodIn_app (goodIn_of _ (by decide +kernel)) ggX1_place_X1_why
set_option maxRecDepth 20000 in
theorem ggX1_place_X1_goes : GoodIn wsX1_place wsX1_goes := goodIn_r _ [51, 52, 58, 59, 60, 61, 62, 63, 64, 65, 66, 67, 68, 69, 70, 71, 72, 73, 74, 75, 76] (by decide +kernel) (by decide +kernel)
set_option maxRecDepth 20000 in
theorem gX1_place_X1_goes : GoodIn wsX1_place (wsV RX1 73 RX1 yX1_goes wsX1_goes) := goodIn_app (goodIn_of _ (by decide +kernel)) ggX1_place_X1_goes
set_option maxRecDepth 20000 in
theorem ggX1_place_X1_adds : GoodIn wsX1_place wsX1_adds := goodIn_r _ [56, 29, 2, 34, 35, 57, 58, 59, 60, 61, 62, 63, 64, 65, 66, 67, 68, 69, 70, 71, 72, 73, 74, 75, 76] (by decide +kernel) (by decide +kernel)
set_option maxRecDepth 20000 in
theorem gX1_place_X1_adds : GoodIn wsX1_place (wsV RX1 116 RX1 yX1_adds wsX1_adds) := goodIn_app (goodIn_of _ (by decide +kernel)) ggX1_place_X1_adds
theorem dX1_place_0 : decode cX1_place 0 = .ok (.aload_n 0, 1) := by decide +kernel
theorem dX1_place_1 : decode cX1_place 1 = .ok (.iload_n 1, 1) := by decide +kernel
theorem dX1_place_2 : decode cX1_place 2 = .ok (.invokevirtual 105, 3) := by decide +kernel
theorem dX1_place_5 : decode cX1_place 5 = .ok (.ifCond .eq 15, 3) := by decide +kernel
theorem dX1_place_8 : decode cX1_place 8 = .ok (.aload_n 0, 1) := by decide +kernel
theorem dX1_place_9 : decode cX1_place 9 = .ok (.iload_n 2, 1) := by decide +kernel
theorem dX1_place_10 : decode cX1_place 10 = .ok (.invokevirtual 77, 3) := by decide +kernel
theorem dX1_place_13 : decode cX1_place 13 = .ok (.ifCond .eq 7, 3) := by decide +kernel
theorem dX1_place_16 : decode cX1_place 16 = .ok (.iconst 1, 1) := by decide +kernel
theorem dX1_place_17 : decode cX1_place 17 = .ok (.goto 4, 3) := by decide +kernel
theorem dX1_place_20 : decode cX1_place 20 = .ok (.iconst 0, 1) := by decide +kernel
theorem dX1_place_21 : decode cX1_place 21 = .ok (.istore_n 3, 1) := by decide +kernel
theorem dX1_place_22 : decode cX1_place 22 = .ok (.iload_n 3, 1) := by decide +kernel
theorem dX1_place_23 : decode cX1_place 23 = .ok (.ifCond .eq 36, 3) := by decide +kernel
theorem dX1_place_26 : decode cX1_place 26 = .ok (.aload_n 0, 1) := by decide +kernel
theorem dX1_place_27 : decode cX1_place 27 = .ok (.getfield 41, 3) := by decide +kernel
theorem dX1_place_30 : decode cX1_place 30 = .ok (.iload_n 1, 1) := by decide +kernel
theorem dX1_place_31 : decode cX1_place 31 = .ok (.baload, 1) := by decide +kernel
theorem dX1_place_32 : decode cX1_place 32 = .ok (.ifCond .ne 27, 3) := by decide +kernel
theorem dX1_place_35 : decode cX1_place 35 = .ok (.aload_n 0, 1) := by decide +kernel
theorem dX1_place_36 : decode cX1_place 36 = .ok (.getfield 70, 3) := by decide +kernel
theorem dX1_place_39 : decode cX1_place 39 = .ok (.sipush 150, 3) := by decide +kernel
theorem dX1_place_42 : decode cX1_place 42 = .ok (.if_icmp .ge 17, 3) := by decide +kernel
theorem dX1_place_45 : decode cX1_place 45 = .ok (.aload_n 0, 1) := by decide +kernel
theorem dX1_place_46 : decode cX1_place 46 = .ok (.iload_n 1, 1) := by decide +kernel
theorem dX1_place_47 : decode cX1_place 47 = .ok (.iload_n 2, 1) := by decide +kernel
theorem dX1_place_48 : decode cX1_place 48 = .ok (.iconst (-1), 1) := by decide +kernel
theorem dX1_place_49 : decode cX1_place 49 = .ok (.invokevirtual 112, 3) := by decide +kernel
theorem dX1_place_52 : decode cX1_place 52 = .ok (.ifCond .ne 7, 3) := by decide +kernel
theorem dX1_place_55 : decode cX1_place 55 = .ok (.iconst 1, 1) := by decide +kernel
theorem dX1_place_56 : decode cX1_place 56 = .ok (.goto 4, 3) := by decide +kernel
theorem dX1_place_59 : decode cX1_place 59 = .ok (.iconst 0, 1) := by decide +kernel
theorem dX1_place_60 : decode cX1_place 60 = .ok (.istore 4, 2) := by decide +kernel
theorem dX1_place_62 : decode cX1_place 62 = .ok (.aload_n 0, 1) := by decide +kernel
theorem dX1_place_63 : decode cX1_place 63 = .ok (.iload_n 3, 1) := by decide +kernel
theorem dX1_place_64 : decode cX1_place 64 = .ok (.iload 4, 2) := by decide +kernel
theorem dX1_place_66 : decode cX1_place 66 = .ok (.iconst 1, 1) := by decide +kernel
theorem dX1_place_67 : decode cX1_place 67 = .ok (.invokevirtual 73, 3) := by decide +kernel
theorem dX1_place_70 : decode cX1_place 70 = .ok (.ifCond .eq 13, 3) := by decide +kernel
theorem dX1_place_73 : decode cX1_place 73 = .ok (.aload_n 0, 1) := by decide +kernel
theorem dX1_place_74 : decode cX1_place 74 = .ok (.iload_n 1, 1) := by decide +kernel
theorem dX1_place_75 : decode cX1_place 75 = .ok (.iload_n 2, 1) := by decide +kernel
theorem dX1_place_76 : decode cX1_place 76 = .ok (.iconst 0, 1) := by decide +kernel
theorem dX1_place_77 : decode cX1_place 77 = .ok (.invokevirtual 116, 3) := by decide +kernel
theorem dX1_place_80 : decode cX1_place 80 = .ok (.goto 4, 3) := by decide +kernel
theorem dX1_place_83 : decode cX1_place 83 = .ok (.iconst 0, 1) := by decide +kernel
theorem dX1_place_84 : decode cX1_place 84 = .ok (.ireturn, 1) := by decide +kernel
set_option maxRecDepth 20000 in
theorem ggX1_give_X1_isOrder : GoodIn wsX1_give wsX1_isOrder := goodIn_r _ [6, 7, 8, 9, 5, 10, 71, 72, 73, 74, 75, 76, 77, 78, 79, 80, 81, 82, 83, 84, 85, 86, 87, 88, 89] (by decide +kernel) (by decide +kernel)
set_option maxRecDepth 20000 in
theorem gX1_give_X1_isOrder : GoodIn wsX1_give (wsV RX1 105 RX1 yX1_isOrder wsX1_isOrder) := goodIn_app (goodIn_of _ (by decide +kernel)) ggX1_give_X1_isOrder
set_option maxRecDepth 20000 in
theorem ggX1_give_X1_isBreak : GoodIn wsX1_give wsX1_isBreak := goodIn_r _ [14, 15, 8, 9, 5, 10, 71, 72, 73, 74, 75, 76, 77, 78, 79, 80, 81, 82, 83, 84, 85, 86, 87, 88, 89] (by decide +kernel) (by decide +kernel)
set_option maxRecDepth 20000 in
theorem gX1_give_X1_isBreak : GoodIn wsX1_give (wsV RX1 77 RX1 yX1_isBreak wsX1_isBreak) := goodIn_app (goodIn_of _ (by decide +kernel)) ggX1_give_X1_isBreak
set_option maxRecDepth 20000 in
theorem ggX1_give_X1_left : GoodIn wsX1_give wsX1_left := goodIn_r _ [19, 20, 21, 22, 5, 23, 24, 25, 26, 27, 28, 29, 1, 30, 31, 32, 33, 34, 35, 36, 37, 38, 39, 71, 72, 73, 74, 75, 76, 77, 78, 79, 80, 81, 82, 83, 84, 85, 86, 87, 88, 89] (by decide +kernel) (by decide +kernel)
set_option maxRecDepth 20000 in
theorem gX1_give_X1_left : GoodIn wsX1_give (wsV RX1 119 RX1 yX1_left wsX1_left) := goodIn_app (goodIn_of _ (by decide +kernel)) ggX1_give_X1_left
set_option maxRecDepth 20000 in
theorem ggX1_give_X1_why : GoodIn wsX1_give wsX1_why := goodIn_r _ [43, 44, 45, 46, 15, 47, 48, 49, 5, 50, 51, 1, 30, 52, 53, 54, 55, 33, 31, 34, 35, 36, 37, 38, 39, 56, 57, 58, 59, 60, 61, 71, 72, 73, 74, 75, 76, 77, 78, 79, 80, 81, 82, 83, 84, 85, 86, 87, 88, 89] (by decide +kernel) (by decide +kernel)
set_option maxRecDepth 20000 in
theorem gX1_give_X1_why : GoodIn wsX1_give (wsV RX1 112 RX1 yX1_why wsX1_why) := goodIn_app (goodIn_of _ (by decide +kernel)) ggX1_give_X1_why
set_option maxRecDepth 20000 in
theorem ggX1_give_X1_goes : GoodIn wsX1_give wsX1_goes := goodIn_r _ [65, 66, 71, 72, 73, 74, 75, 76, 77, 78, 79, 80, 81, 82, 83, 84, 85, 86, 87, 88, 89] (by decide +kernel) (by decide +kernel)
set_option maxRecDepth 20000 in
theorem gX1_give_X1_goes : GoodIn wsX1_give (wsV RX1 73 RX1 yX1_goes wsX1_goes) := goodIn_app (goodIn_of _ (by decide +kernel)) ggX1_give_X1_goes
set_option maxRecDepth 20000 in
theorem ggX1_give_X1_adds : GoodIn wsX1_give wsX1_adds := goodIn_r _ [70, 30, 1, 33, 31, 32, 71, 72, 73, 74, 75, 76, 77, 78, 79, 80, 81, 82, 83, 84, 85, 86, 87, 88, 89] (by decide +kernel) (by decide +kernel)
set_option maxRecDepth 20000 in
theorem gX1_give_X1_adds : GoodIn wsX1_give (wsV RX1 116 RX1 yX1_adds wsX1_adds) := goodIn_app (goodIn_of _ (by decide +kernel)) ggX1_give_X1_adds
theorem dX1_give_0 : decode cX1_give 0 = .ok (.aload_n 0, 1) := by decide +kernel
theorem dX1_give_1 : decode cX1_give 1 = .ok (.iload_n 1, 1) := by decide +kernel
theorem dX1_give_2 : decode cX1_give 2 = .ok (.invokevirtual 105, 3) := by decide +kernel
theorem dX1_give_5 : decode cX1_give 5 = .ok (.ifCond .eq 15, 3) := by decide +kernel
theorem dX1_give_8 : decode cX1_give 8 = .ok (.aload_n 0, 1) := by decide +kernel
theorem dX1_give_9 : decode cX1_give 9 = .ok (.iload_n 2, 1) := by decide +kernel
theorem dX1_give_10 : decode cX1_give 10 = .ok (.invokevirtual 77, 3) := by decide +kernel
theorem dX1_give_13 : decode cX1_give 13 = .ok (.ifCond .eq 7, 3) := by decide +kernel
theorem dX1_give_16 : decode cX1_give 16 = .ok (.iconst 1, 1) := by decide +kernel
theorem dX1_give_17 : decode cX1_give 17 = .ok (.goto 4, 3) := by decide +kernel
theorem dX1_give_20 : decode cX1_give 20 = .ok (.iconst 0, 1) := by decide +kernel
theorem dX1_give_21 : decode cX1_give 21 = .ok (.istore_n 3, 1) := by decide +kernel
theorem dX1_give_22 : decode cX1_give 22 = .ok (.iload_n 3, 1) := by decide +kernel
theorem dX1_give_23 : decode cX1_give 23 = .ok (.ifCond .eq 35, 3) := by decide +kernel
theorem dX1_give_26 : decode cX1_give 26 = .ok (.aload_n 0, 1) := by decide +kernel
theorem dX1_give_27 : decode cX1_give 27 = .ok (.iload_n 1, 1) := by decide +kernel
theorem dX1_give_28 : decode cX1_give 28 = .ok (.invokevirtual 119, 3) := by decide +kernel
theorem dX1_give_31 : decode cX1_give 31 = .ok (.ifCond .le 27, 3) := by decide +kernel
theorem dX1_give_34 : decode cX1_give 34 = .ok (.aload_n 0, 1) := by decide +kernel
theorem dX1_give_35 : decode cX1_give 35 = .ok (.getfield 70, 3) := by decide +kernel
theorem dX1_give_38 : decode cX1_give 38 = .ok (.sipush 150, 3) := by decide +kernel
theorem dX1_give_41 : decode cX1_give 41 = .ok (.if_icmp .ge 17, 3) := by decide +kernel
theorem dX1_give_44 : decode cX1_give 44 = .ok (.aload_n 0, 1) := by decide +kernel
theorem dX1_give_45 : decode cX1_give 45 = .ok (.iload_n 1, 1) := by decide +kernel
theorem dX1_give_46 : decode cX1_give 46 = .ok (.iload_n 2, 1) := by decide +kernel
theorem dX1_give_47 : decode cX1_give 47 = .ok (.iconst (-1), 1) := by decide +kernel
theorem dX1_give_48 : decode cX1_give 48 = .ok (.invokevirtual 112, 3) := by decide +kernel
theorem dX1_give_51 : decode cX1_give 51 = .ok (.ifCond .ne 7, 3) := by decide +kernel
theorem dX1_give_54 : decode cX1_give 54 = .ok (.iconst 1, 1) := by decide +kernel
theorem dX1_give_55 : decode cX1_give 55 = .ok (.goto 4, 3) := by decide +kernel
theorem dX1_give_58 : decode cX1_give 58 = .ok (.iconst 0, 1) := by decide +kernel
theorem dX1_give_59 : decode cX1_give 59 = .ok (.istore 4, 2) := by decide +kernel
theorem dX1_give_61 : decode cX1_give 61 = .ok (.aload_n 0, 1) := by decide +kernel
theorem dX1_give_62 : decode cX1_give 62 = .ok (.iload_n 3, 1) := by decide +kernel
theorem dX1_give_63 : decode cX1_give 63 = .ok (.iload 4, 2) := by decide +kernel
theorem dX1_give_65 : decode cX1_give 65 = .ok (.iconst 1, 1) := by decide +kernel
theorem dX1_give_66 : decode cX1_give 66 = .ok (.invokevirtual 73, 3) := by decide +kernel
theorem dX1_give_69 : decode cX1_give 69 = .ok (.ifCond .eq 13, 3) := by decide +kernel
theorem dX1_give_72 : decode cX1_give 72 = .ok (.aload_n 0, 1) := by decide +kernel
theorem dX1_give_73 : decode cX1_give 73 = .ok (.iload_n 1, 1) := by decide +kernel
theorem dX1_give_74 : decode cX1_give 74 = .ok (.iload_n 2, 1) := by decide +kernel
theorem dX1_give_75 : decode cX1_give 75 = .ok (.iconst 1, 1) := by decide +kernel
theorem dX1_give_76 : decode cX1_give 76 = .ok (.invokevirtual 116, 3) := by decide +kernel
theorem dX1_give_79 : decode cX1_give 79 = .ok (.goto 4, 3) := by decide +kernel
theorem dX1_give_82 : decode cX1_give 82 = .ok (.iconst 0, 1) := by decide +kernel
theorem dX1_give_83 : decode cX1_give 83 = .ok (.ireturn, 1) := by decide +kernel
set_option maxRecDepth 20000 in
theorem ggX1_best_X1_why : GoodIn wsX1_best wsX1_why := goodIn_r _ [6, 7, 8, 9, 1, 10, 11, 12, 5, 13, 14, 15, 16, 17, 18, 19, 20, 21, 22, 23, 24, 25, 26, 27, 28, 29, 30, 31, 32, 33, 34, 35, 36, 37, 38, 39, 40, 41, 42, 43, 44, 45, 46, 47, 48, 49, 50, 51, 52, 53] (by decide +kernel) (by decide +kernel)
set_option maxRecDepth 20000 in
theorem gX1_best_X1_why : GoodIn wsX1_best (wsV RX1 112 RX1 yX1_why wsX1_why) := goodIn_app (goodIn_of _ (by decide +kernel)) ggX1_best_X1_why
set_option maxRecDepth 20000 in
theorem ggX1_best_X1_ratingFor : GoodIn wsX1_best wsX1_ratingFor := goodIn_r _ [26, 27, 28, 35, 36, 37, 38, 39, 40, 41, 42, 43, 44, 45, 46, 47, 48, 49, 50, 51, 52, 53] (by decide +kernel) (by decide +kernel)
set_option maxRecDepth 20000 in
theorem gX1_best_X1_ratingFor : GoodIn wsX1_best (wsV RX1 95 RX1 yX1_ratingFor wsX1_ratingFor) := goodIn_app (goodIn_of _ (by decide +kernel)) ggX1_best_X1_ratingFor
theorem dX1_best_0 : decode cX1_best 0 = .ok (.iconst (-1), 1) := by decide +kernel
theorem dX1_best_1 : decode cX1_best 1 = .ok (.istore_n 2, 1) := by decide +kernel
theorem dX1_best_2 : decode cX1_best 2 = .ok (.iconst 0, 1) := by decide +kernel
theorem dX1_best_3 : decode cX1_best 3 = .ok (.istore_n 3, 1) := by decide +kernel
theorem dX1_best_4 : decode cX1_best 4 = .ok (.iload_n 3, 1) := by decide +kernel
theorem dX1_best_5 : decode cX1_best 5 = .ok (.aload_n 0, 1) := by decide +kernel
theorem dX1_best_6 : decode cX1_best 6 = .ok (.getfield 60, 3) := by decide +kernel
theorem dX1_best_9 : decode cX1_best 9 = .ok (.if_icmp .ge 57, 3) := by decide +kernel
theorem dX1_best_12 : decode cX1_best 12 = .ok (.aload_n 0, 1) := by decide +kernel
theorem dX1_best_13 : decode cX1_best 13 = .ok (.iload_n 1, 1) := by decide +kernel
theorem dX1_best_14 : decode cX1_best 14 = .ok (.iload_n 3, 1) := by decide +kernel
theorem dX1_best_15 : decode cX1_best 15 = .ok (.iconst (-1), 1) := by decide +kernel
theorem dX1_best_16 : decode cX1_best 16 = .ok (.invokevirtual 112, 3) := by decide +kernel
theorem dX1_best_19 : decode cX1_best 19 = .ok (.ifCond .ne 27, 3) := by decide +kernel
theorem dX1_best_22 : decode cX1_best 22 = .ok (.iload_n 2, 1) := by decide +kernel
theorem dX1_best_23 : decode cX1_best 23 = .ok (.iconst (-1), 1) := by decide +kernel
theorem dX1_best_24 : decode cX1_best 24 = .ok (.if_icmp .eq 18, 3) := by decide +kernel
theorem dX1_best_27 : decode cX1_best 27 = .ok (.aload_n 0, 1) := by decide +kernel
theorem dX1_best_28 : decode cX1_best 28 = .ok (.iload_n 1, 1) := by decide +kernel
theorem dX1_best_29 : decode cX1_best 29 = .ok (.iload_n 3, 1) := by decide +kernel
theorem dX1_best_30 : decode cX1_best 30 = .ok (.invokevirtual 95, 3) := by decide +kernel
theorem dX1_best_33 : decode cX1_best 33 = .ok (.aload_n 0, 1) := by decide +kernel
theorem dX1_best_34 : decode cX1_best 34 = .ok (.iload_n 1, 1) := by decide +kernel
theorem dX1_best_35 : decode cX1_best 35 = .ok (.iload_n 2, 1) := by decide +kernel
theorem dX1_best_36 : decode cX1_best 36 = .ok (.invokevirtual 95, 3) := by decide +kernel
theorem dX1_best_39 : decode cX1_best 39 = .ok (.if_icmp .le 7, 3) := by decide +kernel
theorem dX1_best_42 : decode cX1_best 42 = .ok (.iconst 1, 1) := by decide +kernel
theorem dX1_best_43 : decode cX1_best 43 = .ok (.goto 4, 3) := by decide +kernel
theorem dX1_best_46 : decode cX1_best 46 = .ok (.iconst 0, 1) := by decide +kernel
theorem dX1_best_47 : decode cX1_best 47 = .ok (.istore 4, 2) := by decide +kernel
theorem dX1_best_49 : decode cX1_best 49 = .ok (.iload 4, 2) := by decide +kernel
theorem dX1_best_51 : decode cX1_best 51 = .ok (.ifCond .eq 7, 3) := by decide +kernel
theorem dX1_best_54 : decode cX1_best 54 = .ok (.iload_n 3, 1) := by decide +kernel
theorem dX1_best_55 : decode cX1_best 55 = .ok (.goto 4, 3) := by decide +kernel
theorem dX1_best_58 : decode cX1_best 58 = .ok (.iload_n 2, 1) := by decide +kernel
theorem dX1_best_59 : decode cX1_best 59 = .ok (.istore_n 2, 1) := by decide +kernel
theorem dX1_best_60 : decode cX1_best 60 = .ok (.iinc 3 1, 3) := by decide +kernel
theorem dX1_best_63 : decode cX1_best 63 = .ok (.goto (-59), 3) := by decide +kernel
theorem dX1_best_66 : decode cX1_best 66 = .ok (.iload_n 2, 1) := by decide +kernel
theorem dX1_best_67 : decode cX1_best 67 = .ok (.ireturn, 1) := by decide +kernel
set_option maxRecDepth 20000 in
theorem ggX1_fill_X1_isOrder : GoodIn wsX1_fill wsX1_isOrder := goodIn_r _ [8, 9, 10, 11, 7, 12, 63, 64, 65, 66, 67, 68, 69, 70, 71, 72, 73, 74, 75, 76, 77, 78, 79, 80, 81] (by decide +kernel) (by decide +kernel)
set_option maxRecDepth 20000 in
theorem gX1_fill_X1_isOrder : GoodIn wsX1_fill (wsV RX1 105 RX1 yX1_isOrder wsX1_isOrder) := goodIn_app (goodIn_of _ (by decide +kernel)) ggX1_fill_X1_isOrder
set_option maxRecDepth 20000 in
theorem ggX1_fill_X1_in : GoodIn wsX1_fill wsX1_in := goodIn_r _ [12] (by decide +kernel) (by decide +kernel)
set_option maxRecDepth 20000 in
theorem gX1_fill_X1_in : GoodIn wsX1_fill (va_wsS RX1 63 yX1_in wsX1_in) := goodIn_app (goodIn_of _ (by decide +kernel)) ggX1_fill_X1_in
set_option maxRecDepth 20000 in
theorem ggX1_fill_X1_goes : GoodIn wsX1_fill wsX1_goes := goodIn_r _ [16, 17, 63, 64, 65, 66, 67, 68, 69, 70, 71, 72, 73, 74, 75, 76, 77, 78, 79, 80, 81] (by decide +kernel) (by decide +kernel)
set_option maxRecDepth 20000 in
theorem gX1_fill_X1_goes : GoodIn wsX1_fill (wsV RX1 73 RX1 yX1_goes wsX1_goes) := goodIn_app (goodIn_of _ (by decide +kernel)) ggX1_fill_X1_goes
set_option maxRecDepth 20000 in
theorem ggX1_fill_X1_sums : GoodIn wsX1_fill wsX1_sums := goodIn_r _ [21, 2, 22, 23, 24, 25, 26, 27, 28, 7, 29, 30, 31, 63, 64, 65, 66, 67, 68, 69, 70, 71, 72, 73, 74, 75, 76, 77, 78, 79, 80, 81] (by decide +kernel) (by decide +kernel)
set_option maxRecDepth 20000 in
theorem gX1_fill_X1_sums : GoodIn wsX1_fill (wsV RX1 98 RX1 yX1_sums wsX1_sums) := goodIn_app (goodIn_of _ (by decide +kernel)) ggX1_fill_X1_sums
set_option maxRecDepth 20000 in
theorem ggX1_fill_X1_best : GoodIn wsX1_fill wsX1_best := goodIn_r _ [35, 36, 37, 38, 39, 7, 40, 41, 42, 43, 44, 45, 46, 47, 48, 2, 22, 49, 50, 51, 52, 25, 23, 26, 27, 28, 29, 30, 31, 53, 54, 55, 56, 57, 58, 63, 64, 65, 66, 67, 68, 69, 70, 71, 72, 73, 74, 75, 76, 77, 78, 79, 80, 81] (by decide +kernel) (by decide +kernel)
set_option maxRecDepth 20000 in
theorem gX1_fill_X1_best : GoodIn wsX1_fill (wsV RX1 122 RX1 yX1_best wsX1_best) := goodIn_app (goodIn_of _ (by decide +kernel)) ggX1_fill_X1_best
set_option maxRecDepth 20000 in
theorem ggX1_fill_X1_adds : GoodIn wsX1_fill wsX1_adds := goodIn_r _ [62, 22, 2, 25, 23, 24, 63, 64, 65, 66, 67, 68, 69, 70, 71, 72, 73, 74, 75, 76, 77, 78, 79, 80, 81] (by decide +kernel) (by decide +kernel)
set_option maxRecDepth 20000 in
theorem gX1_fill_X1_adds : GoodIn wsX1_fill (wsV RX1 116 RX1 yX1_adds wsX1_adds) := goodIn_app (goodIn_of _ (by decide +kernel)) ggX1_fill_X1_adds
theorem dX1_fill_0 : decode cX1_fill 0 = .ok (.aload_n 0, 1) := by decide +kernel
theorem dX1_fill_1 : decode cX1_fill 1 = .ok (.iload_n 1, 1) := by decide +kernel
theorem dX1_fill_2 : decode cX1_fill 2 = .ok (.invokevirtual 105, 3) := by decide +kernel
theorem dX1_fill_5 : decode cX1_fill 5 = .ok (.istore_n 3, 1) := by decide +kernel
theorem dX1_fill_6 : decode cX1_fill 6 = .ok (.aload_n 0, 1) := by decide +kernel
theorem dX1_fill_7 : decode cX1_fill 7 = .ok (.iload_n 3, 1) := by decide +kernel
theorem dX1_fill_8 : decode cX1_fill 8 = .ok (.iload_n 2, 1) := by decide +kernel
theorem dX1_fill_9 : decode cX1_fill 9 = .ok (.iconst 1, 1) := by decide +kernel
theorem dX1_fill_10 : decode cX1_fill 10 = .ok (.bipush 24, 2) := by decide +kernel
theorem dX1_fill_12 : decode cX1_fill 12 = .ok (.invokestatic 63, 3) := by decide +kernel
theorem dX1_fill_15 : decode cX1_fill 15 = .ok (.iload_n 3, 1) := by decide +kernel
theorem dX1_fill_16 : decode cX1_fill 16 = .ok (.ifCond .eq 16, 3) := by decide +kernel
theorem dX1_fill_19 : decode cX1_fill 19 = .ok (.aload_n 0, 1) := by decide +kernel
theorem dX1_fill_20 : decode cX1_fill 20 = .ok (.getfield 41, 3) := by decide +kernel
theorem dX1_fill_23 : decode cX1_fill 23 = .ok (.iload_n 1, 1) := by decide +kernel
theorem dX1_fill_24 : decode cX1_fill 24 = .ok (.baload, 1) := by decide +kernel
theorem dX1_fill_25 : decode cX1_fill 25 = .ok (.ifCond .ne 7, 3) := by decide +kernel
theorem dX1_fill_28 : decode cX1_fill 28 = .ok (.iconst 1, 1) := by decide +kernel
theorem dX1_fill_29 : decode cX1_fill 29 = .ok (.goto 4, 3) := by decide +kernel
theorem dX1_fill_32 : decode cX1_fill 32 = .ok (.iconst 0, 1) := by decide +kernel
theorem dX1_fill_33 : decode cX1_fill 33 = .ok (.invokevirtual 73, 3) := by decide +kernel
theorem dX1_fill_36 : decode cX1_fill 36 = .ok (.ifCond .ne 5, 3) := by decide +kernel
theorem dX1_fill_39 : decode cX1_fill 39 = .ok (.iconst 0, 1) := by decide +kernel
theorem dX1_fill_40 : decode cX1_fill 40 = .ok (.ireturn, 1) := by decide +kernel
theorem dX1_fill_41 : decode cX1_fill 41 = .ok (.iconst 0, 1) := by decide +kernel
theorem dX1_fill_42 : decode cX1_fill 42 = .ok (.istore 4, 2) := by decide +kernel
theorem dX1_fill_44 : decode cX1_fill 44 = .ok (.iload 4, 2) := by decide +kernel
theorem dX1_fill_46 : decode cX1_fill 46 = .ok (.iload_n 2, 1) := by decide +kernel
theorem dX1_fill_47 : decode cX1_fill 47 = .ok (.if_icmp .ge 65, 3) := by decide +kernel
theorem dX1_fill_50 : decode cX1_fill 50 = .ok (.aload_n 0, 1) := by decide +kernel
theorem dX1_fill_51 : decode cX1_fill 51 = .ok (.getfield 70, 3) := by decide +kernel
theorem dX1_fill_54 : decode cX1_fill 54 = .ok (.sipush 150, 3) := by decide +kernel
theorem dX1_fill_57 : decode cX1_fill 57 = .ok (.if_icmp .ge 55, 3) := by decide +kernel
theorem dX1_fill_60 : decode cX1_fill 60 = .ok (.aload_n 0, 1) := by decide +kernel
theorem dX1_fill_61 : decode cX1_fill 61 = .ok (.iload_n 1, 1) := by decide +kernel
theorem dX1_fill_62 : decode cX1_fill 62 = .ok (.iconst 1, 1) := by decide +kernel
theorem dX1_fill_63 : decode cX1_fill 63 = .ok (.iconst 0, 1) := by decide +kernel
theorem dX1_fill_64 : decode cX1_fill 64 = .ok (.invokevirtual 98, 3) := by decide +kernel
theorem dX1_fill_67 : decode cX1_fill 67 = .ok (.aload_n 0, 1) := by decide +kernel
theorem dX1_fill_68 : decode cX1_fill 68 = .ok (.iload_n 1, 1) := by decide +kernel
theorem dX1_fill_69 : decode cX1_fill 69 = .ok (.iconst 0, 1) := by decide +kernel
theorem dX1_fill_70 : decode cX1_fill 70 = .ok (.iconst 0, 1) := by decide +kernel
theorem dX1_fill_71 : decode cX1_fill 71 = .ok (.invokevirtual 98, 3) := by decide +kernel
theorem dX1_fill_74 : decode cX1_fill 74 = .ok (.iadd, 1) := by decide +kernel
theorem dX1_fill_75 : decode cX1_fill 75 = .ok (.aload_n 0, 1) := by decide +kernel
theorem dX1_fill_76 : decode cX1_fill 76 = .ok (.getfield 35, 3) := by decide +kernel
theorem dX1_fill_79 : decode cX1_fill 79 = .ok (.iload_n 1, 1) := by decide +kernel
theorem dX1_fill_80 : decode cX1_fill 80 = .ok (.iaload, 1) := by decide +kernel
theorem dX1_fill_81 : decode cX1_fill 81 = .ok (.if_icmp .ge 31, 3) := by decide +kernel
theorem dX1_fill_84 : decode cX1_fill 84 = .ok (.aload_n 0, 1) := by decide +kernel
theorem dX1_fill_85 : decode cX1_fill 85 = .ok (.iload_n 1, 1) := by decide +kernel
theorem dX1_fill_86 : decode cX1_fill 86 = .ok (.invokevirtual 122, 3) := by decide +kernel
theorem dX1_fill_89 : decode cX1_fill 89 = .ok (.iconst (-1), 1) := by decide +kernel
theorem dX1_fill_90 : decode cX1_fill 90 = .ok (.if_icmp .eq 22, 3) := by decide +kernel
theorem dX1_fill_93 : decode cX1_fill 93 = .ok (.aload_n 0, 1) := by decide +kernel
theorem dX1_fill_94 : decode cX1_fill 94 = .ok (.iload_n 1, 1) := by decide +kernel
theorem dX1_fill_95 : decode cX1_fill 95 = .ok (.aload_n 0, 1) := by decide +kernel
theorem dX1_fill_96 : decode cX1_fill 96 = .ok (.iload_n 1, 1) := by decide +kernel
theorem dX1_fill_97 : decode cX1_fill 97 = .ok (.invokevirtual 122, 3) := by decide +kernel
theorem dX1_fill_100 : decode cX1_fill 100 = .ok (.iconst 0, 1) := by decide +kernel
theorem dX1_fill_101 : decode cX1_fill 101 = .ok (.invokevirtual 116, 3) := by decide +kernel
theorem dX1_fill_104 : decode cX1_fill 104 = .ok (.istore 5, 2) := by decide +kernel
theorem dX1_fill_106 : decode cX1_fill 106 = .ok (.iinc 4 1, 3) := by decide +kernel
theorem dX1_fill_109 : decode cX1_fill 109 = .ok (.goto (-65), 3) := by decide +kernel
theorem dX1_fill_112 : decode cX1_fill 112 = .ok (.iload 4, 2) := by decide +kernel
theorem dX1_fill_114 : decode cX1_fill 114 = .ok (.ireturn, 1) := by decide +kernel
set_option maxRecDepth 20000 in
theorem ggX1_move_X1_isSpot : GoodIn wsX1_move wsX1_isSpot := goodIn_r _ [8, 9, 10, 11, 7, 12, 51, 52, 53, 54, 55, 56, 57, 58, 59, 60, 61, 62, 63, 64, 65, 66, 67, 68, 69] (by decide +kernel) (by decide +kernel)
set_option maxRecDepth 20000 in
theorem gX1_move_X1_isSpot : GoodIn wsX1_move (wsV RX1 125 RX1 yX1_isSpot wsX1_isSpot) := goodIn_app (goodIn_of _ (by decide +kernel)) ggX1_move_X1_isSpot
set_option maxRecDepth 20000 in
theorem ggX1_move_X1_isBreak : GoodIn wsX1_move wsX1_isBreak := goodIn_r _ [16, 17, 10, 11, 7, 12, 51, 52, 53, 54, 55, 56, 57, 58, 59, 60, 61, 62, 63, 64, 65, 66, 67, 68, 69] (by decide +kernel) (by decide +kernel)
set_option maxRecDepth 20000 in
theorem gX1_move_X1_isBreak : GoodIn wsX1_move (wsV RX1 77 RX1 yX1_isBreak wsX1_isBreak) := goodIn_app (goodIn_of _ (by decide +kernel)) ggX1_move_X1_isBreak
set_option maxRecDepth 20000 in
theorem ggX1_move_X1_why : GoodIn wsX1_move wsX1_why := goodIn_r _ [21, 22, 23, 24, 17, 25, 26, 27, 7, 28, 29, 9, 3, 30, 31, 32, 33, 2, 1, 34, 35, 36, 37, 38, 39, 40, 41, 42, 43, 44, 45, 51, 52, 53, 54, 55, 56, 57, 58, 59, 60, 61, 62, 63, 64, 65, 66, 67, 68, 69] (by decide +kernel) (by decide +kernel)
set_option maxRecDepth 20000 in
theorem gX1_move_X1_why : GoodIn wsX1_move (wsV RX1 112 RX1 yX1_why wsX1_why) := goodIn_app (goodIn_of _ (by decide +kernel)) ggX1_move_X1_why
set_option maxRecDepth 20000 in
theorem ggX1_move_X1_goes : GoodIn wsX1_move wsX1_goes := goodIn_r _ [49, 50, 51, 52, 53, 54, 55, 56, 57, 58, 59, 60, 61, 62, 63, 64, 65, 66, 67, 68, 69] (by decide +kernel) (by decide +kernel)
set_option maxRecDepth 20000 in
theorem gX1_move_X1_goes : GoodIn wsX1_move (wsV RX1 73 RX1 yX1_goes wsX1_goes) := goodIn_app (goodIn_of _ (by decide +kernel)) ggX1_move_X1_goes
theorem dX1_move_0 : decode cX1_move 0 = .ok (.aload_n 0, 1) := by decide +kernel
theorem dX1_move_1 : decode cX1_move 1 = .ok (.iload_n 1, 1) := by decide +kernel
theorem dX1_move_2 : decode cX1_move 2 = .ok (.invokevirtual 125, 3) := by decide +kernel
theorem dX1_move_5 : decode cX1_move 5 = .ok (.ifCond .eq 15, 3) := by decide +kernel
theorem dX1_move_8 : decode cX1_move 8 = .ok (.aload_n 0, 1) := by decide +kernel
theorem dX1_move_9 : decode cX1_move 9 = .ok (.iload_n 2, 1) := by decide +kernel
theorem dX1_move_10 : decode cX1_move 10 = .ok (.invokevirtual 77, 3) := by decide +kernel
theorem dX1_move_13 : decode cX1_move 13 = .ok (.ifCond .eq 7, 3) := by decide +kernel
theorem dX1_move_16 : decode cX1_move 16 = .ok (.iconst 1, 1) := by decide +kernel
theorem dX1_move_17 : decode cX1_move 17 = .ok (.goto 4, 3) := by decide +kernel
theorem dX1_move_20 : decode cX1_move 20 = .ok (.iconst 0, 1) := by decide +kernel
theorem dX1_move_21 : decode cX1_move 21 = .ok (.istore_n 3, 1) := by decide +kernel
theorem dX1_move_22 : decode cX1_move 22 = .ok (.iload_n 3, 1) := by decide +kernel
theorem dX1_move_23 : decode cX1_move 23 = .ok (.ifCond .eq 41, 3) := by decide +kernel
theorem dX1_move_26 : decode cX1_move 26 = .ok (.aload_n 0, 1) := by decide +kernel
theorem dX1_move_27 : decode cX1_move 27 = .ok (.getfield 50, 3) := by decide +kernel
theorem dX1_move_30 : decode cX1_move 30 = .ok (.iload_n 1, 1) := by decide +kernel
theorem dX1_move_31 : decode cX1_move 31 = .ok (.iaload, 1) := by decide +kernel
theorem dX1_move_32 : decode cX1_move 32 = .ok (.ifCond .ne 32, 3) := by decide +kernel
theorem dX1_move_35 : decode cX1_move 35 = .ok (.aload_n 0, 1) := by decide +kernel
theorem dX1_move_36 : decode cX1_move 36 = .ok (.getfield 47, 3) := by decide +kernel
theorem dX1_move_39 : decode cX1_move 39 = .ok (.iload_n 1, 1) := by decide +kernel
theorem dX1_move_40 : decode cX1_move 40 = .ok (.iaload, 1) := by decide +kernel
theorem dX1_move_41 : decode cX1_move 41 = .ok (.iload_n 2, 1) := by decide +kernel
theorem dX1_move_42 : decode cX1_move 42 = .ok (.if_icmp .eq 18, 3) := by decide +kernel
theorem dX1_move_45 : decode cX1_move 45 = .ok (.aload_n 0, 1) := by decide +kernel
theorem dX1_move_46 : decode cX1_move 46 = .ok (.aload_n 0, 1) := by decide +kernel
theorem dX1_move_47 : decode cX1_move 47 = .ok (.getfield 44, 3) := by decide +kernel
theorem dX1_move_50 : decode cX1_move 50 = .ok (.iload_n 1, 1) := by decide +kernel
theorem dX1_move_51 : decode cX1_move 51 = .ok (.iaload, 1) := by decide +kernel
theorem dX1_move_52 : decode cX1_move 52 = .ok (.iload_n 2, 1) := by decide +kernel
theorem dX1_move_53 : decode cX1_move 53 = .ok (.iload_n 1, 1) := by decide +kernel
theorem dX1_move_54 : decode cX1_move 54 = .ok (.invokevirtual 112, 3) := by decide +kernel
theorem dX1_move_57 : decode cX1_move 57 = .ok (.ifCond .ne 7, 3) := by decide +kernel
theorem dX1_move_60 : decode cX1_move 60 = .ok (.iconst 1, 1) := by decide +kernel
theorem dX1_move_61 : decode cX1_move 61 = .ok (.goto 4, 3) := by decide +kernel
theorem dX1_move_64 : decode cX1_move 64 = .ok (.iconst 0, 1) := by decide +kernel
theorem dX1_move_65 : decode cX1_move 65 = .ok (.istore 4, 2) := by decide +kernel
theorem dX1_move_67 : decode cX1_move 67 = .ok (.aload_n 0, 1) := by decide +kernel
theorem dX1_move_68 : decode cX1_move 68 = .ok (.iload_n 3, 1) := by decide +kernel
theorem dX1_move_69 : decode cX1_move 69 = .ok (.iload 4, 2) := by decide +kernel
theorem dX1_move_71 : decode cX1_move 71 = .ok (.iconst 1, 1) := by decide +kernel
theorem dX1_move_72 : decode cX1_move 72 = .ok (.invokevirtual 73, 3) := by decide +kernel
theorem dX1_move_75 : decode cX1_move 75 = .ok (.ifCond .ne 5, 3) := by decide +kernel
theorem dX1_move_78 : decode cX1_move 78 = .ok (.iconst 0, 1) := by decide +kernel
theorem dX1_move_79 : decode cX1_move 79 = .ok (.ireturn, 1) := by decide +kernel
theorem dX1_move_80 : decode cX1_move 80 = .ok (.aload_n 0, 1) := by decide +kernel
theorem dX1_move_81 : decode cX1_move 81 = .ok (.getfield 47, 3) := by decide +kernel
theorem dX1_move_84 : decode cX1_move 84 = .ok (.iload_n 1, 1) := by decide +kernel
theorem dX1_move_85 : decode cX1_move 85 = .ok (.iaload, 1) := by decide +kernel
theorem dX1_move_86 : decode cX1_move 86 = .ok (.istore 5, 2) := by decide +kernel
theorem dX1_move_88 : decode cX1_move 88 = .ok (.aload_n 0, 1) := by decide +kernel
theorem dX1_move_89 : decode cX1_move 89 = .ok (.getfield 47, 3) := by decide +kernel
theorem dX1_move_92 : decode cX1_move 92 = .ok (.iload_n 1, 1) := by decide +kernel
theorem dX1_move_93 : decode cX1_move 93 = .ok (.iload_n 2, 1) := by decide +kernel
theorem dX1_move_94 : decode cX1_move 94 = .ok (.iastore, 1) := by decide +kernel
theorem dX1_move_95 : decode cX1_move 95 = .ok (.iload 5, 2) := by decide +kernel
theorem dX1_move_97 : decode cX1_move 97 = .ok (.ireturn, 1) := by decide +kernel
set_option maxRecDepth 20000 in
theorem ggX1_miss_X1_isSpot : GoodIn wsX1_miss wsX1_isSpot := goodIn_r _ [6, 7, 8, 9, 5, 10, 16, 17, 18, 19, 20, 21, 22, 23, 24, 25, 26, 27, 28, 29, 30, 31, 32, 33, 34] (by decide +kernel) (by decide +kernel)
set_option maxRecDepth 20000 in
theorem gX1_miss_X1_isSpot : GoodIn wsX1_miss (wsV RX1 125 RX1 yX1_isSpot wsX1_isSpot) := goodIn_app (goodIn_of _ (by decide +kernel)) ggX1_miss_X1_isSpot
set_option maxRecDepth 20000 in
theorem ggX1_miss_X1_goes : GoodIn wsX1_miss wsX1_goes := goodIn_r _ [14, 15, 16, 17, 18, 19, 20, 21, 22, 23, 24, 25, 26, 27, 28, 29, 30, 31, 32, 33, 34] (by decide +kernel) (by decide +kernel)
set_option maxRecDepth 20000 in
theorem gX1_miss_X1_goes : GoodIn wsX1_miss (wsV RX1 73 RX1 yX1_goes wsX1_goes) := goodIn_app (goodIn_of _ (by decide +kernel)) ggX1_miss_X1_goes
theorem dX1_miss_0 : decode cX1_miss 0 = .ok (.aload_n 0, 1) := by decide +kernel
theorem dX1_miss_1 : decode cX1_miss 1 = .ok (.iload_n 1, 1) := by decide +kernel
theorem dX1_miss_2 : decode cX1_miss 2 = .ok (.invokevirtual 125, 3) := by decide +kernel
theorem dX1_miss_5 : decode cX1_miss 5 = .ok (.istore_n 2, 1) := by decide +kernel
theorem dX1_miss_6 : decode cX1_miss 6 = .ok (.aload_n 0, 1) := by decide +kernel
theorem dX1_miss_7 : decode cX1_miss 7 = .ok (.iload_n 2, 1) := by decide +kernel
theorem dX1_miss_8 : decode cX1_miss 8 = .ok (.iload_n 2, 1) := by decide +kernel
theorem dX1_miss_9 : decode cX1_miss 9 = .ok (.ifCond .eq 26, 3) := by decide +kernel
theorem dX1_miss_12 : decode cX1_miss 12 = .ok (.aload_n 0, 1) := by decide +kernel
theorem dX1_miss_13 : decode cX1_miss 13 = .ok (.getfield 50, 3) := by decide +kernel
theorem dX1_miss_16 : decode cX1_miss 16 = .ok (.iload_n 1, 1) := by decide +kernel
theorem dX1_miss_17 : decode cX1_miss 17 = .ok (.iaload, 1) := by decide +kernel
theorem dX1_miss_18 : decode cX1_miss 18 = .ok (.ifCond .eq 13, 3) := by decide +kernel
theorem dX1_miss_21 : decode cX1_miss 21 = .ok (.aload_n 0, 1) := by decide +kernel
theorem dX1_miss_22 : decode cX1_miss 22 = .ok (.getfield 50, 3) := by decide +kernel
theorem dX1_miss_25 : decode cX1_miss 25 = .ok (.iload_n 1, 1) := by decide +kernel
theorem dX1_miss_26 : decode cX1_miss 26 = .ok (.iaload, 1) := by decide +kernel
theorem dX1_miss_27 : decode cX1_miss 27 = .ok (.iconst 1, 1) := by decide +kernel
theorem dX1_miss_28 : decode cX1_miss 28 = .ok (.if_icmp .ne 7, 3) := by decide +kernel
theorem dX1_miss_31 : decode cX1_miss 31 = .ok (.iconst 1, 1) := by decide +kernel
theorem dX1_miss_32 : decode cX1_miss 32 = .ok (.goto 4, 3) := by decide +kernel
theorem dX1_miss_35 : decode cX1_miss 35 = .ok (.iconst 0, 1) := by decide +kernel
theorem dX1_miss_36 : decode cX1_miss 36 = .ok (.iconst 1, 1) := by decide +kernel
theorem dX1_miss_37 : decode cX1_miss 37 = .ok (.invokevirtual 73, 3) := by decide +kernel
theorem dX1_miss_40 : decode cX1_miss 40 = .ok (.ifCond .ne 5, 3) := by decide +kernel
theorem dX1_miss_43 : decode cX1_miss 43 = .ok (.iconst 0, 1) := by decide +kernel
theorem dX1_miss_44 : decode cX1_miss 44 = .ok (.ireturn, 1) := by decide +kernel
theorem dX1_miss_45 : decode cX1_miss 45 = .ok (.aload_n 0, 1) := by decide +kernel
theorem dX1_miss_46 : decode cX1_miss 46 = .ok (.getfield 50, 3) := by decide +kernel
theorem dX1_miss_49 : decode cX1_miss 49 = .ok (.iload_n 1, 1) := by decide +kernel
theorem dX1_miss_50 : decode cX1_miss 50 = .ok (.iaload, 1) := by decide +kernel
theorem dX1_miss_51 : decode cX1_miss 51 = .ok (.iconst 1, 1) := by decide +kernel
theorem dX1_miss_52 : decode cX1_miss 52 = .ok (.if_icmp .ne 7, 3) := by decide +kernel
theorem dX1_miss_55 : decode cX1_miss 55 = .ok (.iconst 1, 1) := by decide +kernel
theorem dX1_miss_56 : decode cX1_miss 56 = .ok (.goto 4, 3) := by decide +kernel
theorem dX1_miss_59 : decode cX1_miss 59 = .ok (.iconst 0, 1) := by decide +kernel
theorem dX1_miss_60 : decode cX1_miss 60 = .ok (.istore_n 3, 1) := by decide +kernel
theorem dX1_miss_61 : decode cX1_miss 61 = .ok (.aload_n 0, 1) := by decide +kernel
theorem dX1_miss_62 : decode cX1_miss 62 = .ok (.getfield 50, 3) := by decide +kernel
theorem dX1_miss_65 : decode cX1_miss 65 = .ok (.iload_n 1, 1) := by decide +kernel
theorem dX1_miss_66 : decode cX1_miss 66 = .ok (.iconst 2, 1) := by decide +kernel
theorem dX1_miss_67 : decode cX1_miss 67 = .ok (.iastore, 1) := by decide +kernel
theorem dX1_miss_68 : decode cX1_miss 68 = .ok (.iload_n 3, 1) := by decide +kernel
theorem dX1_miss_69 : decode cX1_miss 69 = .ok (.ireturn, 1) := by decide +kernel
set_option maxRecDepth 20000 in
theorem ggX1_drop_X1_isSpot : GoodIn wsX1_drop wsX1_isSpot := goodIn_r _ [6, 7, 8, 9, 5, 10, 16, 17, 18, 19, 20, 21, 22, 23, 24, 25, 26, 27, 28, 29, 30, 31, 32, 33, 34] (by decide +kernel) (by decide +kernel)
set_option maxRecDepth 20000 in
theorem gX1_drop_X1_isSpot : GoodIn wsX1_drop (wsV RX1 125 RX1 yX1_isSpot wsX1_isSpot) := goodIn_app (goodIn_of _ (by decide +kernel)) ggX1_drop_X1_isSpot
set_option maxRecDepth 20000 in
theorem ggX1_drop_X1_goes : GoodIn wsX1_drop wsX1_goes := goodIn_r _ [14, 15, 16, 17, 18, 19, 20, 21, 22, 23, 24, 25, 26, 27, 28, 29, 30, 31, 32, 33, 34] (by decide +kernel) (by decide +kernel)
set_option maxRecDepth 20000 in
theorem gX1_drop_X1_goes : GoodIn wsX1_drop (wsV RX1 73 RX1 yX1_goes wsX1_goes) := goodIn_app (goodIn_of _ (by decide +kernel)) ggX1_drop_X1_goes
theorem dX1_drop_0 : decode cX1_drop 0 = .ok (.aload_n 0, 1) := by decide +kernel
theorem dX1_drop_1 : decode cX1_drop 1 = .ok (.iload_n 1, 1) := by decide +kernel
theorem dX1_drop_2 : decode cX1_drop 2 = .ok (.invokevirtual 125, 3) := by decide +kernel
theorem dX1_drop_5 : decode cX1_drop 5 = .ok (.istore_n 2, 1) := by decide +kernel
theorem dX1_drop_6 : decode cX1_drop 6 = .ok (.aload_n 0, 1) := by decide +kernel
theorem dX1_drop_7 : decode cX1_drop 7 = .ok (.iload_n 2, 1) := by decide +kernel
theorem dX1_drop_8 : decode cX1_drop 8 = .ok (.iload_n 2, 1) := by decide +kernel
theorem dX1_drop_9 : decode cX1_drop 9 = .ok (.ifCond .eq 16, 3) := by decide +kernel
theorem dX1_drop_12 : decode cX1_drop 12 = .ok (.aload_n 0, 1) := by decide +kernel
theorem dX1_drop_13 : decode cX1_drop 13 = .ok (.getfield 50, 3) := by decide +kernel
theorem dX1_drop_16 : decode cX1_drop 16 = .ok (.iload_n 1, 1) := by decide +kernel
theorem dX1_drop_17 : decode cX1_drop 17 = .ok (.iaload, 1) := by decide +kernel
theorem dX1_drop_18 : decode cX1_drop 18 = .ok (.ifCond .ne 7, 3) := by decide +kernel
theorem dX1_drop_21 : decode cX1_drop 21 = .ok (.iconst 1, 1) := by decide +kernel
theorem dX1_drop_22 : decode cX1_drop 22 = .ok (.goto 4, 3) := by decide +kernel
theorem dX1_drop_25 : decode cX1_drop 25 = .ok (.iconst 0, 1) := by decide +kernel
theorem dX1_drop_26 : decode cX1_drop 26 = .ok (.iconst 1, 1) := by decide +kernel
theorem dX1_drop_27 : decode cX1_drop 27 = .ok (.invokevirtual 73, 3) := by decide +kernel
theorem dX1_drop_30 : decode cX1_drop 30 = .ok (.ifCond .eq 10, 3) := by decide +kernel
theorem dX1_drop_33 : decode cX1_drop 33 = .ok (.aload_n 0, 1) := by decide +kernel
theorem dX1_drop_34 : decode cX1_drop 34 = .ok (.getfield 50, 3) := by decide +kernel
theorem dX1_drop_37 : decode cX1_drop 37 = .ok (.iload_n 1, 1) := by decide +kernel
theorem dX1_drop_38 : decode cX1_drop 38 = .ok (.iconst 3, 1) := by decide +kernel
theorem dX1_drop_39 : decode cX1_drop 39 = .ok (.iastore, 1) := by decide +kernel
theorem dX1_drop_40 : decode cX1_drop 40 = .ok (.return_, 1) := by decide +kernel
set_option maxRecDepth 20000 in
theorem ggX1_spots_X1_told : GoodIn wsX1_spots wsX1_told := goodIn_r _ [6, 7, 8, 9, 10, 11, 12, 13, 14, 15, 16, 17, 18, 19, 20, 21, 22, 23, 24, 25, 26] (by decide +kernel) (by decide +kernel)
set_option maxRecDepth 20000 in
theorem gX1_spots_X1_told : GoodIn wsX1_spots (wsV RX1 82 RX1 yX1_told wsX1_told) := goodIn_app (goodIn_of _ (by decide +kernel)) ggX1_spots_X1_told
theorem dX1_spots_0 : decode cX1_spots 0 = .ok (.aload_n 0, 1) := by decide +kernel
theorem dX1_spots_1 : decode cX1_spots 1 = .ok (.aload_n 0, 1) := by decide +kernel
theorem dX1_spots_2 : decode cX1_spots 2 = .ok (.getfield 70, 3) := by decide +kernel
theorem dX1_spots_5 : decode cX1_spots 5 = .ok (.invokevirtual 82, 3) := by decide +kernel
theorem dX1_spots_8 : decode cX1_spots 8 = .ok (.ireturn, 1) := by decide +kernel
set_option maxRecDepth 20000 in
theorem ggX1_stateOf_X1_isSpot : GoodIn wsX1_stateOf wsX1_isSpot := goodIn_r _ [6, 7, 8, 9, 5, 10, 16, 17, 18, 19, 20, 21, 22, 23, 24, 25, 26, 27, 28, 29, 30, 31, 32, 33, 34] (by decide +kernel) (by decide +kernel)
set_option maxRecDepth 20000 in
theorem gX1_stateOf_X1_isSpot : GoodIn wsX1_stateOf (wsV RX1 125 RX1 yX1_isSpot wsX1_isSpot) := goodIn_app (goodIn_of _ (by decide +kernel)) ggX1_stateOf_X1_isSpot
set_option maxRecDepth 20000 in
theorem ggX1_stateOf_X1_goes : GoodIn wsX1_stateOf wsX1_goes := goodIn_r _ [14, 15, 16, 17, 18, 19, 20, 21, 22, 23, 24, 25, 26, 27, 28, 29, 30, 31, 32, 33, 34] (by decide +kernel) (by decide +kernel)
set_option maxRecDepth 20000 in
theorem gX1_stateOf_X1_goes : GoodIn wsX1_stateOf (wsV RX1 73 RX1 yX1_goes wsX1_goes) := goodIn_app (goodIn_of _ (by decide +kernel)) ggX1_stateOf_X1_goes
theorem dX1_stateOf_0 : decode cX1_stateOf 0 = .ok (.aload_n 0, 1) := by decide +kernel
theorem dX1_stateOf_1 : decode cX1_stateOf 1 = .ok (.aload_n 0, 1) := by decide +kernel
theorem dX1_stateOf_2 : decode cX1_stateOf 2 = .ok (.iload_n 1, 1) := by decide +kernel
theorem dX1_stateOf_3 : decode cX1_stateOf 3 = .ok (.invokevirtual 125, 3) := by decide +kernel
theorem dX1_stateOf_6 : decode cX1_stateOf 6 = .ok (.iconst 1, 1) := by decide +kernel
theorem dX1_stateOf_7 : decode cX1_stateOf 7 = .ok (.iconst 1, 1) := by decide +kernel
theorem dX1_stateOf_8 : decode cX1_stateOf 8 = .ok (.invokevirtual 73, 3) := by decide +kernel
theorem dX1_stateOf_11 : decode cX1_stateOf 11 = .ok (.ifCond .eq 12, 3) := by decide +kernel
theorem dX1_stateOf_14 : decode cX1_stateOf 14 = .ok (.aload_n 0, 1) := by decide +kernel
theorem dX1_stateOf_15 : decode cX1_stateOf 15 = .ok (.getfield 50, 3) := by decide +kernel
theorem dX1_stateOf_18 : decode cX1_stateOf 18 = .ok (.iload_n 1, 1) := by decide +kernel
theorem dX1_stateOf_19 : decode cX1_stateOf 19 = .ok (.iaload, 1) := by decide +kernel
theorem dX1_stateOf_20 : decode cX1_stateOf 20 = .ok (.goto 4, 3) := by decide +kernel
theorem dX1_stateOf_23 : decode cX1_stateOf 23 = .ok (.iconst 0, 1) := by decide +kernel
theorem dX1_stateOf_24 : decode cX1_stateOf 24 = .ok (.ireturn, 1) := by decide +kernel
set_option maxRecDepth 20000 in
theorem ggX1_breakOf_X1_isSpot : GoodIn wsX1_breakOf wsX1_isSpot := goodIn_r _ [6, 7, 8, 9, 5, 10, 16, 17, 18, 19, 20, 21, 22, 23, 24, 25, 26, 27, 28, 29, 30, 31, 32, 33, 34] (by decide +kernel) (by decide +kernel)
set_option maxRecDepth 20000 in
theorem gX1_breakOf_X1_isSpot : GoodIn wsX1_breakOf (wsV RX1 125 RX1 yX1_isSpot wsX1_isSpot) := goodIn_app (goodIn_of _ (by decide +kernel)) ggX1_breakOf_X1_isSpot
set_option maxRecDepth 20000 in
theorem ggX1_breakOf_X1_goes : GoodIn wsX1_breakOf wsX1_goes := goodIn_r _ [14, 15, 16, 17, 18, 19, 20, 21, 22, 23, 24, 25, 26, 27, 28, 29, 30, 31, 32, 33, 34] (by decide +kernel) (by decide +kernel)
set_option maxRecDepth 20000 in
theorem gX1_breakOf_X1_goes : GoodIn wsX1_breakOf (wsV RX1 73 RX1 yX1_goes wsX1_goes) := goodIn_app (goodIn_of _ (by decide +kernel)) ggX1_breakOf_X1_goes
theorem dX1_breakOf_0 : decode cX1_breakOf 0 = .ok (.aload_n 0, 1) := by decide +kernel
theorem dX1_breakOf_1 : decode cX1_breakOf 1 = .ok (.aload_n 0, 1) := by decide +kernel
theorem dX1_breakOf_2 : decode cX1_breakOf 2 = .ok (.iload_n 1, 1) := by decide +kernel
theorem dX1_breakOf_3 : decode cX1_breakOf 3 = .ok (.invokevirtual 125, 3) := by decide +kernel
theorem dX1_breakOf_6 : decode cX1_breakOf 6 = .ok (.iconst 1, 1) := by decide +kernel
theorem dX1_breakOf_7 : decode cX1_breakOf 7 = .ok (.iconst 1, 1) := by decide +kernel
theorem dX1_breakOf_8 : decode cX1_breakOf 8 = .ok (.invokevirtual 73, 3) := by decide +kernel
theorem dX1_breakOf_11 : decode cX1_breakOf 11 = .ok (.ifCond .eq 12, 3) := by decide +kernel
theorem dX1_breakOf_14 : decode cX1_breakOf 14 = .ok (.aload_n 0, 1) := by decide +kernel
theorem dX1_breakOf_15 : decode cX1_breakOf 15 = .ok (.getfield 47, 3) := by decide +kernel
theorem dX1_breakOf_18 : decode cX1_breakOf 18 = .ok (.iload_n 1, 1) := by decide +kernel
theorem dX1_breakOf_19 : decode cX1_breakOf 19 = .ok (.iaload, 1) := by decide +kernel
theorem dX1_breakOf_20 : decode cX1_breakOf 20 = .ok (.goto 4, 3) := by decide +kernel
theorem dX1_breakOf_23 : decode cX1_breakOf 23 = .ok (.iconst 0, 1) := by decide +kernel
theorem dX1_breakOf_24 : decode cX1_breakOf 24 = .ok (.ireturn, 1) := by decide +kernel
set_option maxRecDepth 20000 in
theorem ggX1_delivered_X1_isOrder : GoodIn wsX1_delivered wsX1_isOrder := goodIn_r _ [5, 6, 7, 8, 4, 9, 30, 31, 32, 33, 34, 35, 36, 37, 38, 39, 40, 41, 42, 43, 44, 45, 46, 47, 48] (by decide +kernel) (by decide +kernel)
set_option maxRecDepth 20000 in
theorem gX1_delivered_X1_isOrder : GoodIn wsX1_delivered (wsV RX1 105 RX1 yX1_isOrder wsX1_isOrder) := goodIn_app (goodIn_of _ (by decide +kernel)) ggX1_delivered_X1_isOrder
set_option maxRecDepth 20000 in
theorem ggX1_delivered_X1_goes : GoodIn wsX1_delivered wsX1_goes := goodIn_r _ [13, 14, 30, 31, 32, 33, 34, 35, 36, 37, 38, 39, 40, 41, 42, 43, 44, 45, 46, 47, 48] (by decide +kernel) (by decide +kernel)
set_option maxRecDepth 20000 in
theorem gX1_delivered_X1_goes : GoodIn wsX1_delivered (wsV RX1 73 RX1 yX1_goes wsX1_goes) := goodIn_app (goodIn_of _ (by decide +kernel)) ggX1_delivered_X1_goes
set_option maxRecDepth 20000 in
theorem ggX1_delivered_X1_sums : GoodIn wsX1_delivered wsX1_sums := goodIn_r _ [18, 19, 20, 21, 22, 23, 24, 25, 26, 4, 27, 28, 29, 30, 31, 32, 33, 34, 35, 36, 37, 38, 39, 40, 41, 42, 43, 44, 45, 46, 47, 48] (by decide +kernel) (by decide +kernel)
set_option maxRecDepth 20000 in
theorem gX1_delivered_X1_sums : GoodIn wsX1_delivered (wsV RX1 98 RX1 yX1_sums wsX1_sums) := goodIn_app (goodIn_of _ (by decide +kernel)) ggX1_delivered_X1_sums
theorem dX1_delivered_0 : decode cX1_delivered 0 = .ok (.aload_n 0, 1) := by decide +kernel
theorem dX1_delivered_1 : decode cX1_delivered 1 = .ok (.aload_n 0, 1) := by decide +kernel
theorem dX1_delivered_2 : decode cX1_delivered 2 = .ok (.iload_n 1, 1) := by decide +kernel
theorem dX1_delivered_3 : decode cX1_delivered 3 = .ok (.invokevirtual 105, 3) := by decide +kernel
theorem dX1_delivered_6 : decode cX1_delivered 6 = .ok (.iconst 1, 1) := by decide +kernel
theorem dX1_delivered_7 : decode cX1_delivered 7 = .ok (.iconst 1, 1) := by decide +kernel
theorem dX1_delivered_8 : decode cX1_delivered 8 = .ok (.invokevirtual 73, 3) := by decide +kernel
theorem dX1_delivered_11 : decode cX1_delivered 11 = .ok (.ifCond .eq 13, 3) := by decide +kernel
theorem dX1_delivered_14 : decode cX1_delivered 14 = .ok (.aload_n 0, 1) := by decide +kernel
theorem dX1_delivered_15 : decode cX1_delivered 15 = .ok (.iload_n 1, 1) := by decide +kernel
theorem dX1_delivered_16 : decode cX1_delivered 16 = .ok (.iconst 1, 1) := by decide +kernel
theorem dX1_delivered_17 : decode cX1_delivered 17 = .ok (.iconst 0, 1) := by decide +kernel
theorem dX1_delivered_18 : decode cX1_delivered 18 = .ok (.invokevirtual 98, 3) := by decide +kernel
theorem dX1_delivered_21 : decode cX1_delivered 21 = .ok (.goto 4, 3) := by decide +kernel
theorem dX1_delivered_24 : decode cX1_delivered 24 = .ok (.iconst 0, 1) := by decide +kernel
theorem dX1_delivered_25 : decode cX1_delivered 25 = .ok (.ireturn, 1) := by decide +kernel
set_option maxRecDepth 20000 in
theorem ggX1_owed_X1_isOrder : GoodIn wsX1_owed wsX1_isOrder := goodIn_r _ [5, 6, 7, 8, 4, 9, 36, 37, 38, 39, 40, 41, 42, 43, 44, 45, 46, 47, 48, 49, 50, 51, 52, 53, 54] (by decide +kernel) (by decide +kernel)
set_option maxRecDepth 20000 in
theorem gX1_owed_X1_isOrder : GoodIn wsX1_owed (wsV RX1 105 RX1 yX1_isOrder wsX1_isOrder) := goodIn_app (goodIn_of _ (by decide +kernel)) ggX1_owed_X1_isOrder
set_option maxRecDepth 20000 in
theorem ggX1_owed_X1_goes : GoodIn wsX1_owed wsX1_goes := goodIn_r _ [13, 14, 36, 37, 38, 39, 40, 41, 42, 43, 44, 45, 46, 47, 48, 49, 50, 51, 52, 53, 54] (by decide +kernel) (by decide +kernel)
set_option maxRecDepth 20000 in
theorem gX1_owed_X1_goes : GoodIn wsX1_owed (wsV RX1 73 RX1 yX1_goes wsX1_goes) := goodIn_app (goodIn_of _ (by decide +kernel)) ggX1_owed_X1_goes
set_option maxRecDepth 20000 in
theorem ggX1_owed_X1_owes : GoodIn wsX1_owed wsX1_owes := goodIn_r _ [18, 19, 20, 21, 22, 23, 4, 24, 25, 26, 27, 28, 29, 30, 31, 32, 33, 34, 35, 36, 37, 38, 39, 40, 41, 42, 43, 44, 45, 46, 47, 48, 49, 50, 51, 52, 53, 54] (by decide +kernel) (by decide +kernel)
set_option maxRecDepth 20000 in
theorem gX1_owed_X1_owes : GoodIn wsX1_owed (wsV RX1 102 RX1 yX1_owes wsX1_owes) := goodIn_app (goodIn_of _ (by decide +kernel)) ggX1_owed_X1_owes
theorem dX1_owed_0 : decode cX1_owed 0 = .ok (.aload_n 0, 1) := by decide +kernel
theorem dX1_owed_1 : decode cX1_owed 1 = .ok (.aload_n 0, 1) := by decide +kernel
theorem dX1_owed_2 : decode cX1_owed 2 = .ok (.iload_n 1, 1) := by decide +kernel
theorem dX1_owed_3 : decode cX1_owed 3 = .ok (.invokevirtual 105, 3) := by decide +kernel
theorem dX1_owed_6 : decode cX1_owed 6 = .ok (.iconst 1, 1) := by decide +kernel
theorem dX1_owed_7 : decode cX1_owed 7 = .ok (.iconst 1, 1) := by decide +kernel
theorem dX1_owed_8 : decode cX1_owed 8 = .ok (.invokevirtual 73, 3) := by decide +kernel
theorem dX1_owed_11 : decode cX1_owed 11 = .ok (.ifCond .eq 11, 3) := by decide +kernel
theorem dX1_owed_14 : decode cX1_owed 14 = .ok (.aload_n 0, 1) := by decide +kernel
theorem dX1_owed_15 : decode cX1_owed 15 = .ok (.iload_n 1, 1) := by decide +kernel
theorem dX1_owed_16 : decode cX1_owed 16 = .ok (.invokevirtual 102, 3) := by decide +kernel
theorem dX1_owed_19 : decode cX1_owed 19 = .ok (.goto 4, 3) := by decide +kernel
theorem dX1_owed_22 : decode cX1_owed 22 = .ok (.iconst 0, 1) := by decide +kernel
theorem dX1_owed_23 : decode cX1_owed 23 = .ok (.ireturn, 1) := by decide +kernel
set_option maxRecDepth 20000 in
theorem ggX1_rest_X1_isOrder : GoodIn wsX1_rest wsX1_isOrder := goodIn_r _ [5, 6, 7, 8, 4, 9, 40, 41, 42, 43, 44, 45, 46, 47, 48, 49, 50, 51, 52, 53, 54, 55, 56, 57, 58] (by decide +kernel) (by decide +kernel)
set_option maxRecDepth 20000 in
theorem gX1_rest_X1_isOrder : GoodIn wsX1_rest (wsV RX1 105 RX1 yX1_isOrder wsX1_isOrder) := goodIn_app (goodIn_of _ (by decide +kernel)) ggX1_rest_X1_isOrder
set_option maxRecDepth 20000 in
theorem ggX1_rest_X1_goes : GoodIn wsX1_rest wsX1_goes := goodIn_r _ [13, 14, 40, 41, 42, 43, 44, 45, 46, 47, 48, 49, 50, 51, 52, 53, 54, 55, 56, 57, 58] (by decide +kernel) (by decide +kernel)
set_option maxRecDepth 20000 in
theorem gX1_rest_X1_goes : GoodIn wsX1_rest (wsV RX1 73 RX1 yX1_goes wsX1_goes) := goodIn_app (goodIn_of _ (by decide +kernel)) ggX1_rest_X1_goes
set_option maxRecDepth 20000 in
theorem ggX1_rest_X1_left : GoodIn wsX1_rest wsX1_left := goodIn_r _ [18, 19, 20, 21, 4, 22, 23, 24, 25, 26, 27, 28, 29, 30, 31, 32, 33, 34, 35, 36, 37, 38, 39, 40, 41, 42, 43, 44, 45, 46, 47, 48, 49, 50, 51, 52, 53, 54, 55, 56, 57, 58] (by decide +kernel) (by decide +kernel)
set_option maxRecDepth 20000 in
theorem gX1_rest_X1_left : GoodIn wsX1_rest (wsV RX1 119 RX1 yX1_left wsX1_left) := goodIn_app (goodIn_of _ (by decide +kernel)) ggX1_rest_X1_left
theorem dX1_rest_0 : decode cX1_rest 0 = .ok (.aload_n 0, 1) := by decide +kernel
theorem dX1_rest_1 : decode cX1_rest 1 = .ok (.aload_n 0, 1) := by decide +kernel
theorem dX1_rest_2 : decode cX1_rest 2 = .ok (.iload_n 1, 1) := by decide +kernel
theorem dX1_rest_3 : decode cX1_rest 3 = .ok (.invokevirtual 105, 3) := by decide +kernel
theorem dX1_rest_6 : decode cX1_rest 6 = .ok (.iconst 1, 1) := by decide +kernel
theorem dX1_rest_7 : decode cX1_rest 7 = .ok (.iconst 1, 1) := by decide +kernel
theorem dX1_rest_8 : decode cX1_rest 8 = .ok (.invokevirtual 73, 3) := by decide +kernel
theorem dX1_rest_11 : decode cX1_rest 11 = .ok (.ifCond .eq 11, 3) := by decide +kernel
theorem dX1_rest_14 : decode cX1_rest 14 = .ok (.aload_n 0, 1) := by decide +kernel
theorem dX1_rest_15 : decode cX1_rest 15 = .ok (.iload_n 1, 1) := by decide +kernel
theorem dX1_rest_16 : decode cX1_rest 16 = .ok (.invokevirtual 119, 3) := by decide +kernel
theorem dX1_rest_19 : decode cX1_rest 19 = .ok (.goto 4, 3) := by decide +kernel
theorem dX1_rest_22 : decode cX1_rest 22 = .ok (.iconst 0, 1) := by decide +kernel
theorem dX1_rest_23 : decode cX1_rest 23 = .ok (.ireturn, 1) := by decide +kernel
theorem dX1_billOf_0 : decode cX1_billOf 0 = .ok (.iconst 0, 1) := by decide +kernel
theorem dX1_billOf_1 : decode cX1_billOf 1 = .ok (.istore_n 2, 1) := by decide +kernel
theorem dX1_billOf_2 : decode cX1_billOf 2 = .ok (.iconst 0, 1) := by decide +kernel
theorem dX1_billOf_3 : decode cX1_billOf 3 = .ok (.istore_n 3, 1) := by decide +kernel
theorem dX1_billOf_4 : decode cX1_billOf 4 = .ok (.iload_n 3, 1) := by decide +kernel
theorem dX1_billOf_5 : decode cX1_billOf 5 = .ok (.aload_n 0, 1) := by decide +kernel
theorem dX1_billOf_6 : decode cX1_billOf 6 = .ok (.getfield 70, 3) := by decide +kernel
theorem dX1_billOf_9 : decode cX1_billOf 9 = .ok (.if_icmp .ge 51, 3) := by decide +kernel
theorem dX1_billOf_12 : decode cX1_billOf 12 = .ok (.iload_n 2, 1) := by decide +kernel
theorem dX1_billOf_13 : decode cX1_billOf 13 = .ok (.aload_n 0, 1) := by decide +kernel
theorem dX1_billOf_14 : decode cX1_billOf 14 = .ok (.getfield 44, 3) := by decide +kernel
theorem dX1_billOf_17 : decode cX1_billOf 17 = .ok (.iload_n 3, 1) := by decide +kernel
theorem dX1_billOf_18 : decode cX1_billOf 18 = .ok (.iaload, 1) := by decide +kernel
theorem dX1_billOf_19 : decode cX1_billOf 19 = .ok (.iload_n 1, 1) := by decide +kernel
theorem dX1_billOf_20 : decode cX1_billOf 20 = .ok (.if_icmp .ne 31, 3) := by decide +kernel
theorem dX1_billOf_23 : decode cX1_billOf 23 = .ok (.aload_n 0, 1) := by decide +kernel
theorem dX1_billOf_24 : decode cX1_billOf 24 = .ok (.getfield 50, 3) := by decide +kernel
theorem dX1_billOf_27 : decode cX1_billOf 27 = .ok (.iload_n 3, 1) := by decide +kernel
theorem dX1_billOf_28 : decode cX1_billOf 28 = .ok (.iaload, 1) := by decide +kernel
theorem dX1_billOf_29 : decode cX1_billOf 29 = .ok (.iconst 1, 1) := by decide +kernel
theorem dX1_billOf_30 : decode cX1_billOf 30 = .ok (.if_icmp .ne 21, 3) := by decide +kernel
theorem dX1_billOf_33 : decode cX1_billOf 33 = .ok (.aload_n 0, 1) := by decide +kernel
theorem dX1_billOf_34 : decode cX1_billOf 34 = .ok (.getfield 53, 3) := by decide +kernel
theorem dX1_billOf_37 : decode cX1_billOf 37 = .ok (.iload_n 3, 1) := by decide +kernel
theorem dX1_billOf_38 : decode cX1_billOf 38 = .ok (.baload, 1) := by decide +kernel
theorem dX1_billOf_39 : decode cX1_billOf 39 = .ok (.ifCond .ne 12, 3) := by decide +kernel
theorem dX1_billOf_42 : decode cX1_billOf 42 = .ok (.aload_n 0, 1) := by decide +kernel
theorem dX1_billOf_43 : decode cX1_billOf 43 = .ok (.getfield 32, 3) := by decide +kernel
theorem dX1_billOf_46 : decode cX1_billOf 46 = .ok (.iload_n 1, 1) := by decide +kernel
theorem dX1_billOf_47 : decode cX1_billOf 47 = .ok (.iaload, 1) := by decide +kernel
theorem dX1_billOf_48 : decode cX1_billOf 48 = .ok (.goto 4, 3) := by decide +kernel
theorem dX1_billOf_51 : decode cX1_billOf 51 = .ok (.iconst 0, 1) := by decide +kernel
theorem dX1_billOf_52 : decode cX1_billOf 52 = .ok (.iadd, 1) := by decide +kernel
theorem dX1_billOf_53 : decode cX1_billOf 53 = .ok (.istore_n 2, 1) := by decide +kernel
theorem dX1_billOf_54 : decode cX1_billOf 54 = .ok (.iinc 3 1, 3) := by decide +kernel
theorem dX1_billOf_57 : decode cX1_billOf 57 = .ok (.goto (-53), 3) := by decide +kernel
theorem dX1_billOf_60 : decode cX1_billOf 60 = .ok (.iload_n 2, 1) := by decide +kernel
theorem dX1_billOf_61 : decode cX1_billOf 61 = .ok (.ireturn, 1) := by decide +kernel
set_option maxRecDepth 20000 in
theorem ggX1_bill_X1_isOrder : GoodIn wsX1_bill wsX1_isOrder := goodIn_r _ [5, 6, 7, 8, 4, 9, 24, 25, 26, 27, 28, 29, 30, 31, 32, 33, 34, 35, 36, 37, 38, 39, 40, 41, 42] (by decide +kernel) (by decide +kernel)
set_option maxRecDepth 20000 in
theorem gX1_bill_X1_isOrder : GoodIn wsX1_bill (wsV RX1 105 RX1 yX1_isOrder wsX1_isOrder) := goodIn_app (goodIn_of _ (by decide +kernel)) ggX1_bill_X1_isOrder
set_option maxRecDepth 20000 in
theorem ggX1_bill_X1_goes : GoodIn wsX1_bill wsX1_goes := goodIn_r _ [13, 14, 24, 25, 26, 27, 28, 29, 30, 31, 32, 33, 34, 35, 36, 37, 38, 39, 40, 41, 42] (by decide +kernel) (by decide +kernel)
set_option maxRecDepth 20000 in
theorem gX1_bill_X1_goes : GoodIn wsX1_bill (wsV RX1 73 RX1 yX1_goes wsX1_goes) := goodIn_app (goodIn_of _ (by decide +kernel)) ggX1_bill_X1_goes
set_option maxRecDepth 20000 in
theorem ggX1_bill_X1_billOf : GoodIn wsX1_bill wsX1_billOf := goodIn_r _ [18, 19, 20, 21, 22, 23, 24, 25, 26, 27, 28, 29, 30, 31, 32, 33, 34, 35, 36, 37, 38, 39, 40, 41, 42] (by decide +kernel) (by decide +kernel)
set_option maxRecDepth 20000 in
theorem gX1_bill_X1_billOf : GoodIn wsX1_bill (wsV RX1 128 RX1 yX1_billOf wsX1_billOf) := goodIn_app (goodIn_of _ (by decide +kernel)) ggX1_bill_X1_billOf
theorem dX1_bill_0 : decode cX1_bill 0 = .ok (.aload_n 0, 1) := by decide +kernel
theorem dX1_bill_1 : decode cX1_bill 1 = .ok (.aload_n 0, 1) := by decide +kernel
theorem dX1_bill_2 : decode cX1_bill 2 = .ok (.iload_n 1, 1) := by decide +kernel
theorem dX1_bill_3 : decode cX1_bill 3 = .ok (.invokevirtual 105, 3) := by decide +kernel
theorem dX1_bill_6 : decode cX1_bill 6 = .ok (.iconst 1, 1) := by decide +kernel
theorem dX1_bill_7 : decode cX1_bill 7 = .ok (.iconst 1, 1) := by decide +kernel
theorem dX1_bill_8 : decode cX1_bill 8 = .ok (.invokevirtual 73, 3) := by decide +kernel
theorem dX1_bill_11 : decode cX1_bill 11 = .ok (.ifCond .eq 11, 3) := by decide +kernel
theorem dX1_bill_14 : decode cX1_bill 14 = .ok (.aload_n 0, 1) := by decide +kernel
theorem dX1_bill_15 : decode cX1_bill 15 = .ok (.iload_n 1, 1) := by decide +kernel
theorem dX1_bill_16 : decode cX1_bill 16 = .ok (.invokevirtual 128, 3) := by decide +kernel
theorem dX1_bill_19 : decode cX1_bill 19 = .ok (.goto 4, 3) := by decide +kernel
theorem dX1_bill_22 : decode cX1_bill 22 = .ok (.iconst 0, 1) := by decide +kernel
theorem dX1_bill_23 : decode cX1_bill 23 = .ok (.ireturn, 1) := by decide +kernel
set_option maxRecDepth 20000 in
theorem ggX1_billTo_X1_in : GoodIn wsX1_billTo wsX1_in := goodIn_r _ [6] (by decide +kernel) (by decide +kernel)
set_option maxRecDepth 20000 in
theorem gX1_billTo_X1_in : GoodIn wsX1_billTo (va_wsS RX1 63 yX1_in wsX1_in) := goodIn_app (goodIn_of _ (by decide +kernel)) ggX1_billTo_X1_in
set_option maxRecDepth 20000 in
theorem ggX1_billTo_X1_goes : GoodIn wsX1_billTo wsX1_goes := goodIn_r _ [10, 11, 21, 22, 23, 24, 25, 26, 27, 28, 29, 30, 31, 32, 33, 34, 35, 36, 37, 38, 39] (by decide +kernel) (by decide +kernel)
set_option maxRecDepth 20000 in
theorem gX1_billTo_X1_goes : GoodIn wsX1_billTo (wsV RX1 73 RX1 yX1_goes wsX1_goes) := goodIn_app (goodIn_of _ (by decide +kernel)) ggX1_billTo_X1_goes
set_option maxRecDepth 20000 in
theorem ggX1_billTo_X1_billOf : GoodIn wsX1_billTo wsX1_billOf := goodIn_r _ [15, 16, 17, 18, 19, 20, 21, 22, 23, 24, 25, 26, 27, 28, 29, 30, 31, 32, 33, 34, 35, 36, 37, 38, 39] (by decide +kernel) (by decide +kernel)
set_option maxRecDepth 20000 in
theorem gX1_billTo_X1_billOf : GoodIn wsX1_billTo (wsV RX1 128 RX1 yX1_billOf wsX1_billOf) := goodIn_app (goodIn_of _ (by decide +kernel)) ggX1_billTo_X1_billOf
theorem dX1_billTo_0 : decode cX1_billTo 0 = .ok (.iconst 0, 1) := by decide +kernel
theorem dX1_billTo_1 : decode cX1_billTo 1 = .ok (.istore_n 2, 1) := by decide +kernel
theorem dX1_billTo_2 : decode cX1_billTo 2 = .ok (.aload_n 0, 1) := by decide +kernel
theorem dX1_billTo_3 : decode cX1_billTo 3 = .ok (.iload_n 1, 1) := by decide +kernel
theorem dX1_billTo_4 : decode cX1_billTo 4 = .ok (.iconst 0, 1) := by decide +kernel
theorem dX1_billTo_5 : decode cX1_billTo 5 = .ok (.bipush 9, 2) := by decide +kernel
theorem dX1_billTo_7 : decode cX1_billTo 7 = .ok (.invokestatic 63, 3) := by decide +kernel
theorem dX1_billTo_10 : decode cX1_billTo 10 = .ok (.iconst 1, 1) := by decide +kernel
theorem dX1_billTo_11 : decode cX1_billTo 11 = .ok (.iconst 1, 1) := by decide +kernel
theorem dX1_billTo_12 : decode cX1_billTo 12 = .ok (.invokevirtual 73, 3) := by decide +kernel
theorem dX1_billTo_15 : decode cX1_billTo 15 = .ok (.istore_n 3, 1) := by decide +kernel
theorem dX1_billTo_16 : decode cX1_billTo 16 = .ok (.iconst 0, 1) := by decide +kernel
theorem dX1_billTo_17 : decode cX1_billTo 17 = .ok (.istore 4, 2) := by decide +kernel
theorem dX1_billTo_19 : decode cX1_billTo 19 = .ok (.iload 4, 2) := by decide +kernel
theorem dX1_billTo_21 : decode cX1_billTo 21 = .ok (.aload_n 0, 1) := by decide +kernel
theorem dX1_billTo_22 : decode cX1_billTo 22 = .ok (.getfield 67, 3) := by decide +kernel
theorem dX1_billTo_25 : decode cX1_billTo 25 = .ok (.if_icmp .ge 37, 3) := by decide +kernel
theorem dX1_billTo_28 : decode cX1_billTo 28 = .ok (.iload_n 3, 1) := by decide +kernel
theorem dX1_billTo_29 : decode cX1_billTo 29 = .ok (.ifCond .eq 33, 3) := by decide +kernel
theorem dX1_billTo_32 : decode cX1_billTo 32 = .ok (.iload_n 2, 1) := by decide +kernel
theorem dX1_billTo_33 : decode cX1_billTo 33 = .ok (.aload_n 0, 1) := by decide +kernel
theorem dX1_billTo_34 : decode cX1_billTo 34 = .ok (.getfield 20, 3) := by decide +kernel
theorem dX1_billTo_37 : decode cX1_billTo 37 = .ok (.iload 4, 2) := by decide +kernel
theorem dX1_billTo_39 : decode cX1_billTo 39 = .ok (.iaload, 1) := by decide +kernel
theorem dX1_billTo_40 : decode cX1_billTo 40 = .ok (.iload_n 1, 1) := by decide +kernel
theorem dX1_billTo_41 : decode cX1_billTo 41 = .ok (.if_icmp .ne 12, 3) := by decide +kernel
theorem dX1_billTo_44 : decode cX1_billTo 44 = .ok (.aload_n 0, 1) := by decide +kernel
theorem dX1_billTo_45 : decode cX1_billTo 45 = .ok (.iload 4, 2) := by decide +kernel
theorem dX1_billTo_47 : decode cX1_billTo 47 = .ok (.invokevirtual 128, 3) := by decide +kernel
theorem dX1_billTo_50 : decode cX1_billTo 50 = .ok (.goto 4, 3) := by decide +kernel
theorem dX1_billTo_53 : decode cX1_billTo 53 = .ok (.iconst 0, 1) := by decide +kernel
theorem dX1_billTo_54 : decode cX1_billTo 54 = .ok (.iadd, 1) := by decide +kernel
theorem dX1_billTo_55 : decode cX1_billTo 55 = .ok (.istore_n 2, 1) := by decide +kernel
theorem dX1_billTo_56 : decode cX1_billTo 56 = .ok (.iinc 4 1, 3) := by decide +kernel
theorem dX1_billTo_59 : decode cX1_billTo 59 = .ok (.goto (-40), 3) := by decide +kernel
theorem dX1_billTo_62 : decode cX1_billTo 62 = .ok (.iload_n 2, 1) := by decide +kernel
theorem dX1_billTo_63 : decode cX1_billTo 63 = .ok (.ireturn, 1) := by decide +kernel
set_option maxRecDepth 20000 in
theorem ggX1_mostOwed_X1_left : GoodIn wsX1_mostOwed wsX1_left := goodIn_r _ [6, 7, 8, 9, 5, 10, 11, 12, 13, 14, 15, 16, 17, 18, 19, 20, 21, 22, 23, 24, 25, 26, 27, 33, 34, 35, 36, 37, 38, 39, 40, 41, 42, 43, 44, 45, 46, 47, 48, 49, 50, 51] (by decide +kernel) (by decide +kernel)
set_option maxRecDepth 20000 in
theorem gX1_mostOwed_X1_left : GoodIn wsX1_mostOwed (wsV RX1 119 RX1 yX1_left wsX1_left) := goodIn_app (goodIn_of _ (by decide +kernel)) ggX1_mostOwed_X1_left
set_option maxRecDepth 20000 in
theorem ggX1_mostOwed_X1_told : GoodIn wsX1_mostOwed wsX1_told := goodIn_r _ [31, 32, 33, 34, 35, 36, 37, 38, 39, 40, 41, 42, 43, 44, 45, 46, 47, 48, 49, 50, 51] (by decide +kernel) (by decide +kernel)
set_option maxRecDepth 20000 in
theorem gX1_mostOwed_X1_told : GoodIn wsX1_mostOwed (wsV RX1 82 RX1 yX1_told wsX1_told) := goodIn_app (goodIn_of _ (by decide +kernel)) ggX1_mostOwed_X1_told
theorem dX1_mostOwed_0 : decode cX1_mostOwed 0 = .ok (.iconst (-1), 1) := by decide +kernel
theorem dX1_mostOwed_1 : decode cX1_mostOwed 1 = .ok (.istore_n 1, 1) := by decide +kernel
theorem dX1_mostOwed_2 : decode cX1_mostOwed 2 = .ok (.iconst 0, 1) := by decide +kernel
theorem dX1_mostOwed_3 : decode cX1_mostOwed 3 = .ok (.istore_n 2, 1) := by decide +kernel
theorem dX1_mostOwed_4 : decode cX1_mostOwed 4 = .ok (.iconst 0, 1) := by decide +kernel
theorem dX1_mostOwed_5 : decode cX1_mostOwed 5 = .ok (.istore_n 3, 1) := by decide +kernel
theorem dX1_mostOwed_6 : decode cX1_mostOwed 6 = .ok (.iload_n 3, 1) := by decide +kernel
theorem dX1_mostOwed_7 : decode cX1_mostOwed 7 = .ok (.aload_n 0, 1) := by decide +kernel
theorem dX1_mostOwed_8 : decode cX1_mostOwed 8 = .ok (.getfield 67, 3) := by decide +kernel
theorem dX1_mostOwed_11 : decode cX1_mostOwed 11 = .ok (.if_icmp .ge 41, 3) := by decide +kernel
theorem dX1_mostOwed_14 : decode cX1_mostOwed 14 = .ok (.aload_n 0, 1) := by decide +kernel
theorem dX1_mostOwed_15 : decode cX1_mostOwed 15 = .ok (.iload_n 3, 1) := by decide +kernel
theorem dX1_mostOwed_16 : decode cX1_mostOwed 16 = .ok (.invokevirtual 119, 3) := by decide +kernel
theorem dX1_mostOwed_19 : decode cX1_mostOwed 19 = .ok (.istore 4, 2) := by decide +kernel
theorem dX1_mostOwed_21 : decode cX1_mostOwed 21 = .ok (.iload 4, 2) := by decide +kernel
theorem dX1_mostOwed_23 : decode cX1_mostOwed 23 = .ok (.iload_n 2, 1) := by decide +kernel
theorem dX1_mostOwed_24 : decode cX1_mostOwed 24 = .ok (.if_icmp .le 7, 3) := by decide +kernel
theorem dX1_mostOwed_27 : decode cX1_mostOwed 27 = .ok (.iload_n 3, 1) := by decide +kernel
theorem dX1_mostOwed_28 : decode cX1_mostOwed 28 = .ok (.goto 4, 3) := by decide +kernel
theorem dX1_mostOwed_31 : decode cX1_mostOwed 31 = .ok (.iload_n 1, 1) := by decide +kernel
theorem dX1_mostOwed_32 : decode cX1_mostOwed 32 = .ok (.istore_n 1, 1) := by decide +kernel
theorem dX1_mostOwed_33 : decode cX1_mostOwed 33 = .ok (.iload 4, 2) := by decide +kernel
theorem dX1_mostOwed_35 : decode cX1_mostOwed 35 = .ok (.iload_n 2, 1) := by decide +kernel
theorem dX1_mostOwed_36 : decode cX1_mostOwed 36 = .ok (.if_icmp .le 8, 3) := by decide +kernel
theorem dX1_mostOwed_39 : decode cX1_mostOwed 39 = .ok (.iload 4, 2) := by decide +kernel
theorem dX1_mostOwed_41 : decode cX1_mostOwed 41 = .ok (.goto 4, 3) := by decide +kernel
theorem dX1_mostOwed_44 : decode cX1_mostOwed 44 = .ok (.iload_n 2, 1) := by decide +kernel
theorem dX1_mostOwed_45 : decode cX1_mostOwed 45 = .ok (.istore_n 2, 1) := by decide +kernel
theorem dX1_mostOwed_46 : decode cX1_mostOwed 46 = .ok (.iinc 3 1, 3) := by decide +kernel
theorem dX1_mostOwed_49 : decode cX1_mostOwed 49 = .ok (.goto (-43), 3) := by decide +kernel
theorem dX1_mostOwed_52 : decode cX1_mostOwed 52 = .ok (.aload_n 0, 1) := by decide +kernel
theorem dX1_mostOwed_53 : decode cX1_mostOwed 53 = .ok (.iload_n 1, 1) := by decide +kernel
theorem dX1_mostOwed_54 : decode cX1_mostOwed 54 = .ok (.invokevirtual 82, 3) := by decide +kernel
theorem dX1_mostOwed_57 : decode cX1_mostOwed 57 = .ok (.ireturn, 1) := by decide +kernel
theorem dJ9_max_7cf53_0 : decode cJ9_max_7cf53 0 = .ok (.iload_n 0, 1) := by decide +kernel
theorem dJ9_max_7cf53_1 : decode cJ9_max_7cf53 1 = .ok (.iload_n 1, 1) := by decide +kernel
theorem dJ9_max_7cf53_2 : decode cJ9_max_7cf53 2 = .ok (.if_icmp .lt 7, 3) := by decide +kernel
theorem dJ9_max_7cf53_5 : decode cJ9_max_7cf53 5 = .ok (.iload_n 0, 1) := by decide +kernel
theorem dJ9_max_7cf53_6 : decode cJ9_max_7cf53 6 = .ok (.goto 4, 3) := by decide +kernel
theorem dJ9_max_7cf53_9 : decode cJ9_max_7cf53 9 = .ok (.iload_n 1, 1) := by decide +kernel
theorem dJ9_max_7cf53_10 : decode cJ9_max_7cf53 10 = .ok (.ireturn, 1) := by decide +kernel
end
section
set_option maxRecDepth 20000 in
theorem ggL_addBreak_X0_addBreak : GoodIn wsL_addBreak wsX0_addBreak := goodIn_ca (goodIn_ca (goodIn_r _ [7, 8, 9, 10, 11, 6, 12, 13, 14, 15, 16, 17, 18, 19, 20, 21, 22, 23, 24, 25, 26, 27, 28, 29, 30, 31, 32, 33, 34, 35, 36, 37, 38, 39, 40] (by decide +kernel) (by decide +kernel)) (goodIn_sub (fun _ h => List.mem_cons_of_mem _ (List.mem_append_left _ (List.mem_append_right _ h))) (by decide +kernel))) (goodIn_sub (fun _ h => List.mem_cons_of_mem _ (List.mem_append_right _ h)) (by decide +kernel))
set_option maxRecDepth 20000 in
theorem gL_addBreak_X0_addBreak : GoodIn wsL_addBreak (wsV RL 7 RX0 yX0_addBreak wsX0_addBreak) := goodIn_app (goodIn_of _ (by decide +kernel)) ggL_addBreak_X0_addBreak
theorem dL_addBreak_0 : decode cL_addBreak 0 = .ok (.aload_n 2, 1) := by decide +kernel
theorem dL_addBreak_1 : decode cL_addBreak 1 = .ok (.iconst 0, 1) := by decide +kernel
theorem dL_addBreak_2 : decode cL_addBreak 2 = .ok (.aload_n 0, 1) := by decide +kernel
theorem dL_addBreak_3 : decode cL_addBreak 3 = .ok (.iload_n 1, 1) := by decide +kernel
theorem dL_addBreak_4 : decode cL_addBreak 4 = .ok (.invokevirtual 7, 3) := by decide +kernel
theorem dL_addBreak_7 : decode cL_addBreak 7 = .ok (.i2l, 1) := by decide +kernel
theorem dL_addBreak_8 : decode cL_addBreak 8 = .ok (.lastore, 1) := by decide +kernel
theorem dL_addBreak_9 : decode cL_addBreak 9 = .ok (.goto 9, 3) := by decide +kernel
theorem dL_addBreak_12 : decode cL_addBreak 12 = .ok (.astore_n 3, 1) := by decide +kernel
theorem dL_addBreak_13 : decode cL_addBreak 13 = .ok (.iconst 1, 1) := by decide +kernel
theorem dL_addBreak_14 : decode cL_addBreak 14 = .ok (.ireturn, 1) := by decide +kernel
theorem dL_addBreak_15 : decode cL_addBreak 15 = .ok (.astore_n 3, 1) := by decide +kernel
theorem dL_addBreak_16 : decode cL_addBreak 16 = .ok (.iconst 2, 1) := by decide +kernel
theorem dL_addBreak_17 : decode cL_addBreak 17 = .ok (.ireturn, 1) := by decide +kernel
theorem dL_addBreak_18 : decode cL_addBreak 18 = .ok (.iconst 0, 1) := by decide +kernel
theorem dL_addBreak_19 : decode cL_addBreak 19 = .ok (.ireturn, 1) := by decide +kernel
set_option maxRecDepth 20000 in
theorem ggL_rate_X0_rate : GoodIn wsL_rate wsX0_rate := goodIn_ca (goodIn_ca (goodIn_r _ [7, 8, 9, 10, 11, 12, 6, 13, 14, 15, 16, 17, 18, 19, 20, 21, 22, 23, 24, 25, 26, 27, 28, 29, 30, 31, 32, 33, 34, 35, 36, 37, 38, 39, 40, 41, 42, 43, 44, 45, 46, 47, 48, 49, 50, 51] (by decide +kernel) (by decide +kernel)) (goodIn_sub (fun _ h => List.mem_cons_of_mem _ (List.mem_append_left _ (List.mem_append_right _ h))) (by decide +kernel))) (goodIn_sub (fun _ h => List.mem_cons_of_mem _ (List.mem_append_right _ h)) (by decide +kernel))
set_option maxRecDepth 20000 in
theorem gL_rate_X0_rate : GoodIn wsL_rate (wsV RL 17 RX0 yX0_rate wsX0_rate) := goodIn_app (goodIn_of _ (by decide +kernel)) ggL_rate_X0_rate
theorem dL_rate_0 : decode cL_rate 0 = .ok (.aload 4, 2) := by decide +kernel
theorem dL_rate_2 : decode cL_rate 2 = .ok (.iconst 0, 1) := by decide +kernel
theorem dL_rate_3 : decode cL_rate 3 = .ok (.aload_n 0, 1) := by decide +kernel
theorem dL_rate_4 : decode cL_rate 4 = .ok (.iload_n 1, 1) := by decide +kernel
theorem dL_rate_5 : decode cL_rate 5 = .ok (.iload_n 2, 1) := by decide +kernel
theorem dL_rate_6 : decode cL_rate 6 = .ok (.iload_n 3, 1) := by decide +kernel
theorem dL_rate_7 : decode cL_rate 7 = .ok (.invokevirtual 17, 3) := by decide +kernel
theorem dL_rate_10 : decode cL_rate 10 = .ok (.i2l, 1) := by decide +kernel
theorem dL_rate_11 : decode cL_rate 11 = .ok (.lastore, 1) := by decide +kernel
theorem dL_rate_12 : decode cL_rate 12 = .ok (.goto 11, 3) := by decide +kernel
theorem dL_rate_15 : decode cL_rate 15 = .ok (.astore 5, 2) := by decide +kernel
theorem dL_rate_17 : decode cL_rate 17 = .ok (.iconst 1, 1) := by decide +kernel
theorem dL_rate_18 : decode cL_rate 18 = .ok (.ireturn, 1) := by decide +kernel
theorem dL_rate_19 : decode cL_rate 19 = .ok (.astore 5, 2) := by decide +kernel
theorem dL_rate_21 : decode cL_rate 21 = .ok (.iconst 2, 1) := by decide +kernel
theorem dL_rate_22 : decode cL_rate 22 = .ok (.ireturn, 1) := by decide +kernel
theorem dL_rate_23 : decode cL_rate 23 = .ok (.iconst 0, 1) := by decide +kernel
theorem dL_rate_24 : decode cL_rate 24 = .ok (.ireturn, 1) := by decide +kernel
set_option maxRecDepth 20000 in
theorem ggL_air_X0_air : GoodIn wsL_air wsX0_air := goodIn_ca (goodIn_ca (goodIn_r _ [7, 8, 9, 10, 11, 12, 13, 14, 6, 15, 16, 17, 18, 19, 20, 21, 22, 23, 24, 25, 26, 27, 28, 29, 30, 31, 32, 33, 34, 35, 36, 37, 38, 39, 40, 41, 42, 43, 44] (by decide +kernel) (by decide +kernel)) (goodIn_sub (fun _ h => List.mem_cons_of_mem _ (List.mem_append_left _ (List.mem_append_right _ h))) (by decide +kernel))) (goodIn_sub (fun _ h => List.mem_cons_of_mem _ (List.mem_append_right _ h)) (by decide +kernel))
set_option maxRecDepth 20000 in
theorem gL_air_X0_air : GoodIn wsL_air (wsV RL 23 RX0 yX0_air wsX0_air) := goodIn_app (goodIn_of _ (by decide +kernel)) ggL_air_X0_air
theorem dL_air_0 : decode cL_air 0 = .ok (.aload_n 2, 1) := by decide +kernel
theorem dL_air_1 : decode cL_air 1 = .ok (.iconst 0, 1) := by decide +kernel
theorem dL_air_2 : decode cL_air 2 = .ok (.aload_n 0, 1) := by decide +kernel
theorem dL_air_3 : decode cL_air 3 = .ok (.iload_n 1, 1) := by decide +kernel
theorem dL_air_4 : decode cL_air 4 = .ok (.invokevirtual 23, 3) := by decide +kernel
theorem dL_air_7 : decode cL_air 7 = .ok (.i2l, 1) := by decide +kernel
theorem dL_air_8 : decode cL_air 8 = .ok (.lastore, 1) := by decide +kernel
theorem dL_air_9 : decode cL_air 9 = .ok (.goto 9, 3) := by decide +kernel
theorem dL_air_12 : decode cL_air 12 = .ok (.astore_n 3, 1) := by decide +kernel
theorem dL_air_13 : decode cL_air 13 = .ok (.iconst 1, 1) := by decide +kernel
theorem dL_air_14 : decode cL_air 14 = .ok (.ireturn, 1) := by decide +kernel
theorem dL_air_15 : decode cL_air 15 = .ok (.astore_n 3, 1) := by decide +kernel
theorem dL_air_16 : decode cL_air 16 = .ok (.iconst 2, 1) := by decide +kernel
theorem dL_air_17 : decode cL_air 17 = .ok (.ireturn, 1) := by decide +kernel
theorem dL_air_18 : decode cL_air 18 = .ok (.iconst 0, 1) := by decide +kernel
theorem dL_air_19 : decode cL_air 19 = .ok (.ireturn, 1) := by decide +kernel
set_option maxRecDepth 20000 in
theorem ggL_isAired_X0_isAired : GoodIn wsL_isAired wsX0_isAired := goodIn_ca (goodIn_r _ [6, 7, 8, 9, 10, 5, 11, 12, 13, 14, 15, 16, 17, 18, 19, 20, 21, 22, 23, 24, 25, 26, 27, 28, 29, 30, 31, 32, 33, 34, 35] (by decide +kernel) (by decide +kernel)) (goodIn_sub (fun _ h => List.mem_cons_of_mem _ (List.mem_append_right _ h)) (by decide +kernel))
set_option maxRecDepth 20000 in
theorem gL_isAired_X0_isAired : GoodIn wsL_isAired (wsV RL 26 RX0 yX0_isAired wsX0_isAired) := goodIn_app (goodIn_of _ (by decide +kernel)) ggL_isAired_X0_isAired
theorem dL_isAired_0 : decode cL_isAired 0 = .ok (.aload_n 2, 1) := by decide +kernel
theorem dL_isAired_1 : decode cL_isAired 1 = .ok (.iconst 0, 1) := by decide +kernel
theorem dL_isAired_2 : decode cL_isAired 2 = .ok (.aload_n 0, 1) := by decide +kernel
theorem dL_isAired_3 : decode cL_isAired 3 = .ok (.iload_n 1, 1) := by decide +kernel
theorem dL_isAired_4 : decode cL_isAired 4 = .ok (.invokevirtual 26, 3) := by decide +kernel
theorem dL_isAired_7 : decode cL_isAired 7 = .ok (.ifCond .eq 7, 3) := by decide +kernel
theorem dL_isAired_10 : decode cL_isAired 10 = .ok (.lconst 1, 1) := by decide +kernel
theorem dL_isAired_11 : decode cL_isAired 11 = .ok (.goto 4, 3) := by decide +kernel
theorem dL_isAired_14 : decode cL_isAired 14 = .ok (.lconst 0, 1) := by decide +kernel
theorem dL_isAired_15 : decode cL_isAired 15 = .ok (.lastore, 1) := by decide +kernel
theorem dL_isAired_16 : decode cL_isAired 16 = .ok (.goto 6, 3) := by decide +kernel
theorem dL_isAired_19 : decode cL_isAired 19 = .ok (.astore_n 3, 1) := by decide +kernel
theorem dL_isAired_20 : decode cL_isAired 20 = .ok (.iconst 1, 1) := by decide +kernel
theorem dL_isAired_21 : decode cL_isAired 21 = .ok (.ireturn, 1) := by decide +kernel
theorem dL_isAired_22 : decode cL_isAired 22 = .ok (.iconst 0, 1) := by decide +kernel
theorem dL_isAired_23 : decode cL_isAired 23 = .ok (.ireturn, 1) := by decide +kernel
set_option maxRecDepth 20000 in
theorem ggL_room_X0_room : GoodIn wsL_room wsX0_room := goodIn_ca (goodIn_r _ [6, 7, 8, 9, 5, 10, 11, 12, 13, 14, 15, 16, 17, 18, 19, 20, 21, 22, 23, 24, 25, 26, 27, 28, 29, 30, 31, 32, 33, 34, 35, 36, 37, 38, 39, 40, 41, 42, 43, 44, 45, 46, 47, 48] (by decide +kernel) (by decide +kernel)) (goodIn_sub (fun _ h => List.mem_cons_of_mem _ (List.mem_append_right _ h)) (by decide +kernel))
set_option maxRecDepth 20000 in
theorem gL_room_X0_room : GoodIn wsL_room (wsV RL 30 RX0 yX0_room wsX0_room) := goodIn_app (goodIn_of _ (by decide +kernel)) ggL_room_X0_room
theorem dL_room_0 : decode cL_room 0 = .ok (.aload_n 2, 1) := by decide +kernel
theorem dL_room_1 : decode cL_room 1 = .ok (.iconst 0, 1) := by decide +kernel
theorem dL_room_2 : decode cL_room 2 = .ok (.aload_n 0, 1) := by decide +kernel
theorem dL_room_3 : decode cL_room 3 = .ok (.iload_n 1, 1) := by decide +kernel
theorem dL_room_4 : decode cL_room 4 = .ok (.invokevirtual 30, 3) := by decide +kernel
theorem dL_room_7 : decode cL_room 7 = .ok (.i2l, 1) := by decide +kernel
theorem dL_room_8 : decode cL_room 8 = .ok (.lastore, 1) := by decide +kernel
theorem dL_room_9 : decode cL_room 9 = .ok (.goto 6, 3) := by decide +kernel
theorem dL_room_12 : decode cL_room 12 = .ok (.astore_n 3, 1) := by decide +kernel
theorem dL_room_13 : decode cL_room 13 = .ok (.iconst 1, 1) := by decide +kernel
theorem dL_room_14 : decode cL_room 14 = .ok (.ireturn, 1) := by decide +kernel
theorem dL_room_15 : decode cL_room 15 = .ok (.iconst 0, 1) := by decide +kernel
theorem dL_room_16 : decode cL_room 16 = .ok (.ireturn, 1) := by decide +kernel
set_option maxRecDepth 20000 in
theorem ggL_rating_X0_rating : GoodIn wsL_rating wsX0_rating := goodIn_ca (goodIn_ca (goodIn_r _ [7, 8, 9, 10, 11, 6, 12, 13, 14, 15, 16, 17, 18, 19, 20, 21, 22, 23, 24, 25, 26, 27, 28, 29, 30, 31, 32, 33, 34, 35, 36, 37, 38, 39, 40, 41, 42, 43, 44, 45, 46, 47, 48, 49, 50] (by decide +kernel) (by decide +kernel)) (goodIn_sub (fun _ h => List.mem_cons_of_mem _ (List.mem_append_left _ (List.mem_append_right _ h))) (by decide +kernel))) (goodIn_sub (fun _ h => List.mem_cons_of_mem _ (List.mem_append_right _ h)) (by decide +kernel))
set_option maxRecDepth 20000 in
theorem gL_rating_X0_rating : GoodIn wsL_rating (wsV RL 33 RX0 yX0_rating wsX0_rating) := goodIn_app (goodIn_of _ (by decide +kernel)) ggL_rating_X0_rating
theorem dL_rating_0 : decode cL_rating 0 = .ok (.aload_n 3, 1) := by decide +kernel
theorem dL_rating_1 : decode cL_rating 1 = .ok (.iconst 0, 1) := by decide +kernel
theorem dL_rating_2 : decode cL_rating 2 = .ok (.aload_n 0, 1) := by decide +kernel
theorem dL_rating_3 : decode cL_rating 3 = .ok (.iload_n 1, 1) := by decide +kernel
theorem dL_rating_4 : decode cL_rating 4 = .ok (.iload_n 2, 1) := by decide +kernel
theorem dL_rating_5 : decode cL_rating 5 = .ok (.invokevirtual 33, 3) := by decide +kernel
theorem dL_rating_8 : decode cL_rating 8 = .ok (.i2l, 1) := by decide +kernel
theorem dL_rating_9 : decode cL_rating 9 = .ok (.lastore, 1) := by decide +kernel
theorem dL_rating_10 : decode cL_rating 10 = .ok (.goto 11, 3) := by decide +kernel
theorem dL_rating_13 : decode cL_rating 13 = .ok (.astore 4, 2) := by decide +kernel
theorem dL_rating_15 : decode cL_rating 15 = .ok (.iconst 1, 1) := by decide +kernel
theorem dL_rating_16 : decode cL_rating 16 = .ok (.ireturn, 1) := by decide +kernel
theorem dL_rating_17 : decode cL_rating 17 = .ok (.astore 4, 2) := by decide +kernel
theorem dL_rating_19 : decode cL_rating 19 = .ok (.iconst 2, 1) := by decide +kernel
theorem dL_rating_20 : decode cL_rating 20 = .ok (.ireturn, 1) := by decide +kernel
theorem dL_rating_21 : decode cL_rating 21 = .ok (.iconst 0, 1) := by decide +kernel
theorem dL_rating_22 : decode cL_rating 22 = .ok (.ireturn, 1) := by decide +kernel
set_option maxRecDepth 20000 in
theorem ggL_addOrder_X0_addOrder : GoodIn wsL_addOrder wsX0_addOrder := goodIn_ca (goodIn_ca (goodIn_r _ [7, 8, 9, 10, 11, 12, 13, 14, 15, 16, 17, 18, 19, 6, 20, 21, 22, 23, 24, 25, 26, 27, 28, 29, 30, 31, 32, 33, 34, 35, 36, 37, 38, 39, 40, 41, 42, 43, 44, 45, 46, 47, 48, 49, 50, 51, 52, 53, 54, 55, 56, 57] (by decide +kernel) (by decide +kernel)) (goodIn_sub (fun _ h => List.mem_cons_of_mem _ (List.mem_append_left _ (List.mem_append_right _ h))) (by decide +kernel))) (goodIn_sub (fun _ h => List.mem_cons_of_mem _ (List.mem_append_right _ h)) (by decide +kernel))
set_option maxRecDepth 20000 in
theorem gL_addOrder_X0_addOrder : GoodIn wsL_addOrder (wsV RL 37 RX0 yX0_addOrder wsX0_addOrder) := goodIn_app (goodIn_of _ (by decide +kernel)) ggL_addOrder_X0_addOrder
theorem dL_addOrder_0 : decode cL_addOrder 0 = .ok (.aload 8, 2) := by decide +kernel
theorem dL_addOrder_2 : decode cL_addOrder 2 = .ok (.iconst 0, 1) := by decide +kernel
theorem dL_addOrder_3 : decode cL_addOrder 3 = .ok (.aload_n 0, 1) := by decide +kernel
theorem dL_addOrder_4 : decode cL_addOrder 4 = .ok (.iload_n 1, 1) := by decide +kernel
theorem dL_addOrder_5 : decode cL_addOrder 5 = .ok (.iload_n 2, 1) := by decide +kernel
theorem dL_addOrder_6 : decode cL_addOrder 6 = .ok (.iload_n 3, 1) := by decide +kernel
theorem dL_addOrder_7 : decode cL_addOrder 7 = .ok (.iload 4, 2) := by decide +kernel
theorem dL_addOrder_9 : decode cL_addOrder 9 = .ok (.iload 5, 2) := by decide +kernel
theorem dL_addOrder_11 : decode cL_addOrder 11 = .ok (.iload 6, 2) := by decide +kernel
theorem dL_addOrder_13 : decode cL_addOrder 13 = .ok (.iload 7, 2) := by decide +kernel
theorem dL_addOrder_15 : decode cL_addOrder 15 = .ok (.invokevirtual 37, 3) := by decide +kernel
theorem dL_addOrder_18 : decode cL_addOrder 18 = .ok (.i2l, 1) := by decide +kernel
theorem dL_addOrder_19 : decode cL_addOrder 19 = .ok (.lastore, 1) := by decide +kernel
theorem dL_addOrder_20 : decode cL_addOrder 20 = .ok (.goto 11, 3) := by decide +kernel
theorem dL_addOrder_23 : decode cL_addOrder 23 = .ok (.astore 9, 2) := by decide +kernel
theorem dL_addOrder_25 : decode cL_addOrder 25 = .ok (.iconst 1, 1) := by decide +kernel
theorem dL_addOrder_26 : decode cL_addOrder 26 = .ok (.ireturn, 1) := by decide +kernel
theorem dL_addOrder_27 : decode cL_addOrder 27 = .ok (.astore 9, 2) := by decide +kernel
theorem dL_addOrder_29 : decode cL_addOrder 29 = .ok (.iconst 2, 1) := by decide +kernel
theorem dL_addOrder_30 : decode cL_addOrder 30 = .ok (.ireturn, 1) := by decide +kernel
theorem dL_addOrder_31 : decode cL_addOrder 31 = .ok (.iconst 0, 1) := by decide +kernel
theorem dL_addOrder_32 : decode cL_addOrder 32 = .ok (.ireturn, 1) := by decide +kernel
set_option maxRecDepth 20000 in
theorem ggL_close_X0_close : GoodIn wsL_close wsX0_close := goodIn_ca (goodIn_ca (goodIn_r _ [7, 8, 9, 10, 11, 12, 13, 14, 6, 15, 16, 17, 18, 19, 20, 21, 22, 23, 24, 25, 26, 27, 28, 29, 30, 31, 32, 33, 34, 35, 36, 37, 38, 39, 40, 41, 42, 43, 44, 45, 46, 47, 48, 49, 50, 51, 52, 53, 54, 55, 56, 57, 58, 59, 60, 61, 62, 63, 64, 65, 66, 67] (by decide +kernel) (by decide +kernel)) (goodIn_sub (fun _ h => List.mem_cons_of_mem _ (List.mem_append_left _ (List.mem_append_right _ h))) (by decide +kernel))) (goodIn_sub (fun _ h => List.mem_cons_of_mem _ (List.mem_append_right _ h)) (by decide +kernel))
set_option maxRecDepth 20000 in
theorem gL_close_X0_close : GoodIn wsL_close (wsV RL 41 RX0 yX0_close wsX0_close) := goodIn_app (goodIn_of _ (by decide +kernel)) ggL_close_X0_close
theorem dL_close_0 : decode cL_close 0 = .ok (.aload_n 2, 1) := by decide +kernel
theorem dL_close_1 : decode cL_close 1 = .ok (.iconst 0, 1) := by decide +kernel
theorem dL_close_2 : decode cL_close 2 = .ok (.aload_n 0, 1) := by decide +kernel
theorem dL_close_3 : decode cL_close 3 = .ok (.iload_n 1, 1) := by decide +kernel
theorem dL_close_4 : decode cL_close 4 = .ok (.invokevirtual 41, 3) := by decide +kernel
theorem dL_close_7 : decode cL_close 7 = .ok (.i2l, 1) := by decide +kernel
theorem dL_close_8 : decode cL_close 8 = .ok (.lastore, 1) := by decide +kernel
theorem dL_close_9 : decode cL_close 9 = .ok (.goto 9, 3) := by decide +kernel
theorem dL_close_12 : decode cL_close 12 = .ok (.astore_n 3, 1) := by decide +kernel
theorem dL_close_13 : decode cL_close 13 = .ok (.iconst 1, 1) := by decide +kernel
theorem dL_close_14 : decode cL_close 14 = .ok (.ireturn, 1) := by decide +kernel
theorem dL_close_15 : decode cL_close 15 = .ok (.astore_n 3, 1) := by decide +kernel
theorem dL_close_16 : decode cL_close 16 = .ok (.iconst 2, 1) := by decide +kernel
theorem dL_close_17 : decode cL_close 17 = .ok (.ireturn, 1) := by decide +kernel
theorem dL_close_18 : decode cL_close 18 = .ok (.iconst 0, 1) := by decide +kernel
theorem dL_close_19 : decode cL_close 19 = .ok (.ireturn, 1) := by decide +kernel
set_option maxRecDepth 20000 in
theorem ggL_whyNot_X0_whyNot : GoodIn wsL_whyNot wsX0_whyNot := goodIn_ca (goodIn_r _ [6, 7, 8, 9, 5, 10, 11, 12, 13, 14, 15, 16, 17, 18, 19, 20, 21, 22, 23, 24, 25, 26, 27, 28, 29, 30, 31, 32, 33, 34, 35, 36, 37, 38, 39, 40, 41, 42, 43, 44, 45, 46, 47, 48, 49, 50, 51, 52, 53, 54, 55, 56, 57, 58, 59, 60, 61, 62, 63, 64, 65, 66, 67, 68, 69, 70, 71, 72, 73, 74, 75, 76, 77, 78, 79, 80, 81, 82] (by decide +kernel) (by decide +kernel)) (goodIn_sub (fun _ h => List.mem_cons_of_mem _ (List.mem_append_right _ h)) (by decide +kernel))
set_option maxRecDepth 20000 in
theorem gL_whyNot_X0_whyNot : GoodIn wsL_whyNot (wsV RL 44 RX0 yX0_whyNot wsX0_whyNot) := goodIn_app (goodIn_of _ (by decide +kernel)) ggL_whyNot_X0_whyNot
theorem dL_whyNot_0 : decode cL_whyNot 0 = .ok (.aload_n 3, 1) := by decide +kernel
theorem dL_whyNot_1 : decode cL_whyNot 1 = .ok (.iconst 0, 1) := by decide +kernel
theorem dL_whyNot_2 : decode cL_whyNot 2 = .ok (.aload_n 0, 1) := by decide +kernel
theorem dL_whyNot_3 : decode cL_whyNot 3 = .ok (.iload_n 1, 1) := by decide +kernel
theorem dL_whyNot_4 : decode cL_whyNot 4 = .ok (.iload_n 2, 1) := by decide +kernel
theorem dL_whyNot_5 : decode cL_whyNot 5 = .ok (.invokevirtual 44, 3) := by decide +kernel
theorem dL_whyNot_8 : decode cL_whyNot 8 = .ok (.i2l, 1) := by decide +kernel
theorem dL_whyNot_9 : decode cL_whyNot 9 = .ok (.lastore, 1) := by decide +kernel
theorem dL_whyNot_10 : decode cL_whyNot 10 = .ok (.goto 7, 3) := by decide +kernel
theorem dL_whyNot_13 : decode cL_whyNot 13 = .ok (.astore 4, 2) := by decide +kernel
theorem dL_whyNot_15 : decode cL_whyNot 15 = .ok (.iconst 1, 1) := by decide +kernel
theorem dL_whyNot_16 : decode cL_whyNot 16 = .ok (.ireturn, 1) := by decide +kernel
theorem dL_whyNot_17 : decode cL_whyNot 17 = .ok (.iconst 0, 1) := by decide +kernel
theorem dL_whyNot_18 : decode cL_whyNot 18 = .ok (.ireturn, 1) := by decide +kernel
set_option maxRecDepth 20000 in
theorem ggL_place_X0_place : GoodIn wsL_place wsX0_place := goodIn_ca (goodIn_ca (goodIn_r _ [7, 8, 9, 10, 11, 12, 6, 13, 14, 15, 16, 17, 18, 19, 20, 21, 22, 23, 24, 25, 26, 27, 28, 29, 30, 31, 32, 33, 34, 35, 36, 37, 38, 39, 40, 41, 42, 43, 44, 45, 46, 47, 48, 49, 50, 51, 52, 53, 54, 55, 56, 57, 58, 59, 60, 61, 62, 63, 64, 65, 66, 67, 68, 69, 70, 71, 72, 73, 74, 75, 76, 77, 78, 79, 80, 81, 82, 83, 84, 85, 86, 87, 88, 89, 90, 91, 92, 93, 94] (by decide +kernel) (by decide +kernel)) (goodIn_sub (fun _ h => List.mem_cons_of_mem _ (List.mem_append_left _ (List.mem_append_right _ h))) (by decide +kernel))) (goodIn_sub (fun _ h => List.mem_cons_of_mem _ (List.mem_append_right _ h)) (by decide +kernel))
set_option maxRecDepth 20000 in
theorem gL_place_X0_place : GoodIn wsL_place (wsV RL 47 RX0 yX0_place wsX0_place) := goodIn_app (goodIn_of _ (by decide +kernel)) ggL_place_X0_place
theorem dL_place_0 : decode cL_place 0 = .ok (.aload_n 3, 1) := by decide +kernel
theorem dL_place_1 : decode cL_place 1 = .ok (.iconst 0, 1) := by decide +kernel
theorem dL_place_2 : decode cL_place 2 = .ok (.aload_n 0, 1) := by decide +kernel
theorem dL_place_3 : decode cL_place 3 = .ok (.iload_n 1, 1) := by decide +kernel
theorem dL_place_4 : decode cL_place 4 = .ok (.iload_n 2, 1) := by decide +kernel
theorem dL_place_5 : decode cL_place 5 = .ok (.invokevirtual 47, 3) := by decide +kernel
theorem dL_place_8 : decode cL_place 8 = .ok (.i2l, 1) := by decide +kernel
theorem dL_place_9 : decode cL_place 9 = .ok (.lastore, 1) := by decide +kernel
theorem dL_place_10 : decode cL_place 10 = .ok (.goto 11, 3) := by decide +kernel
theorem dL_place_13 : decode cL_place 13 = .ok (.astore 4, 2) := by decide +kernel
theorem dL_place_15 : decode cL_place 15 = .ok (.iconst 1, 1) := by decide +kernel
theorem dL_place_16 : decode cL_place 16 = .ok (.ireturn, 1) := by decide +kernel
theorem dL_place_17 : decode cL_place 17 = .ok (.astore 4, 2) := by decide +kernel
theorem dL_place_19 : decode cL_place 19 = .ok (.iconst 2, 1) := by decide +kernel
theorem dL_place_20 : decode cL_place 20 = .ok (.ireturn, 1) := by decide +kernel
theorem dL_place_21 : decode cL_place 21 = .ok (.iconst 0, 1) := by decide +kernel
theorem dL_place_22 : decode cL_place 22 = .ok (.ireturn, 1) := by decide +kernel
set_option maxRecDepth 20000 in
theorem ggL_give_X0_give : GoodIn wsL_give wsX0_give := goodIn_ca (goodIn_ca (goodIn_r _ [7, 8, 9, 10, 11, 6, 12, 13, 14, 15, 16, 17, 18, 19, 20, 21, 22, 23, 24, 25, 26, 27, 28, 29, 30, 31, 32, 33, 34, 35, 36, 37, 38, 39, 40, 41, 42, 43, 44, 45, 46, 47, 48, 49, 50, 51, 52, 53, 54, 55, 56, 57, 58, 59, 60, 61, 62, 63, 64, 65, 66, 67, 68, 69, 70, 71, 72, 73, 74, 75, 76, 77, 78, 79, 80, 81, 82, 83, 84, 85, 86, 87, 88, 89, 90, 91, 92, 93, 94, 95, 96, 97, 98, 99, 100, 101, 102, 103, 104, 105, 106, 107, 108, 109, 110, 111] (by decide +kernel) (by decide +kernel)) (goodIn_sub (fun _ h => List.mem_cons_of_mem _ (List.mem_append_left _ (List.mem_append_right _ h))) (by decide +kernel))) (goodIn_sub (fun _ h => List.mem_cons_of_mem _ (List.mem_append_right _ h)) (by decide +kernel))
set_option maxRecDepth 20000 in
theorem gL_give_X0_give : GoodIn wsL_give (wsV RL 50 RX0 yX0_give wsX0_give) := goodIn_app (goodIn_of _ (by decide +kernel)) ggL_give_X0_give
theorem dL_give_0 : decode cL_give 0 = .ok (.aload_n 3, 1) := by decide +kernel
theorem dL_give_1 : decode cL_give 1 = .ok (.iconst 0, 1) := by decide +kernel
theorem dL_give_2 : decode cL_give 2 = .ok (.aload_n 0, 1) := by decide +kernel
theorem dL_give_3 : decode cL_give 3 = .ok (.iload_n 1, 1) := by decide +kernel
theorem dL_give_4 : decode cL_give 4 = .ok (.iload_n 2, 1) := by decide +kernel
theorem dL_give_5 : decode cL_give 5 = .ok (.invokevirtual 50, 3) := by decide +kernel
theorem dL_give_8 : decode cL_give 8 = .ok (.i2l, 1) := by decide +kernel
theorem dL_give_9 : decode cL_give 9 = .ok (.lastore, 1) := by decide +kernel
theorem dL_give_10 : decode cL_give 10 = .ok (.goto 11, 3) := by decide +kernel
theorem dL_give_13 : decode cL_give 13 = .ok (.astore 4, 2) := by decide +kernel
theorem dL_give_15 : decode cL_give 15 = .ok (.iconst 1, 1) := by decide +kernel
theorem dL_give_16 : decode cL_give 16 = .ok (.ireturn, 1) := by decide +kernel
theorem dL_give_17 : decode cL_give 17 = .ok (.astore 4, 2) := by decide +kernel
theorem dL_give_19 : decode cL_give 19 = .ok (.iconst 2, 1) := by decide +kernel
theorem dL_give_20 : decode cL_give 20 = .ok (.ireturn, 1) := by decide +kernel
theorem dL_give_21 : decode cL_give 21 = .ok (.iconst 0, 1) := by decide +kernel
theorem dL_give_22 : decode cL_give 22 = .ok (.ireturn, 1) := by decide +kernel
set_option maxRecDepth 20000 in
theorem ggL_fill_X0_fill : GoodIn wsL_fill wsX0_fill := goodIn_ca (goodIn_ca (goodIn_ca (goodIn_r _ [8, 9, 10, 11, 12, 13, 7, 14, 15, 16, 17, 18, 19, 20, 21, 22, 23, 24, 25, 26, 27, 28, 29, 30, 31, 32, 33, 34, 35, 36, 37, 38, 39, 40, 41, 42, 43, 44, 45, 46, 47, 48, 49, 50, 51, 52, 53, 54, 55, 56, 57, 58, 59, 60, 61, 62, 63, 64, 65, 66, 67, 68, 69, 70, 71, 72, 73, 74, 75, 76, 77, 78, 79, 80, 81, 82, 83, 84, 85, 86, 87, 88, 89, 90, 91, 92, 93, 94, 95, 96, 97, 98, 99, 100, 101, 102, 103, 104, 105, 106, 107, 108, 109, 110, 111, 112] (by decide +kernel) (by decide +kernel)) (goodIn_sub (fun _ h => List.mem_cons_of_mem _ (List.mem_append_left _ (List.mem_append_left _ (List.mem_append_right _ h)))) (by decide +kernel))) (goodIn_sub (fun _ h => List.mem_cons_of_mem _ (List.mem_append_left _ (List.mem_append_right _ h))) (by decide +kernel))) (goodIn_sub (fun _ h => List.mem_cons_of_mem _ (List.mem_append_right _ h)) (by decide +kernel))
set_option maxRecDepth 20000 in
theorem gL_fill_X0_fill : GoodIn wsL_fill (wsV RL 53 RX0 yX0_fill wsX0_fill) := goodIn_app (goodIn_of _ (by decide +kernel)) ggL_fill_X0_fill
theorem dL_fill_0 : decode cL_fill 0 = .ok (.aload_n 3, 1) := by decide +kernel
theorem dL_fill_1 : decode cL_fill 1 = .ok (.iconst 0, 1) := by decide +kernel
theorem dL_fill_2 : decode cL_fill 2 = .ok (.aload_n 0, 1) := by decide +kernel
theorem dL_fill_3 : decode cL_fill 3 = .ok (.iload_n 1, 1) := by decide +kernel
theorem dL_fill_4 : decode cL_fill 4 = .ok (.iload_n 2, 1) := by decide +kernel
theorem dL_fill_5 : decode cL_fill 5 = .ok (.invokevirtual 53, 3) := by decide +kernel
theorem dL_fill_8 : decode cL_fill 8 = .ok (.i2l, 1) := by decide +kernel
theorem dL_fill_9 : decode cL_fill 9 = .ok (.lastore, 1) := by decide +kernel
theorem dL_fill_10 : decode cL_fill 10 = .ok (.goto 15, 3) := by decide +kernel
theorem dL_fill_13 : decode cL_fill 13 = .ok (.astore 4, 2) := by decide +kernel
theorem dL_fill_15 : decode cL_fill 15 = .ok (.iconst 1, 1) := by decide +kernel
theorem dL_fill_16 : decode cL_fill 16 = .ok (.ireturn, 1) := by decide +kernel
theorem dL_fill_17 : decode cL_fill 17 = .ok (.astore 4, 2) := by decide +kernel
theorem dL_fill_19 : decode cL_fill 19 = .ok (.iconst 2, 1) := by decide +kernel
theorem dL_fill_20 : decode cL_fill 20 = .ok (.ireturn, 1) := by decide +kernel
theorem dL_fill_21 : decode cL_fill 21 = .ok (.astore 4, 2) := by decide +kernel
theorem dL_fill_23 : decode cL_fill 23 = .ok (.iconst 3, 1) := by decide +kernel
theorem dL_fill_24 : decode cL_fill 24 = .ok (.ireturn, 1) := by decide +kernel
theorem dL_fill_25 : decode cL_fill 25 = .ok (.iconst 0, 1) := by decide +kernel
theorem dL_fill_26 : decode cL_fill 26 = .ok (.ireturn, 1) := by decide +kernel
set_option maxRecDepth 20000 in
theorem ggL_move_X0_move : GoodIn wsL_move wsX0_move := goodIn_ca (goodIn_ca (goodIn_r _ [7, 8, 9, 10, 11, 12, 13, 6, 14, 15, 16, 17, 18, 19, 20, 21, 22, 23, 24, 25, 26, 27, 28, 29, 30, 31, 32, 33, 34, 35, 36, 37, 38, 39, 40, 41, 42, 43, 44, 45, 46, 47, 48, 49, 50, 51, 52, 53, 54, 55, 56, 57, 58, 59, 60, 61, 62, 63, 64, 65, 66, 67, 68, 69, 70, 71, 72, 73, 74, 75, 76, 77, 78, 79, 80, 81, 82, 83, 84, 85, 86, 87] (by decide +kernel) (by decide +kernel)) (goodIn_sub (fun _ h => List.mem_cons_of_mem _ (List.mem_append_left _ (List.mem_append_right _ h))) (by decide +kernel))) (goodIn_sub (fun _ h => List.mem_cons_of_mem _ (List.mem_append_right _ h)) (by decide +kernel))
set_option maxRecDepth 20000 in
theorem gL_move_X0_move : GoodIn wsL_move (wsV RL 56 RX0 yX0_move wsX0_move) := goodIn_app (goodIn_of _ (by decide +kernel)) ggL_move_X0_move
theorem dL_move_0 : decode cL_move 0 = .ok (.aload_n 3, 1) := by decide +kernel
theorem dL_move_1 : decode cL_move 1 = .ok (.iconst 0, 1) := by decide +kernel
theorem dL_move_2 : decode cL_move 2 = .ok (.aload_n 0, 1) := by decide +kernel
theorem dL_move_3 : decode cL_move 3 = .ok (.iload_n 1, 1) := by decide +kernel
theorem dL_move_4 : decode cL_move 4 = .ok (.iload_n 2, 1) := by decide +kernel
theorem dL_move_5 : decode cL_move 5 = .ok (.invokevirtual 56, 3) := by decide +kernel
theorem dL_move_8 : decode cL_move 8 = .ok (.i2l, 1) := by decide +kernel
theorem dL_move_9 : decode cL_move 9 = .ok (.lastore, 1) := by decide +kernel
theorem dL_move_10 : decode cL_move 10 = .ok (.goto 11, 3) := by decide +kernel
theorem dL_move_13 : decode cL_move 13 = .ok (.astore 4, 2) := by decide +kernel
theorem dL_move_15 : decode cL_move 15 = .ok (.iconst 1, 1) := by decide +kernel
theorem dL_move_16 : decode cL_move 16 = .ok (.ireturn, 1) := by decide +kernel
theorem dL_move_17 : decode cL_move 17 = .ok (.astore 4, 2) := by decide +kernel
theorem dL_move_19 : decode cL_move 19 = .ok (.iconst 2, 1) := by decide +kernel
theorem dL_move_20 : decode cL_move 20 = .ok (.ireturn, 1) := by decide +kernel
theorem dL_move_21 : decode cL_move 21 = .ok (.iconst 0, 1) := by decide +kernel
theorem dL_move_22 : decode cL_move 22 = .ok (.ireturn, 1) := by decide +kernel
set_option maxRecDepth 20000 in
theorem ggL_miss_X0_miss : GoodIn wsL_miss wsX0_miss := goodIn_ca (goodIn_ca (goodIn_r _ [7, 8, 9, 10, 11, 6, 12, 13, 14, 15, 16, 17, 18, 19, 20, 21, 22, 23, 24, 25, 26, 27, 28, 29, 30, 31, 32, 33, 34, 35, 36, 37, 38, 39, 40, 41, 42, 43, 44, 45] (by decide +kernel) (by decide +kernel)) (goodIn_sub (fun _ h => List.mem_cons_of_mem _ (List.mem_append_left _ (List.mem_append_right _ h))) (by decide +kernel))) (goodIn_sub (fun _ h => List.mem_cons_of_mem _ (List.mem_append_right _ h)) (by decide +kernel))
set_option maxRecDepth 20000 in
theorem gL_miss_X0_miss : GoodIn wsL_miss (wsV RL 59 RX0 yX0_miss wsX0_miss) := goodIn_app (goodIn_of _ (by decide +kernel)) ggL_miss_X0_miss
theorem dL_miss_0 : decode cL_miss 0 = .ok (.aload_n 2, 1) := by decide +kernel
theorem dL_miss_1 : decode cL_miss 1 = .ok (.iconst 0, 1) := by decide +kernel
theorem dL_miss_2 : decode cL_miss 2 = .ok (.aload_n 0, 1) := by decide +kernel
theorem dL_miss_3 : decode cL_miss 3 = .ok (.iload_n 1, 1) := by decide +kernel
theorem dL_miss_4 : decode cL_miss 4 = .ok (.invokevirtual 59, 3) := by decide +kernel
theorem dL_miss_7 : decode cL_miss 7 = .ok (.ifCond .eq 7, 3) := by decide +kernel
theorem dL_miss_10 : decode cL_miss 10 = .ok (.lconst 1, 1) := by decide +kernel
theorem dL_miss_11 : decode cL_miss 11 = .ok (.goto 4, 3) := by decide +kernel
theorem dL_miss_14 : decode cL_miss 14 = .ok (.lconst 0, 1) := by decide +kernel
theorem dL_miss_15 : decode cL_miss 15 = .ok (.lastore, 1) := by decide +kernel
theorem dL_miss_16 : decode cL_miss 16 = .ok (.goto 9, 3) := by decide +kernel
theorem dL_miss_19 : decode cL_miss 19 = .ok (.astore_n 3, 1) := by decide +kernel
theorem dL_miss_20 : decode cL_miss 20 = .ok (.iconst 1, 1) := by decide +kernel
theorem dL_miss_21 : decode cL_miss 21 = .ok (.ireturn, 1) := by decide +kernel
theorem dL_miss_22 : decode cL_miss 22 = .ok (.astore_n 3, 1) := by decide +kernel
theorem dL_miss_23 : decode cL_miss 23 = .ok (.iconst 2, 1) := by decide +kernel
theorem dL_miss_24 : decode cL_miss 24 = .ok (.ireturn, 1) := by decide +kernel
theorem dL_miss_25 : decode cL_miss 25 = .ok (.iconst 0, 1) := by decide +kernel
theorem dL_miss_26 : decode cL_miss 26 = .ok (.ireturn, 1) := by decide +kernel
set_option maxRecDepth 20000 in
theorem ggL_drop_X0_drop : GoodIn wsL_drop wsX0_drop := goodIn_ca (goodIn_ca (goodIn_r _ [7, 8, 9, 10, 11, 6, 12, 13, 14, 15, 16, 17, 18, 19, 20, 21, 22, 23, 24, 25, 26, 27, 28, 29, 30, 31, 32, 33, 34, 35, 36, 37, 38, 39, 40, 41] (by decide +kernel) (by decide +kernel)) (goodIn_sub (fun _ h => List.mem_cons_of_mem _ (List.mem_append_left _ (List.mem_append_right _ h))) (by decide +kernel))) (goodIn_sub (fun _ h => List.mem_cons_of_mem _ (List.mem_append_right _ h)) (by decide +kernel))
set_option maxRecDepth 20000 in
theorem gL_drop_X0_drop : GoodIn wsL_drop (wsV RL 62 RX0 yX0_drop wsX0_drop) := goodIn_app (goodIn_of _ (by decide +kernel)) ggL_drop_X0_drop
theorem dL_drop_0 : decode cL_drop 0 = .ok (.aload_n 0, 1) := by decide +kernel
theorem dL_drop_1 : decode cL_drop 1 = .ok (.iload_n 1, 1) := by decide +kernel
theorem dL_drop_2 : decode cL_drop 2 = .ok (.invokevirtual 62, 3) := by decide +kernel
theorem dL_drop_5 : decode cL_drop 5 = .ok (.goto 9, 3) := by decide +kernel
theorem dL_drop_8 : decode cL_drop 8 = .ok (.astore_n 2, 1) := by decide +kernel
theorem dL_drop_9 : decode cL_drop 9 = .ok (.iconst 1, 1) := by decide +kernel
theorem dL_drop_10 : decode cL_drop 10 = .ok (.ireturn, 1) := by decide +kernel
theorem dL_drop_11 : decode cL_drop 11 = .ok (.astore_n 2, 1) := by decide +kernel
theorem dL_drop_12 : decode cL_drop 12 = .ok (.iconst 2, 1) := by decide +kernel
theorem dL_drop_13 : decode cL_drop 13 = .ok (.ireturn, 1) := by decide +kernel
theorem dL_drop_14 : decode cL_drop 14 = .ok (.iconst 0, 1) := by decide +kernel
theorem dL_drop_15 : decode cL_drop 15 = .ok (.ireturn, 1) := by decide +kernel
set_option maxRecDepth 20000 in
theorem ggL_stateOf_X0_stateOf : GoodIn wsL_stateOf wsX0_stateOf := goodIn_ca (goodIn_r _ [6, 7, 8, 9, 10, 5, 11, 12, 13, 14, 15, 16, 17, 18, 19, 20, 21, 22, 23, 24, 25, 26, 27, 28, 29, 30, 31, 32, 33, 34, 35] (by decide +kernel) (by decide +kernel)) (goodIn_sub (fun _ h => List.mem_cons_of_mem _ (List.mem_append_right _ h)) (by decide +kernel))
set_option maxRecDepth 20000 in
theorem gL_stateOf_X0_stateOf : GoodIn wsL_stateOf (wsV RL 66 RX0 yX0_stateOf wsX0_stateOf) := goodIn_app (goodIn_of _ (by decide +kernel)) ggL_stateOf_X0_stateOf
theorem dL_stateOf_0 : decode cL_stateOf 0 = .ok (.aload_n 2, 1) := by decide +kernel
theorem dL_stateOf_1 : decode cL_stateOf 1 = .ok (.iconst 0, 1) := by decide +kernel
theorem dL_stateOf_2 : decode cL_stateOf 2 = .ok (.aload_n 0, 1) := by decide +kernel
theorem dL_stateOf_3 : decode cL_stateOf 3 = .ok (.iload_n 1, 1) := by decide +kernel
theorem dL_stateOf_4 : decode cL_stateOf 4 = .ok (.invokevirtual 66, 3) := by decide +kernel
theorem dL_stateOf_7 : decode cL_stateOf 7 = .ok (.i2l, 1) := by decide +kernel
theorem dL_stateOf_8 : decode cL_stateOf 8 = .ok (.lastore, 1) := by decide +kernel
theorem dL_stateOf_9 : decode cL_stateOf 9 = .ok (.goto 6, 3) := by decide +kernel
theorem dL_stateOf_12 : decode cL_stateOf 12 = .ok (.astore_n 3, 1) := by decide +kernel
theorem dL_stateOf_13 : decode cL_stateOf 13 = .ok (.iconst 1, 1) := by decide +kernel
theorem dL_stateOf_14 : decode cL_stateOf 14 = .ok (.ireturn, 1) := by decide +kernel
theorem dL_stateOf_15 : decode cL_stateOf 15 = .ok (.iconst 0, 1) := by decide +kernel
theorem dL_stateOf_16 : decode cL_stateOf 16 = .ok (.ireturn, 1) := by decide +kernel
set_option maxRecDepth 20000 in
theorem ggL_breakOf_X0_breakOf : GoodIn wsL_breakOf wsX0_breakOf := goodIn_ca (goodIn_r _ [6, 7, 8, 9, 10, 5, 11, 12, 13, 14, 15, 16, 17, 18, 19, 20, 21, 22, 23, 24, 25, 26, 27, 28, 29, 30, 31, 32, 33, 34, 35] (by decide +kernel) (by decide +kernel)) (goodIn_sub (fun _ h => List.mem_cons_of_mem _ (List.mem_append_right _ h)) (by decide +kernel))
set_option maxRecDepth 20000 in
theorem gL_breakOf_X0_breakOf : GoodIn wsL_breakOf (wsV RL 69 RX0 yX0_breakOf wsX0_breakOf) := goodIn_app (goodIn_of _ (by decide +kernel)) ggL_breakOf_X0_breakOf
theorem dL_breakOf_0 : decode cL_breakOf 0 = .ok (.aload_n 2, 1) := by decide +kernel
theorem dL_breakOf_1 : decode cL_breakOf 1 = .ok (.iconst 0, 1) := by decide +kernel
theorem dL_breakOf_2 : decode cL_breakOf 2 = .ok (.aload_n 0, 1) := by decide +kernel
theorem dL_breakOf_3 : decode cL_breakOf 3 = .ok (.iload_n 1, 1) := by decide +kernel
theorem dL_breakOf_4 : decode cL_breakOf 4 = .ok (.invokevirtual 69, 3) := by decide +kernel
theorem dL_breakOf_7 : decode cL_breakOf 7 = .ok (.i2l, 1) := by decide +kernel
theorem dL_breakOf_8 : decode cL_breakOf 8 = .ok (.lastore, 1) := by decide +kernel
theorem dL_breakOf_9 : decode cL_breakOf 9 = .ok (.goto 6, 3) := by decide +kernel
theorem dL_breakOf_12 : decode cL_breakOf 12 = .ok (.astore_n 3, 1) := by decide +kernel
theorem dL_breakOf_13 : decode cL_breakOf 13 = .ok (.iconst 1, 1) := by decide +kernel
theorem dL_breakOf_14 : decode cL_breakOf 14 = .ok (.ireturn, 1) := by decide +kernel
theorem dL_breakOf_15 : decode cL_breakOf 15 = .ok (.iconst 0, 1) := by decide +kernel
theorem dL_breakOf_16 : decode cL_breakOf 16 = .ok (.ireturn, 1) := by decide +kernel
set_option maxRecDepth 20000 in
theorem ggL_delivered_X0_delivered : GoodIn wsL_delivered wsX0_delivered := goodIn_ca (goodIn_r _ [6, 7, 8, 9, 5, 10, 11, 12, 13, 14, 15, 16, 17, 18, 19, 20, 21, 22, 23, 24, 25, 26, 27, 28, 29, 30, 31, 32, 33, 34, 35, 36, 37, 38, 39, 40, 41, 42, 43, 44, 45, 46, 47, 48, 49, 50, 51] (by decide +kernel) (by decide +kernel)) (goodIn_sub (fun _ h => List.mem_cons_of_mem _ (List.mem_append_right _ h)) (by decide +kernel))
set_option maxRecDepth 20000 in
theorem gL_delivered_X0_delivered : GoodIn wsL_delivered (wsV RL 72 RX0 yX0_delivered wsX0_delivered) := goodIn_app (goodIn_of _ (by decide +kernel)) ggL_delivered_X0_delivered
theorem dL_delivered_0 : decode cL_delivered 0 = .ok (.aload_n 2, 1) := by decide +kernel
theorem dL_delivered_1 : decode cL_delivered 1 = .ok (.iconst 0, 1) := by decide +kernel
theorem dL_delivered_2 : decode cL_delivered 2 = .ok (.aload_n 0, 1) := by decide +kernel
theorem dL_delivered_3 : decode cL_delivered 3 = .ok (.iload_n 1, 1) := by decide +kernel
theorem dL_delivered_4 : decode cL_delivered 4 = .ok (.invokevirtual 72, 3) := by decide +kernel
theorem dL_delivered_7 : decode cL_delivered 7 = .ok (.i2l, 1) := by decide +kernel
theorem dL_delivered_8 : decode cL_delivered 8 = .ok (.lastore, 1) := by decide +kernel
theorem dL_delivered_9 : decode cL_delivered 9 = .ok (.goto 6, 3) := by decide +kernel
theorem dL_delivered_12 : decode cL_delivered 12 = .ok (.astore_n 3, 1) := by decide +kernel
theorem dL_delivered_13 : decode cL_delivered 13 = .ok (.iconst 1, 1) := by decide +kernel
theorem dL_delivered_14 : decode cL_delivered 14 = .ok (.ireturn, 1) := by decide +kernel
theorem dL_delivered_15 : decode cL_delivered 15 = .ok (.iconst 0, 1) := by decide +kernel
theorem dL_delivered_16 : decode cL_delivered 16 = .ok (.ireturn, 1) := by decide +kernel
set_option maxRecDepth 20000 in
theorem ggL_owed_X0_owed : GoodIn wsL_owed wsX0_owed := goodIn_ca (goodIn_r _ [6, 7, 8, 9, 5, 10, 11, 12, 13, 14, 15, 16, 17, 18, 19, 20, 21, 22, 23, 24, 25, 26, 27, 28, 29, 30, 31, 32, 33, 34, 35, 36, 37, 38, 39, 40, 41, 42, 43, 44, 45, 46, 47, 48, 49, 50, 51, 52, 53, 54, 55, 56, 57, 58, 59, 60, 61] (by decide +kernel) (by decide +kernel)) (goodIn_sub (fun _ h => List.mem_cons_of_mem _ (List.mem_append_right _ h)) (by decide +kernel))
set_option maxRecDepth 20000 in
theorem gL_owed_X0_owed : GoodIn wsL_owed (wsV RL 75 RX0 yX0_owed wsX0_owed) := goodIn_app (goodIn_of _ (by decide +kernel)) ggL_owed_X0_owed
theorem dL_owed_0 : decode cL_owed 0 = .ok (.aload_n 2, 1) := by decide +kernel
theorem dL_owed_1 : decode cL_owed 1 = .ok (.iconst 0, 1) := by decide +kernel
theorem dL_owed_2 : decode cL_owed 2 = .ok (.aload_n 0, 1) := by decide +kernel
theorem dL_owed_3 : decode cL_owed 3 = .ok (.iload_n 1, 1) := by decide +kernel
theorem dL_owed_4 : decode cL_owed 4 = .ok (.invokevirtual 75, 3) := by decide +kernel
theorem dL_owed_7 : decode cL_owed 7 = .ok (.i2l, 1) := by decide +kernel
theorem dL_owed_8 : decode cL_owed 8 = .ok (.lastore, 1) := by decide +kernel
theorem dL_owed_9 : decode cL_owed 9 = .ok (.goto 6, 3) := by decide +kernel
theorem dL_owed_12 : decode cL_owed 12 = .ok (.astore_n 3, 1) := by decide +kernel
theorem dL_owed_13 : decode cL_owed 13 = .ok (.iconst 1, 1) := by decide +kernel
theorem dL_owed_14 : decode cL_owed 14 = .ok (.ireturn, 1) := by decide +kernel
theorem dL_owed_15 : decode cL_owed 15 = .ok (.iconst 0, 1) := by decide +kernel
theorem dL_owed_16 : decode cL_owed 16 = .ok (.ireturn, 1) := by decide +kernel
set_option maxRecDepth 20000 in
theorem ggL_rest_X0_rest : GoodIn wsL_rest wsX0_rest := goodIn_ca (goodIn_r _ [6, 7, 8, 9, 5, 10, 11, 12, 13, 14, 15, 16, 17, 18, 19, 20, 21, 22, 23, 24, 25, 26, 27, 28, 29, 30, 31, 32, 33, 34, 35, 36, 37, 38, 39, 40, 41, 42, 43, 44, 45, 46, 47, 48, 49, 50, 51, 52, 53, 54, 55, 56, 57, 58, 59, 60, 61, 62, 63, 64, 65, 66] (by decide +kernel) (by decide +kernel)) (goodIn_sub (fun _ h => List.mem_cons_of_mem _ (List.mem_append_right _ h)) (by decide +kernel))
set_option maxRecDepth 20000 in
theorem gL_rest_X0_rest : GoodIn wsL_rest (wsV RL 78 RX0 yX0_rest wsX0_rest) := goodIn_app (goodIn_of _ (by decide +kernel)) ggL_rest_X0_rest
theorem dL_rest_0 : decode cL_rest 0 = .ok (.aload_n 2, 1) := by decide +kernel
theorem dL_rest_1 : decode cL_rest 1 = .ok (.iconst 0, 1) := by decide +kernel
theorem dL_rest_2 : decode cL_rest 2 = .ok (.aload_n 0, 1) := by decide +kernel
theorem dL_rest_3 : decode cL_rest 3 = .ok (.iload_n 1, 1) := by decide +kernel
theorem dL_rest_4 : decode cL_rest 4 = .ok (.invokevirtual 78, 3) := by decide +kernel
theorem dL_rest_7 : decode cL_rest 7 = .ok (.i2l, 1) := by decide +kernel
theorem dL_rest_8 : decode cL_rest 8 = .ok (.lastore, 1) := by decide +kernel
theorem dL_rest_9 : decode cL_rest 9 = .ok (.goto 6, 3) := by decide +kernel
theorem dL_rest_12 : decode cL_rest 12 = .ok (.astore_n 3, 1) := by decide +kernel
theorem dL_rest_13 : decode cL_rest 13 = .ok (.iconst 1, 1) := by decide +kernel
theorem dL_rest_14 : decode cL_rest 14 = .ok (.ireturn, 1) := by decide +kernel
theorem dL_rest_15 : decode cL_rest 15 = .ok (.iconst 0, 1) := by decide +kernel
theorem dL_rest_16 : decode cL_rest 16 = .ok (.ireturn, 1) := by decide +kernel
set_option maxRecDepth 20000 in
theorem ggL_bill_X0_bill : GoodIn wsL_bill wsX0_bill := goodIn_ca (goodIn_r _ [6, 7, 8, 9, 5, 10, 11, 12, 13, 14, 15, 16, 17, 18, 19, 20, 21, 22, 23, 24, 25, 26, 27, 28, 29, 30, 31, 32, 33, 34, 35, 36, 37, 38, 39, 40, 41, 42, 43] (by decide +kernel) (by decide +kernel)) (goodIn_sub (fun _ h => List.mem_cons_of_mem _ (List.mem_append_right _ h)) (by decide +kernel))
set_option maxRecDepth 20000 in
theorem gL_bill_X0_bill : GoodIn wsL_bill (wsV RL 81 RX0 yX0_bill wsX0_bill) := goodIn_app (goodIn_of _ (by decide +kernel)) ggL_bill_X0_bill
theorem dL_bill_0 : decode cL_bill 0 = .ok (.aload_n 2, 1) := by decide +kernel
theorem dL_bill_1 : decode cL_bill 1 = .ok (.iconst 0, 1) := by decide +kernel
theorem dL_bill_2 : decode cL_bill 2 = .ok (.aload_n 0, 1) := by decide +kernel
theorem dL_bill_3 : decode cL_bill 3 = .ok (.iload_n 1, 1) := by decide +kernel
theorem dL_bill_4 : decode cL_bill 4 = .ok (.invokevirtual 81, 3) := by decide +kernel
theorem dL_bill_7 : decode cL_bill 7 = .ok (.i2l, 1) := by decide +kernel
theorem dL_bill_8 : decode cL_bill 8 = .ok (.lastore, 1) := by decide +kernel
theorem dL_bill_9 : decode cL_bill 9 = .ok (.goto 6, 3) := by decide +kernel
theorem dL_bill_12 : decode cL_bill 12 = .ok (.astore_n 3, 1) := by decide +kernel
theorem dL_bill_13 : decode cL_bill 13 = .ok (.iconst 1, 1) := by decide +kernel
theorem dL_bill_14 : decode cL_bill 14 = .ok (.ireturn, 1) := by decide +kernel
theorem dL_bill_15 : decode cL_bill 15 = .ok (.iconst 0, 1) := by decide +kernel
theorem dL_bill_16 : decode cL_bill 16 = .ok (.ireturn, 1) := by decide +kernel
set_option maxRecDepth 20000 in
theorem ggL_billTo_X0_billTo : GoodIn wsL_billTo wsX0_billTo := goodIn_ca (goodIn_r _ [6, 7, 8, 9, 10, 5, 11, 12, 13, 14, 15, 16, 17, 18, 19, 20, 21, 22, 23, 24, 25, 26, 27, 28, 29, 30, 31, 32, 33, 34, 35, 36, 37, 38, 39, 40, 41, 42, 43, 44, 45, 46] (by decide +kernel) (by decide +kernel)) (goodIn_sub (fun _ h => List.mem_cons_of_mem _ (List.mem_append_right _ h)) (by decide +kernel))
set_option maxRecDepth 20000 in
theorem gL_billTo_X0_billTo : GoodIn wsL_billTo (wsV RL 84 RX0 yX0_billTo wsX0_billTo) := goodIn_app (goodIn_of _ (by decide +kernel)) ggL_billTo_X0_billTo
theorem dL_billTo_0 : decode cL_billTo 0 = .ok (.aload_n 2, 1) := by decide +kernel
theorem dL_billTo_1 : decode cL_billTo 1 = .ok (.iconst 0, 1) := by decide +kernel
theorem dL_billTo_2 : decode cL_billTo 2 = .ok (.aload_n 0, 1) := by decide +kernel
theorem dL_billTo_3 : decode cL_billTo 3 = .ok (.iload_n 1, 1) := by decide +kernel
theorem dL_billTo_4 : decode cL_billTo 4 = .ok (.invokevirtual 84, 3) := by decide +kernel
theorem dL_billTo_7 : decode cL_billTo 7 = .ok (.i2l, 1) := by decide +kernel
theorem dL_billTo_8 : decode cL_billTo 8 = .ok (.lastore, 1) := by decide +kernel
theorem dL_billTo_9 : decode cL_billTo 9 = .ok (.goto 6, 3) := by decide +kernel
theorem dL_billTo_12 : decode cL_billTo 12 = .ok (.astore_n 3, 1) := by decide +kernel
theorem dL_billTo_13 : decode cL_billTo 13 = .ok (.iconst 1, 1) := by decide +kernel
theorem dL_billTo_14 : decode cL_billTo 14 = .ok (.ireturn, 1) := by decide +kernel
theorem dL_billTo_15 : decode cL_billTo 15 = .ok (.iconst 0, 1) := by decide +kernel
theorem dL_billTo_16 : decode cL_billTo 16 = .ok (.ireturn, 1) := by decide +kernel
set_option maxRecDepth 20000 in
theorem ggL_law_X0_init : GoodIn wsL_law wsX0_init := goodIn_r _ [9, 10, 11, 12, 13, 14, 15, 16, 17, 18, 19, 20, 21, 22, 23, 24, 25, 26, 27, 28, 29, 511, 512, 513, 514, 515, 516, 517, 518, 519, 520, 521, 522, 523, 524, 525, 526, 527, 528] (by decide +kernel) (by decide +kernel)
set_option maxRecDepth 20000 in
theorem gL_law_X0_init : GoodIn wsL_law (wsX0_init) := ggL_law_X0_init
set_option maxRecDepth 20000 in
theorem ggL_law_X1_init : GoodIn wsL_law wsX1_init := goodIn_r _ [32, 33, 11, 12, 13, 34, 15, 35, 36, 37, 38, 39, 40, 41, 42, 43, 44, 45, 46, 47, 48, 529, 530, 531, 532, 533, 534, 535, 536, 537, 538, 539, 540, 541, 542, 543, 544, 545, 546, 547] (by decide +kernel) (by decide +kernel)
set_option maxRecDepth 20000 in
theorem gL_law_X1_init : GoodIn wsL_law (wsX1_init) := ggL_law_X1_init
set_option maxRecDepth 20000 in
theorem ggL_law_L_addBreak : GoodIn wsL_law wsL_addBreak := goodIn_ca (goodIn_ca (goodIn_r _ [52, 53, 54, 55, 56, 57, 2, 58, 59, 14, 60, 61, 62, 63, 64, 65, 66, 67, 68, 69, 70, 71, 72, 511, 512, 513, 514, 515, 516, 517, 518, 519, 520, 521, 522, 523, 524, 525, 526, 527, 528] (by decide +kernel) (by decide +kernel)) (goodIn_sub (fun _ h => List.mem_append_left _ (List.mem_append_left _ (List.mem_append_right _ h))) (by decide +kernel))) (goodIn_sub (fun _ h => List.mem_append_left _ (List.mem_append_right _ h)) (by decide +kernel))
set_option maxRecDepth 20000 in
theorem gL_law_L_addBreak : GoodIn wsL_law (va_wsS RL 91 yL_addBreak wsL_addBreak) := goodIn_app (goodIn_of _ (by decide +kernel)) ggL_law_L_addBreak
set_option maxRecDepth 20000 in
theorem ggL_law_X1_addBreak : GoodIn wsL_law wsX1_addBreak := goodIn_r _ [76, 77, 34, 78, 79, 5, 80, 81, 82, 83, 84, 85, 529, 530, 531, 532, 533, 534, 535, 536, 537, 538, 539, 540, 541, 542, 543, 544, 545, 546, 547] (by decide +kernel) (by decide +kernel)
set_option maxRecDepth 20000 in
theorem gL_law_X1_addBreak : GoodIn wsL_law (wsV RL 96 RX1 yX1_addBreak wsX1_addBreak) := goodIn_app (goodIn_of _ (by decide +kernel)) ggL_law_X1_addBreak
set_option maxRecDepth 20000 in
theorem ggL_law_X1_thrown : GoodIn wsL_law wsX1_thrown := goodIn_r _ [89, 85, 529, 530, 531, 532, 533, 534, 535, 536, 537, 538, 539, 540, 541, 542, 543, 544, 545, 546, 547] (by decide +kernel) (by decide +kernel)
set_option maxRecDepth 20000 in
theorem gL_law_X1_thrown : GoodIn wsL_law (wsV RL 97 RX1 yX1_thrown wsX1_thrown) := goodIn_app (goodIn_of _ (by decide +kernel)) ggL_law_X1_thrown
set_option maxRecDepth 20000 in
theorem ggL_law_L_rate : GoodIn wsL_law wsL_rate := goodIn_ca (goodIn_ca (goodIn_r _ [92, 93, 53, 94, 95, 96, 2, 97, 98, 17, 99, 100, 101, 102, 59, 103, 104, 105, 106, 107, 108, 109, 110, 60, 61, 62, 63, 64, 65, 66, 67, 111, 112, 113, 511, 512, 513, 514, 515, 516, 517, 518, 519, 520, 521, 522, 523, 524, 525, 526, 527, 528] (by decide +kernel) (by decide +kernel)) (goodIn_sub (fun _ h => List.mem_append_right _ h) (by decide +kernel))) (goodIn_sub (fun _ h => List.mem_append_left _ (List.mem_append_left _ (List.mem_append_right _ h))) (by decide +kernel))
set_option maxRecDepth 20000 in
theorem gL_law_L_rate : GoodIn wsL_law (va_wsS RL 101 yL_rate wsL_rate) := goodIn_app (goodIn_of _ (by decide +kernel)) ggL_law_L_rate
set_option maxRecDepth 20000 in
theorem ggL_law_X1_rate : GoodIn wsL_law wsX1_rate := goodIn_r _ [117, 118, 36, 119, 120, 121, 5, 122, 77, 78, 79, 80, 81, 82, 83, 84, 85, 529, 530, 531, 532, 533, 534, 535, 536, 537, 538, 539, 540, 541, 542, 543, 544, 545, 546, 547] (by decide +kernel) (by decide +kernel)
set_option maxRecDepth 20000 in
theorem gL_law_X1_rate : GoodIn wsL_law (wsV RL 104 RX1 yX1_rate wsX1_rate) := goodIn_app (goodIn_of _ (by decide +kernel)) ggL_law_X1_rate
set_option maxRecDepth 20000 in
theorem ggL_law_L_air : GoodIn wsL_law wsL_air := goodIn_ca (goodIn_ca (goodIn_r _ [125, 93, 54, 126, 127, 128, 2, 129, 16, 130, 27, 28, 99, 100, 101, 102, 59, 103, 104, 105, 106, 107, 68, 69, 70, 71, 72, 511, 512, 513, 514, 515, 516, 517, 518, 519, 520, 521, 522, 523, 524, 525, 526, 527, 528] (by decide +kernel) (by decide +kernel)) (goodIn_sub (fun _ h => List.mem_append_right _ h) (by decide +kernel))) (goodIn_sub (fun _ h => List.mem_append_left _ (List.mem_append_right _ h)) (by decide +kernel))
set_option maxRecDepth 20000 in
theorem gL_law_L_air : GoodIn wsL_law (va_wsS RL 105 yL_air wsL_air) := goodIn_app (goodIn_of _ (by decide +kernel)) ggL_law_L_air
set_option maxRecDepth 20000 in
theorem ggL_law_X1_air : GoodIn wsL_law wsX1_air := goodIn_r _ [134, 35, 135, 46, 47, 119, 120, 121, 5, 122, 77, 78, 79, 80, 81, 82, 83, 84, 85, 529, 530, 531, 532, 533, 534, 535, 536, 537, 538, 539, 540, 541, 542, 543, 544, 545, 546, 547] (by decide +kernel) (by decide +kernel)
set_option maxRecDepth 20000 in
theorem gL_law_X1_air : GoodIn wsL_law (wsV RL 107 RX1 yX1_air wsX1_air) := goodIn_app (goodIn_of _ (by decide +kernel)) ggL_law_X1_air
set_option maxRecDepth 20000 in
theorem ggL_law_X0_breaks : GoodIn wsL_law wsX0_breaks := goodIn_r _ [139, 59, 511, 512, 513, 514, 515, 516, 517, 518, 519, 520, 521, 522, 523, 524, 525, 526, 527, 528] (by decide +kernel) (by decide +kernel)
set_option maxRecDepth 20000 in
theorem gL_law_X0_breaks : GoodIn wsL_law (wsV RL 108 RX0 yX0_breaks wsX0_breaks) := goodIn_app (goodIn_of _ (by decide +kernel)) ggL_law_X0_breaks
set_option maxRecDepth 20000 in
theorem ggL_law_X1_breaks : GoodIn wsL_law wsX1_breaks := goodIn_r _ [143, 77, 144, 145, 146, 5, 147, 85, 529, 530, 531, 532, 533, 534, 535, 536, 537, 538, 539, 540, 541, 542, 543, 544, 545, 546, 547] (by decide +kernel) (by decide +kernel)
set_option maxRecDepth 20000 in
theorem gL_law_X1_breaks : GoodIn wsL_law (wsV RL 111 RX1 yX1_breaks wsX1_breaks) := goodIn_app (goodIn_of _ (by decide +kernel)) ggL_law_X1_breaks
set_option maxRecDepth 20000 in
theorem ggL_law_L_isAired : GoodIn wsL_law wsL_isAired := goodIn_ca (goodIn_r _ [150, 93, 151, 152, 153, 2, 154, 16, 99, 100, 101, 102, 59, 103, 104, 105, 106, 107, 511, 512, 513, 514, 515, 516, 517, 518, 519, 520, 521, 522, 523, 524, 525, 526, 527, 528] (by decide +kernel) (by decide +kernel)) (goodIn_sub (fun _ h => List.mem_append_right _ h) (by decide +kernel))
set_option maxRecDepth 20000 in
theorem gL_law_L_isAired : GoodIn wsL_law (va_wsS RL 112 yL_isAired wsL_isAired) := goodIn_app (goodIn_of _ (by decide +kernel)) ggL_law_L_isAired
set_option maxRecDepth 20000 in
theorem ggL_law_X1_isAired : GoodIn wsL_law wsX1_isAired := goodIn_r _ [158, 35, 119, 120, 121, 5, 122, 77, 78, 79, 80, 81, 82, 83, 84, 85, 529, 530, 531, 532, 533, 534, 535, 536, 537, 538, 539, 540, 541, 542, 543, 544, 545, 546, 547] (by decide +kernel) (by decide +kernel)
set_option maxRecDepth 20000 in
theorem gL_law_X1_isAired : GoodIn wsL_law (wsV RL 114 RX1 yX1_isAired wsX1_isAired) := goodIn_app (goodIn_of _ (by decide +kernel)) ggL_law_X1_isAired
set_option maxRecDepth 20000 in
theorem ggL_law_L_room : GoodIn wsL_law wsL_room := goodIn_ca (goodIn_r _ [161, 93, 162, 163, 164, 2, 165, 99, 100, 101, 102, 59, 103, 104, 105, 106, 107, 166, 167, 168, 169, 14, 130, 27, 21, 26, 170, 171, 172, 173, 28, 511, 512, 513, 514, 515, 516, 517, 518, 519, 520, 521, 522, 523, 524, 525, 526, 527, 528] (by decide +kernel) (by decide +kernel)) (goodIn_sub (fun _ h => List.mem_append_right _ h) (by decide +kernel))
set_option maxRecDepth 20000 in
theorem gL_law_L_room : GoodIn wsL_law (va_wsS RL 115 yL_room wsL_room) := goodIn_app (goodIn_of _ (by decide +kernel)) ggL_law_L_room
set_option maxRecDepth 20000 in
theorem ggL_law_X1_room : GoodIn wsL_law wsX1_room := goodIn_r _ [177, 119, 120, 121, 5, 122, 77, 78, 79, 80, 81, 82, 83, 84, 85, 178, 179, 180, 181, 34, 135, 40, 45, 182, 183, 184, 185, 46, 47, 529, 530, 531, 532, 533, 534, 535, 536, 537, 538, 539, 540, 541, 542, 543, 544, 545, 546, 547] (by decide +kernel) (by decide +kernel)
set_option maxRecDepth 20000 in
theorem gL_law_X1_room : GoodIn wsL_law (wsV RL 117 RX1 yX1_room wsX1_room) := goodIn_app (goodIn_of _ (by decide +kernel)) ggL_law_X1_room
set_option maxRecDepth 20000 in
theorem ggL_law_L_rating : GoodIn wsL_law wsL_rating := goodIn_ca (goodIn_ca (goodIn_r _ [188, 93, 53, 189, 190, 191, 2, 192, 17, 99, 100, 101, 102, 59, 103, 104, 105, 106, 107, 108, 109, 110, 60, 61, 62, 63, 64, 65, 66, 67, 111, 112, 113, 511, 512, 513, 514, 515, 516, 517, 518, 519, 520, 521, 522, 523, 524, 525, 526, 527, 528] (by decide +kernel) (by decide +kernel)) (goodIn_sub (fun _ h => List.mem_append_right _ h) (by decide +kernel))) (goodIn_sub (fun _ h => List.mem_append_left _ (List.mem_append_left _ (List.mem_append_right _ h))) (by decide +kernel))
set_option maxRecDepth 20000 in
theorem gL_law_L_rating : GoodIn wsL_law (va_wsS RL 118 yL_rating wsL_rating) := goodIn_app (goodIn_of _ (by decide +kernel)) ggL_law_L_rating
set_option maxRecDepth 20000 in
theorem ggL_law_X1_rating : GoodIn wsL_law wsX1_rating := goodIn_r _ [196, 36, 119, 120, 121, 5, 122, 77, 78, 79, 80, 81, 82, 83, 84, 85, 529, 530, 531, 532, 533, 534, 535, 536, 537, 538, 539, 540, 541, 542, 543, 544, 545, 546, 547] (by decide +kernel) (by decide +kernel)
set_option maxRecDepth 20000 in
theorem gL_law_X1_rating : GoodIn wsL_law (wsV RL 121 RX1 yX1_rating wsX1_rating) := goodIn_app (goodIn_of _ (by decide +kernel)) ggL_law_X1_rating
set_option maxRecDepth 20000 in
theorem ggL_law_L_addOrder : GoodIn wsL_law wsL_addOrder := goodIn_ca (goodIn_ca (goodIn_r _ [199, 53, 54, 200, 201, 202, 2, 203, 204, 98, 205, 18, 19, 20, 21, 22, 23, 24, 206, 207, 208, 60, 61, 62, 63, 64, 65, 66, 67, 108, 109, 110, 209, 210, 211, 68, 69, 70, 71, 72, 511, 512, 513, 514, 515, 516, 517, 518, 519, 520, 521, 522, 523, 524, 525, 526, 527, 528] (by decide +kernel) (by decide +kernel)) (goodIn_sub (fun _ h => List.mem_append_left _ (List.mem_append_left _ (List.mem_append_right _ h))) (by decide +kernel))) (goodIn_sub (fun _ h => List.mem_append_left _ (List.mem_append_right _ h)) (by decide +kernel))
set_option maxRecDepth 20000 in
theorem gL_law_L_addOrder : GoodIn wsL_law (va_wsS RL 122 yL_addOrder wsL_addOrder) := goodIn_app (goodIn_of _ (by decide +kernel)) ggL_law_L_addOrder
set_option maxRecDepth 20000 in
theorem ggL_law_X1_addOrder : GoodIn wsL_law wsX1_addOrder := goodIn_r _ [215, 216, 118, 217, 37, 38, 39, 40, 41, 42, 43, 78, 79, 5, 80, 81, 82, 83, 84, 85, 529, 530, 531, 532, 533, 534, 535, 536, 537, 538, 539, 540, 541, 542, 543, 544, 545, 546, 547] (by decide +kernel) (by decide +kernel)
set_option maxRecDepth 20000 in
theorem gL_law_X1_addOrder : GoodIn wsL_law (wsV RL 125 RX1 yX1_addOrder wsX1_addOrder) := goodIn_app (goodIn_of _ (by decide +kernel)) ggL_law_X1_addOrder
set_option maxRecDepth 20000 in
theorem ggL_law_L_close : GoodIn wsL_law wsL_close := goodIn_ca (goodIn_ca (goodIn_r _ [220, 93, 54, 221, 222, 223, 2, 224, 25, 130, 26, 28, 225, 226, 227, 228, 205, 103, 104, 105, 106, 107, 68, 69, 70, 71, 72, 229, 230, 231, 232, 23, 233, 234, 235, 236, 237, 238, 239, 240, 27, 241, 242, 243, 244, 17, 20, 111, 112, 113, 511, 512, 513, 514, 515, 516, 517, 518, 519, 520, 521, 522, 523, 524, 525, 526, 527, 528] (by decide +kernel) (by decide +kernel)) (goodIn_sub (fun _ h => List.mem_append_right _ h) (by decide +kernel))) (goodIn_sub (fun _ h => List.mem_append_left _ (List.mem_append_right _ h)) (by decide +kernel))
set_option maxRecDepth 20000 in
theorem gL_law_L_close : GoodIn wsL_law (va_wsS RL 126 yL_close wsL_close) := goodIn_app (goodIn_of _ (by decide +kernel)) ggL_law_L_close
set_option maxRecDepth 20000 in
theorem ggL_law_X1_close : GoodIn wsL_law wsX1_close := goodIn_r _ [248, 44, 135, 47, 45, 249, 250, 251, 5, 252, 217, 78, 79, 80, 81, 82, 83, 84, 85, 253, 254, 255, 256, 42, 257, 258, 259, 260, 48, 46, 261, 262, 263, 264, 36, 39, 529, 530, 531, 532, 533, 534, 535, 536, 537, 538, 539, 540, 541, 542, 543, 544, 545, 546, 547] (by decide +kernel) (by decide +kernel)
set_option maxRecDepth 20000 in
theorem gL_law_X1_close : GoodIn wsL_law (wsV RL 128 RX1 yX1_close wsX1_close) := goodIn_app (goodIn_of _ (by decide +kernel)) ggL_law_X1_close
set_option maxRecDepth 20000 in
theorem ggL_law_X0_orders : GoodIn wsL_law wsX0_orders := goodIn_r _ [268, 205, 511, 512, 513, 514, 515, 516, 517, 518, 519, 520, 521, 522, 523, 524, 525, 526, 527, 528] (by decide +kernel) (by decide +kernel)
set_option maxRecDepth 20000 in
theorem gL_law_X0_orders : GoodIn wsL_law (wsV RL 129 RX0 yX0_orders wsX0_orders) := goodIn_app (goodIn_of _ (by decide +kernel)) ggL_law_X0_orders
set_option maxRecDepth 20000 in
theorem ggL_law_X1_orders : GoodIn wsL_law wsX1_orders := goodIn_r _ [272, 217, 144, 145, 146, 5, 147, 85, 529, 530, 531, 532, 533, 534, 535, 536, 537, 538, 539, 540, 541, 542, 543, 544, 545, 546, 547] (by decide +kernel) (by decide +kernel)
set_option maxRecDepth 20000 in
theorem gL_law_X1_orders : GoodIn wsL_law (wsV RL 132 RX1 yX1_orders wsX1_orders) := goodIn_app (goodIn_of _ (by decide +kernel)) ggL_law_X1_orders
set_option maxRecDepth 20000 in
theorem ggL_law_L_whyNot : GoodIn wsL_law wsL_whyNot := goodIn_ca (goodIn_r _ [275, 93, 276, 277, 278, 2, 279, 225, 226, 227, 228, 205, 103, 104, 105, 106, 107, 99, 100, 101, 102, 59, 280, 281, 282, 283, 16, 21, 24, 18, 166, 167, 168, 169, 14, 130, 27, 26, 170, 171, 172, 173, 28, 241, 242, 243, 244, 17, 20, 111, 112, 113, 284, 285, 286, 287, 288, 289, 290, 291, 292, 293, 294, 295, 19, 511, 512, 513, 514, 515, 516, 517, 518, 519, 520, 521, 522, 523, 524, 525, 526, 527, 528] (by decide +kernel) (by decide +kernel)) (goodIn_sub (fun _ h => List.mem_append_right _ h) (by decide +kernel))
set_option maxRecDepth 20000 in
theorem gL_law_L_whyNot : GoodIn wsL_law (va_wsS RL 133 yL_whyNot wsL_whyNot) := goodIn_app (goodIn_of _ (by decide +kernel)) ggL_law_L_whyNot
set_option maxRecDepth 20000 in
theorem ggL_law_X1_whyNot : GoodIn wsL_law wsX1_whyNot := goodIn_r _ [299, 249, 250, 251, 5, 252, 217, 78, 79, 80, 119, 120, 121, 122, 77, 81, 82, 83, 84, 85, 300, 301, 302, 303, 35, 40, 43, 178, 179, 180, 181, 34, 135, 45, 182, 183, 184, 185, 46, 47, 261, 262, 263, 264, 36, 39, 304, 305, 306, 307, 37, 38, 529, 530, 531, 532, 533, 534, 535, 536, 537, 538, 539, 540, 541, 542, 543, 544, 545, 546, 547] (by decide +kernel) (by decide +kernel)
set_option maxRecDepth 20000 in
theorem gL_law_X1_whyNot : GoodIn wsL_law (wsV RL 135 RX1 yX1_whyNot wsX1_whyNot) := goodIn_app (goodIn_of _ (by decide +kernel)) ggL_law_X1_whyNot
set_option maxRecDepth 20000 in
theorem ggL_law_L_place : GoodIn wsL_law wsL_place := goodIn_ca (goodIn_ca (goodIn_r _ [310, 93, 54, 311, 312, 313, 2, 314, 25, 130, 225, 226, 227, 228, 205, 103, 104, 105, 106, 107, 99, 100, 101, 102, 59, 68, 69, 70, 71, 72, 280, 281, 282, 283, 16, 21, 24, 18, 166, 167, 168, 169, 14, 27, 26, 170, 171, 172, 173, 28, 241, 242, 243, 244, 17, 20, 111, 112, 113, 284, 285, 286, 287, 288, 289, 290, 291, 292, 293, 294, 295, 19, 315, 316, 317, 318, 29, 511, 512, 513, 514, 515, 516, 517, 518, 519, 520, 521, 522, 523, 524, 525, 526, 527, 528] (by decide +kernel) (by decide +kernel)) (goodIn_sub (fun _ h => List.mem_append_right _ h) (by decide +kernel))) (goodIn_sub (fun _ h => List.mem_append_left _ (List.mem_append_right _ h)) (by decide +kernel))
set_option maxRecDepth 20000 in
theorem gL_law_L_place : GoodIn wsL_law (va_wsS RL 136 yL_place wsL_place) := goodIn_app (goodIn_of _ (by decide +kernel)) ggL_law_L_place
set_option maxRecDepth 20000 in
theorem ggL_law_X1_place : GoodIn wsL_law wsX1_place := goodIn_r _ [322, 44, 135, 249, 250, 251, 5, 252, 217, 78, 79, 80, 119, 120, 121, 122, 77, 300, 301, 302, 303, 35, 40, 43, 178, 179, 180, 181, 34, 45, 182, 183, 184, 185, 46, 47, 261, 262, 263, 264, 36, 39, 304, 305, 306, 307, 37, 38, 81, 82, 83, 84, 85, 323, 324, 325, 326, 48, 529, 530, 531, 532, 533, 534, 535, 536, 537, 538, 539, 540, 541, 542, 543, 544, 545, 546, 547] (by decide +kernel) (by decide +kernel)
set_option maxRecDepth 20000 in
theorem gL_law_X1_place : GoodIn wsL_law (wsV RL 138 RX1 yX1_place wsX1_place) := goodIn_app (goodIn_of _ (by decide +kernel)) ggL_law_X1_place
set_option maxRecDepth 20000 in
theorem ggL_law_L_give : GoodIn wsL_law wsL_give := goodIn_ca (goodIn_ca (goodIn_r _ [329, 93, 54, 330, 331, 332, 2, 333, 130, 225, 226, 227, 228, 205, 103, 104, 105, 106, 107, 99, 100, 101, 102, 59, 334, 335, 336, 337, 26, 29, 28, 27, 233, 234, 235, 236, 229, 230, 231, 232, 25, 23, 237, 238, 239, 240, 241, 242, 243, 244, 17, 20, 111, 112, 113, 68, 69, 70, 71, 72, 280, 281, 282, 283, 16, 21, 24, 18, 166, 167, 168, 169, 14, 170, 171, 172, 173, 284, 285, 286, 287, 288, 289, 290, 291, 292, 293, 294, 295, 19, 315, 316, 317, 318, 511, 512, 513, 514, 515, 516, 517, 518, 519, 520, 521, 522, 523, 524, 525, 526, 527, 528] (by decide +kernel) (by decide +kernel)) (goodIn_sub (fun _ h => List.mem_append_right _ h) (by decide +kernel))) (goodIn_sub (fun _ h => List.mem_append_left _ (List.mem_append_right _ h)) (by decide +kernel))
set_option maxRecDepth 20000 in
theorem gL_law_L_give : GoodIn wsL_law (va_wsS RL 139 yL_give wsL_give) := goodIn_app (goodIn_of _ (by decide +kernel)) ggL_law_L_give
set_option maxRecDepth 20000 in
theorem ggL_law_X1_give : GoodIn wsL_law wsX1_give := goodIn_r _ [341, 135, 249, 250, 251, 5, 252, 217, 78, 79, 80, 119, 120, 121, 122, 77, 342, 343, 344, 345, 253, 254, 255, 256, 42, 44, 257, 258, 259, 260, 45, 47, 48, 46, 261, 262, 263, 264, 36, 39, 300, 301, 302, 303, 35, 40, 43, 178, 179, 180, 181, 34, 182, 183, 184, 185, 304, 305, 306, 307, 37, 38, 81, 82, 83, 84, 85, 323, 324, 325, 326, 529, 530, 531, 532, 533, 534, 535, 536, 537, 538, 539, 540, 541, 542, 543, 544, 545, 546, 547] (by decide +kernel) (by decide +kernel)
set_option maxRecDepth 20000 in
theorem gL_law_X1_give : GoodIn wsL_law (wsV RL 141 RX1 yX1_give wsX1_give) := goodIn_app (goodIn_of _ (by decide +kernel)) ggL_law_X1_give
set_option maxRecDepth 20000 in
theorem ggL_law_L_fill : GoodIn wsL_law wsL_fill := goodIn_ca (goodIn_ca (goodIn_ca (goodIn_r _ [348, 93, 53, 54, 349, 350, 351, 2, 352, 25, 130, 225, 226, 227, 228, 205, 103, 104, 105, 106, 107, 60, 61, 62, 63, 64, 65, 66, 67, 68, 69, 70, 71, 72, 353, 354, 355, 356, 23, 237, 238, 239, 240, 26, 28, 27, 241, 242, 243, 244, 17, 20, 111, 112, 113, 357, 358, 359, 360, 59, 280, 281, 282, 283, 16, 21, 24, 18, 166, 167, 168, 169, 14, 170, 171, 172, 173, 284, 285, 286, 287, 288, 289, 290, 291, 292, 293, 294, 295, 19, 315, 316, 317, 318, 29, 511, 512, 513, 514, 515, 516, 517, 518, 519, 520, 521, 522, 523, 524, 525, 526, 527, 528] (by decide +kernel) (by decide +kernel)) (goodIn_sub (fun _ h => List.mem_append_right _ h) (by decide +kernel))) (goodIn_sub (fun _ h => List.mem_append_left _ (List.mem_append_left _ (List.mem_append_right _ h))) (by decide +kernel))) (goodIn_sub (fun _ h => List.mem_append_left _ (List.mem_append_right _ h)) (by decide +kernel))
set_option maxRecDepth 20000 in
theorem gL_law_L_fill : GoodIn wsL_law (va_wsS RL 142 yL_fill wsL_fill) := goodIn_app (goodIn_of _ (by decide +kernel)) ggL_law_L_fill
set_option maxRecDepth 20000 in
theorem ggL_law_X1_fill : GoodIn wsL_law wsX1_fill := goodIn_r _ [364, 44, 135, 42, 249, 250, 251, 5, 252, 217, 78, 79, 80, 81, 82, 83, 84, 85, 257, 258, 259, 260, 45, 47, 48, 46, 261, 262, 263, 264, 36, 39, 365, 366, 367, 368, 77, 300, 301, 302, 303, 35, 40, 43, 178, 179, 180, 181, 34, 182, 183, 184, 185, 304, 305, 306, 307, 37, 38, 323, 324, 325, 326, 529, 530, 531, 532, 533, 534, 535, 536, 537, 538, 539, 540, 541, 542, 543, 544, 545, 546, 547] (by decide +kernel) (by decide +kernel)
set_option maxRecDepth 20000 in
theorem gL_law_X1_fill : GoodIn wsL_law (wsV RL 144 RX1 yX1_fill wsX1_fill) := goodIn_app (goodIn_of _ (by decide +kernel)) ggL_law_X1_fill
set_option maxRecDepth 20000 in
theorem ggL_law_L_move : GoodIn wsL_law wsL_move := goodIn_ca (goodIn_ca (goodIn_r _ [371, 93, 54, 372, 373, 374, 2, 375, 28, 27, 26, 376, 377, 378, 379, 130, 103, 104, 105, 106, 107, 99, 100, 101, 102, 59, 68, 69, 70, 71, 72, 280, 281, 282, 283, 16, 21, 24, 18, 166, 167, 168, 169, 14, 170, 171, 172, 173, 241, 242, 243, 244, 17, 20, 111, 112, 113, 284, 285, 286, 287, 288, 289, 290, 291, 292, 293, 294, 295, 19, 511, 512, 513, 514, 515, 516, 517, 518, 519, 520, 521, 522, 523, 524, 525, 526, 527, 528] (by decide +kernel) (by decide +kernel)) (goodIn_sub (fun _ h => List.mem_append_right _ h) (by decide +kernel))) (goodIn_sub (fun _ h => List.mem_append_left _ (List.mem_append_right _ h)) (by decide +kernel))
set_option maxRecDepth 20000 in
theorem gL_law_L_move : GoodIn wsL_law (va_wsS RL 145 yL_move wsL_move) := goodIn_app (goodIn_of _ (by decide +kernel)) ggL_law_L_move
set_option maxRecDepth 20000 in
theorem ggL_law_X1_move : GoodIn wsL_law wsX1_move := goodIn_r _ [383, 47, 46, 45, 384, 385, 386, 5, 387, 135, 78, 79, 80, 119, 120, 121, 122, 77, 300, 301, 302, 303, 35, 40, 43, 178, 179, 180, 181, 34, 182, 183, 184, 185, 261, 262, 263, 264, 36, 39, 304, 305, 306, 307, 37, 38, 81, 82, 83, 84, 85, 529, 530, 531, 532, 533, 534, 535, 536, 537, 538, 539, 540, 541, 542, 543, 544, 545, 546, 547] (by decide +kernel) (by decide +kernel)
set_option maxRecDepth 20000 in
theorem gL_law_X1_move : GoodIn wsL_law (wsV RL 147 RX1 yX1_move wsX1_move) := goodIn_app (goodIn_of _ (by decide +kernel)) ggL_law_X1_move
set_option maxRecDepth 20000 in
theorem ggL_law_L_miss : GoodIn wsL_law wsL_miss := goodIn_ca (goodIn_ca (goodIn_r _ [390, 93, 54, 391, 392, 393, 2, 394, 28, 376, 377, 378, 379, 130, 103, 104, 105, 106, 107, 170, 171, 172, 173, 68, 69, 70, 71, 72, 511, 512, 513, 514, 515, 516, 517, 518, 519, 520, 521, 522, 523, 524, 525, 526, 527, 528] (by decide +kernel) (by decide +kernel)) (goodIn_sub (fun _ h => List.mem_append_right _ h) (by decide +kernel))) (goodIn_sub (fun _ h => List.mem_append_left _ (List.mem_append_right _ h)) (by decide +kernel))
set_option maxRecDepth 20000 in
theorem gL_law_L_miss : GoodIn wsL_law (va_wsS RL 148 yL_miss wsL_miss) := goodIn_app (goodIn_of _ (by decide +kernel)) ggL_law_L_miss
set_option maxRecDepth 20000 in
theorem ggL_law_X1_miss : GoodIn wsL_law wsX1_miss := goodIn_r _ [398, 47, 384, 385, 386, 5, 387, 135, 78, 79, 80, 81, 82, 83, 84, 85, 529, 530, 531, 532, 533, 534, 535, 536, 537, 538, 539, 540, 541, 542, 543, 544, 545, 546, 547] (by decide +kernel) (by decide +kernel)
set_option maxRecDepth 20000 in
theorem gL_law_X1_miss : GoodIn wsL_law (wsV RL 150 RX1 yX1_miss wsX1_miss) := goodIn_app (goodIn_of _ (by decide +kernel)) ggL_law_X1_miss
set_option maxRecDepth 20000 in
theorem ggL_law_L_drop : GoodIn wsL_law wsL_drop := goodIn_ca (goodIn_ca (goodIn_r _ [401, 93, 54, 402, 403, 404, 2, 405, 28, 376, 377, 378, 379, 130, 103, 104, 105, 106, 107, 68, 69, 70, 71, 72, 511, 512, 513, 514, 515, 516, 517, 518, 519, 520, 521, 522, 523, 524, 525, 526, 527, 528] (by decide +kernel) (by decide +kernel)) (goodIn_sub (fun _ h => List.mem_append_right _ h) (by decide +kernel))) (goodIn_sub (fun _ h => List.mem_append_left _ (List.mem_append_right _ h)) (by decide +kernel))
set_option maxRecDepth 20000 in
theorem gL_law_L_drop : GoodIn wsL_law (va_wsS RL 151 yL_drop wsL_drop) := goodIn_app (goodIn_of _ (by decide +kernel)) ggL_law_L_drop
set_option maxRecDepth 20000 in
theorem ggL_law_X1_drop : GoodIn wsL_law wsX1_drop := goodIn_r _ [409, 47, 384, 385, 386, 5, 387, 135, 78, 79, 80, 81, 82, 83, 84, 85, 529, 530, 531, 532, 533, 534, 535, 536, 537, 538, 539, 540, 541, 542, 543, 544, 545, 546, 547] (by decide +kernel) (by decide +kernel)
set_option maxRecDepth 20000 in
theorem gL_law_X1_drop : GoodIn wsL_law (wsV RL 154 RX1 yX1_drop wsX1_drop) := goodIn_app (goodIn_of _ (by decide +kernel)) ggL_law_X1_drop
set_option maxRecDepth 20000 in
theorem ggL_law_X0_spots : GoodIn wsL_law wsX0_spots := goodIn_r _ [413, 130, 511, 512, 513, 514, 515, 516, 517, 518, 519, 520, 521, 522, 523, 524, 525, 526, 527, 528] (by decide +kernel) (by decide +kernel)
set_option maxRecDepth 20000 in
theorem gL_law_X0_spots : GoodIn wsL_law (wsV RL 155 RX0 yX0_spots wsX0_spots) := goodIn_app (goodIn_of _ (by decide +kernel)) ggL_law_X0_spots
set_option maxRecDepth 20000 in
theorem ggL_law_X1_spots : GoodIn wsL_law wsX1_spots := goodIn_r _ [417, 135, 144, 145, 146, 5, 147, 85, 529, 530, 531, 532, 533, 534, 535, 536, 537, 538, 539, 540, 541, 542, 543, 544, 545, 546, 547] (by decide +kernel) (by decide +kernel)
set_option maxRecDepth 20000 in
theorem gL_law_X1_spots : GoodIn wsL_law (wsV RL 158 RX1 yX1_spots wsX1_spots) := goodIn_app (goodIn_of _ (by decide +kernel)) ggL_law_X1_spots
set_option maxRecDepth 20000 in
theorem ggL_law_L_stateOf : GoodIn wsL_law wsL_stateOf := goodIn_ca (goodIn_r _ [420, 93, 421, 422, 423, 2, 424, 28, 376, 377, 378, 379, 130, 103, 104, 105, 106, 107, 511, 512, 513, 514, 515, 516, 517, 518, 519, 520, 521, 522, 523, 524, 525, 526, 527, 528] (by decide +kernel) (by decide +kernel)) (goodIn_sub (fun _ h => List.mem_append_right _ h) (by decide +kernel))
set_option maxRecDepth 20000 in
theorem gL_law_L_stateOf : GoodIn wsL_law (va_wsS RL 159 yL_stateOf wsL_stateOf) := goodIn_app (goodIn_of _ (by decide +kernel)) ggL_law_L_stateOf
set_option maxRecDepth 20000 in
theorem ggL_law_X1_stateOf : GoodIn wsL_law wsX1_stateOf := goodIn_r _ [428, 47, 384, 385, 386, 5, 387, 135, 78, 79, 80, 81, 82, 83, 84, 85, 529, 530, 531, 532, 533, 534, 535, 536, 537, 538, 539, 540, 541, 542, 543, 544, 545, 546, 547] (by decide +kernel) (by decide +kernel)
set_option maxRecDepth 20000 in
theorem gL_law_X1_stateOf : GoodIn wsL_law (wsV RL 161 RX1 yX1_stateOf wsX1_stateOf) := goodIn_app (goodIn_of _ (by decide +kernel)) ggL_law_X1_stateOf
set_option maxRecDepth 20000 in
theorem ggL_law_L_breakOf : GoodIn wsL_law wsL_breakOf := goodIn_ca (goodIn_r _ [431, 93, 432, 433, 434, 2, 435, 27, 376, 377, 378, 379, 130, 103, 104, 105, 106, 107, 511, 512, 513, 514, 515, 516, 517, 518, 519, 520, 521, 522, 523, 524, 525, 526, 527, 528] (by decide +kernel) (by decide +kernel)) (goodIn_sub (fun _ h => List.mem_append_right _ h) (by decide +kernel))
set_option maxRecDepth 20000 in
theorem gL_law_L_breakOf : GoodIn wsL_law (va_wsS RL 162 yL_breakOf wsL_breakOf) := goodIn_app (goodIn_of _ (by decide +kernel)) ggL_law_L_breakOf
set_option maxRecDepth 20000 in
theorem ggL_law_X1_breakOf : GoodIn wsL_law wsX1_breakOf := goodIn_r _ [439, 46, 384, 385, 386, 5, 387, 135, 78, 79, 80, 81, 82, 83, 84, 85, 529, 530, 531, 532, 533, 534, 535, 536, 537, 538, 539, 540, 541, 542, 543, 544, 545, 546, 547] (by decide +kernel) (by decide +kernel)
set_option maxRecDepth 20000 in
theorem gL_law_X1_breakOf : GoodIn wsL_law (wsV RL 164 RX1 yX1_breakOf wsX1_breakOf) := goodIn_app (goodIn_of _ (by decide +kernel)) ggL_law_X1_breakOf
set_option maxRecDepth 20000 in
theorem ggL_law_L_delivered : GoodIn wsL_law wsL_delivered := goodIn_ca (goodIn_r _ [442, 93, 443, 444, 445, 2, 446, 225, 226, 227, 228, 205, 103, 104, 105, 106, 107, 237, 238, 239, 240, 130, 26, 28, 27, 241, 242, 243, 244, 17, 20, 111, 112, 113, 511, 512, 513, 514, 515, 516, 517, 518, 519, 520, 521, 522, 523, 524, 525, 526, 527, 528] (by decide +kernel) (by decide +kernel)) (goodIn_sub (fun _ h => List.mem_append_right _ h) (by decide +kernel))
set_option maxRecDepth 20000 in
theorem gL_law_L_delivered : GoodIn wsL_law (va_wsS RL 165 yL_delivered wsL_delivered) := goodIn_app (goodIn_of _ (by decide +kernel)) ggL_law_L_delivered
set_option maxRecDepth 20000 in
theorem ggL_law_X1_delivered : GoodIn wsL_law wsX1_delivered := goodIn_r _ [450, 249, 250, 251, 5, 252, 217, 78, 79, 80, 81, 82, 83, 84, 85, 257, 258, 259, 260, 135, 45, 47, 48, 46, 261, 262, 263, 264, 36, 39, 529, 530, 531, 532, 533, 534, 535, 536, 537, 538, 539, 540, 541, 542, 543, 544, 545, 546, 547] (by decide +kernel) (by decide +kernel)
set_option maxRecDepth 20000 in
theorem gL_law_X1_delivered : GoodIn wsL_law (wsV RL 167 RX1 yX1_delivered wsX1_delivered) := goodIn_app (goodIn_of _ (by decide +kernel)) ggL_law_X1_delivered
set_option maxRecDepth 20000 in
theorem ggL_law_L_owed : GoodIn wsL_law wsL_owed := goodIn_ca (goodIn_r _ [453, 93, 454, 455, 456, 2, 457, 225, 226, 227, 228, 205, 103, 104, 105, 106, 107, 229, 230, 231, 232, 25, 23, 233, 234, 235, 236, 237, 238, 239, 240, 130, 26, 28, 27, 241, 242, 243, 244, 17, 20, 111, 112, 113, 511, 512, 513, 514, 515, 516, 517, 518, 519, 520, 521, 522, 523, 524, 525, 526, 527, 528] (by decide +kernel) (by decide +kernel)) (goodIn_sub (fun _ h => List.mem_append_right _ h) (by decide +kernel))
set_option maxRecDepth 20000 in
theorem gL_law_L_owed : GoodIn wsL_law (va_wsS RL 168 yL_owed wsL_owed) := goodIn_app (goodIn_of _ (by decide +kernel)) ggL_law_L_owed
set_option maxRecDepth 20000 in
theorem ggL_law_X1_owed : GoodIn wsL_law wsX1_owed := goodIn_r _ [461, 249, 250, 251, 5, 252, 217, 78, 79, 80, 81, 82, 83, 84, 85, 253, 254, 255, 256, 42, 44, 257, 258, 259, 260, 135, 45, 47, 48, 46, 261, 262, 263, 264, 36, 39, 529, 530, 531, 532, 533, 534, 535, 536, 537, 538, 539, 540, 541, 542, 543, 544, 545, 546, 547] (by decide +kernel) (by decide +kernel)
set_option maxRecDepth 20000 in
theorem gL_law_X1_owed : GoodIn wsL_law (wsV RL 170 RX1 yX1_owed wsX1_owed) := goodIn_app (goodIn_of _ (by decide +kernel)) ggL_law_X1_owed
set_option maxRecDepth 20000 in
theorem ggL_law_L_rest : GoodIn wsL_law wsL_rest := goodIn_ca (goodIn_r _ [464, 93, 465, 466, 467, 2, 468, 225, 226, 227, 228, 205, 103, 104, 105, 106, 107, 334, 335, 336, 337, 130, 26, 29, 28, 27, 233, 234, 235, 236, 229, 230, 231, 232, 25, 23, 237, 238, 239, 240, 241, 242, 243, 244, 17, 20, 111, 112, 113, 511, 512, 513, 514, 515, 516, 517, 518, 519, 520, 521, 522, 523, 524, 525, 526, 527, 528] (by decide +kernel) (by decide +kernel)) (goodIn_sub (fun _ h => List.mem_append_right _ h) (by decide +kernel))
set_option maxRecDepth 20000 in
theorem gL_law_L_rest : GoodIn wsL_law (va_wsS RL 171 yL_rest wsL_rest) := goodIn_app (goodIn_of _ (by decide +kernel)) ggL_law_L_rest
set_option maxRecDepth 20000 in
theorem ggL_law_X1_rest : GoodIn wsL_law wsX1_rest := goodIn_r _ [472, 249, 250, 251, 5, 252, 217, 78, 79, 80, 81, 82, 83, 84, 85, 342, 343, 344, 345, 253, 254, 255, 256, 42, 44, 257, 258, 259, 260, 135, 45, 47, 48, 46, 261, 262, 263, 264, 36, 39, 529, 530, 531, 532, 533, 534, 535, 536, 537, 538, 539, 540, 541, 542, 543, 544, 545, 546, 547] (by decide +kernel) (by decide +kernel)
set_option maxRecDepth 20000 in
theorem gL_law_X1_rest : GoodIn wsL_law (wsV RL 173 RX1 yX1_rest wsX1_rest) := goodIn_app (goodIn_of _ (by decide +kernel)) ggL_law_X1_rest
set_option maxRecDepth 20000 in
theorem ggL_law_L_bill : GoodIn wsL_law wsL_bill := goodIn_ca (goodIn_r _ [475, 93, 476, 477, 478, 2, 479, 225, 226, 227, 228, 205, 103, 104, 105, 106, 107, 480, 481, 482, 483, 130, 26, 29, 28, 22, 511, 512, 513, 514, 515, 516, 517, 518, 519, 520, 521, 522, 523, 524, 525, 526, 527, 528] (by decide +kernel) (by decide +kernel)) (goodIn_sub (fun _ h => List.mem_append_right _ h) (by decide +kernel))
set_option maxRecDepth 20000 in
theorem gL_law_L_bill : GoodIn wsL_law (va_wsS RL 174 yL_bill wsL_bill) := goodIn_app (goodIn_of _ (by decide +kernel)) ggL_law_L_bill
set_option maxRecDepth 20000 in
theorem ggL_law_X1_bill : GoodIn wsL_law wsX1_bill := goodIn_r _ [487, 249, 250, 251, 5, 252, 217, 78, 79, 80, 81, 82, 83, 84, 85, 488, 489, 490, 491, 135, 45, 47, 48, 41, 529, 530, 531, 532, 533, 534, 535, 536, 537, 538, 539, 540, 541, 542, 543, 544, 545, 546, 547] (by decide +kernel) (by decide +kernel)
set_option maxRecDepth 20000 in
theorem gL_law_X1_bill : GoodIn wsL_law (wsV RL 176 RX1 yX1_bill wsX1_bill) := goodIn_app (goodIn_of _ (by decide +kernel)) ggL_law_X1_bill
set_option maxRecDepth 20000 in
theorem ggL_law_L_billTo : GoodIn wsL_law wsL_billTo := goodIn_ca (goodIn_r _ [494, 53, 495, 496, 497, 2, 498, 205, 18, 206, 207, 208, 60, 61, 62, 63, 64, 65, 66, 67, 480, 481, 482, 483, 130, 26, 29, 28, 22, 511, 512, 513, 514, 515, 516, 517, 518, 519, 520, 521, 522, 523, 524, 525, 526, 527, 528] (by decide +kernel) (by decide +kernel)) (goodIn_sub (fun _ h => List.mem_append_left _ (List.mem_append_left _ (List.mem_append_right _ h))) (by decide +kernel))
set_option maxRecDepth 20000 in
theorem gL_law_L_billTo : GoodIn wsL_law (va_wsS RL 177 yL_billTo wsL_billTo) := goodIn_app (goodIn_of _ (by decide +kernel)) ggL_law_L_billTo
set_option maxRecDepth 20000 in
theorem ggL_law_X1_billTo : GoodIn wsL_law wsX1_billTo := goodIn_r _ [502, 217, 37, 78, 79, 5, 80, 81, 82, 83, 84, 85, 488, 489, 490, 491, 135, 45, 47, 48, 41, 529, 530, 531, 532, 533, 534, 535, 536, 537, 538, 539, 540, 541, 542, 543, 544, 545, 546, 547] (by decide +kernel) (by decide +kernel)
set_option maxRecDepth 20000 in
theorem gL_law_X1_billTo : GoodIn wsL_law (wsV RL 179 RX1 yX1_billTo wsX1_billTo) := goodIn_app (goodIn_of _ (by decide +kernel)) ggL_law_X1_billTo
set_option maxRecDepth 20000 in
theorem ggL_law_X0_mostOwed : GoodIn wsL_law wsX0_mostOwed := goodIn_r _ [506, 205, 334, 335, 336, 2, 337, 130, 26, 29, 28, 27, 233, 234, 235, 236, 229, 230, 231, 232, 25, 23, 237, 238, 239, 240, 241, 242, 243, 244, 17, 20, 111, 112, 113, 511, 512, 513, 514, 515, 516, 517, 518, 519, 520, 521, 522, 523, 524, 525, 526, 527, 528] (by decide +kernel) (by decide +kernel)
set_option maxRecDepth 20000 in
theorem gL_law_X0_mostOwed : GoodIn wsL_law (wsV RL 180 RX0 yX0_mostOwed wsX0_mostOwed) := goodIn_app (goodIn_of _ (by decide +kernel)) ggL_law_X0_mostOwed
set_option maxRecDepth 20000 in
theorem ggL_law_X1_mostOwed : GoodIn wsL_law wsX1_mostOwed := goodIn_r _ [510, 217, 342, 343, 344, 5, 345, 253, 254, 255, 256, 42, 44, 257, 258, 259, 260, 135, 45, 47, 48, 46, 261, 262, 263, 264, 36, 39, 144, 145, 146, 147, 85, 529, 530, 531, 532, 533, 534, 535, 536, 537, 538, 539, 540, 541, 542, 543, 544, 545, 546, 547] (by decide +kernel) (by decide +kernel)
set_option maxRecDepth 20000 in
theorem gL_law_X1_mostOwed : GoodIn wsL_law (wsV RL 183 RX1 yX1_mostOwed wsX1_mostOwed) := goodIn_app (goodIn_of _ (by decide +kernel)) ggL_law_X1_mostOwed
theorem dL_law_0 : decode cL_law 0 = .ok (.new 8, 3) := by decide +kernel
theorem dL_law_3 : decode cL_law 3 = .ok (.dup, 1) := by decide +kernel
theorem dL_law_4 : decode cL_law 4 = .ok (.invokespecial 87, 3) := by decide +kernel
theorem dL_law_7 : decode cL_law 7 = .ok (.astore_n 1, 1) := by decide +kernel
theorem dL_law_8 : decode cL_law 8 = .ok (.new 88, 3) := by decide +kernel
theorem dL_law_11 : decode cL_law 11 = .ok (.dup, 1) := by decide +kernel
theorem dL_law_12 : decode cL_law 12 = .ok (.invokespecial 90, 3) := by decide +kernel
theorem dL_law_15 : decode cL_law 15 = .ok (.astore_n 2, 1) := by decide +kernel
theorem dL_law_16 : decode cL_law 16 = .ok (.iconst 1, 1) := by decide +kernel
theorem dL_law_17 : decode cL_law 17 = .ok (.newarray .long, 2) := by decide +kernel
theorem dL_law_19 : decode cL_law 19 = .ok (.astore_n 3, 1) := by decide +kernel
theorem dL_law_20 : decode cL_law 20 = .ok (.iconst 0, 1) := by decide +kernel
theorem dL_law_21 : decode cL_law 21 = .ok (.istore 4, 2) := by decide +kernel
theorem dL_law_23 : decode cL_law 23 = .ok (.iload 4, 2) := by decide +kernel
theorem dL_law_25 : decode cL_law 25 = .ok (.aload_n 0, 1) := by decide +kernel
theorem dL_law_26 : decode cL_law 26 = .ok (.arraylength, 1) := by decide +kernel
theorem dL_law_27 : decode cL_law 27 = .ok (.bipush 8, 2) := by decide +kernel
theorem dL_law_29 : decode cL_law 29 = .ok (.isub, 1) := by decide +kernel
theorem dL_law_30 : decode cL_law 30 = .ok (.if_icmp .gt 1586, 3) := by decide +kernel
theorem dL_law_33 : decode cL_law 33 = .ok (.aload_n 0, 1) := by decide +kernel
theorem dL_law_34 : decode cL_law 34 = .ok (.iload 4, 2) := by decide +kernel
theorem dL_law_36 : decode cL_law 36 = .ok (.iaload, 1) := by decide +kernel
theorem dL_law_37 : decode cL_law 37 = .ok (.bipush 31, 2) := by decide +kernel
theorem dL_law_39 : decode cL_law 39 = .ok (.iand, 1) := by decide +kernel
theorem dL_law_40 : decode cL_law 40 = .ok (.tableswitch 1570 0 25 #[120, 176, 256, 312, 325, 388, 444, 512, 644, 700, 713, 781, 849, 917, 985, 1053, 1116, 1152, 1165, 1221, 1277, 1333, 1389, 1445, 1501, 1557], 120) := by decide +kernel
theorem dL_law_160 : decode cL_law 160 = .ok (.aload_n 1, 1) := by decide +kernel
theorem dL_law_161 : decode cL_law 161 = .ok (.aload_n 0, 1) := by decide +kernel
theorem dL_law_162 : decode cL_law 162 = .ok (.iload 4, 2) := by decide +kernel
theorem dL_law_164 : decode cL_law 164 = .ok (.iconst 1, 1) := by decide +kernel
theorem dL_law_165 : decode cL_law 165 = .ok (.iadd, 1) := by decide +kernel
theorem dL_law_166 : decode cL_law 166 = .ok (.iaload, 1) := by decide +kernel
theorem dL_law_167 : decode cL_law 167 = .ok (.aload_n 3, 1) := by decide +kernel
theorem dL_law_168 : decode cL_law 168 = .ok (.invokestatic 91, 3) := by decide +kernel
theorem dL_law_171 : decode cL_law 171 = .ok (.istore 5, 2) := by decide +kernel
theorem dL_law_173 : decode cL_law 173 = .ok (.aload_n 2, 1) := by decide +kernel
theorem dL_law_174 : decode cL_law 174 = .ok (.aload_n 0, 1) := by decide +kernel
theorem dL_law_175 : decode cL_law 175 = .ok (.iload 4, 2) := by decide +kernel
theorem dL_law_177 : decode cL_law 177 = .ok (.iconst 1, 1) := by decide +kernel
theorem dL_law_178 : decode cL_law 178 = .ok (.iadd, 1) := by decide +kernel
theorem dL_law_179 : decode cL_law 179 = .ok (.iaload, 1) := by decide +kernel
theorem dL_law_180 : decode cL_law 180 = .ok (.invokevirtual 96, 3) := by decide +kernel
theorem dL_law_183 : decode cL_law 183 = .ok (.istore 6, 2) := by decide +kernel
theorem dL_law_185 : decode cL_law 185 = .ok (.aload_n 2, 1) := by decide +kernel
theorem dL_law_186 : decode cL_law 186 = .ok (.invokevirtual 97, 3) := by decide +kernel
theorem dL_law_189 : decode cL_law 189 = .ok (.iload 5, 2) := by decide +kernel
theorem dL_law_191 : decode cL_law 191 = .ok (.if_icmp .eq 5, 3) := by decide +kernel
theorem dL_law_194 : decode cL_law 194 = .ok (.iconst 0, 1) := by decide +kernel
theorem dL_law_195 : decode cL_law 195 = .ok (.ireturn, 1) := by decide +kernel
theorem dL_law_196 : decode cL_law 196 = .ok (.iload 5, 2) := by decide +kernel
theorem dL_law_198 : decode cL_law 198 = .ok (.ifCond .ne 15, 3) := by decide +kernel
theorem dL_law_201 : decode cL_law 201 = .ok (.aload_n 3, 1) := by decide +kernel
theorem dL_law_202 : decode cL_law 202 = .ok (.iconst 0, 1) := by decide +kernel
theorem dL_law_203 : decode cL_law 203 = .ok (.laload, 1) := by decide +kernel
theorem dL_law_204 : decode cL_law 204 = .ok (.iload 6, 2) := by decide +kernel
theorem dL_law_206 : decode cL_law 206 = .ok (.i2l, 1) := by decide +kernel
theorem dL_law_207 : decode cL_law 207 = .ok (.lcmp, 1) := by decide +kernel
theorem dL_law_208 : decode cL_law 208 = .ok (.ifCond .eq 5, 3) := by decide +kernel
theorem dL_law_211 : decode cL_law 211 = .ok (.iconst 0, 1) := by decide +kernel
theorem dL_law_212 : decode cL_law 212 = .ok (.ireturn, 1) := by decide +kernel
theorem dL_law_213 : decode cL_law 213 = .ok (.goto 1397, 3) := by decide +kernel
theorem dL_law_216 : decode cL_law 216 = .ok (.aload_n 1, 1) := by decide +kernel
theorem dL_law_217 : decode cL_law 217 = .ok (.aload_n 0, 1) := by decide +kernel
theorem dL_law_218 : decode cL_law 218 = .ok (.iload 4, 2) := by decide +kernel
theorem dL_law_220 : decode cL_law 220 = .ok (.iconst 1, 1) := by decide +kernel
theorem dL_law_221 : decode cL_law 221 = .ok (.iadd, 1) := by decide +kernel
theorem dL_law_222 : decode cL_law 222 = .ok (.iaload, 1) := by decide +kernel
theorem dL_law_223 : decode cL_law 223 = .ok (.aload_n 0, 1) := by decide +kernel
theorem dL_law_224 : decode cL_law 224 = .ok (.iload 4, 2) := by decide +kernel
theorem dL_law_226 : decode cL_law 226 = .ok (.iconst 2, 1) := by decide +kernel
theorem dL_law_227 : decode cL_law 227 = .ok (.iadd, 1) := by decide +kernel
theorem dL_law_228 : decode cL_law 228 = .ok (.iaload, 1) := by decide +kernel
theorem dL_law_229 : decode cL_law 229 = .ok (.aload_n 0, 1) := by decide +kernel
theorem dL_law_230 : decode cL_law 230 = .ok (.iload 4, 2) := by decide +kernel
theorem dL_law_232 : decode cL_law 232 = .ok (.iconst 3, 1) := by decide +kernel
theorem dL_law_233 : decode cL_law 233 = .ok (.iadd, 1) := by decide +kernel
theorem dL_law_234 : decode cL_law 234 = .ok (.iaload, 1) := by decide +kernel
theorem dL_law_235 : decode cL_law 235 = .ok (.aload_n 3, 1) := by decide +kernel
theorem dL_law_236 : decode cL_law 236 = .ok (.invokestatic 101, 3) := by decide +kernel
theorem dL_law_239 : decode cL_law 239 = .ok (.istore 5, 2) := by decide +kernel
theorem dL_law_241 : decode cL_law 241 = .ok (.aload_n 2, 1) := by decide +kernel
theorem dL_law_242 : decode cL_law 242 = .ok (.aload_n 0, 1) := by decide +kernel
theorem dL_law_243 : decode cL_law 243 = .ok (.iload 4, 2) := by decide +kernel
theorem dL_law_245 : decode cL_law 245 = .ok (.iconst 1, 1) := by decide +kernel
theorem dL_law_246 : decode cL_law 246 = .ok (.iadd, 1) := by decide +kernel
theorem dL_law_247 : decode cL_law 247 = .ok (.iaload, 1) := by decide +kernel
theorem dL_law_248 : decode cL_law 248 = .ok (.aload_n 0, 1) := by decide +kernel
theorem dL_law_249 : decode cL_law 249 = .ok (.iload 4, 2) := by decide +kernel
theorem dL_law_251 : decode cL_law 251 = .ok (.iconst 2, 1) := by decide +kernel
theorem dL_law_252 : decode cL_law 252 = .ok (.iadd, 1) := by decide +kernel
theorem dL_law_253 : decode cL_law 253 = .ok (.iaload, 1) := by decide +kernel
theorem dL_law_254 : decode cL_law 254 = .ok (.aload_n 0, 1) := by decide +kernel
theorem dL_law_255 : decode cL_law 255 = .ok (.iload 4, 2) := by decide +kernel
theorem dL_law_257 : decode cL_law 257 = .ok (.iconst 3, 1) := by decide +kernel
theorem dL_law_258 : decode cL_law 258 = .ok (.iadd, 1) := by decide +kernel
theorem dL_law_259 : decode cL_law 259 = .ok (.iaload, 1) := by decide +kernel
theorem dL_law_260 : decode cL_law 260 = .ok (.invokevirtual 104, 3) := by decide +kernel
theorem dL_law_263 : decode cL_law 263 = .ok (.istore 6, 2) := by decide +kernel
theorem dL_law_265 : decode cL_law 265 = .ok (.aload_n 2, 1) := by decide +kernel
theorem dL_law_266 : decode cL_law 266 = .ok (.invokevirtual 97, 3) := by decide +kernel
theorem dL_law_269 : decode cL_law 269 = .ok (.iload 5, 2) := by decide +kernel
theorem dL_law_271 : decode cL_law 271 = .ok (.if_icmp .eq 5, 3) := by decide +kernel
theorem dL_law_274 : decode cL_law 274 = .ok (.iconst 0, 1) := by decide +kernel
theorem dL_law_275 : decode cL_law 275 = .ok (.ireturn, 1) := by decide +kernel
theorem dL_law_276 : decode cL_law 276 = .ok (.iload 5, 2) := by decide +kernel
theorem dL_law_278 : decode cL_law 278 = .ok (.ifCond .ne 15, 3) := by decide +kernel
theorem dL_law_281 : decode cL_law 281 = .ok (.aload_n 3, 1) := by decide +kernel
theorem dL_law_282 : decode cL_law 282 = .ok (.iconst 0, 1) := by decide +kernel
theorem dL_law_283 : decode cL_law 283 = .ok (.laload, 1) := by decide +kernel
theorem dL_law_284 : decode cL_law 284 = .ok (.iload 6, 2) := by decide +kernel
theorem dL_law_286 : decode cL_law 286 = .ok (.i2l, 1) := by decide +kernel
theorem dL_law_287 : decode cL_law 287 = .ok (.lcmp, 1) := by decide +kernel
theorem dL_law_288 : decode cL_law 288 = .ok (.ifCond .eq 5, 3) := by decide +kernel
theorem dL_law_291 : decode cL_law 291 = .ok (.iconst 0, 1) := by decide +kernel
theorem dL_law_292 : decode cL_law 292 = .ok (.ireturn, 1) := by decide +kernel
theorem dL_law_293 : decode cL_law 293 = .ok (.goto 1317, 3) := by decide +kernel
theorem dL_law_296 : decode cL_law 296 = .ok (.aload_n 1, 1) := by decide +kernel
theorem dL_law_297 : decode cL_law 297 = .ok (.aload_n 0, 1) := by decide +kernel
theorem dL_law_298 : decode cL_law 298 = .ok (.iload 4, 2) := by decide +kernel
theorem dL_law_300 : decode cL_law 300 = .ok (.iconst 1, 1) := by decide +kernel
theorem dL_law_301 : decode cL_law 301 = .ok (.iadd, 1) := by decide +kernel
theorem dL_law_302 : decode cL_law 302 = .ok (.iaload, 1) := by decide +kernel
theorem dL_law_303 : decode cL_law 303 = .ok (.aload_n 3, 1) := by decide +kernel
theorem dL_law_304 : decode cL_law 304 = .ok (.invokestatic 105, 3) := by decide +kernel
theorem dL_law_307 : decode cL_law 307 = .ok (.istore 5, 2) := by decide +kernel
theorem dL_law_309 : decode cL_law 309 = .ok (.aload_n 2, 1) := by decide +kernel
theorem dL_law_310 : decode cL_law 310 = .ok (.aload_n 0, 1) := by decide +kernel
theorem dL_law_311 : decode cL_law 311 = .ok (.iload 4, 2) := by decide +kernel
theorem dL_law_313 : decode cL_law 313 = .ok (.iconst 1, 1) := by decide +kernel
theorem dL_law_314 : decode cL_law 314 = .ok (.iadd, 1) := by decide +kernel
theorem dL_law_315 : decode cL_law 315 = .ok (.iaload, 1) := by decide +kernel
theorem dL_law_316 : decode cL_law 316 = .ok (.invokevirtual 107, 3) := by decide +kernel
theorem dL_law_319 : decode cL_law 319 = .ok (.istore 6, 2) := by decide +kernel
theorem dL_law_321 : decode cL_law 321 = .ok (.aload_n 2, 1) := by decide +kernel
theorem dL_law_322 : decode cL_law 322 = .ok (.invokevirtual 97, 3) := by decide +kernel
theorem dL_law_325 : decode cL_law 325 = .ok (.iload 5, 2) := by decide +kernel
theorem dL_law_327 : decode cL_law 327 = .ok (.if_icmp .eq 5, 3) := by decide +kernel
theorem dL_law_330 : decode cL_law 330 = .ok (.iconst 0, 1) := by decide +kernel
theorem dL_law_331 : decode cL_law 331 = .ok (.ireturn, 1) := by decide +kernel
theorem dL_law_332 : decode cL_law 332 = .ok (.iload 5, 2) := by decide +kernel
theorem dL_law_334 : decode cL_law 334 = .ok (.ifCond .ne 15, 3) := by decide +kernel
theorem dL_law_337 : decode cL_law 337 = .ok (.aload_n 3, 1) := by decide +kernel
theorem dL_law_338 : decode cL_law 338 = .ok (.iconst 0, 1) := by decide +kernel
theorem dL_law_339 : decode cL_law 339 = .ok (.laload, 1) := by decide +kernel
theorem dL_law_340 : decode cL_law 340 = .ok (.iload 6, 2) := by decide +kernel
theorem dL_law_342 : decode cL_law 342 = .ok (.i2l, 1) := by decide +kernel
theorem dL_law_343 : decode cL_law 343 = .ok (.lcmp, 1) := by decide +kernel
theorem dL_law_344 : decode cL_law 344 = .ok (.ifCond .eq 5, 3) := by decide +kernel
theorem dL_law_347 : decode cL_law 347 = .ok (.iconst 0, 1) := by decide +kernel
theorem dL_law_348 : decode cL_law 348 = .ok (.ireturn, 1) := by decide +kernel
theorem dL_law_349 : decode cL_law 349 = .ok (.goto 1261, 3) := by decide +kernel
theorem dL_law_352 : decode cL_law 352 = .ok (.aload_n 1, 1) := by decide +kernel
theorem dL_law_353 : decode cL_law 353 = .ok (.invokevirtual 108, 3) := by decide +kernel
theorem dL_law_356 : decode cL_law 356 = .ok (.aload_n 2, 1) := by decide +kernel
theorem dL_law_357 : decode cL_law 357 = .ok (.invokevirtual 111, 3) := by decide +kernel
theorem dL_law_360 : decode cL_law 360 = .ok (.if_icmp .eq 1250, 3) := by decide +kernel
theorem dL_law_363 : decode cL_law 363 = .ok (.iconst 0, 1) := by decide +kernel
theorem dL_law_364 : decode cL_law 364 = .ok (.ireturn, 1) := by decide +kernel
theorem dL_law_365 : decode cL_law 365 = .ok (.aload_n 1, 1) := by decide +kernel
theorem dL_law_366 : decode cL_law 366 = .ok (.aload_n 0, 1) := by decide +kernel
theorem dL_law_367 : decode cL_law 367 = .ok (.iload 4, 2) := by decide +kernel
theorem dL_law_369 : decode cL_law 369 = .ok (.iconst 1, 1) := by decide +kernel
theorem dL_law_370 : decode cL_law 370 = .ok (.iadd, 1) := by decide +kernel
theorem dL_law_371 : decode cL_law 371 = .ok (.iaload, 1) := by decide +kernel
theorem dL_law_372 : decode cL_law 372 = .ok (.aload_n 3, 1) := by decide +kernel
theorem dL_law_373 : decode cL_law 373 = .ok (.invokestatic 112, 3) := by decide +kernel
theorem dL_law_376 : decode cL_law 376 = .ok (.istore 5, 2) := by decide +kernel
theorem dL_law_378 : decode cL_law 378 = .ok (.aload_n 2, 1) := by decide +kernel
theorem dL_law_379 : decode cL_law 379 = .ok (.aload_n 0, 1) := by decide +kernel
theorem dL_law_380 : decode cL_law 380 = .ok (.iload 4, 2) := by decide +kernel
theorem dL_law_382 : decode cL_law 382 = .ok (.iconst 1, 1) := by decide +kernel
theorem dL_law_383 : decode cL_law 383 = .ok (.iadd, 1) := by decide +kernel
theorem dL_law_384 : decode cL_law 384 = .ok (.iaload, 1) := by decide +kernel
theorem dL_law_385 : decode cL_law 385 = .ok (.invokevirtual 114, 3) := by decide +kernel
theorem dL_law_388 : decode cL_law 388 = .ok (.istore 6, 2) := by decide +kernel
theorem dL_law_390 : decode cL_law 390 = .ok (.aload_n 2, 1) := by decide +kernel
theorem dL_law_391 : decode cL_law 391 = .ok (.invokevirtual 97, 3) := by decide +kernel
theorem dL_law_394 : decode cL_law 394 = .ok (.iload 5, 2) := by decide +kernel
theorem dL_law_396 : decode cL_law 396 = .ok (.if_icmp .eq 5, 3) := by decide +kernel
theorem dL_law_399 : decode cL_law 399 = .ok (.iconst 0, 1) := by decide +kernel
theorem dL_law_400 : decode cL_law 400 = .ok (.ireturn, 1) := by decide +kernel
theorem dL_law_401 : decode cL_law 401 = .ok (.iload 5, 2) := by decide +kernel
theorem dL_law_403 : decode cL_law 403 = .ok (.ifCond .ne 22, 3) := by decide +kernel
theorem dL_law_406 : decode cL_law 406 = .ok (.aload_n 3, 1) := by decide +kernel
theorem dL_law_407 : decode cL_law 407 = .ok (.iconst 0, 1) := by decide +kernel
theorem dL_law_408 : decode cL_law 408 = .ok (.laload, 1) := by decide +kernel
theorem dL_law_409 : decode cL_law 409 = .ok (.iload 6, 2) := by decide +kernel
theorem dL_law_411 : decode cL_law 411 = .ok (.ifCond .eq 7, 3) := by decide +kernel
theorem dL_law_414 : decode cL_law 414 = .ok (.lconst 1, 1) := by decide +kernel
theorem dL_law_415 : decode cL_law 415 = .ok (.goto 4, 3) := by decide +kernel
theorem dL_law_418 : decode cL_law 418 = .ok (.lconst 0, 1) := by decide +kernel
theorem dL_law_419 : decode cL_law 419 = .ok (.lcmp, 1) := by decide +kernel
theorem dL_law_420 : decode cL_law 420 = .ok (.ifCond .eq 5, 3) := by decide +kernel
theorem dL_law_423 : decode cL_law 423 = .ok (.iconst 0, 1) := by decide +kernel
theorem dL_law_424 : decode cL_law 424 = .ok (.ireturn, 1) := by decide +kernel
theorem dL_law_425 : decode cL_law 425 = .ok (.goto 1185, 3) := by decide +kernel
theorem dL_law_428 : decode cL_law 428 = .ok (.aload_n 1, 1) := by decide +kernel
theorem dL_law_429 : decode cL_law 429 = .ok (.aload_n 0, 1) := by decide +kernel
theorem dL_law_430 : decode cL_law 430 = .ok (.iload 4, 2) := by decide +kernel
theorem dL_law_432 : decode cL_law 432 = .ok (.iconst 1, 1) := by decide +kernel
theorem dL_law_433 : decode cL_law 433 = .ok (.iadd, 1) := by decide +kernel
theorem dL_law_434 : decode cL_law 434 = .ok (.iaload, 1) := by decide +kernel
theorem dL_law_435 : decode cL_law 435 = .ok (.aload_n 3, 1) := by decide +kernel
theorem dL_law_436 : decode cL_law 436 = .ok (.invokestatic 115, 3) := by decide +kernel
theorem dL_law_439 : decode cL_law 439 = .ok (.istore 5, 2) := by decide +kernel
theorem dL_law_441 : decode cL_law 441 = .ok (.aload_n 2, 1) := by decide +kernel
theorem dL_law_442 : decode cL_law 442 = .ok (.aload_n 0, 1) := by decide +kernel
theorem dL_law_443 : decode cL_law 443 = .ok (.iload 4, 2) := by decide +kernel
theorem dL_law_445 : decode cL_law 445 = .ok (.iconst 1, 1) := by decide +kernel
theorem dL_law_446 : decode cL_law 446 = .ok (.iadd, 1) := by decide +kernel
theorem dL_law_447 : decode cL_law 447 = .ok (.iaload, 1) := by decide +kernel
theorem dL_law_448 : decode cL_law 448 = .ok (.invokevirtual 117, 3) := by decide +kernel
theorem dL_law_451 : decode cL_law 451 = .ok (.istore 6, 2) := by decide +kernel
theorem dL_law_453 : decode cL_law 453 = .ok (.aload_n 2, 1) := by decide +kernel
theorem dL_law_454 : decode cL_law 454 = .ok (.invokevirtual 97, 3) := by decide +kernel
theorem dL_law_457 : decode cL_law 457 = .ok (.iload 5, 2) := by decide +kernel
theorem dL_law_459 : decode cL_law 459 = .ok (.if_icmp .eq 5, 3) := by decide +kernel
theorem dL_law_462 : decode cL_law 462 = .ok (.iconst 0, 1) := by decide +kernel
theorem dL_law_463 : decode cL_law 463 = .ok (.ireturn, 1) := by decide +kernel
theorem dL_law_464 : decode cL_law 464 = .ok (.iload 5, 2) := by decide +kernel
theorem dL_law_466 : decode cL_law 466 = .ok (.ifCond .ne 15, 3) := by decide +kernel
theorem dL_law_469 : decode cL_law 469 = .ok (.aload_n 3, 1) := by decide +kernel
theorem dL_law_470 : decode cL_law 470 = .ok (.iconst 0, 1) := by decide +kernel
theorem dL_law_471 : decode cL_law 471 = .ok (.laload, 1) := by decide +kernel
theorem dL_law_472 : decode cL_law 472 = .ok (.iload 6, 2) := by decide +kernel
theorem dL_law_474 : decode cL_law 474 = .ok (.i2l, 1) := by decide +kernel
theorem dL_law_475 : decode cL_law 475 = .ok (.lcmp, 1) := by decide +kernel
theorem dL_law_476 : decode cL_law 476 = .ok (.ifCond .eq 5, 3) := by decide +kernel
theorem dL_law_479 : decode cL_law 479 = .ok (.iconst 0, 1) := by decide +kernel
theorem dL_law_480 : decode cL_law 480 = .ok (.ireturn, 1) := by decide +kernel
theorem dL_law_481 : decode cL_law 481 = .ok (.goto 1129, 3) := by decide +kernel
theorem dL_law_484 : decode cL_law 484 = .ok (.aload_n 1, 1) := by decide +kernel
theorem dL_law_485 : decode cL_law 485 = .ok (.aload_n 0, 1) := by decide +kernel
theorem dL_law_486 : decode cL_law 486 = .ok (.iload 4, 2) := by decide +kernel
theorem dL_law_488 : decode cL_law 488 = .ok (.iconst 1, 1) := by decide +kernel
theorem dL_law_489 : decode cL_law 489 = .ok (.iadd, 1) := by decide +kernel
theorem dL_law_490 : decode cL_law 490 = .ok (.iaload, 1) := by decide +kernel
theorem dL_law_491 : decode cL_law 491 = .ok (.aload_n 0, 1) := by decide +kernel
theorem dL_law_492 : decode cL_law 492 = .ok (.iload 4, 2) := by decide +kernel
theorem dL_law_494 : decode cL_law 494 = .ok (.iconst 2, 1) := by decide +kernel
theorem dL_law_495 : decode cL_law 495 = .ok (.iadd, 1) := by decide +kernel
theorem dL_law_496 : decode cL_law 496 = .ok (.iaload, 1) := by decide +kernel
theorem dL_law_497 : decode cL_law 497 = .ok (.aload_n 3, 1) := by decide +kernel
theorem dL_law_498 : decode cL_law 498 = .ok (.invokestatic 118, 3) := by decide +kernel
theorem dL_law_501 : decode cL_law 501 = .ok (.istore 5, 2) := by decide +kernel
theorem dL_law_503 : decode cL_law 503 = .ok (.aload_n 2, 1) := by decide +kernel
theorem dL_law_504 : decode cL_law 504 = .ok (.aload_n 0, 1) := by decide +kernel
theorem dL_law_505 : decode cL_law 505 = .ok (.iload 4, 2) := by decide +kernel
theorem dL_law_507 : decode cL_law 507 = .ok (.iconst 1, 1) := by decide +kernel
theorem dL_law_508 : decode cL_law 508 = .ok (.iadd, 1) := by decide +kernel
theorem dL_law_509 : decode cL_law 509 = .ok (.iaload, 1) := by decide +kernel
theorem dL_law_510 : decode cL_law 510 = .ok (.aload_n 0, 1) := by decide +kernel
theorem dL_law_511 : decode cL_law 511 = .ok (.iload 4, 2) := by decide +kernel
theorem dL_law_513 : decode cL_law 513 = .ok (.iconst 2, 1) := by decide +kernel
theorem dL_law_514 : decode cL_law 514 = .ok (.iadd, 1) := by decide +kernel
theorem dL_law_515 : decode cL_law 515 = .ok (.iaload, 1) := by decide +kernel
theorem dL_law_516 : decode cL_law 516 = .ok (.invokevirtual 121, 3) := by decide +kernel
theorem dL_law_519 : decode cL_law 519 = .ok (.istore 6, 2) := by decide +kernel
theorem dL_law_521 : decode cL_law 521 = .ok (.aload_n 2, 1) := by decide +kernel
theorem dL_law_522 : decode cL_law 522 = .ok (.invokevirtual 97, 3) := by decide +kernel
theorem dL_law_525 : decode cL_law 525 = .ok (.iload 5, 2) := by decide +kernel
theorem dL_law_527 : decode cL_law 527 = .ok (.if_icmp .eq 5, 3) := by decide +kernel
theorem dL_law_530 : decode cL_law 530 = .ok (.iconst 0, 1) := by decide +kernel
theorem dL_law_531 : decode cL_law 531 = .ok (.ireturn, 1) := by decide +kernel
theorem dL_law_532 : decode cL_law 532 = .ok (.iload 5, 2) := by decide +kernel
theorem dL_law_534 : decode cL_law 534 = .ok (.ifCond .ne 15, 3) := by decide +kernel
theorem dL_law_537 : decode cL_law 537 = .ok (.aload_n 3, 1) := by decide +kernel
theorem dL_law_538 : decode cL_law 538 = .ok (.iconst 0, 1) := by decide +kernel
theorem dL_law_539 : decode cL_law 539 = .ok (.laload, 1) := by decide +kernel
theorem dL_law_540 : decode cL_law 540 = .ok (.iload 6, 2) := by decide +kernel
theorem dL_law_542 : decode cL_law 542 = .ok (.i2l, 1) := by decide +kernel
theorem dL_law_543 : decode cL_law 543 = .ok (.lcmp, 1) := by decide +kernel
theorem dL_law_544 : decode cL_law 544 = .ok (.ifCond .eq 5, 3) := by decide +kernel
theorem dL_law_547 : decode cL_law 547 = .ok (.iconst 0, 1) := by decide +kernel
theorem dL_law_548 : decode cL_law 548 = .ok (.ireturn, 1) := by decide +kernel
theorem dL_law_549 : decode cL_law 549 = .ok (.goto 1061, 3) := by decide +kernel
theorem dL_law_552 : decode cL_law 552 = .ok (.aload_n 1, 1) := by decide +kernel
theorem dL_law_553 : decode cL_law 553 = .ok (.aload_n 0, 1) := by decide +kernel
theorem dL_law_554 : decode cL_law 554 = .ok (.iload 4, 2) := by decide +kernel
theorem dL_law_556 : decode cL_law 556 = .ok (.iconst 1, 1) := by decide +kernel
theorem dL_law_557 : decode cL_law 557 = .ok (.iadd, 1) := by decide +kernel
theorem dL_law_558 : decode cL_law 558 = .ok (.iaload, 1) := by decide +kernel
theorem dL_law_559 : decode cL_law 559 = .ok (.aload_n 0, 1) := by decide +kernel
theorem dL_law_560 : decode cL_law 560 = .ok (.iload 4, 2) := by decide +kernel
theorem dL_law_562 : decode cL_law 562 = .ok (.iconst 2, 1) := by decide +kernel
theorem dL_law_563 : decode cL_law 563 = .ok (.iadd, 1) := by decide +kernel
theorem dL_law_564 : decode cL_law 564 = .ok (.iaload, 1) := by decide +kernel
theorem dL_law_565 : decode cL_law 565 = .ok (.aload_n 0, 1) := by decide +kernel
theorem dL_law_566 : decode cL_law 566 = .ok (.iload 4, 2) := by decide +kernel
theorem dL_law_568 : decode cL_law 568 = .ok (.iconst 3, 1) := by decide +kernel
theorem dL_law_569 : decode cL_law 569 = .ok (.iadd, 1) := by decide +kernel
theorem dL_law_570 : decode cL_law 570 = .ok (.iaload, 1) := by decide +kernel
theorem dL_law_571 : decode cL_law 571 = .ok (.aload_n 0, 1) := by decide +kernel
theorem dL_law_572 : decode cL_law 572 = .ok (.iload 4, 2) := by decide +kernel
theorem dL_law_574 : decode cL_law 574 = .ok (.iconst 4, 1) := by decide +kernel
theorem dL_law_575 : decode cL_law 575 = .ok (.iadd, 1) := by decide +kernel
theorem dL_law_576 : decode cL_law 576 = .ok (.iaload, 1) := by decide +kernel
theorem dL_law_577 : decode cL_law 577 = .ok (.aload_n 0, 1) := by decide +kernel
theorem dL_law_578 : decode cL_law 578 = .ok (.iload 4, 2) := by decide +kernel
theorem dL_law_580 : decode cL_law 580 = .ok (.iconst 5, 1) := by decide +kernel
theorem dL_law_581 : decode cL_law 581 = .ok (.iadd, 1) := by decide +kernel
theorem dL_law_582 : decode cL_law 582 = .ok (.iaload, 1) := by decide +kernel
theorem dL_law_583 : decode cL_law 583 = .ok (.aload_n 0, 1) := by decide +kernel
theorem dL_law_584 : decode cL_law 584 = .ok (.iload 4, 2) := by decide +kernel
theorem dL_law_586 : decode cL_law 586 = .ok (.bipush 6, 2) := by decide +kernel
theorem dL_law_588 : decode cL_law 588 = .ok (.iadd, 1) := by decide +kernel
theorem dL_law_589 : decode cL_law 589 = .ok (.iaload, 1) := by decide +kernel
theorem dL_law_590 : decode cL_law 590 = .ok (.aload_n 0, 1) := by decide +kernel
theorem dL_law_591 : decode cL_law 591 = .ok (.iload 4, 2) := by decide +kernel
theorem dL_law_593 : decode cL_law 593 = .ok (.bipush 7, 2) := by decide +kernel
theorem dL_law_595 : decode cL_law 595 = .ok (.iadd, 1) := by decide +kernel
theorem dL_law_596 : decode cL_law 596 = .ok (.iaload, 1) := by decide +kernel
theorem dL_law_597 : decode cL_law 597 = .ok (.aload_n 3, 1) := by decide +kernel
theorem dL_law_598 : decode cL_law 598 = .ok (.invokestatic 122, 3) := by decide +kernel
theorem dL_law_601 : decode cL_law 601 = .ok (.istore 5, 2) := by decide +kernel
theorem dL_law_603 : decode cL_law 603 = .ok (.aload_n 2, 1) := by decide +kernel
theorem dL_law_604 : decode cL_law 604 = .ok (.aload_n 0, 1) := by decide +kernel
theorem dL_law_605 : decode cL_law 605 = .ok (.iload 4, 2) := by decide +kernel
theorem dL_law_607 : decode cL_law 607 = .ok (.iconst 1, 1) := by decide +kernel
theorem dL_law_608 : decode cL_law 608 = .ok (.iadd, 1) := by decide +kernel
theorem dL_law_609 : decode cL_law 609 = .ok (.iaload, 1) := by decide +kernel
theorem dL_law_610 : decode cL_law 610 = .ok (.aload_n 0, 1) := by decide +kernel
theorem dL_law_611 : decode cL_law 611 = .ok (.iload 4, 2) := by decide +kernel
theorem dL_law_613 : decode cL_law 613 = .ok (.iconst 2, 1) := by decide +kernel
theorem dL_law_614 : decode cL_law 614 = .ok (.iadd, 1) := by decide +kernel
theorem dL_law_615 : decode cL_law 615 = .ok (.iaload, 1) := by decide +kernel
theorem dL_law_616 : decode cL_law 616 = .ok (.aload_n 0, 1) := by decide +kernel
theorem dL_law_617 : decode cL_law 617 = .ok (.iload 4, 2) := by decide +kernel
theorem dL_law_619 : decode cL_law 619 = .ok (.iconst 3, 1) := by decide +kernel
theorem dL_law_620 : decode cL_law 620 = .ok (.iadd, 1) := by decide +kernel
theorem dL_law_621 : decode cL_law 621 = .ok (.iaload, 1) := by decide +kernel
theorem dL_law_622 : decode cL_law 622 = .ok (.aload_n 0, 1) := by decide +kernel
theorem dL_law_623 : decode cL_law 623 = .ok (.iload 4, 2) := by decide +kernel
theorem dL_law_625 : decode cL_law 625 = .ok (.iconst 4, 1) := by decide +kernel
theorem dL_law_626 : decode cL_law 626 = .ok (.iadd, 1) := by decide +kernel
theorem dL_law_627 : decode cL_law 627 = .ok (.iaload, 1) := by decide +kernel
theorem dL_law_628 : decode cL_law 628 = .ok (.aload_n 0, 1) := by decide +kernel
theorem dL_law_629 : decode cL_law 629 = .ok (.iload 4, 2) := by decide +kernel
theorem dL_law_631 : decode cL_law 631 = .ok (.iconst 5, 1) := by decide +kernel
theorem dL_law_632 : decode cL_law 632 = .ok (.iadd, 1) := by decide +kernel
theorem dL_law_633 : decode cL_law 633 = .ok (.iaload, 1) := by decide +kernel
theorem dL_law_634 : decode cL_law 634 = .ok (.aload_n 0, 1) := by decide +kernel
theorem dL_law_635 : decode cL_law 635 = .ok (.iload 4, 2) := by decide +kernel
theorem dL_law_637 : decode cL_law 637 = .ok (.bipush 6, 2) := by decide +kernel
theorem dL_law_639 : decode cL_law 639 = .ok (.iadd, 1) := by decide +kernel
theorem dL_law_640 : decode cL_law 640 = .ok (.iaload, 1) := by decide +kernel
theorem dL_law_641 : decode cL_law 641 = .ok (.aload_n 0, 1) := by decide +kernel
theorem dL_law_642 : decode cL_law 642 = .ok (.iload 4, 2) := by decide +kernel
theorem dL_law_644 : decode cL_law 644 = .ok (.bipush 7, 2) := by decide +kernel
theorem dL_law_646 : decode cL_law 646 = .ok (.iadd, 1) := by decide +kernel
theorem dL_law_647 : decode cL_law 647 = .ok (.iaload, 1) := by decide +kernel
theorem dL_law_648 : decode cL_law 648 = .ok (.invokevirtual 125, 3) := by decide +kernel
theorem dL_law_651 : decode cL_law 651 = .ok (.istore 6, 2) := by decide +kernel
theorem dL_law_653 : decode cL_law 653 = .ok (.aload_n 2, 1) := by decide +kernel
theorem dL_law_654 : decode cL_law 654 = .ok (.invokevirtual 97, 3) := by decide +kernel
theorem dL_law_657 : decode cL_law 657 = .ok (.iload 5, 2) := by decide +kernel
theorem dL_law_659 : decode cL_law 659 = .ok (.if_icmp .eq 5, 3) := by decide +kernel
theorem dL_law_662 : decode cL_law 662 = .ok (.iconst 0, 1) := by decide +kernel
theorem dL_law_663 : decode cL_law 663 = .ok (.ireturn, 1) := by decide +kernel
theorem dL_law_664 : decode cL_law 664 = .ok (.iload 5, 2) := by decide +kernel
theorem dL_law_666 : decode cL_law 666 = .ok (.ifCond .ne 15, 3) := by decide +kernel
theorem dL_law_669 : decode cL_law 669 = .ok (.aload_n 3, 1) := by decide +kernel
theorem dL_law_670 : decode cL_law 670 = .ok (.iconst 0, 1) := by decide +kernel
theorem dL_law_671 : decode cL_law 671 = .ok (.laload, 1) := by decide +kernel
theorem dL_law_672 : decode cL_law 672 = .ok (.iload 6, 2) := by decide +kernel
theorem dL_law_674 : decode cL_law 674 = .ok (.i2l, 1) := by decide +kernel
theorem dL_law_675 : decode cL_law 675 = .ok (.lcmp, 1) := by decide +kernel
theorem dL_law_676 : decode cL_law 676 = .ok (.ifCond .eq 5, 3) := by decide +kernel
theorem dL_law_679 : decode cL_law 679 = .ok (.iconst 0, 1) := by decide +kernel
theorem dL_law_680 : decode cL_law 680 = .ok (.ireturn, 1) := by decide +kernel
theorem dL_law_681 : decode cL_law 681 = .ok (.goto 929, 3) := by decide +kernel
theorem dL_law_684 : decode cL_law 684 = .ok (.aload_n 1, 1) := by decide +kernel
theorem dL_law_685 : decode cL_law 685 = .ok (.aload_n 0, 1) := by decide +kernel
theorem dL_law_686 : decode cL_law 686 = .ok (.iload 4, 2) := by decide +kernel
theorem dL_law_688 : decode cL_law 688 = .ok (.iconst 1, 1) := by decide +kernel
theorem dL_law_689 : decode cL_law 689 = .ok (.iadd, 1) := by decide +kernel
theorem dL_law_690 : decode cL_law 690 = .ok (.iaload, 1) := by decide +kernel
theorem dL_law_691 : decode cL_law 691 = .ok (.aload_n 3, 1) := by decide +kernel
theorem dL_law_692 : decode cL_law 692 = .ok (.invokestatic 126, 3) := by decide +kernel
theorem dL_law_695 : decode cL_law 695 = .ok (.istore 5, 2) := by decide +kernel
theorem dL_law_697 : decode cL_law 697 = .ok (.aload_n 2, 1) := by decide +kernel
theorem dL_law_698 : decode cL_law 698 = .ok (.aload_n 0, 1) := by decide +kernel
theorem dL_law_699 : decode cL_law 699 = .ok (.iload 4, 2) := by decide +kernel
theorem dL_law_701 : decode cL_law 701 = .ok (.iconst 1, 1) := by decide +kernel
theorem dL_law_702 : decode cL_law 702 = .ok (.iadd, 1) := by decide +kernel
theorem dL_law_703 : decode cL_law 703 = .ok (.iaload, 1) := by decide +kernel
theorem dL_law_704 : decode cL_law 704 = .ok (.invokevirtual 128, 3) := by decide +kernel
theorem dL_law_707 : decode cL_law 707 = .ok (.istore 6, 2) := by decide +kernel
theorem dL_law_709 : decode cL_law 709 = .ok (.aload_n 2, 1) := by decide +kernel
theorem dL_law_710 : decode cL_law 710 = .ok (.invokevirtual 97, 3) := by decide +kernel
theorem dL_law_713 : decode cL_law 713 = .ok (.iload 5, 2) := by decide +kernel
theorem dL_law_715 : decode cL_law 715 = .ok (.if_icmp .eq 5, 3) := by decide +kernel
theorem dL_law_718 : decode cL_law 718 = .ok (.iconst 0, 1) := by decide +kernel
theorem dL_law_719 : decode cL_law 719 = .ok (.ireturn, 1) := by decide +kernel
theorem dL_law_720 : decode cL_law 720 = .ok (.iload 5, 2) := by decide +kernel
theorem dL_law_722 : decode cL_law 722 = .ok (.ifCond .ne 15, 3) := by decide +kernel
theorem dL_law_725 : decode cL_law 725 = .ok (.aload_n 3, 1) := by decide +kernel
theorem dL_law_726 : decode cL_law 726 = .ok (.iconst 0, 1) := by decide +kernel
theorem dL_law_727 : decode cL_law 727 = .ok (.laload, 1) := by decide +kernel
theorem dL_law_728 : decode cL_law 728 = .ok (.iload 6, 2) := by decide +kernel
theorem dL_law_730 : decode cL_law 730 = .ok (.i2l, 1) := by decide +kernel
theorem dL_law_731 : decode cL_law 731 = .ok (.lcmp, 1) := by decide +kernel
theorem dL_law_732 : decode cL_law 732 = .ok (.ifCond .eq 5, 3) := by decide +kernel
theorem dL_law_735 : decode cL_law 735 = .ok (.iconst 0, 1) := by decide +kernel
theorem dL_law_736 : decode cL_law 736 = .ok (.ireturn, 1) := by decide +kernel
theorem dL_law_737 : decode cL_law 737 = .ok (.goto 873, 3) := by decide +kernel
theorem dL_law_740 : decode cL_law 740 = .ok (.aload_n 1, 1) := by decide +kernel
theorem dL_law_741 : decode cL_law 741 = .ok (.invokevirtual 129, 3) := by decide +kernel
theorem dL_law_744 : decode cL_law 744 = .ok (.aload_n 2, 1) := by decide +kernel
theorem dL_law_745 : decode cL_law 745 = .ok (.invokevirtual 132, 3) := by decide +kernel
theorem dL_law_748 : decode cL_law 748 = .ok (.if_icmp .eq 862, 3) := by decide +kernel
theorem dL_law_751 : decode cL_law 751 = .ok (.iconst 0, 1) := by decide +kernel
theorem dL_law_752 : decode cL_law 752 = .ok (.ireturn, 1) := by decide +kernel
theorem dL_law_753 : decode cL_law 753 = .ok (.aload_n 1, 1) := by decide +kernel
theorem dL_law_754 : decode cL_law 754 = .ok (.aload_n 0, 1) := by decide +kernel
theorem dL_law_755 : decode cL_law 755 = .ok (.iload 4, 2) := by decide +kernel
theorem dL_law_757 : decode cL_law 757 = .ok (.iconst 1, 1) := by decide +kernel
theorem dL_law_758 : decode cL_law 758 = .ok (.iadd, 1) := by decide +kernel
theorem dL_law_759 : decode cL_law 759 = .ok (.iaload, 1) := by decide +kernel
theorem dL_law_760 : decode cL_law 760 = .ok (.aload_n 0, 1) := by decide +kernel
theorem dL_law_761 : decode cL_law 761 = .ok (.iload 4, 2) := by decide +kernel
theorem dL_law_763 : decode cL_law 763 = .ok (.iconst 2, 1) := by decide +kernel
theorem dL_law_764 : decode cL_law 764 = .ok (.iadd, 1) := by decide +kernel
theorem dL_law_765 : decode cL_law 765 = .ok (.iaload, 1) := by decide +kernel
theorem dL_law_766 : decode cL_law 766 = .ok (.aload_n 3, 1) := by decide +kernel
theorem dL_law_767 : decode cL_law 767 = .ok (.invokestatic 133, 3) := by decide +kernel
theorem dL_law_770 : decode cL_law 770 = .ok (.istore 5, 2) := by decide +kernel
theorem dL_law_772 : decode cL_law 772 = .ok (.aload_n 2, 1) := by decide +kernel
theorem dL_law_773 : decode cL_law 773 = .ok (.aload_n 0, 1) := by decide +kernel
theorem dL_law_774 : decode cL_law 774 = .ok (.iload 4, 2) := by decide +kernel
theorem dL_law_776 : decode cL_law 776 = .ok (.iconst 1, 1) := by decide +kernel
theorem dL_law_777 : decode cL_law 777 = .ok (.iadd, 1) := by decide +kernel
theorem dL_law_778 : decode cL_law 778 = .ok (.iaload, 1) := by decide +kernel
theorem dL_law_779 : decode cL_law 779 = .ok (.aload_n 0, 1) := by decide +kernel
theorem dL_law_780 : decode cL_law 780 = .ok (.iload 4, 2) := by decide +kernel
theorem dL_law_782 : decode cL_law 782 = .ok (.iconst 2, 1) := by decide +kernel
theorem dL_law_783 : decode cL_law 783 = .ok (.iadd, 1) := by decide +kernel
theorem dL_law_784 : decode cL_law 784 = .ok (.iaload, 1) := by decide +kernel
theorem dL_law_785 : decode cL_law 785 = .ok (.invokevirtual 135, 3) := by decide +kernel
theorem dL_law_788 : decode cL_law 788 = .ok (.istore 6, 2) := by decide +kernel
theorem dL_law_790 : decode cL_law 790 = .ok (.aload_n 2, 1) := by decide +kernel
theorem dL_law_791 : decode cL_law 791 = .ok (.invokevirtual 97, 3) := by decide +kernel
theorem dL_law_794 : decode cL_law 794 = .ok (.iload 5, 2) := by decide +kernel
theorem dL_law_796 : decode cL_law 796 = .ok (.if_icmp .eq 5, 3) := by decide +kernel
theorem dL_law_799 : decode cL_law 799 = .ok (.iconst 0, 1) := by decide +kernel
theorem dL_law_800 : decode cL_law 800 = .ok (.ireturn, 1) := by decide +kernel
theorem dL_law_801 : decode cL_law 801 = .ok (.iload 5, 2) := by decide +kernel
theorem dL_law_803 : decode cL_law 803 = .ok (.ifCond .ne 15, 3) := by decide +kernel
theorem dL_law_806 : decode cL_law 806 = .ok (.aload_n 3, 1) := by decide +kernel
theorem dL_law_807 : decode cL_law 807 = .ok (.iconst 0, 1) := by decide +kernel
theorem dL_law_808 : decode cL_law 808 = .ok (.laload, 1) := by decide +kernel
theorem dL_law_809 : decode cL_law 809 = .ok (.iload 6, 2) := by decide +kernel
theorem dL_law_811 : decode cL_law 811 = .ok (.i2l, 1) := by decide +kernel
theorem dL_law_812 : decode cL_law 812 = .ok (.lcmp, 1) := by decide +kernel
theorem dL_law_813 : decode cL_law 813 = .ok (.ifCond .eq 5, 3) := by decide +kernel
theorem dL_law_816 : decode cL_law 816 = .ok (.iconst 0, 1) := by decide +kernel
theorem dL_law_817 : decode cL_law 817 = .ok (.ireturn, 1) := by decide +kernel
theorem dL_law_818 : decode cL_law 818 = .ok (.goto 792, 3) := by decide +kernel
theorem dL_law_821 : decode cL_law 821 = .ok (.aload_n 1, 1) := by decide +kernel
theorem dL_law_822 : decode cL_law 822 = .ok (.aload_n 0, 1) := by decide +kernel
theorem dL_law_823 : decode cL_law 823 = .ok (.iload 4, 2) := by decide +kernel
theorem dL_law_825 : decode cL_law 825 = .ok (.iconst 1, 1) := by decide +kernel
theorem dL_law_826 : decode cL_law 826 = .ok (.iadd, 1) := by decide +kernel
theorem dL_law_827 : decode cL_law 827 = .ok (.iaload, 1) := by decide +kernel
theorem dL_law_828 : decode cL_law 828 = .ok (.aload_n 0, 1) := by decide +kernel
theorem dL_law_829 : decode cL_law 829 = .ok (.iload 4, 2) := by decide +kernel
theorem dL_law_831 : decode cL_law 831 = .ok (.iconst 2, 1) := by decide +kernel
theorem dL_law_832 : decode cL_law 832 = .ok (.iadd, 1) := by decide +kernel
theorem dL_law_833 : decode cL_law 833 = .ok (.iaload, 1) := by decide +kernel
theorem dL_law_834 : decode cL_law 834 = .ok (.aload_n 3, 1) := by decide +kernel
theorem dL_law_835 : decode cL_law 835 = .ok (.invokestatic 136, 3) := by decide +kernel
theorem dL_law_838 : decode cL_law 838 = .ok (.istore 5, 2) := by decide +kernel
theorem dL_law_840 : decode cL_law 840 = .ok (.aload_n 2, 1) := by decide +kernel
theorem dL_law_841 : decode cL_law 841 = .ok (.aload_n 0, 1) := by decide +kernel
theorem dL_law_842 : decode cL_law 842 = .ok (.iload 4, 2) := by decide +kernel
theorem dL_law_844 : decode cL_law 844 = .ok (.iconst 1, 1) := by decide +kernel
theorem dL_law_845 : decode cL_law 845 = .ok (.iadd, 1) := by decide +kernel
theorem dL_law_846 : decode cL_law 846 = .ok (.iaload, 1) := by decide +kernel
theorem dL_law_847 : decode cL_law 847 = .ok (.aload_n 0, 1) := by decide +kernel
theorem dL_law_848 : decode cL_law 848 = .ok (.iload 4, 2) := by decide +kernel
theorem dL_law_850 : decode cL_law 850 = .ok (.iconst 2, 1) := by decide +kernel
theorem dL_law_851 : decode cL_law 851 = .ok (.iadd, 1) := by decide +kernel
theorem dL_law_852 : decode cL_law 852 = .ok (.iaload, 1) := by decide +kernel
theorem dL_law_853 : decode cL_law 853 = .ok (.invokevirtual 138, 3) := by decide +kernel
theorem dL_law_856 : decode cL_law 856 = .ok (.istore 6, 2) := by decide +kernel
theorem dL_law_858 : decode cL_law 858 = .ok (.aload_n 2, 1) := by decide +kernel
theorem dL_law_859 : decode cL_law 859 = .ok (.invokevirtual 97, 3) := by decide +kernel
theorem dL_law_862 : decode cL_law 862 = .ok (.iload 5, 2) := by decide +kernel
theorem dL_law_864 : decode cL_law 864 = .ok (.if_icmp .eq 5, 3) := by decide +kernel
theorem dL_law_867 : decode cL_law 867 = .ok (.iconst 0, 1) := by decide +kernel
theorem dL_law_868 : decode cL_law 868 = .ok (.ireturn, 1) := by decide +kernel
theorem dL_law_869 : decode cL_law 869 = .ok (.iload 5, 2) := by decide +kernel
theorem dL_law_871 : decode cL_law 871 = .ok (.ifCond .ne 15, 3) := by decide +kernel
theorem dL_law_874 : decode cL_law 874 = .ok (.aload_n 3, 1) := by decide +kernel
theorem dL_law_875 : decode cL_law 875 = .ok (.iconst 0, 1) := by decide +kernel
theorem dL_law_876 : decode cL_law 876 = .ok (.laload, 1) := by decide +kernel
theorem dL_law_877 : decode cL_law 877 = .ok (.iload 6, 2) := by decide +kernel
theorem dL_law_879 : decode cL_law 879 = .ok (.i2l, 1) := by decide +kernel
theorem dL_law_880 : decode cL_law 880 = .ok (.lcmp, 1) := by decide +kernel
theorem dL_law_881 : decode cL_law 881 = .ok (.ifCond .eq 5, 3) := by decide +kernel
theorem dL_law_884 : decode cL_law 884 = .ok (.iconst 0, 1) := by decide +kernel
theorem dL_law_885 : decode cL_law 885 = .ok (.ireturn, 1) := by decide +kernel
theorem dL_law_886 : decode cL_law 886 = .ok (.goto 724, 3) := by decide +kernel
theorem dL_law_889 : decode cL_law 889 = .ok (.aload_n 1, 1) := by decide +kernel
theorem dL_law_890 : decode cL_law 890 = .ok (.aload_n 0, 1) := by decide +kernel
theorem dL_law_891 : decode cL_law 891 = .ok (.iload 4, 2) := by decide +kernel
theorem dL_law_893 : decode cL_law 893 = .ok (.iconst 1, 1) := by decide +kernel
theorem dL_law_894 : decode cL_law 894 = .ok (.iadd, 1) := by decide +kernel
theorem dL_law_895 : decode cL_law 895 = .ok (.iaload, 1) := by decide +kernel
theorem dL_law_896 : decode cL_law 896 = .ok (.aload_n 0, 1) := by decide +kernel
theorem dL_law_897 : decode cL_law 897 = .ok (.iload 4, 2) := by decide +kernel
theorem dL_law_899 : decode cL_law 899 = .ok (.iconst 2, 1) := by decide +kernel
theorem dL_law_900 : decode cL_law 900 = .ok (.iadd, 1) := by decide +kernel
theorem dL_law_901 : decode cL_law 901 = .ok (.iaload, 1) := by decide +kernel
theorem dL_law_902 : decode cL_law 902 = .ok (.aload_n 3, 1) := by decide +kernel
theorem dL_law_903 : decode cL_law 903 = .ok (.invokestatic 139, 3) := by decide +kernel
theorem dL_law_906 : decode cL_law 906 = .ok (.istore 5, 2) := by decide +kernel
theorem dL_law_908 : decode cL_law 908 = .ok (.aload_n 2, 1) := by decide +kernel
theorem dL_law_909 : decode cL_law 909 = .ok (.aload_n 0, 1) := by decide +kernel
theorem dL_law_910 : decode cL_law 910 = .ok (.iload 4, 2) := by decide +kernel
theorem dL_law_912 : decode cL_law 912 = .ok (.iconst 1, 1) := by decide +kernel
theorem dL_law_913 : decode cL_law 913 = .ok (.iadd, 1) := by decide +kernel
theorem dL_law_914 : decode cL_law 914 = .ok (.iaload, 1) := by decide +kernel
theorem dL_law_915 : decode cL_law 915 = .ok (.aload_n 0, 1) := by decide +kernel
theorem dL_law_916 : decode cL_law 916 = .ok (.iload 4, 2) := by decide +kernel
theorem dL_law_918 : decode cL_law 918 = .ok (.iconst 2, 1) := by decide +kernel
theorem dL_law_919 : decode cL_law 919 = .ok (.iadd, 1) := by decide +kernel
theorem dL_law_920 : decode cL_law 920 = .ok (.iaload, 1) := by decide +kernel
theorem dL_law_921 : decode cL_law 921 = .ok (.invokevirtual 141, 3) := by decide +kernel
theorem dL_law_924 : decode cL_law 924 = .ok (.istore 6, 2) := by decide +kernel
theorem dL_law_926 : decode cL_law 926 = .ok (.aload_n 2, 1) := by decide +kernel
theorem dL_law_927 : decode cL_law 927 = .ok (.invokevirtual 97, 3) := by decide +kernel
theorem dL_law_930 : decode cL_law 930 = .ok (.iload 5, 2) := by decide +kernel
theorem dL_law_932 : decode cL_law 932 = .ok (.if_icmp .eq 5, 3) := by decide +kernel
theorem dL_law_935 : decode cL_law 935 = .ok (.iconst 0, 1) := by decide +kernel
theorem dL_law_936 : decode cL_law 936 = .ok (.ireturn, 1) := by decide +kernel
theorem dL_law_937 : decode cL_law 937 = .ok (.iload 5, 2) := by decide +kernel
theorem dL_law_939 : decode cL_law 939 = .ok (.ifCond .ne 15, 3) := by decide +kernel
theorem dL_law_942 : decode cL_law 942 = .ok (.aload_n 3, 1) := by decide +kernel
theorem dL_law_943 : decode cL_law 943 = .ok (.iconst 0, 1) := by decide +kernel
theorem dL_law_944 : decode cL_law 944 = .ok (.laload, 1) := by decide +kernel
theorem dL_law_945 : decode cL_law 945 = .ok (.iload 6, 2) := by decide +kernel
theorem dL_law_947 : decode cL_law 947 = .ok (.i2l, 1) := by decide +kernel
theorem dL_law_948 : decode cL_law 948 = .ok (.lcmp, 1) := by decide +kernel
theorem dL_law_949 : decode cL_law 949 = .ok (.ifCond .eq 5, 3) := by decide +kernel
theorem dL_law_952 : decode cL_law 952 = .ok (.iconst 0, 1) := by decide +kernel
theorem dL_law_953 : decode cL_law 953 = .ok (.ireturn, 1) := by decide +kernel
theorem dL_law_954 : decode cL_law 954 = .ok (.goto 656, 3) := by decide +kernel
theorem dL_law_957 : decode cL_law 957 = .ok (.aload_n 1, 1) := by decide +kernel
theorem dL_law_958 : decode cL_law 958 = .ok (.aload_n 0, 1) := by decide +kernel
theorem dL_law_959 : decode cL_law 959 = .ok (.iload 4, 2) := by decide +kernel
theorem dL_law_961 : decode cL_law 961 = .ok (.iconst 1, 1) := by decide +kernel
theorem dL_law_962 : decode cL_law 962 = .ok (.iadd, 1) := by decide +kernel
theorem dL_law_963 : decode cL_law 963 = .ok (.iaload, 1) := by decide +kernel
theorem dL_law_964 : decode cL_law 964 = .ok (.aload_n 0, 1) := by decide +kernel
theorem dL_law_965 : decode cL_law 965 = .ok (.iload 4, 2) := by decide +kernel
theorem dL_law_967 : decode cL_law 967 = .ok (.iconst 2, 1) := by decide +kernel
theorem dL_law_968 : decode cL_law 968 = .ok (.iadd, 1) := by decide +kernel
theorem dL_law_969 : decode cL_law 969 = .ok (.iaload, 1) := by decide +kernel
theorem dL_law_970 : decode cL_law 970 = .ok (.aload_n 3, 1) := by decide +kernel
theorem dL_law_971 : decode cL_law 971 = .ok (.invokestatic 142, 3) := by decide +kernel
theorem dL_law_974 : decode cL_law 974 = .ok (.istore 5, 2) := by decide +kernel
theorem dL_law_976 : decode cL_law 976 = .ok (.aload_n 2, 1) := by decide +kernel
theorem dL_law_977 : decode cL_law 977 = .ok (.aload_n 0, 1) := by decide +kernel
theorem dL_law_978 : decode cL_law 978 = .ok (.iload 4, 2) := by decide +kernel
theorem dL_law_980 : decode cL_law 980 = .ok (.iconst 1, 1) := by decide +kernel
theorem dL_law_981 : decode cL_law 981 = .ok (.iadd, 1) := by decide +kernel
theorem dL_law_982 : decode cL_law 982 = .ok (.iaload, 1) := by decide +kernel
theorem dL_law_983 : decode cL_law 983 = .ok (.aload_n 0, 1) := by decide +kernel
theorem dL_law_984 : decode cL_law 984 = .ok (.iload 4, 2) := by decide +kernel
theorem dL_law_986 : decode cL_law 986 = .ok (.iconst 2, 1) := by decide +kernel
theorem dL_law_987 : decode cL_law 987 = .ok (.iadd, 1) := by decide +kernel
theorem dL_law_988 : decode cL_law 988 = .ok (.iaload, 1) := by decide +kernel
theorem dL_law_989 : decode cL_law 989 = .ok (.invokevirtual 144, 3) := by decide +kernel
theorem dL_law_992 : decode cL_law 992 = .ok (.istore 6, 2) := by decide +kernel
theorem dL_law_994 : decode cL_law 994 = .ok (.aload_n 2, 1) := by decide +kernel
theorem dL_law_995 : decode cL_law 995 = .ok (.invokevirtual 97, 3) := by decide +kernel
theorem dL_law_998 : decode cL_law 998 = .ok (.iload 5, 2) := by decide +kernel
theorem dL_law_1000 : decode cL_law 1000 = .ok (.if_icmp .eq 5, 3) := by decide +kernel
theorem dL_law_1003 : decode cL_law 1003 = .ok (.iconst 0, 1) := by decide +kernel
theorem dL_law_1004 : decode cL_law 1004 = .ok (.ireturn, 1) := by decide +kernel
theorem dL_law_1005 : decode cL_law 1005 = .ok (.iload 5, 2) := by decide +kernel
theorem dL_law_1007 : decode cL_law 1007 = .ok (.ifCond .ne 15, 3) := by decide +kernel
theorem dL_law_1010 : decode cL_law 1010 = .ok (.aload_n 3, 1) := by decide +kernel
theorem dL_law_1011 : decode cL_law 1011 = .ok (.iconst 0, 1) := by decide +kernel
theorem dL_law_1012 : decode cL_law 1012 = .ok (.laload, 1) := by decide +kernel
theorem dL_law_1013 : decode cL_law 1013 = .ok (.iload 6, 2) := by decide +kernel
theorem dL_law_1015 : decode cL_law 1015 = .ok (.i2l, 1) := by decide +kernel
theorem dL_law_1016 : decode cL_law 1016 = .ok (.lcmp, 1) := by decide +kernel
theorem dL_law_1017 : decode cL_law 1017 = .ok (.ifCond .eq 5, 3) := by decide +kernel
theorem dL_law_1020 : decode cL_law 1020 = .ok (.iconst 0, 1) := by decide +kernel
theorem dL_law_1021 : decode cL_law 1021 = .ok (.ireturn, 1) := by decide +kernel
theorem dL_law_1022 : decode cL_law 1022 = .ok (.goto 588, 3) := by decide +kernel
theorem dL_law_1025 : decode cL_law 1025 = .ok (.aload_n 1, 1) := by decide +kernel
theorem dL_law_1026 : decode cL_law 1026 = .ok (.aload_n 0, 1) := by decide +kernel
theorem dL_law_1027 : decode cL_law 1027 = .ok (.iload 4, 2) := by decide +kernel
theorem dL_law_1029 : decode cL_law 1029 = .ok (.iconst 1, 1) := by decide +kernel
theorem dL_law_1030 : decode cL_law 1030 = .ok (.iadd, 1) := by decide +kernel
theorem dL_law_1031 : decode cL_law 1031 = .ok (.iaload, 1) := by decide +kernel
theorem dL_law_1032 : decode cL_law 1032 = .ok (.aload_n 0, 1) := by decide +kernel
theorem dL_law_1033 : decode cL_law 1033 = .ok (.iload 4, 2) := by decide +kernel
theorem dL_law_1035 : decode cL_law 1035 = .ok (.iconst 2, 1) := by decide +kernel
theorem dL_law_1036 : decode cL_law 1036 = .ok (.iadd, 1) := by decide +kernel
theorem dL_law_1037 : decode cL_law 1037 = .ok (.iaload, 1) := by decide +kernel
theorem dL_law_1038 : decode cL_law 1038 = .ok (.aload_n 3, 1) := by decide +kernel
theorem dL_law_1039 : decode cL_law 1039 = .ok (.invokestatic 145, 3) := by decide +kernel
theorem dL_law_1042 : decode cL_law 1042 = .ok (.istore 5, 2) := by decide +kernel
theorem dL_law_1044 : decode cL_law 1044 = .ok (.aload_n 2, 1) := by decide +kernel
theorem dL_law_1045 : decode cL_law 1045 = .ok (.aload_n 0, 1) := by decide +kernel
theorem dL_law_1046 : decode cL_law 1046 = .ok (.iload 4, 2) := by decide +kernel
theorem dL_law_1048 : decode cL_law 1048 = .ok (.iconst 1, 1) := by decide +kernel
theorem dL_law_1049 : decode cL_law 1049 = .ok (.iadd, 1) := by decide +kernel
theorem dL_law_1050 : decode cL_law 1050 = .ok (.iaload, 1) := by decide +kernel
theorem dL_law_1051 : decode cL_law 1051 = .ok (.aload_n 0, 1) := by decide +kernel
theorem dL_law_1052 : decode cL_law 1052 = .ok (.iload 4, 2) := by decide +kernel
theorem dL_law_1054 : decode cL_law 1054 = .ok (.iconst 2, 1) := by decide +kernel
theorem dL_law_1055 : decode cL_law 1055 = .ok (.iadd, 1) := by decide +kernel
theorem dL_law_1056 : decode cL_law 1056 = .ok (.iaload, 1) := by decide +kernel
theorem dL_law_1057 : decode cL_law 1057 = .ok (.invokevirtual 147, 3) := by decide +kernel
theorem dL_law_1060 : decode cL_law 1060 = .ok (.istore 6, 2) := by decide +kernel
theorem dL_law_1062 : decode cL_law 1062 = .ok (.aload_n 2, 1) := by decide +kernel
theorem dL_law_1063 : decode cL_law 1063 = .ok (.invokevirtual 97, 3) := by decide +kernel
theorem dL_law_1066 : decode cL_law 1066 = .ok (.iload 5, 2) := by decide +kernel
theorem dL_law_1068 : decode cL_law 1068 = .ok (.if_icmp .eq 5, 3) := by decide +kernel
theorem dL_law_1071 : decode cL_law 1071 = .ok (.iconst 0, 1) := by decide +kernel
theorem dL_law_1072 : decode cL_law 1072 = .ok (.ireturn, 1) := by decide +kernel
theorem dL_law_1073 : decode cL_law 1073 = .ok (.iload 5, 2) := by decide +kernel
theorem dL_law_1075 : decode cL_law 1075 = .ok (.ifCond .ne 15, 3) := by decide +kernel
theorem dL_law_1078 : decode cL_law 1078 = .ok (.aload_n 3, 1) := by decide +kernel
theorem dL_law_1079 : decode cL_law 1079 = .ok (.iconst 0, 1) := by decide +kernel
theorem dL_law_1080 : decode cL_law 1080 = .ok (.laload, 1) := by decide +kernel
theorem dL_law_1081 : decode cL_law 1081 = .ok (.iload 6, 2) := by decide +kernel
theorem dL_law_1083 : decode cL_law 1083 = .ok (.i2l, 1) := by decide +kernel
theorem dL_law_1084 : decode cL_law 1084 = .ok (.lcmp, 1) := by decide +kernel
theorem dL_law_1085 : decode cL_law 1085 = .ok (.ifCond .eq 5, 3) := by decide +kernel
theorem dL_law_1088 : decode cL_law 1088 = .ok (.iconst 0, 1) := by decide +kernel
theorem dL_law_1089 : decode cL_law 1089 = .ok (.ireturn, 1) := by decide +kernel
theorem dL_law_1090 : decode cL_law 1090 = .ok (.goto 520, 3) := by decide +kernel
theorem dL_law_1093 : decode cL_law 1093 = .ok (.aload_n 1, 1) := by decide +kernel
theorem dL_law_1094 : decode cL_law 1094 = .ok (.aload_n 0, 1) := by decide +kernel
theorem dL_law_1095 : decode cL_law 1095 = .ok (.iload 4, 2) := by decide +kernel
theorem dL_law_1097 : decode cL_law 1097 = .ok (.iconst 1, 1) := by decide +kernel
theorem dL_law_1098 : decode cL_law 1098 = .ok (.iadd, 1) := by decide +kernel
theorem dL_law_1099 : decode cL_law 1099 = .ok (.iaload, 1) := by decide +kernel
theorem dL_law_1100 : decode cL_law 1100 = .ok (.aload_n 3, 1) := by decide +kernel
theorem dL_law_1101 : decode cL_law 1101 = .ok (.invokestatic 148, 3) := by decide +kernel
theorem dL_law_1104 : decode cL_law 1104 = .ok (.istore 5, 2) := by decide +kernel
theorem dL_law_1106 : decode cL_law 1106 = .ok (.aload_n 2, 1) := by decide +kernel
theorem dL_law_1107 : decode cL_law 1107 = .ok (.aload_n 0, 1) := by decide +kernel
theorem dL_law_1108 : decode cL_law 1108 = .ok (.iload 4, 2) := by decide +kernel
theorem dL_law_1110 : decode cL_law 1110 = .ok (.iconst 1, 1) := by decide +kernel
theorem dL_law_1111 : decode cL_law 1111 = .ok (.iadd, 1) := by decide +kernel
theorem dL_law_1112 : decode cL_law 1112 = .ok (.iaload, 1) := by decide +kernel
theorem dL_law_1113 : decode cL_law 1113 = .ok (.invokevirtual 150, 3) := by decide +kernel
theorem dL_law_1116 : decode cL_law 1116 = .ok (.istore 6, 2) := by decide +kernel
theorem dL_law_1118 : decode cL_law 1118 = .ok (.aload_n 2, 1) := by decide +kernel
theorem dL_law_1119 : decode cL_law 1119 = .ok (.invokevirtual 97, 3) := by decide +kernel
theorem dL_law_1122 : decode cL_law 1122 = .ok (.iload 5, 2) := by decide +kernel
theorem dL_law_1124 : decode cL_law 1124 = .ok (.if_icmp .eq 5, 3) := by decide +kernel
theorem dL_law_1127 : decode cL_law 1127 = .ok (.iconst 0, 1) := by decide +kernel
theorem dL_law_1128 : decode cL_law 1128 = .ok (.ireturn, 1) := by decide +kernel
theorem dL_law_1129 : decode cL_law 1129 = .ok (.iload 5, 2) := by decide +kernel
theorem dL_law_1131 : decode cL_law 1131 = .ok (.ifCond .ne 22, 3) := by decide +kernel
theorem dL_law_1134 : decode cL_law 1134 = .ok (.aload_n 3, 1) := by decide +kernel
theorem dL_law_1135 : decode cL_law 1135 = .ok (.iconst 0, 1) := by decide +kernel
theorem dL_law_1136 : decode cL_law 1136 = .ok (.laload, 1) := by decide +kernel
theorem dL_law_1137 : decode cL_law 1137 = .ok (.iload 6, 2) := by decide +kernel
theorem dL_law_1139 : decode cL_law 1139 = .ok (.ifCond .eq 7, 3) := by decide +kernel
theorem dL_law_1142 : decode cL_law 1142 = .ok (.lconst 1, 1) := by decide +kernel
theorem dL_law_1143 : decode cL_law 1143 = .ok (.goto 4, 3) := by decide +kernel
theorem dL_law_1146 : decode cL_law 1146 = .ok (.lconst 0, 1) := by decide +kernel
theorem dL_law_1147 : decode cL_law 1147 = .ok (.lcmp, 1) := by decide +kernel
theorem dL_law_1148 : decode cL_law 1148 = .ok (.ifCond .eq 5, 3) := by decide +kernel
theorem dL_law_1151 : decode cL_law 1151 = .ok (.iconst 0, 1) := by decide +kernel
theorem dL_law_1152 : decode cL_law 1152 = .ok (.ireturn, 1) := by decide +kernel
theorem dL_law_1153 : decode cL_law 1153 = .ok (.goto 457, 3) := by decide +kernel
theorem dL_law_1156 : decode cL_law 1156 = .ok (.aload_n 1, 1) := by decide +kernel
theorem dL_law_1157 : decode cL_law 1157 = .ok (.aload_n 0, 1) := by decide +kernel
theorem dL_law_1158 : decode cL_law 1158 = .ok (.iload 4, 2) := by decide +kernel
theorem dL_law_1160 : decode cL_law 1160 = .ok (.iconst 1, 1) := by decide +kernel
theorem dL_law_1161 : decode cL_law 1161 = .ok (.iadd, 1) := by decide +kernel
theorem dL_law_1162 : decode cL_law 1162 = .ok (.iaload, 1) := by decide +kernel
theorem dL_law_1163 : decode cL_law 1163 = .ok (.invokestatic 151, 3) := by decide +kernel
theorem dL_law_1166 : decode cL_law 1166 = .ok (.istore 5, 2) := by decide +kernel
theorem dL_law_1168 : decode cL_law 1168 = .ok (.aload_n 2, 1) := by decide +kernel
theorem dL_law_1169 : decode cL_law 1169 = .ok (.aload_n 0, 1) := by decide +kernel
theorem dL_law_1170 : decode cL_law 1170 = .ok (.iload 4, 2) := by decide +kernel
theorem dL_law_1172 : decode cL_law 1172 = .ok (.iconst 1, 1) := by decide +kernel
theorem dL_law_1173 : decode cL_law 1173 = .ok (.iadd, 1) := by decide +kernel
theorem dL_law_1174 : decode cL_law 1174 = .ok (.iaload, 1) := by decide +kernel
theorem dL_law_1175 : decode cL_law 1175 = .ok (.invokevirtual 154, 3) := by decide +kernel
theorem dL_law_1178 : decode cL_law 1178 = .ok (.aload_n 2, 1) := by decide +kernel
theorem dL_law_1179 : decode cL_law 1179 = .ok (.invokevirtual 97, 3) := by decide +kernel
theorem dL_law_1182 : decode cL_law 1182 = .ok (.iload 5, 2) := by decide +kernel
theorem dL_law_1184 : decode cL_law 1184 = .ok (.if_icmp .eq 5, 3) := by decide +kernel
theorem dL_law_1187 : decode cL_law 1187 = .ok (.iconst 0, 1) := by decide +kernel
theorem dL_law_1188 : decode cL_law 1188 = .ok (.ireturn, 1) := by decide +kernel
theorem dL_law_1189 : decode cL_law 1189 = .ok (.goto 421, 3) := by decide +kernel
theorem dL_law_1192 : decode cL_law 1192 = .ok (.aload_n 1, 1) := by decide +kernel
theorem dL_law_1193 : decode cL_law 1193 = .ok (.invokevirtual 155, 3) := by decide +kernel
theorem dL_law_1196 : decode cL_law 1196 = .ok (.aload_n 2, 1) := by decide +kernel
theorem dL_law_1197 : decode cL_law 1197 = .ok (.invokevirtual 158, 3) := by decide +kernel
theorem dL_law_1200 : decode cL_law 1200 = .ok (.if_icmp .eq 410, 3) := by decide +kernel
theorem dL_law_1203 : decode cL_law 1203 = .ok (.iconst 0, 1) := by decide +kernel
theorem dL_law_1204 : decode cL_law 1204 = .ok (.ireturn, 1) := by decide +kernel
theorem dL_law_1205 : decode cL_law 1205 = .ok (.aload_n 1, 1) := by decide +kernel
theorem dL_law_1206 : decode cL_law 1206 = .ok (.aload_n 0, 1) := by decide +kernel
theorem dL_law_1207 : decode cL_law 1207 = .ok (.iload 4, 2) := by decide +kernel
theorem dL_law_1209 : decode cL_law 1209 = .ok (.iconst 1, 1) := by decide +kernel
theorem dL_law_1210 : decode cL_law 1210 = .ok (.iadd, 1) := by decide +kernel
theorem dL_law_1211 : decode cL_law 1211 = .ok (.iaload, 1) := by decide +kernel
theorem dL_law_1212 : decode cL_law 1212 = .ok (.aload_n 3, 1) := by decide +kernel
theorem dL_law_1213 : decode cL_law 1213 = .ok (.invokestatic 159, 3) := by decide +kernel
theorem dL_law_1216 : decode cL_law 1216 = .ok (.istore 5, 2) := by decide +kernel
theorem dL_law_1218 : decode cL_law 1218 = .ok (.aload_n 2, 1) := by decide +kernel
theorem dL_law_1219 : decode cL_law 1219 = .ok (.aload_n 0, 1) := by decide +kernel
theorem dL_law_1220 : decode cL_law 1220 = .ok (.iload 4, 2) := by decide +kernel
theorem dL_law_1222 : decode cL_law 1222 = .ok (.iconst 1, 1) := by decide +kernel
theorem dL_law_1223 : decode cL_law 1223 = .ok (.iadd, 1) := by decide +kernel
theorem dL_law_1224 : decode cL_law 1224 = .ok (.iaload, 1) := by decide +kernel
theorem dL_law_1225 : decode cL_law 1225 = .ok (.invokevirtual 161, 3) := by decide +kernel
theorem dL_law_1228 : decode cL_law 1228 = .ok (.istore 6, 2) := by decide +kernel
theorem dL_law_1230 : decode cL_law 1230 = .ok (.aload_n 2, 1) := by decide +kernel
theorem dL_law_1231 : decode cL_law 1231 = .ok (.invokevirtual 97, 3) := by decide +kernel
theorem dL_law_1234 : decode cL_law 1234 = .ok (.iload 5, 2) := by decide +kernel
theorem dL_law_1236 : decode cL_law 1236 = .ok (.if_icmp .eq 5, 3) := by decide +kernel
theorem dL_law_1239 : decode cL_law 1239 = .ok (.iconst 0, 1) := by decide +kernel
theorem dL_law_1240 : decode cL_law 1240 = .ok (.ireturn, 1) := by decide +kernel
theorem dL_law_1241 : decode cL_law 1241 = .ok (.iload 5, 2) := by decide +kernel
theorem dL_law_1243 : decode cL_law 1243 = .ok (.ifCond .ne 15, 3) := by decide +kernel
theorem dL_law_1246 : decode cL_law 1246 = .ok (.aload_n 3, 1) := by decide +kernel
theorem dL_law_1247 : decode cL_law 1247 = .ok (.iconst 0, 1) := by decide +kernel
theorem dL_law_1248 : decode cL_law 1248 = .ok (.laload, 1) := by decide +kernel
theorem dL_law_1249 : decode cL_law 1249 = .ok (.iload 6, 2) := by decide +kernel
theorem dL_law_1251 : decode cL_law 1251 = .ok (.i2l, 1) := by decide +kernel
theorem dL_law_1252 : decode cL_law 1252 = .ok (.lcmp, 1) := by decide +kernel
theorem dL_law_1253 : decode cL_law 1253 = .ok (.ifCond .eq 5, 3) := by decide +kernel
theorem dL_law_1256 : decode cL_law 1256 = .ok (.iconst 0, 1) := by decide +kernel
theorem dL_law_1257 : decode cL_law 1257 = .ok (.ireturn, 1) := by decide +kernel
theorem dL_law_1258 : decode cL_law 1258 = .ok (.goto 352, 3) := by decide +kernel
theorem dL_law_1261 : decode cL_law 1261 = .ok (.aload_n 1, 1) := by decide +kernel
theorem dL_law_1262 : decode cL_law 1262 = .ok (.aload_n 0, 1) := by decide +kernel
theorem dL_law_1263 : decode cL_law 1263 = .ok (.iload 4, 2) := by decide +kernel
theorem dL_law_1265 : decode cL_law 1265 = .ok (.iconst 1, 1) := by decide +kernel
theorem dL_law_1266 : decode cL_law 1266 = .ok (.iadd, 1) := by decide +kernel
theorem dL_law_1267 : decode cL_law 1267 = .ok (.iaload, 1) := by decide +kernel
theorem dL_law_1268 : decode cL_law 1268 = .ok (.aload_n 3, 1) := by decide +kernel
theorem dL_law_1269 : decode cL_law 1269 = .ok (.invokestatic 162, 3) := by decide +kernel
theorem dL_law_1272 : decode cL_law 1272 = .ok (.istore 5, 2) := by decide +kernel
theorem dL_law_1274 : decode cL_law 1274 = .ok (.aload_n 2, 1) := by decide +kernel
theorem dL_law_1275 : decode cL_law 1275 = .ok (.aload_n 0, 1) := by decide +kernel
theorem dL_law_1276 : decode cL_law 1276 = .ok (.iload 4, 2) := by decide +kernel
theorem dL_law_1278 : decode cL_law 1278 = .ok (.iconst 1, 1) := by decide +kernel
theorem dL_law_1279 : decode cL_law 1279 = .ok (.iadd, 1) := by decide +kernel
theorem dL_law_1280 : decode cL_law 1280 = .ok (.iaload, 1) := by decide +kernel
theorem dL_law_1281 : decode cL_law 1281 = .ok (.invokevirtual 164, 3) := by decide +kernel
theorem dL_law_1284 : decode cL_law 1284 = .ok (.istore 6, 2) := by decide +kernel
theorem dL_law_1286 : decode cL_law 1286 = .ok (.aload_n 2, 1) := by decide +kernel
theorem dL_law_1287 : decode cL_law 1287 = .ok (.invokevirtual 97, 3) := by decide +kernel
theorem dL_law_1290 : decode cL_law 1290 = .ok (.iload 5, 2) := by decide +kernel
theorem dL_law_1292 : decode cL_law 1292 = .ok (.if_icmp .eq 5, 3) := by decide +kernel
theorem dL_law_1295 : decode cL_law 1295 = .ok (.iconst 0, 1) := by decide +kernel
theorem dL_law_1296 : decode cL_law 1296 = .ok (.ireturn, 1) := by decide +kernel
theorem dL_law_1297 : decode cL_law 1297 = .ok (.iload 5, 2) := by decide +kernel
theorem dL_law_1299 : decode cL_law 1299 = .ok (.ifCond .ne 15, 3) := by decide +kernel
theorem dL_law_1302 : decode cL_law 1302 = .ok (.aload_n 3, 1) := by decide +kernel
theorem dL_law_1303 : decode cL_law 1303 = .ok (.iconst 0, 1) := by decide +kernel
theorem dL_law_1304 : decode cL_law 1304 = .ok (.laload, 1) := by decide +kernel
theorem dL_law_1305 : decode cL_law 1305 = .ok (.iload 6, 2) := by decide +kernel
theorem dL_law_1307 : decode cL_law 1307 = .ok (.i2l, 1) := by decide +kernel
theorem dL_law_1308 : decode cL_law 1308 = .ok (.lcmp, 1) := by decide +kernel
theorem dL_law_1309 : decode cL_law 1309 = .ok (.ifCond .eq 5, 3) := by decide +kernel
theorem dL_law_1312 : decode cL_law 1312 = .ok (.iconst 0, 1) := by decide +kernel
theorem dL_law_1313 : decode cL_law 1313 = .ok (.ireturn, 1) := by decide +kernel
theorem dL_law_1314 : decode cL_law 1314 = .ok (.goto 296, 3) := by decide +kernel
theorem dL_law_1317 : decode cL_law 1317 = .ok (.aload_n 1, 1) := by decide +kernel
theorem dL_law_1318 : decode cL_law 1318 = .ok (.aload_n 0, 1) := by decide +kernel
theorem dL_law_1319 : decode cL_law 1319 = .ok (.iload 4, 2) := by decide +kernel
theorem dL_law_1321 : decode cL_law 1321 = .ok (.iconst 1, 1) := by decide +kernel
theorem dL_law_1322 : decode cL_law 1322 = .ok (.iadd, 1) := by decide +kernel
theorem dL_law_1323 : decode cL_law 1323 = .ok (.iaload, 1) := by decide +kernel
theorem dL_law_1324 : decode cL_law 1324 = .ok (.aload_n 3, 1) := by decide +kernel
theorem dL_law_1325 : decode cL_law 1325 = .ok (.invokestatic 165, 3) := by decide +kernel
theorem dL_law_1328 : decode cL_law 1328 = .ok (.istore 5, 2) := by decide +kernel
theorem dL_law_1330 : decode cL_law 1330 = .ok (.aload_n 2, 1) := by decide +kernel
theorem dL_law_1331 : decode cL_law 1331 = .ok (.aload_n 0, 1) := by decide +kernel
theorem dL_law_1332 : decode cL_law 1332 = .ok (.iload 4, 2) := by decide +kernel
theorem dL_law_1334 : decode cL_law 1334 = .ok (.iconst 1, 1) := by decide +kernel
theorem dL_law_1335 : decode cL_law 1335 = .ok (.iadd, 1) := by decide +kernel
theorem dL_law_1336 : decode cL_law 1336 = .ok (.iaload, 1) := by decide +kernel
theorem dL_law_1337 : decode cL_law 1337 = .ok (.invokevirtual 167, 3) := by decide +kernel
theorem dL_law_1340 : decode cL_law 1340 = .ok (.istore 6, 2) := by decide +kernel
theorem dL_law_1342 : decode cL_law 1342 = .ok (.aload_n 2, 1) := by decide +kernel
theorem dL_law_1343 : decode cL_law 1343 = .ok (.invokevirtual 97, 3) := by decide +kernel
theorem dL_law_1346 : decode cL_law 1346 = .ok (.iload 5, 2) := by decide +kernel
theorem dL_law_1348 : decode cL_law 1348 = .ok (.if_icmp .eq 5, 3) := by decide +kernel
theorem dL_law_1351 : decode cL_law 1351 = .ok (.iconst 0, 1) := by decide +kernel
theorem dL_law_1352 : decode cL_law 1352 = .ok (.ireturn, 1) := by decide +kernel
theorem dL_law_1353 : decode cL_law 1353 = .ok (.iload 5, 2) := by decide +kernel
theorem dL_law_1355 : decode cL_law 1355 = .ok (.ifCond .ne 15, 3) := by decide +kernel
theorem dL_law_1358 : decode cL_law 1358 = .ok (.aload_n 3, 1) := by decide +kernel
theorem dL_law_1359 : decode cL_law 1359 = .ok (.iconst 0, 1) := by decide +kernel
theorem dL_law_1360 : decode cL_law 1360 = .ok (.laload, 1) := by decide +kernel
theorem dL_law_1361 : decode cL_law 1361 = .ok (.iload 6, 2) := by decide +kernel
theorem dL_law_1363 : decode cL_law 1363 = .ok (.i2l, 1) := by decide +kernel
theorem dL_law_1364 : decode cL_law 1364 = .ok (.lcmp, 1) := by decide +kernel
theorem dL_law_1365 : decode cL_law 1365 = .ok (.ifCond .eq 5, 3) := by decide +kernel
theorem dL_law_1368 : decode cL_law 1368 = .ok (.iconst 0, 1) := by decide +kernel
theorem dL_law_1369 : decode cL_law 1369 = .ok (.ireturn, 1) := by decide +kernel
theorem dL_law_1370 : decode cL_law 1370 = .ok (.goto 240, 3) := by decide +kernel
theorem dL_law_1373 : decode cL_law 1373 = .ok (.aload_n 1, 1) := by decide +kernel
theorem dL_law_1374 : decode cL_law 1374 = .ok (.aload_n 0, 1) := by decide +kernel
theorem dL_law_1375 : decode cL_law 1375 = .ok (.iload 4, 2) := by decide +kernel
theorem dL_law_1377 : decode cL_law 1377 = .ok (.iconst 1, 1) := by decide +kernel
theorem dL_law_1378 : decode cL_law 1378 = .ok (.iadd, 1) := by decide +kernel
theorem dL_law_1379 : decode cL_law 1379 = .ok (.iaload, 1) := by decide +kernel
theorem dL_law_1380 : decode cL_law 1380 = .ok (.aload_n 3, 1) := by decide +kernel
theorem dL_law_1381 : decode cL_law 1381 = .ok (.invokestatic 168, 3) := by decide +kernel
theorem dL_law_1384 : decode cL_law 1384 = .ok (.istore 5, 2) := by decide +kernel
theorem dL_law_1386 : decode cL_law 1386 = .ok (.aload_n 2, 1) := by decide +kernel
theorem dL_law_1387 : decode cL_law 1387 = .ok (.aload_n 0, 1) := by decide +kernel
theorem dL_law_1388 : decode cL_law 1388 = .ok (.iload 4, 2) := by decide +kernel
theorem dL_law_1390 : decode cL_law 1390 = .ok (.iconst 1, 1) := by decide +kernel
theorem dL_law_1391 : decode cL_law 1391 = .ok (.iadd, 1) := by decide +kernel
theorem dL_law_1392 : decode cL_law 1392 = .ok (.iaload, 1) := by decide +kernel
theorem dL_law_1393 : decode cL_law 1393 = .ok (.invokevirtual 170, 3) := by decide +kernel
theorem dL_law_1396 : decode cL_law 1396 = .ok (.istore 6, 2) := by decide +kernel
theorem dL_law_1398 : decode cL_law 1398 = .ok (.aload_n 2, 1) := by decide +kernel
theorem dL_law_1399 : decode cL_law 1399 = .ok (.invokevirtual 97, 3) := by decide +kernel
theorem dL_law_1402 : decode cL_law 1402 = .ok (.iload 5, 2) := by decide +kernel
theorem dL_law_1404 : decode cL_law 1404 = .ok (.if_icmp .eq 5, 3) := by decide +kernel
theorem dL_law_1407 : decode cL_law 1407 = .ok (.iconst 0, 1) := by decide +kernel
theorem dL_law_1408 : decode cL_law 1408 = .ok (.ireturn, 1) := by decide +kernel
theorem dL_law_1409 : decode cL_law 1409 = .ok (.iload 5, 2) := by decide +kernel
theorem dL_law_1411 : decode cL_law 1411 = .ok (.ifCond .ne 15, 3) := by decide +kernel
theorem dL_law_1414 : decode cL_law 1414 = .ok (.aload_n 3, 1) := by decide +kernel
theorem dL_law_1415 : decode cL_law 1415 = .ok (.iconst 0, 1) := by decide +kernel
theorem dL_law_1416 : decode cL_law 1416 = .ok (.laload, 1) := by decide +kernel
theorem dL_law_1417 : decode cL_law 1417 = .ok (.iload 6, 2) := by decide +kernel
theorem dL_law_1419 : decode cL_law 1419 = .ok (.i2l, 1) := by decide +kernel
theorem dL_law_1420 : decode cL_law 1420 = .ok (.lcmp, 1) := by decide +kernel
theorem dL_law_1421 : decode cL_law 1421 = .ok (.ifCond .eq 5, 3) := by decide +kernel
theorem dL_law_1424 : decode cL_law 1424 = .ok (.iconst 0, 1) := by decide +kernel
theorem dL_law_1425 : decode cL_law 1425 = .ok (.ireturn, 1) := by decide +kernel
theorem dL_law_1426 : decode cL_law 1426 = .ok (.goto 184, 3) := by decide +kernel
theorem dL_law_1429 : decode cL_law 1429 = .ok (.aload_n 1, 1) := by decide +kernel
theorem dL_law_1430 : decode cL_law 1430 = .ok (.aload_n 0, 1) := by decide +kernel
theorem dL_law_1431 : decode cL_law 1431 = .ok (.iload 4, 2) := by decide +kernel
theorem dL_law_1433 : decode cL_law 1433 = .ok (.iconst 1, 1) := by decide +kernel
theorem dL_law_1434 : decode cL_law 1434 = .ok (.iadd, 1) := by decide +kernel
theorem dL_law_1435 : decode cL_law 1435 = .ok (.iaload, 1) := by decide +kernel
theorem dL_law_1436 : decode cL_law 1436 = .ok (.aload_n 3, 1) := by decide +kernel
theorem dL_law_1437 : decode cL_law 1437 = .ok (.invokestatic 171, 3) := by decide +kernel
theorem dL_law_1440 : decode cL_law 1440 = .ok (.istore 5, 2) := by decide +kernel
theorem dL_law_1442 : decode cL_law 1442 = .ok (.aload_n 2, 1) := by decide +kernel
theorem dL_law_1443 : decode cL_law 1443 = .ok (.aload_n 0, 1) := by decide +kernel
theorem dL_law_1444 : decode cL_law 1444 = .ok (.iload 4, 2) := by decide +kernel
theorem dL_law_1446 : decode cL_law 1446 = .ok (.iconst 1, 1) := by decide +kernel
theorem dL_law_1447 : decode cL_law 1447 = .ok (.iadd, 1) := by decide +kernel
theorem dL_law_1448 : decode cL_law 1448 = .ok (.iaload, 1) := by decide +kernel
theorem dL_law_1449 : decode cL_law 1449 = .ok (.invokevirtual 173, 3) := by decide +kernel
theorem dL_law_1452 : decode cL_law 1452 = .ok (.istore 6, 2) := by decide +kernel
theorem dL_law_1454 : decode cL_law 1454 = .ok (.aload_n 2, 1) := by decide +kernel
theorem dL_law_1455 : decode cL_law 1455 = .ok (.invokevirtual 97, 3) := by decide +kernel
theorem dL_law_1458 : decode cL_law 1458 = .ok (.iload 5, 2) := by decide +kernel
theorem dL_law_1460 : decode cL_law 1460 = .ok (.if_icmp .eq 5, 3) := by decide +kernel
theorem dL_law_1463 : decode cL_law 1463 = .ok (.iconst 0, 1) := by decide +kernel
theorem dL_law_1464 : decode cL_law 1464 = .ok (.ireturn, 1) := by decide +kernel
theorem dL_law_1465 : decode cL_law 1465 = .ok (.iload 5, 2) := by decide +kernel
theorem dL_law_1467 : decode cL_law 1467 = .ok (.ifCond .ne 15, 3) := by decide +kernel
theorem dL_law_1470 : decode cL_law 1470 = .ok (.aload_n 3, 1) := by decide +kernel
theorem dL_law_1471 : decode cL_law 1471 = .ok (.iconst 0, 1) := by decide +kernel
theorem dL_law_1472 : decode cL_law 1472 = .ok (.laload, 1) := by decide +kernel
theorem dL_law_1473 : decode cL_law 1473 = .ok (.iload 6, 2) := by decide +kernel
theorem dL_law_1475 : decode cL_law 1475 = .ok (.i2l, 1) := by decide +kernel
theorem dL_law_1476 : decode cL_law 1476 = .ok (.lcmp, 1) := by decide +kernel
theorem dL_law_1477 : decode cL_law 1477 = .ok (.ifCond .eq 5, 3) := by decide +kernel
theorem dL_law_1480 : decode cL_law 1480 = .ok (.iconst 0, 1) := by decide +kernel
theorem dL_law_1481 : decode cL_law 1481 = .ok (.ireturn, 1) := by decide +kernel
theorem dL_law_1482 : decode cL_law 1482 = .ok (.goto 128, 3) := by decide +kernel
theorem dL_law_1485 : decode cL_law 1485 = .ok (.aload_n 1, 1) := by decide +kernel
theorem dL_law_1486 : decode cL_law 1486 = .ok (.aload_n 0, 1) := by decide +kernel
theorem dL_law_1487 : decode cL_law 1487 = .ok (.iload 4, 2) := by decide +kernel
theorem dL_law_1489 : decode cL_law 1489 = .ok (.iconst 1, 1) := by decide +kernel
theorem dL_law_1490 : decode cL_law 1490 = .ok (.iadd, 1) := by decide +kernel
theorem dL_law_1491 : decode cL_law 1491 = .ok (.iaload, 1) := by decide +kernel
theorem dL_law_1492 : decode cL_law 1492 = .ok (.aload_n 3, 1) := by decide +kernel
theorem dL_law_1493 : decode cL_law 1493 = .ok (.invokestatic 174, 3) := by decide +kernel
theorem dL_law_1496 : decode cL_law 1496 = .ok (.istore 5, 2) := by decide +kernel
theorem dL_law_1498 : decode cL_law 1498 = .ok (.aload_n 2, 1) := by decide +kernel
theorem dL_law_1499 : decode cL_law 1499 = .ok (.aload_n 0, 1) := by decide +kernel
theorem dL_law_1500 : decode cL_law 1500 = .ok (.iload 4, 2) := by decide +kernel
theorem dL_law_1502 : decode cL_law 1502 = .ok (.iconst 1, 1) := by decide +kernel
theorem dL_law_1503 : decode cL_law 1503 = .ok (.iadd, 1) := by decide +kernel
theorem dL_law_1504 : decode cL_law 1504 = .ok (.iaload, 1) := by decide +kernel
theorem dL_law_1505 : decode cL_law 1505 = .ok (.invokevirtual 176, 3) := by decide +kernel
theorem dL_law_1508 : decode cL_law 1508 = .ok (.istore 6, 2) := by decide +kernel
theorem dL_law_1510 : decode cL_law 1510 = .ok (.aload_n 2, 1) := by decide +kernel
theorem dL_law_1511 : decode cL_law 1511 = .ok (.invokevirtual 97, 3) := by decide +kernel
theorem dL_law_1514 : decode cL_law 1514 = .ok (.iload 5, 2) := by decide +kernel
theorem dL_law_1516 : decode cL_law 1516 = .ok (.if_icmp .eq 5, 3) := by decide +kernel
theorem dL_law_1519 : decode cL_law 1519 = .ok (.iconst 0, 1) := by decide +kernel
theorem dL_law_1520 : decode cL_law 1520 = .ok (.ireturn, 1) := by decide +kernel
theorem dL_law_1521 : decode cL_law 1521 = .ok (.iload 5, 2) := by decide +kernel
theorem dL_law_1523 : decode cL_law 1523 = .ok (.ifCond .ne 15, 3) := by decide +kernel
theorem dL_law_1526 : decode cL_law 1526 = .ok (.aload_n 3, 1) := by decide +kernel
theorem dL_law_1527 : decode cL_law 1527 = .ok (.iconst 0, 1) := by decide +kernel
theorem dL_law_1528 : decode cL_law 1528 = .ok (.laload, 1) := by decide +kernel
theorem dL_law_1529 : decode cL_law 1529 = .ok (.iload 6, 2) := by decide +kernel
theorem dL_law_1531 : decode cL_law 1531 = .ok (.i2l, 1) := by decide +kernel
theorem dL_law_1532 : decode cL_law 1532 = .ok (.lcmp, 1) := by decide +kernel
theorem dL_law_1533 : decode cL_law 1533 = .ok (.ifCond .eq 5, 3) := by decide +kernel
theorem dL_law_1536 : decode cL_law 1536 = .ok (.iconst 0, 1) := by decide +kernel
theorem dL_law_1537 : decode cL_law 1537 = .ok (.ireturn, 1) := by decide +kernel
theorem dL_law_1538 : decode cL_law 1538 = .ok (.goto 72, 3) := by decide +kernel
theorem dL_law_1541 : decode cL_law 1541 = .ok (.aload_n 1, 1) := by decide +kernel
theorem dL_law_1542 : decode cL_law 1542 = .ok (.aload_n 0, 1) := by decide +kernel
theorem dL_law_1543 : decode cL_law 1543 = .ok (.iload 4, 2) := by decide +kernel
theorem dL_law_1545 : decode cL_law 1545 = .ok (.iconst 1, 1) := by decide +kernel
theorem dL_law_1546 : decode cL_law 1546 = .ok (.iadd, 1) := by decide +kernel
theorem dL_law_1547 : decode cL_law 1547 = .ok (.iaload, 1) := by decide +kernel
theorem dL_law_1548 : decode cL_law 1548 = .ok (.aload_n 3, 1) := by decide +kernel
theorem dL_law_1549 : decode cL_law 1549 = .ok (.invokestatic 177, 3) := by decide +kernel
theorem dL_law_1552 : decode cL_law 1552 = .ok (.istore 5, 2) := by decide +kernel
theorem dL_law_1554 : decode cL_law 1554 = .ok (.aload_n 2, 1) := by decide +kernel
theorem dL_law_1555 : decode cL_law 1555 = .ok (.aload_n 0, 1) := by decide +kernel
theorem dL_law_1556 : decode cL_law 1556 = .ok (.iload 4, 2) := by decide +kernel
theorem dL_law_1558 : decode cL_law 1558 = .ok (.iconst 1, 1) := by decide +kernel
theorem dL_law_1559 : decode cL_law 1559 = .ok (.iadd, 1) := by decide +kernel
theorem dL_law_1560 : decode cL_law 1560 = .ok (.iaload, 1) := by decide +kernel
theorem dL_law_1561 : decode cL_law 1561 = .ok (.invokevirtual 179, 3) := by decide +kernel
theorem dL_law_1564 : decode cL_law 1564 = .ok (.istore 6, 2) := by decide +kernel
theorem dL_law_1566 : decode cL_law 1566 = .ok (.aload_n 2, 1) := by decide +kernel
theorem dL_law_1567 : decode cL_law 1567 = .ok (.invokevirtual 97, 3) := by decide +kernel
theorem dL_law_1570 : decode cL_law 1570 = .ok (.iload 5, 2) := by decide +kernel
theorem dL_law_1572 : decode cL_law 1572 = .ok (.if_icmp .eq 5, 3) := by decide +kernel
theorem dL_law_1575 : decode cL_law 1575 = .ok (.iconst 0, 1) := by decide +kernel
theorem dL_law_1576 : decode cL_law 1576 = .ok (.ireturn, 1) := by decide +kernel
theorem dL_law_1577 : decode cL_law 1577 = .ok (.iload 5, 2) := by decide +kernel
theorem dL_law_1579 : decode cL_law 1579 = .ok (.ifCond .ne 15, 3) := by decide +kernel
theorem dL_law_1582 : decode cL_law 1582 = .ok (.aload_n 3, 1) := by decide +kernel
theorem dL_law_1583 : decode cL_law 1583 = .ok (.iconst 0, 1) := by decide +kernel
theorem dL_law_1584 : decode cL_law 1584 = .ok (.laload, 1) := by decide +kernel
theorem dL_law_1585 : decode cL_law 1585 = .ok (.iload 6, 2) := by decide +kernel
theorem dL_law_1587 : decode cL_law 1587 = .ok (.i2l, 1) := by decide +kernel
theorem dL_law_1588 : decode cL_law 1588 = .ok (.lcmp, 1) := by decide +kernel
theorem dL_law_1589 : decode cL_law 1589 = .ok (.ifCond .eq 5, 3) := by decide +kernel
theorem dL_law_1592 : decode cL_law 1592 = .ok (.iconst 0, 1) := by decide +kernel
theorem dL_law_1593 : decode cL_law 1593 = .ok (.ireturn, 1) := by decide +kernel
theorem dL_law_1594 : decode cL_law 1594 = .ok (.goto 16, 3) := by decide +kernel
theorem dL_law_1597 : decode cL_law 1597 = .ok (.aload_n 1, 1) := by decide +kernel
theorem dL_law_1598 : decode cL_law 1598 = .ok (.invokevirtual 180, 3) := by decide +kernel
theorem dL_law_1601 : decode cL_law 1601 = .ok (.aload_n 2, 1) := by decide +kernel
theorem dL_law_1602 : decode cL_law 1602 = .ok (.invokevirtual 183, 3) := by decide +kernel
theorem dL_law_1605 : decode cL_law 1605 = .ok (.if_icmp .eq 5, 3) := by decide +kernel
theorem dL_law_1608 : decode cL_law 1608 = .ok (.iconst 0, 1) := by decide +kernel
theorem dL_law_1609 : decode cL_law 1609 = .ok (.ireturn, 1) := by decide +kernel
theorem dL_law_1610 : decode cL_law 1610 = .ok (.iinc 4 8, 3) := by decide +kernel
theorem dL_law_1613 : decode cL_law 1613 = .ok (.goto (-1590), 3) := by decide +kernel
theorem dL_law_1616 : decode cL_law 1616 = .ok (.iconst 1, 1) := by decide +kernel
theorem dL_law_1617 : decode cL_law 1617 = .ok (.ireturn, 1) := by decide +kernel
abbrev vwCl : List vw_C := [(RX0, TX0, 18), (RX1, TX1, 19)]
end
section
/-! The account as a mathematical value: counts (0 breaks, 1 orders, 2 spots) and columns
(1 seconds of a break, 2 aired, 3 ratings, 4 advertiser, 5 category, 6 group, 7 seconds, 8 price, 9 promise, 10 floor, 11 closed, 12 order, 13 break, 14 state, 15 free), and what each call answers. -/
abbrev sa_St : Type := (Nat → Nat) × (Nat → Nat → Int32)
abbrev sa_R : Type := Nat × Int32 × sa_St
def sa_n (σ : sa_St) (j v : Nat) : sa_St := (va_up σ.1 j v, σ.2)
def sa_f (σ : sa_St) (j : Nat) (g : Nat → Int32) : sa_St := (σ.1, va_up σ.2 j g)
def sa_0 : sa_St := (fun _ => 0, fun _ _ => 0)
def sa_b (P : Prop) [Decidable P] : Int32 := if P then 1 else 0
theorem sa_b0 {P : Prop} [Decidable P] (h : sa_b P = 0) : ¬ P := by
  intro hp; unfold sa_b at h; rw [if_pos hp] at h; exact absurd h (by decide)
theorem sa_b1 {P : Prop} [Decidable P] (h : ¬ sa_b P = 0) : P := by
  unfold sa_b at h
  by_cases hp : P
  · exact hp
  · rw [if_neg hp] at h; exact absurd rfl h
theorem sa_bt {P : Prop} [Decidable P] (h : P) : sa_b P = 1 := if_pos h
theorem sa_bf {P : Prop} [Decidable P] (h : ¬ P) : sa_b P = 0 := if_neg h
theorem sa_b_or {P : Prop} [Decidable P] : sa_b P = 0 ∨ sa_b P = 1 := by
  by_cases h : P
  · exact Or.inr (sa_bt h)
  · exact Or.inl (sa_bf h)
/-- a spot stands in a break -/
abbrev sa_sd (σ : sa_St) (k : Nat) (at' : Int32) : Prop := σ.2 13 k = at' ∧ (σ.2 14 k = 0 ∨ σ.2 14 k = 1)
abbrev sa_sec (σ : sa_St) (k : Nat) : Int32 := σ.2 7 (σ.2 12 k).toNatClampNeg
def sa_room (σ : sa_St) (at' w : Int32) : Nat → Int32
  | 0 => σ.2 1 at'.toNatClampNeg
  | k + 1 => sa_room σ at' w k - (if ¬ nI k = w ∧ sa_sd σ k at' then sa_sec σ k else 0)
abbrev sa_rat (σ : sa_St) (o at' : Int32) : Int32 := σ.2 3 (at' * 3 + σ.2 6 o.toNatClampNeg).toNatClampNeg
/-- the same advertiser (rv = 0), or a rival -/
abbrev sa_adv (σ : sa_St) (k : Nat) (o : Int32) : Prop := σ.2 4 (σ.2 12 k).toNatClampNeg = σ.2 4 o.toNatClampNeg
abbrev sa_cat (σ : sa_St) (k : Nat) (o : Int32) : Prop := σ.2 5 (σ.2 12 k).toNatClampNeg = σ.2 5 o.toNatClampNeg
abbrev sa_cnt (σ : sa_St) (k : Nat) (o rv : Int32) : Prop := (rv = 0 ∧ sa_adv σ k o) ∨ (¬ rv = 0 ∧ ¬ sa_adv σ k o ∧ sa_cat σ k o)
def sa_th (σ : sa_St) (o at' w rv : Int32) : Nat → Bool
  | 0 => false
  | k + 1 => sa_th σ o at' w rv k || decide (¬ nI k = w ∧ sa_sd σ k at' ∧ sa_cnt σ k o rv)
abbrev sa_nx (σ : sa_St) (o at' w : Int32) : Prop :=
  (0 < at' ∧ sa_th σ o (at' - 1) w 1 (σ.1 2) = true) ∨ (at' + 1 < nI (σ.1 0) ∧ sa_th σ o (at' + 1) w 1 (σ.1 2) = true)
def sa_why (σ : sa_St) (o at' w : Int32) : Int32 :=
  if ¬ σ.2 2 at'.toNatClampNeg = 0 then 1
  else if sa_room σ at' w (σ.1 2) < σ.2 7 o.toNatClampNeg then 2
  else if sa_rat σ o at' < σ.2 10 o.toNatClampNeg then 3
  else if sa_th σ o at' w 0 (σ.1 2) = true then 4
  else if sa_th σ o at' w 1 (σ.1 2) = true then 5
  else if sa_nx σ o at' w then 6 else 0
def sa_sum (σ : sa_St) (o st fr : Int32) : Nat → Int32
  | 0 => 0
  | k + 1 => sa_sum σ o st fr k + (if σ.2 12 k = o ∧ σ.2 14 k = st ∧ (¬ σ.2 15 k = 0 ∨ fr = 0) then sa_rat σ o (σ.2 13 k) else 0)
abbrev sa_aud (σ : sa_St) (o st : Int32) : Int32 := sa_sum σ o st 0 (σ.1 2)
abbrev sa_less (σ : sa_St) (o : Int32) : Int32 := σ.2 9 o.toNatClampNeg - sa_aud σ o 1
def sa_owes (σ : sa_St) (o : Int32) : Int32 := if ¬ σ.2 11 o.toNatClampNeg = 0 ∧ 0 < sa_less σ o then sa_less σ o else 0
def sa_left (σ : sa_St) (o : Int32) : Int32 :=
  if 0 < sa_owes σ o - sa_sum σ o 0 1 (σ.1 2) then sa_owes σ o - sa_sum σ o 0 1 (σ.1 2) else 0
def sa_bil (σ : sa_St) (o : Int32) : Nat → Int32
  | 0 => 0
  | k + 1 => sa_bil σ o k + (if σ.2 12 k = o ∧ σ.2 14 k = 1 ∧ σ.2 15 k = 0 then σ.2 8 o.toNatClampNeg else 0)
def sa_bito (σ : sa_St) (by' : Int32) : Nat → Int32
  | 0 => 0
  | k + 1 => sa_bito σ by' k + (if σ.2 4 k = by' then sa_bil σ (nI k) (σ.1 2) else 0)
def sa_mo (σ : sa_St) : Nat → Int32 × Int32
  | 0 => (-1, 0)
  | k + 1 => if (sa_mo σ k).2 < sa_left σ (nI k) then (nI k, sa_left σ (nI k)) else sa_mo σ k
def sa_best (σ : sa_St) (o : Int32) : Nat → Int32
  | 0 => -1
  | k + 1 => if sa_why σ o (nI k) (-1) = 0 ∧ (sa_best σ o k = -1 ∨ sa_rat σ o (sa_best σ o k) < sa_rat σ o (nI k)) then nI k else sa_best σ o k
/-- a spot more -/
def sa_add (σ : sa_St) (o at' fr : Int32) : sa_St :=
  sa_n (sa_f (sa_f (sa_f (sa_f σ 12 (upd (σ.2 12) (σ.1 2) o)) 13 (upd (σ.2 13) (σ.1 2) at')) 14 (upd (σ.2 14) (σ.1 2) 0)) 15 (upd (σ.2 15) (σ.1 2) fr)) 2 (σ.1 2 + 1)
abbrev sa_more (σ : sa_St) (o : Int32) : Prop := σ.1 2 < 150 ∧ sa_aud σ o 1 + sa_aud σ o 0 < σ.2 9 o.toNatClampNeg ∧ ¬ sa_best σ o (σ.1 0) = -1
def sa_fill (o : Int32) : Nat → Nat → sa_St → Int32 × sa_St
  | 0, i, σ => (nI i, σ)
  | n + 1, i, σ => if sa_more σ o then sa_fill o n (i + 1) (sa_add σ o (sa_best σ o (σ.1 0)) 0) else (nI i, σ)
def sa_air (σ : sa_St) (at' : Int32) : Nat → (Nat → Int32) × Int32
  | 0 => (σ.2 14, 0)
  | k + 1 => if σ.2 13 k = at' ∧ (sa_air σ at' k).1 k = 0 then (upd (sa_air σ at' k).1 k 1, (sa_air σ at' k).2 + 1) else sa_air σ at' k
def sa_cls (σ : sa_St) (o : Int32) : Nat → Nat → Int32
  | 0 => σ.2 14
  | k + 1 => if σ.2 12 k = o ∧ sa_cls σ o k k = 0 then upd (sa_cls σ o k) k 3 else sa_cls σ o k
/-- what is so of every account -/
def sa_I (σ : sa_St) : Prop :=
  σ.1 0 ≤ 24 ∧ σ.1 1 ≤ 20 ∧ σ.1 2 ≤ 150 ∧ (∀ k, k < σ.1 1 → vp_in (σ.2 6 k) 3) ∧ (∀ k, k < σ.1 2 → vp_in (σ.2 12 k) (σ.1 1)) ∧ (∀ k, k < σ.1 2 → vp_in (σ.2 13 k) (σ.1 0)) ∧ (∀ k, σ.2 2 k = 0 ∨ σ.2 2 k = 1)
/-! the calls: which exception (0: none), the answer, the account behind it -/
abbrev sa_in (x : Int32) (n : Nat) : Prop := ¬ x < 0 ∧ x < nI n
abbrev sa_iB (σ : sa_St) (x : Int32) : Prop := sa_in x (σ.1 0)
abbrev sa_iO (σ : sa_St) (x : Int32) : Prop := sa_in x (σ.1 1)
abbrev sa_iS (σ : sa_St) (x : Int32) : Prop := sa_in x (σ.1 2)
abbrev sa_w (v a b : Int32) : Prop := a ≤ v ∧ v ≤ b
/-- three conditions in their order -/
def sa_go (P1 P2 P3 : Prop) [Decidable P1] [Decidable P2] [Decidable P3] (σ : sa_St) (ok : Int32 × sa_St) : sa_R :=
  if ¬ P1 then (1, 0, σ) else if ¬ P2 then (2, 0, σ) else if ¬ P3 then (3, 0, σ) else (0, ok)
theorem sa_go0 {P1 P2 P3 : Prop} [Decidable P1] [Decidable P2] [Decidable P3] {σ : sa_St} {ok : Int32 × sa_St} (h1 : P1) (h2 : P2) (h3 : P3) : sa_go P1 P2 P3 σ ok = (0, ok) := by unfold sa_go; rw [if_neg (fun h => h h1), if_neg (fun h => h h2), if_neg (fun h => h h3)]
theorem sa_go1 {P1 P2 P3 : Prop} [Decidable P1] [Decidable P2] [Decidable P3] {σ : sa_St} {ok : Int32 × sa_St} (h1 : ¬ P1) : sa_go P1 P2 P3 σ ok = (1, 0, σ) := by unfold sa_go; rw [if_pos h1]
theorem sa_go2 {P1 P2 P3 : Prop} [Decidable P1] [Decidable P2] [Decidable P3] {σ : sa_St} {ok : Int32 × sa_St} (h1 : P1) (h2 : ¬ P2) : sa_go P1 P2 P3 σ ok = (2, 0, σ) := by unfold sa_go; rw [if_neg (fun h => h h1), if_pos h2]
theorem sa_go3 {P1 P2 P3 : Prop} [Decidable P1] [Decidable P2] [Decidable P3] {σ : sa_St} {ok : Int32 × sa_St} (h1 : P1) (h2 : P2) (h3 : ¬ P3) : sa_go P1 P2 P3 σ ok = (3, 0, σ) := by unfold sa_go; rw [if_neg (fun h => h h1), if_neg (fun h => h h2), if_pos h3]
def sp_addBreak (σ : sa_St) (x : Int32) : sa_R := sa_go (sa_w x 15 600) (nI (σ.1 0) < 24) True σ (nI (σ.1 0), sa_n (sa_f σ 1 (upd (σ.2 1) (σ.1 0) x)) 0 (σ.1 0 + 1))
def sp_rate (σ : sa_St) (at' g v : Int32) : sa_R := sa_go (sa_iB σ at') (sa_w g 0 2 ∧ sa_w v 0 100000) True σ (σ.2 3 (at' * 3 + g).toNatClampNeg, sa_f σ 3 (upd (σ.2 3) (at' * 3 + g).toNatClampNeg v))
def sp_air (σ : sa_St) (at' : Int32) : sa_R := sa_go (sa_iB σ at') (σ.2 2 at'.toNatClampNeg = 0) True σ ((sa_air σ at' (σ.1 2)).2, sa_f (sa_f σ 2 (upd (σ.2 2) at'.toNatClampNeg 1)) 14 (sa_air σ at' (σ.1 2)).1)
def sp_isAired (σ : sa_St) (at' : Int32) : sa_R := sa_go (sa_iB σ at') True True σ (σ.2 2 at'.toNatClampNeg, σ)
def sp_room (σ : sa_St) (at' : Int32) : sa_R := sa_go (sa_iB σ at') True True σ (sa_room σ at' (-1) (σ.1 2), σ)
def sp_rating (σ : sa_St) (at' g : Int32) : sa_R := sa_go (sa_iB σ at') (sa_w g 0 2) True σ (σ.2 3 (at' * 3 + g).toNatClampNeg, σ)
def sa_ord (σ : sa_St) (x1 x2 x3 x4 x5 x6 x7 : Int32) : sa_St :=
  sa_n (sa_f (sa_f (sa_f (sa_f (sa_f (sa_f (sa_f σ 4 (upd (σ.2 4) (σ.1 1) x1)) 5 (upd (σ.2 5) (σ.1 1) x2)) 6 (upd (σ.2 6) (σ.1 1) x3)) 7 (upd (σ.2 7) (σ.1 1) x4)) 8 (upd (σ.2 8) (σ.1 1) x5)) 9 (upd (σ.2 9) (σ.1 1) x6)) 10 (upd (σ.2 10) (σ.1 1) x7)) 1 (σ.1 1 + 1)
def sp_addOrder (σ : sa_St) (x1 x2 x3 x4 x5 x6 x7 : Int32) : sa_R :=
  sa_go (sa_w x1 0 9 ∧ sa_w x2 0 7 ∧ sa_w x3 0 2 ∧ (x4 = 15 ∨ x4 = 30 ∨ x4 = 60) ∧ sa_w x5 0 1000000 ∧ sa_w x6 0 1000000 ∧ sa_w x7 0 100000) (nI (σ.1 1) < 20) True σ (nI (σ.1 1), sa_ord σ x1 x2 x3 x4 x5 x6 x7)
def sa_clo (σ : sa_St) (o : Int32) : sa_St := sa_f (sa_f σ 11 (upd (σ.2 11) o.toNatClampNeg 1)) 14 (sa_cls σ o (σ.1 2))
def sp_close (σ : sa_St) (o : Int32) : sa_R := sa_go (sa_iO σ o) (σ.2 11 o.toNatClampNeg = 0) True σ (sa_owes (sa_clo σ o) o, sa_clo σ o)
def sp_whyNot (σ : sa_St) (o at' : Int32) : sa_R := sa_go (sa_iO σ o ∧ sa_iB σ at') True True σ (sa_why σ o at' (-1), σ)
def sp_place (σ : sa_St) (o at' : Int32) : sa_R := sa_go (sa_iO σ o ∧ sa_iB σ at') (σ.2 11 o.toNatClampNeg = 0 ∧ nI (σ.1 2) < 150 ∧ sa_why σ o at' (-1) = 0) True σ (nI (σ.1 2), sa_add σ o at' 0)
def sp_give (σ : sa_St) (o at' : Int32) : sa_R := sa_go (sa_iO σ o ∧ sa_iB σ at') (0 < sa_left σ o ∧ nI (σ.1 2) < 150 ∧ sa_why σ o at' (-1) = 0) True σ (nI (σ.1 2), sa_add σ o at' 1)
def sp_fill (σ : sa_St) (o most : Int32) : sa_R := sa_go (sa_iO σ o) (sa_w most 1 24) (σ.2 11 o.toNatClampNeg = 0) σ (sa_fill o most.toNatClampNeg 0 σ)
def sp_move (σ : sa_St) (x at' : Int32) : sa_R := sa_go (sa_iS σ x ∧ sa_iB σ at') (σ.2 14 x.toNatClampNeg = 0 ∧ (σ.2 13 x.toNatClampNeg = at' ∨ sa_why σ (σ.2 12 x.toNatClampNeg) at' x = 0)) True σ (σ.2 13 x.toNatClampNeg, sa_f σ 13 (upd (σ.2 13) x.toNatClampNeg at'))
def sp_miss (σ : sa_St) (x : Int32) : sa_R := sa_go (sa_iS σ x) (σ.2 14 x.toNatClampNeg = 0 ∨ σ.2 14 x.toNatClampNeg = 1) True σ (sa_b (σ.2 14 x.toNatClampNeg = 1), sa_f σ 14 (upd (σ.2 14) x.toNatClampNeg 2))
def sp_drop (σ : sa_St) (x : Int32) : sa_R := sa_go (sa_iS σ x) (σ.2 14 x.toNatClampNeg = 0) True σ (0, sa_f σ 14 (upd (σ.2 14) x.toNatClampNeg 3))
def sp_stateOf (σ : sa_St) (x : Int32) : sa_R := sa_go (sa_iS σ x) True True σ (σ.2 14 x.toNatClampNeg, σ)
def sp_breakOf (σ : sa_St) (x : Int32) : sa_R := sa_go (sa_iS σ x) True True σ (σ.2 13 x.toNatClampNeg, σ)
def sp_delivered (σ : sa_St) (o : Int32) : sa_R := sa_go (sa_iO σ o) True True σ (sa_aud σ o 1, σ)
def sp_owed (σ : sa_St) (o : Int32) : sa_R := sa_go (sa_iO σ o) True True σ (sa_owes σ o, σ)
def sp_rest (σ : sa_St) (o : Int32) : sa_R := sa_go (sa_iO σ o) True True σ (sa_left σ o, σ)
def sp_bill (σ : sa_St) (o : Int32) : sa_R := sa_go (sa_iO σ o) True True σ (sa_bil σ o (σ.1 2), σ)
def sp_billTo (σ : sa_St) (x : Int32) : sa_R := sa_go (sa_w x 0 9) True True σ (sa_bito σ x (σ.1 1), σ)
end
section
/-! the cells of the class's object and of the reference's, and a row a field -/
def sa_W0 (cI cZ : ClassId) (a : Nat → Nat) (σ : sa_St) : va_W := [(a 0, .inr (0, [.int (nI (σ.1 0)), .ref (a 1), .ref (a 2), .ref (a 3), .int (nI (σ.1 1)), .ref (a 4), .ref (a 5), .ref (a 6), .ref (a 7), .ref (a 8), .ref (a 9), .ref (a 10), .ref (a 11), .int (nI (σ.1 2)), .ref (a 12), .ref (a 13), .ref (a 14), .ref (a 15)])), (a 1, .inl (cI, 24, .inl (σ.2 1))), (a 2, .inl (cZ, 24, .inl (σ.2 2))), (a 3, .inl (cI, 72, .inl (σ.2 3))), (a 4, .inl (cI, 20, .inl (σ.2 4))), (a 5, .inl (cI, 20, .inl (σ.2 5))), (a 6, .inl (cI, 20, .inl (σ.2 6))), (a 7, .inl (cI, 20, .inl (σ.2 7))), (a 8, .inl (cI, 20, .inl (σ.2 8))), (a 9, .inl (cI, 20, .inl (σ.2 9))), (a 10, .inl (cI, 20, .inl (σ.2 10))), (a 11, .inl (cZ, 20, .inl (σ.2 11))), (a 12, .inl (cI, 150, .inl (σ.2 12))), (a 13, .inl (cI, 150, .inl (σ.2 13))), (a 14, .inl (cI, 150, .inl (σ.2 14))), (a 15, .inl (cZ, 150, .inl (σ.2 15)))]
def sa_W1 (cI cZ : ClassId) (a : Nat → Nat) (σ : sa_St) (th : Int32) : va_W := [(a 0, .inr (1, [.int (nI (σ.1 0)), .int (nI (σ.1 1)), .int (nI (σ.1 2)), .ref (a 1), .ref (a 2), .ref (a 3), .ref (a 4), .ref (a 5), .ref (a 6), .ref (a 7), .ref (a 8), .ref (a 9), .ref (a 10), .ref (a 11), .ref (a 12), .ref (a 13), .ref (a 14), .ref (a 15), .int th])), (a 1, .inl (cI, 24, .inl (σ.2 1))), (a 2, .inl (cZ, 24, .inl (σ.2 2))), (a 3, .inl (cI, 72, .inl (σ.2 3))), (a 4, .inl (cI, 20, .inl (σ.2 4))), (a 5, .inl (cI, 20, .inl (σ.2 5))), (a 6, .inl (cI, 20, .inl (σ.2 6))), (a 7, .inl (cI, 20, .inl (σ.2 7))), (a 8, .inl (cI, 20, .inl (σ.2 8))), (a 9, .inl (cI, 20, .inl (σ.2 9))), (a 10, .inl (cI, 20, .inl (σ.2 10))), (a 11, .inl (cZ, 20, .inl (σ.2 11))), (a 12, .inl (cI, 150, .inl (σ.2 12))), (a 13, .inl (cI, 150, .inl (σ.2 13))), (a 14, .inl (cI, 150, .inl (σ.2 14))), (a 15, .inl (cZ, 150, .inl (σ.2 15)))]
abbrev sa_ty (cI cZ cL : ClassId) : List (ClassId × FieldType) := [(cI, .int), (cZ, .boolean), (cL, .long)]
abbrev sa_K (G : va_G) (cI cZ cL : ClassId) (U : State) : Prop := va_K G vwCl (sa_ty cI cZ cL) U
def sa_A (a : Nat → Nat) : Nat → Prop := fun q => ∃ j, j < 16 ∧ q = a j
def sa_J (a : Nat → Nat) : Prop := ∀ i j, i < 16 → j < 16 → a i = a j → i = j
theorem sa_W0_at {cI cZ : ClassId} {a : Nat → Nat} {σ : sa_St} {i : Nat} {q : Nat × va_E} (h : (sa_W0 cI cZ a σ)[i]? = some q) : i < 16 ∧ q.1 = a i := by
  have hl : i < 16 := (List.getElem?_eq_some_iff.mp h).1
  refine ⟨hl, ?_⟩
  have h2 : ((sa_W0 cI cZ a σ).map (fun z => z.1))[i]? = some q.1 := by rw [List.getElem?_map, h]; rfl
  rw [show (sa_W0 cI cZ a σ).map (fun z => z.1) = (List.range 16).map a from rfl, List.getElem?_map, List.getElem?_range hl] at h2
  exact (Option.some.inj h2).symm
theorem sa_W1_at {cI cZ : ClassId} {a : Nat → Nat} {σ : sa_St} {th : Int32} {i : Nat} {q : Nat × va_E} (h : (sa_W1 cI cZ a σ th)[i]? = some q) : i < 16 ∧ q.1 = a i := by
  have hl : i < 16 := (List.getElem?_eq_some_iff.mp h).1
  refine ⟨hl, ?_⟩
  have h2 : ((sa_W1 cI cZ a σ th).map (fun z => z.1))[i]? = some q.1 := by rw [List.getElem?_map, h]; rfl
  rw [show (sa_W1 cI cZ a σ th).map (fun z => z.1) = (List.range 16).map a from rfl, List.getElem?_map, List.getElem?_range hl] at h2
  exact (Option.some.inj h2).symm
theorem sa_D0 {cI cZ : ClassId} {a : Nat → Nat} {σ : sa_St} (hJ : sa_J a) : va_D (sa_A a) (sa_W0 cI cZ a σ) :=
  ⟨fun i j p q h1 h2 h => hJ i j (sa_W0_at h1).1 (sa_W0_at h2).1 ((sa_W0_at h1).2.symm.trans (h.trans (sa_W0_at h2).2)), fun k q h => ⟨k, sa_W0_at h⟩⟩
theorem sa_D1 {cI cZ : ClassId} {a : Nat → Nat} {σ : sa_St} {th : Int32} (hJ : sa_J a) : va_D (sa_A a) (sa_W1 cI cZ a σ th) :=
  ⟨fun i j p q h1 h2 h => hJ i j (sa_W1_at h1).1 (sa_W1_at h2).1 ((sa_W1_at h1).2.symm.trans (h.trans (sa_W1_at h2).2)), fun k q h => ⟨k, sa_W1_at h⟩⟩
section
variable {p : Program} {l : Launch} {e : Env} {R : Room} {s : State} {m : MethodId} {args : Array Value} {below : List Frame} {meth : Method} {c : Code} {H H0 : Heap} {locs : List Loc} {cells slots : Nat} {Q : State → Prop}
variable {cc : ByteArray} {pc nL : Nat} {ls : Array Slot} {rest : List Value} {Ts : List Cond} {G : va_G} {cI cZ cL : ClassId} {a : Nat → Nat} {σ : sa_St} {th : Int32} {A : Nat → Prop}
theorem sa_g0_breakCount (S : CallFix p m c cc nL s args Ts RX0) (hin : ∀ w ∈ wsX00, w ∈ Ts) (hK : sa_K G cI cZ cL s) (hP : va_P G vwCl (sa_W0 cI cZ a σ) H) (hl : Cond.fieldLink RX0 64 "SpotAccount" "breakCount" "I" ∈ Ts) (hdg : decode cc pc = .ok (.getfield 64, 3)) (kk : W p l e R s m args below meth c H locs cells slots Q (F0 m (pc + 3) ls (.int (nI (σ.1 0)) :: rest))) : W p l e R s m args below meth c H locs cells slots Q (F0 m pc ls (.ref (a 0) :: rest)) := va_get (D := G) (ci := 0) (v := .int (nI (σ.1 0))) (C := RX0) (T := TX0) (N := 18) S.1 S.2.1 S.2.2.2.2 hin S.2.2.2.1 hK hP 0 rfl rfl 0 (by decide) (S.2.2.2.2 _ hl) (fun _ h9 => h9) rfl hdg kk
theorem sa_p0_breakCount {x : Int32} {v : Nat} (hx : x = nI v) (S : CallFix p m c cc nL s args Ts RX0) (hin : ∀ w ∈ wsX00, w ∈ Ts) (hK : sa_K G cI cZ cL s) (hP : va_P G vwCl (sa_W0 cI cZ a σ) H) (hD : va_D A (sa_W0 cI cZ a σ)) (hS : va_S A H0 H locs) (hl : Cond.fieldLink RX0 64 "SpotAccount" "breakCount" "I" ∈ Ts) (hdg : decode cc pc = .ok (.putfield 64, 3)) (kk : ∀ (H1 : Heap) (locs1 : List Loc), va_P G vwCl (sa_W0 cI cZ a (sa_n σ 0 v)) H1 → va_S A H0 H1 locs1 → W p l e R s m args below meth c H1 locs1 cells slots Q (F0 m (pc + 3) ls (rest))) : W p l e R s m args below meth c H locs cells slots Q (F0 m pc ls (.int x :: .ref (a 0) :: rest)) := by
  subst hx
  exact va_put (D := G) (ci := 0) (v := .int (nI v)) (ty := .int) (C := RX0) (T := TX0) (N := 18) S.1 S.2.1 S.2.2.2.2 hin tyX0 tyX0_ok nmX0 S.2.2.2.1 hK hP hD hS 0 rfl rfl 0 (by decide) (S.2.2.2.2 _ hl) (fun _ h9 => h9) rfl (by decide +kernel) rfl rfl (Nat.le_of_ble_eq_true rfl) hdg (fun H1 locs1 h1 _ h3 => kk H1 locs1 h1 h3)
theorem sa_g0_breakSeconds (S : CallFix p m c cc nL s args Ts RX0) (hin : ∀ w ∈ wsX00, w ∈ Ts) (hK : sa_K G cI cZ cL s) (hP : va_P G vwCl (sa_W0 cI cZ a σ) H) (hl : Cond.fieldLink RX0 9 "SpotAccount" "breakSeconds" "[I" ∈ Ts) (hdg : decode cc pc = .ok (.getfield 9, 3)) (kk : W p l e R s m args below meth c H locs cells slots Q (F0 m (pc + 3) ls (.ref (a 1) :: rest))) : W p l e R s m args below meth c H locs cells slots Q (F0 m pc ls (.ref (a 0) :: rest)) := va_get (D := G) (ci := 0) (v := .ref (a 1)) (C := RX0) (T := TX0) (N := 18) S.1 S.2.1 S.2.2.2.2 hin S.2.2.2.1 hK hP 0 rfl rfl 1 (by decide) (S.2.2.2.2 _ hl) (fun _ h9 => h9) rfl hdg kk
theorem sa_g0_breakAired (S : CallFix p m c cc nL s args Ts RX0) (hin : ∀ w ∈ wsX00, w ∈ Ts) (hK : sa_K G cI cZ cL s) (hP : va_P G vwCl (sa_W0 cI cZ a σ) H) (hl : Cond.fieldLink RX0 13 "SpotAccount" "breakAired" "[Z" ∈ Ts) (hdg : decode cc pc = .ok (.getfield 13, 3)) (kk : W p l e R s m args below meth c H locs cells slots Q (F0 m (pc + 3) ls (.ref (a 2) :: rest))) : W p l e R s m args below meth c H locs cells slots Q (F0 m pc ls (.ref (a 0) :: rest)) := va_get (D := G) (ci := 0) (v := .ref (a 2)) (C := RX0) (T := TX0) (N := 18) S.1 S.2.1 S.2.2.2.2 hin S.2.2.2.1 hK hP 0 rfl rfl 2 (by decide) (S.2.2.2.2 _ hl) (fun _ h9 => h9) rfl hdg kk
theorem sa_g0_ratings (S : CallFix p m c cc nL s args Ts RX0) (hin : ∀ w ∈ wsX00, w ∈ Ts) (hK : sa_K G cI cZ cL s) (hP : va_P G vwCl (sa_W0 cI cZ a σ) H) (hl : Cond.fieldLink RX0 17 "SpotAccount" "ratings" "[I" ∈ Ts) (hdg : decode cc pc = .ok (.getfield 17, 3)) (kk : W p l e R s m args below meth c H locs cells slots Q (F0 m (pc + 3) ls (.ref (a 3) :: rest))) : W p l e R s m args below meth c H locs cells slots Q (F0 m pc ls (.ref (a 0) :: rest)) := va_get (D := G) (ci := 0) (v := .ref (a 3)) (C := RX0) (T := TX0) (N := 18) S.1 S.2.1 S.2.2.2.2 hin S.2.2.2.1 hK hP 0 rfl rfl 3 (by decide) (S.2.2.2.2 _ hl) (fun _ h9 => h9) rfl hdg kk
theorem sa_g0_orderCount (S : CallFix p m c cc nL s args Ts RX0) (hin : ∀ w ∈ wsX00, w ∈ Ts) (hK : sa_K G cI cZ cL s) (hP : va_P G vwCl (sa_W0 cI cZ a σ) H) (hl : Cond.fieldLink RX0 98 "SpotAccount" "orderCount" "I" ∈ Ts) (hdg : decode cc pc = .ok (.getfield 98, 3)) (kk : W p l e R s m args below meth c H locs cells slots Q (F0 m (pc + 3) ls (.int (nI (σ.1 1)) :: rest))) : W p l e R s m args below meth c H locs cells slots Q (F0 m pc ls (.ref (a 0) :: rest)) := va_get (D := G) (ci := 0) (v := .int (nI (σ.1 1))) (C := RX0) (T := TX0) (N := 18) S.1 S.2.1 S.2.2.2.2 hin S.2.2.2.1 hK hP 0 rfl rfl 4 (by decide) (S.2.2.2.2 _ hl) (fun _ h9 => h9) rfl hdg kk
theorem sa_p0_orderCount {x : Int32} {v : Nat} (hx : x = nI v) (S : CallFix p m c cc nL s args Ts RX0) (hin : ∀ w ∈ wsX00, w ∈ Ts) (hK : sa_K G cI cZ cL s) (hP : va_P G vwCl (sa_W0 cI cZ a σ) H) (hD : va_D A (sa_W0 cI cZ a σ)) (hS : va_S A H0 H locs) (hl : Cond.fieldLink RX0 98 "SpotAccount" "orderCount" "I" ∈ Ts) (hdg : decode cc pc = .ok (.putfield 98, 3)) (kk : ∀ (H1 : Heap) (locs1 : List Loc), va_P G vwCl (sa_W0 cI cZ a (sa_n σ 1 v)) H1 → va_S A H0 H1 locs1 → W p l e R s m args below meth c H1 locs1 cells slots Q (F0 m (pc + 3) ls (rest))) : W p l e R s m args below meth c H locs cells slots Q (F0 m pc ls (.int x :: .ref (a 0) :: rest)) := by
  subst hx
  exact va_put (D := G) (ci := 0) (v := .int (nI v)) (ty := .int) (C := RX0) (T := TX0) (N := 18) S.1 S.2.1 S.2.2.2.2 hin tyX0 tyX0_ok nmX0 S.2.2.2.1 hK hP hD hS 0 rfl rfl 4 (by decide) (S.2.2.2.2 _ hl) (fun _ h9 => h9) rfl (by decide +kernel) rfl rfl (Nat.le_of_ble_eq_true rfl) hdg (fun H1 locs1 h1 _ h3 => kk H1 locs1 h1 h3)
theorem sa_g0_orderAdvertiser (S : CallFix p m c cc nL s args Ts RX0) (hin : ∀ w ∈ wsX00, w ∈ Ts) (hK : sa_K G cI cZ cL s) (hP : va_P G vwCl (sa_W0 cI cZ a σ) H) (hl : Cond.fieldLink RX0 20 "SpotAccount" "orderAdvertiser" "[I" ∈ Ts) (hdg : decode cc pc = .ok (.getfield 20, 3)) (kk : W p l e R s m args below meth c H locs cells slots Q (F0 m (pc + 3) ls (.ref (a 4) :: rest))) : W p l e R s m args below meth c H locs cells slots Q (F0 m pc ls (.ref (a 0) :: rest)) := va_get (D := G) (ci := 0) (v := .ref (a 4)) (C := RX0) (T := TX0) (N := 18) S.1 S.2.1 S.2.2.2.2 hin S.2.2.2.1 hK hP 0 rfl rfl 5 (by decide) (S.2.2.2.2 _ hl) (fun _ h9 => h9) rfl hdg kk
theorem sa_g0_orderCategory (S : CallFix p m c cc nL s args Ts RX0) (hin : ∀ w ∈ wsX00, w ∈ Ts) (hK : sa_K G cI cZ cL s) (hP : va_P G vwCl (sa_W0 cI cZ a σ) H) (hl : Cond.fieldLink RX0 23 "SpotAccount" "orderCategory" "[I" ∈ Ts) (hdg : decode cc pc = .ok (.getfield 23, 3)) (kk : W p l e R s m args below meth c H locs cells slots Q (F0 m (pc + 3) ls (.ref (a 5) :: rest))) : W p l e R s m args below meth c H locs cells slots Q (F0 m pc ls (.ref (a 0) :: rest)) := va_get (D := G) (ci := 0) (v := .ref (a 5)) (C := RX0) (T := TX0) (N := 18) S.1 S.2.1 S.2.2.2.2 hin S.2.2.2.1 hK hP 0 rfl rfl 6 (by decide) (S.2.2.2.2 _ hl) (fun _ h9 => h9) rfl hdg kk
theorem sa_g0_orderGroup (S : CallFix p m c cc nL s args Ts RX0) (hin : ∀ w ∈ wsX00, w ∈ Ts) (hK : sa_K G cI cZ cL s) (hP : va_P G vwCl (sa_W0 cI cZ a σ) H) (hl : Cond.fieldLink RX0 26 "SpotAccount" "orderGroup" "[I" ∈ Ts) (hdg : decode cc pc = .ok (.getfield 26, 3)) (kk : W p l e R s m args below meth c H locs cells slots Q (F0 m (pc + 3) ls (.ref (a 6) :: rest))) : W p l e R s m args below meth c H locs cells slots Q (F0 m pc ls (.ref (a 0) :: rest)) := va_get (D := G) (ci := 0) (v := .ref (a 6)) (C := RX0) (T := TX0) (N := 18) S.1 S.2.1 S.2.2.2.2 hin S.2.2.2.1 hK hP 0 rfl rfl 7 (by decide) (S.2.2.2.2 _ hl) (fun _ h9 => h9) rfl hdg kk
theorem sa_g0_orderSeconds (S : CallFix p m c cc nL s args Ts RX0) (hin : ∀ w ∈ wsX00, w ∈ Ts) (hK : sa_K G cI cZ cL s) (hP : va_P G vwCl (sa_W0 cI cZ a σ) H) (hl : Cond.fieldLink RX0 29 "SpotAccount" "orderSeconds" "[I" ∈ Ts) (hdg : decode cc pc = .ok (.getfield 29, 3)) (kk : W p l e R s m args below meth c H locs cells slots Q (F0 m (pc + 3) ls (.ref (a 7) :: rest))) : W p l e R s m args below meth c H locs cells slots Q (F0 m pc ls (.ref (a 0) :: rest)) := va_get (D := G) (ci := 0) (v := .ref (a 7)) (C := RX0) (T := TX0) (N := 18) S.1 S.2.1 S.2.2.2.2 hin S.2.2.2.1 hK hP 0 rfl rfl 8 (by decide) (S.2.2.2.2 _ hl) (fun _ h9 => h9) rfl hdg kk
theorem sa_g0_orderPrice (S : CallFix p m c cc nL s args Ts RX0) (hin : ∀ w ∈ wsX00, w ∈ Ts) (hK : sa_K G cI cZ cL s) (hP : va_P G vwCl (sa_W0 cI cZ a σ) H) (hl : Cond.fieldLink RX0 32 "SpotAccount" "orderPrice" "[I" ∈ Ts) (hdg : decode cc pc = .ok (.getfield 32, 3)) (kk : W p l e R s m args below meth c H locs cells slots Q (F0 m (pc + 3) ls (.ref (a 8) :: rest))) : W p l e R s m args below meth c H locs cells slots Q (F0 m pc ls (.ref (a 0) :: rest)) := va_get (D := G) (ci := 0) (v := .ref (a 8)) (C := RX0) (T := TX0) (N := 18) S.1 S.2.1 S.2.2.2.2 hin S.2.2.2.1 hK hP 0 rfl rfl 9 (by decide) (S.2.2.2.2 _ hl) (fun _ h9 => h9) rfl hdg kk
theorem sa_g0_orderPromise (S : CallFix p m c cc nL s args Ts RX0) (hin : ∀ w ∈ wsX00, w ∈ Ts) (hK : sa_K G cI cZ cL s) (hP : va_P G vwCl (sa_W0 cI cZ a σ) H) (hl : Cond.fieldLink RX0 35 "SpotAccount" "orderPromise" "[I" ∈ Ts) (hdg : decode cc pc = .ok (.getfield 35, 3)) (kk : W p l e R s m args below meth c H locs cells slots Q (F0 m (pc + 3) ls (.ref (a 9) :: rest))) : W p l e R s m args below meth c H locs cells slots Q (F0 m pc ls (.ref (a 0) :: rest)) := va_get (D := G) (ci := 0) (v := .ref (a 9)) (C := RX0) (T := TX0) (N := 18) S.1 S.2.1 S.2.2.2.2 hin S.2.2.2.1 hK hP 0 rfl rfl 10 (by decide) (S.2.2.2.2 _ hl) (fun _ h9 => h9) rfl hdg kk
theorem sa_g0_orderFloor (S : CallFix p m c cc nL s args Ts RX0) (hin : ∀ w ∈ wsX00, w ∈ Ts) (hK : sa_K G cI cZ cL s) (hP : va_P G vwCl (sa_W0 cI cZ a σ) H) (hl : Cond.fieldLink RX0 38 "SpotAccount" "orderFloor" "[I" ∈ Ts) (hdg : decode cc pc = .ok (.getfield 38, 3)) (kk : W p l e R s m args below meth c H locs cells slots Q (F0 m (pc + 3) ls (.ref (a 10) :: rest))) : W p l e R s m args below meth c H locs cells slots Q (F0 m pc ls (.ref (a 0) :: rest)) := va_get (D := G) (ci := 0) (v := .ref (a 10)) (C := RX0) (T := TX0) (N := 18) S.1 S.2.1 S.2.2.2.2 hin S.2.2.2.1 hK hP 0 rfl rfl 11 (by decide) (S.2.2.2.2 _ hl) (fun _ h9 => h9) rfl hdg kk
theorem sa_g0_orderClosed (S : CallFix p m c cc nL s args Ts RX0) (hin : ∀ w ∈ wsX00, w ∈ Ts) (hK : sa_K G cI cZ cL s) (hP : va_P G vwCl (sa_W0 cI cZ a σ) H) (hl : Cond.fieldLink RX0 41 "SpotAccount" "orderClosed" "[Z" ∈ Ts) (hdg : decode cc pc = .ok (.getfield 41, 3)) (kk : W p l e R s m args below meth c H locs cells slots Q (F0 m (pc + 3) ls (.ref (a 11) :: rest))) : W p l e R s m args below meth c H locs cells slots Q (F0 m pc ls (.ref (a 0) :: rest)) := va_get (D := G) (ci := 0) (v := .ref (a 11)) (C := RX0) (T := TX0) (N := 18) S.1 S.2.1 S.2.2.2.2 hin S.2.2.2.1 hK hP 0 rfl rfl 12 (by decide) (S.2.2.2.2 _ hl) (fun _ h9 => h9) rfl hdg kk
theorem sa_g0_spotCount (S : CallFix p m c cc nL s args Ts RX0) (hin : ∀ w ∈ wsX00, w ∈ Ts) (hK : sa_K G cI cZ cL s) (hP : va_P G vwCl (sa_W0 cI cZ a σ) H) (hl : Cond.fieldLink RX0 84 "SpotAccount" "spotCount" "I" ∈ Ts) (hdg : decode cc pc = .ok (.getfield 84, 3)) (kk : W p l e R s m args below meth c H locs cells slots Q (F0 m (pc + 3) ls (.int (nI (σ.1 2)) :: rest))) : W p l e R s m args below meth c H locs cells slots Q (F0 m pc ls (.ref (a 0) :: rest)) := va_get (D := G) (ci := 0) (v := .int (nI (σ.1 2))) (C := RX0) (T := TX0) (N := 18) S.1 S.2.1 S.2.2.2.2 hin S.2.2.2.1 hK hP 0 rfl rfl 13 (by decide) (S.2.2.2.2 _ hl) (fun _ h9 => h9) rfl hdg kk
theorem sa_p0_spotCount {x : Int32} {v : Nat} (hx : x = nI v) (S : CallFix p m c cc nL s args Ts RX0) (hin : ∀ w ∈ wsX00, w ∈ Ts) (hK : sa_K G cI cZ cL s) (hP : va_P G vwCl (sa_W0 cI cZ a σ) H) (hD : va_D A (sa_W0 cI cZ a σ)) (hS : va_S A H0 H locs) (hl : Cond.fieldLink RX0 84 "SpotAccount" "spotCount" "I" ∈ Ts) (hdg : decode cc pc = .ok (.putfield 84, 3)) (kk : ∀ (H1 : Heap) (locs1 : List Loc), va_P G vwCl (sa_W0 cI cZ a (sa_n σ 2 v)) H1 → va_S A H0 H1 locs1 → W p l e R s m args below meth c H1 locs1 cells slots Q (F0 m (pc + 3) ls (rest))) : W p l e R s m args below meth c H locs cells slots Q (F0 m pc ls (.int x :: .ref (a 0) :: rest)) := by
  subst hx
  exact va_put (D := G) (ci := 0) (v := .int (nI v)) (ty := .int) (C := RX0) (T := TX0) (N := 18) S.1 S.2.1 S.2.2.2.2 hin tyX0 tyX0_ok nmX0 S.2.2.2.1 hK hP hD hS 0 rfl rfl 13 (by decide) (S.2.2.2.2 _ hl) (fun _ h9 => h9) rfl (by decide +kernel) rfl rfl (Nat.le_of_ble_eq_true rfl) hdg (fun H1 locs1 h1 _ h3 => kk H1 locs1 h1 h3)
theorem sa_g0_spotOrder (S : CallFix p m c cc nL s args Ts RX0) (hin : ∀ w ∈ wsX00, w ∈ Ts) (hK : sa_K G cI cZ cL s) (hP : va_P G vwCl (sa_W0 cI cZ a σ) H) (hl : Cond.fieldLink RX0 44 "SpotAccount" "spotOrder" "[I" ∈ Ts) (hdg : decode cc pc = .ok (.getfield 44, 3)) (kk : W p l e R s m args below meth c H locs cells slots Q (F0 m (pc + 3) ls (.ref (a 12) :: rest))) : W p l e R s m args below meth c H locs cells slots Q (F0 m pc ls (.ref (a 0) :: rest)) := va_get (D := G) (ci := 0) (v := .ref (a 12)) (C := RX0) (T := TX0) (N := 18) S.1 S.2.1 S.2.2.2.2 hin S.2.2.2.1 hK hP 0 rfl rfl 14 (by decide) (S.2.2.2.2 _ hl) (fun _ h9 => h9) rfl hdg kk
theorem sa_g0_spotBreak (S : CallFix p m c cc nL s args Ts RX0) (hin : ∀ w ∈ wsX00, w ∈ Ts) (hK : sa_K G cI cZ cL s) (hP : va_P G vwCl (sa_W0 cI cZ a σ) H) (hl : Cond.fieldLink RX0 47 "SpotAccount" "spotBreak" "[I" ∈ Ts) (hdg : decode cc pc = .ok (.getfield 47, 3)) (kk : W p l e R s m args below meth c H locs cells slots Q (F0 m (pc + 3) ls (.ref (a 13) :: rest))) : W p l e R s m args below meth c H locs cells slots Q (F0 m pc ls (.ref (a 0) :: rest)) := va_get (D := G) (ci := 0) (v := .ref (a 13)) (C := RX0) (T := TX0) (N := 18) S.1 S.2.1 S.2.2.2.2 hin S.2.2.2.1 hK hP 0 rfl rfl 15 (by decide) (S.2.2.2.2 _ hl) (fun _ h9 => h9) rfl hdg kk
theorem sa_g0_spotState (S : CallFix p m c cc nL s args Ts RX0) (hin : ∀ w ∈ wsX00, w ∈ Ts) (hK : sa_K G cI cZ cL s) (hP : va_P G vwCl (sa_W0 cI cZ a σ) H) (hl : Cond.fieldLink RX0 50 "SpotAccount" "spotState" "[I" ∈ Ts) (hdg : decode cc pc = .ok (.getfield 50, 3)) (kk : W p l e R s m args below meth c H locs cells slots Q (F0 m (pc + 3) ls (.ref (a 14) :: rest))) : W p l e R s m args below meth c H locs cells slots Q (F0 m pc ls (.ref (a 0) :: rest)) := va_get (D := G) (ci := 0) (v := .ref (a 14)) (C := RX0) (T := TX0) (N := 18) S.1 S.2.1 S.2.2.2.2 hin S.2.2.2.1 hK hP 0 rfl rfl 16 (by decide) (S.2.2.2.2 _ hl) (fun _ h9 => h9) rfl hdg kk
theorem sa_g0_spotFree (S : CallFix p m c cc nL s args Ts RX0) (hin : ∀ w ∈ wsX00, w ∈ Ts) (hK : sa_K G cI cZ cL s) (hP : va_P G vwCl (sa_W0 cI cZ a σ) H) (hl : Cond.fieldLink RX0 53 "SpotAccount" "spotFree" "[Z" ∈ Ts) (hdg : decode cc pc = .ok (.getfield 53, 3)) (kk : W p l e R s m args below meth c H locs cells slots Q (F0 m (pc + 3) ls (.ref (a 15) :: rest))) : W p l e R s m args below meth c H locs cells slots Q (F0 m pc ls (.ref (a 0) :: rest)) := va_get (D := G) (ci := 0) (v := .ref (a 15)) (C := RX0) (T := TX0) (N := 18) S.1 S.2.1 S.2.2.2.2 hin S.2.2.2.1 hK hP 0 rfl rfl 17 (by decide) (S.2.2.2.2 _ hl) (fun _ h9 => h9) rfl hdg kk
theorem sa_g1_breaks (S : CallFix p m c cc nL s args Ts RX1) (hin : ∀ w ∈ wsX10, w ∈ Ts) (hK : sa_K G cI cZ cL s) (hP : va_P G vwCl (sa_W1 cI cZ a σ th) H) (hl : Cond.fieldLink RX1 60 "SpotAccountModel" "breaks" "I" ∈ Ts) (hdg : decode cc pc = .ok (.getfield 60, 3)) (kk : W p l e R s m args below meth c H locs cells slots Q (F0 m (pc + 3) ls (.int (nI (σ.1 0)) :: rest))) : W p l e R s m args below meth c H locs cells slots Q (F0 m pc ls (.ref (a 0) :: rest)) := va_get (D := G) (ci := 1) (v := .int (nI (σ.1 0))) (C := RX1) (T := TX1) (N := 19) S.1 S.2.1 S.2.2.2.2 hin S.2.2.2.1 hK hP 0 rfl rfl 0 (by decide) (S.2.2.2.2 _ hl) (fun _ h9 => h9) rfl hdg kk
theorem sa_p1_breaks {x : Int32} {v : Nat} (hx : x = nI v) (S : CallFix p m c cc nL s args Ts RX1) (hin : ∀ w ∈ wsX10, w ∈ Ts) (hK : sa_K G cI cZ cL s) (hP : va_P G vwCl (sa_W1 cI cZ a σ th) H) (hD : va_D A (sa_W1 cI cZ a σ th)) (hS : va_S A H0 H locs) (hl : Cond.fieldLink RX1 60 "SpotAccountModel" "breaks" "I" ∈ Ts) (hdg : decode cc pc = .ok (.putfield 60, 3)) (kk : ∀ (H1 : Heap) (locs1 : List Loc), va_P G vwCl (sa_W1 cI cZ a (sa_n σ 0 v) th) H1 → va_S A H0 H1 locs1 → W p l e R s m args below meth c H1 locs1 cells slots Q (F0 m (pc + 3) ls (rest))) : W p l e R s m args below meth c H locs cells slots Q (F0 m pc ls (.int x :: .ref (a 0) :: rest)) := by
  subst hx
  exact va_put (D := G) (ci := 1) (v := .int (nI v)) (ty := .int) (C := RX1) (T := TX1) (N := 19) S.1 S.2.1 S.2.2.2.2 hin tyX1 tyX1_ok nmX1 S.2.2.2.1 hK hP hD hS 0 rfl rfl 0 (by decide) (S.2.2.2.2 _ hl) (fun _ h9 => h9) rfl (by decide +kernel) rfl rfl (Nat.le_of_ble_eq_true rfl) hdg (fun H1 locs1 h1 _ h3 => kk H1 locs1 h1 h3)
theorem sa_g1_orders (S : CallFix p m c cc nL s args Ts RX1) (hin : ∀ w ∈ wsX10, w ∈ Ts) (hK : sa_K G cI cZ cL s) (hP : va_P G vwCl (sa_W1 cI cZ a σ th) H) (hl : Cond.fieldLink RX1 67 "SpotAccountModel" "orders" "I" ∈ Ts) (hdg : decode cc pc = .ok (.getfield 67, 3)) (kk : W p l e R s m args below meth c H locs cells slots Q (F0 m (pc + 3) ls (.int (nI (σ.1 1)) :: rest))) : W p l e R s m args below meth c H locs cells slots Q (F0 m pc ls (.ref (a 0) :: rest)) := va_get (D := G) (ci := 1) (v := .int (nI (σ.1 1))) (C := RX1) (T := TX1) (N := 19) S.1 S.2.1 S.2.2.2.2 hin S.2.2.2.1 hK hP 0 rfl rfl 1 (by decide) (S.2.2.2.2 _ hl) (fun _ h9 => h9) rfl hdg kk
theorem sa_p1_orders {x : Int32} {v : Nat} (hx : x = nI v) (S : CallFix p m c cc nL s args Ts RX1) (hin : ∀ w ∈ wsX10, w ∈ Ts) (hK : sa_K G cI cZ cL s) (hP : va_P G vwCl (sa_W1 cI cZ a σ th) H) (hD : va_D A (sa_W1 cI cZ a σ th)) (hS : va_S A H0 H locs) (hl : Cond.fieldLink RX1 67 "SpotAccountModel" "orders" "I" ∈ Ts) (hdg : decode cc pc = .ok (.putfield 67, 3)) (kk : ∀ (H1 : Heap) (locs1 : List Loc), va_P G vwCl (sa_W1 cI cZ a (sa_n σ 1 v) th) H1 → va_S A H0 H1 locs1 → W p l e R s m args below meth c H1 locs1 cells slots Q (F0 m (pc + 3) ls (rest))) : W p l e R s m args below meth c H locs cells slots Q (F0 m pc ls (.int x :: .ref (a 0) :: rest)) := by
  subst hx
  exact va_put (D := G) (ci := 1) (v := .int (nI v)) (ty := .int) (C := RX1) (T := TX1) (N := 19) S.1 S.2.1 S.2.2.2.2 hin tyX1 tyX1_ok nmX1 S.2.2.2.1 hK hP hD hS 0 rfl rfl 1 (by decide) (S.2.2.2.2 _ hl) (fun _ h9 => h9) rfl (by decide +kernel) rfl rfl (Nat.le_of_ble_eq_true rfl) hdg (fun H1 locs1 h1 _ h3 => kk H1 locs1 h1 h3)
theorem sa_g1_spots (S : CallFix p m c cc nL s args Ts RX1) (hin : ∀ w ∈ wsX10, w ∈ Ts) (hK : sa_K G cI cZ cL s) (hP : va_P G vwCl (sa_W1 cI cZ a σ th) H) (hl : Cond.fieldLink RX1 70 "SpotAccountModel" "spots" "I" ∈ Ts) (hdg : decode cc pc = .ok (.getfield 70, 3)) (kk : W p l e R s m args below meth c H locs cells slots Q (F0 m (pc + 3) ls (.int (nI (σ.1 2)) :: rest))) : W p l e R s m args below meth c H locs cells slots Q (F0 m pc ls (.ref (a 0) :: rest)) := va_get (D := G) (ci := 1) (v := .int (nI (σ.1 2))) (C := RX1) (T := TX1) (N := 19) S.1 S.2.1 S.2.2.2.2 hin S.2.2.2.1 hK hP 0 rfl rfl 2 (by decide) (S.2.2.2.2 _ hl) (fun _ h9 => h9) rfl hdg kk
theorem sa_p1_spots {x : Int32} {v : Nat} (hx : x = nI v) (S : CallFix p m c cc nL s args Ts RX1) (hin : ∀ w ∈ wsX10, w ∈ Ts) (hK : sa_K G cI cZ cL s) (hP : va_P G vwCl (sa_W1 cI cZ a σ th) H) (hD : va_D A (sa_W1 cI cZ a σ th)) (hS : va_S A H0 H locs) (hl : Cond.fieldLink RX1 70 "SpotAccountModel" "spots" "I" ∈ Ts) (hdg : decode cc pc = .ok (.putfield 70, 3)) (kk : ∀ (H1 : Heap) (locs1 : List Loc), va_P G vwCl (sa_W1 cI cZ a (sa_n σ 2 v) th) H1 → va_S A H0 H1 locs1 → W p l e R s m args below meth c H1 locs1 cells slots Q (F0 m (pc + 3) ls (rest))) : W p l e R s m args below meth c H locs cells slots Q (F0 m pc ls (.int x :: .ref (a 0) :: rest)) := by
  subst hx
  exact va_put (D := G) (ci := 1) (v := .int (nI v)) (ty := .int) (C := RX1) (T := TX1) (N := 19) S.1 S.2.1 S.2.2.2.2 hin tyX1 tyX1_ok nmX1 S.2.2.2.1 hK hP hD hS 0 rfl rfl 2 (by decide) (S.2.2.2.2 _ hl) (fun _ h9 => h9) rfl (by decide +kernel) rfl rfl (Nat.le_of_ble_eq_true rfl) hdg (fun H1 locs1 h1 _ h3 => kk H1 locs1 h1 h3)
theorem sa_g1_length (S : CallFix p m c cc nL s args Ts RX1) (hin : ∀ w ∈ wsX10, w ∈ Ts) (hK : sa_K G cI cZ cL s) (hP : va_P G vwCl (sa_W1 cI cZ a σ th) H) (hl : Cond.fieldLink RX1 7 "SpotAccountModel" "length" "[I" ∈ Ts) (hdg : decode cc pc = .ok (.getfield 7, 3)) (kk : W p l e R s m args below meth c H locs cells slots Q (F0 m (pc + 3) ls (.ref (a 1) :: rest))) : W p l e R s m args below meth c H locs cells slots Q (F0 m pc ls (.ref (a 0) :: rest)) := va_get (D := G) (ci := 1) (v := .ref (a 1)) (C := RX1) (T := TX1) (N := 19) S.1 S.2.1 S.2.2.2.2 hin S.2.2.2.1 hK hP 0 rfl rfl 3 (by decide) (S.2.2.2.2 _ hl) (fun _ h9 => h9) rfl hdg kk
theorem sa_g1_aired (S : CallFix p m c cc nL s args Ts RX1) (hin : ∀ w ∈ wsX10, w ∈ Ts) (hK : sa_K G cI cZ cL s) (hP : va_P G vwCl (sa_W1 cI cZ a σ th) H) (hl : Cond.fieldLink RX1 13 "SpotAccountModel" "aired" "[Z" ∈ Ts) (hdg : decode cc pc = .ok (.getfield 13, 3)) (kk : W p l e R s m args below meth c H locs cells slots Q (F0 m (pc + 3) ls (.ref (a 2) :: rest))) : W p l e R s m args below meth c H locs cells slots Q (F0 m pc ls (.ref (a 0) :: rest)) := va_get (D := G) (ci := 1) (v := .ref (a 2)) (C := RX1) (T := TX1) (N := 19) S.1 S.2.1 S.2.2.2.2 hin S.2.2.2.1 hK hP 0 rfl rfl 4 (by decide) (S.2.2.2.2 _ hl) (fun _ h9 => h9) rfl hdg kk
theorem sa_g1_rating (S : CallFix p m c cc nL s args Ts RX1) (hin : ∀ w ∈ wsX10, w ∈ Ts) (hK : sa_K G cI cZ cL s) (hP : va_P G vwCl (sa_W1 cI cZ a σ th) H) (hl : Cond.fieldLink RX1 17 "SpotAccountModel" "rating" "[I" ∈ Ts) (hdg : decode cc pc = .ok (.getfield 17, 3)) (kk : W p l e R s m args below meth c H locs cells slots Q (F0 m (pc + 3) ls (.ref (a 3) :: rest))) : W p l e R s m args below meth c H locs cells slots Q (F0 m pc ls (.ref (a 0) :: rest)) := va_get (D := G) (ci := 1) (v := .ref (a 3)) (C := RX1) (T := TX1) (N := 19) S.1 S.2.1 S.2.2.2.2 hin S.2.2.2.1 hK hP 0 rfl rfl 5 (by decide) (S.2.2.2.2 _ hl) (fun _ h9 => h9) rfl hdg kk
theorem sa_g1_advertiser (S : CallFix p m c cc nL s args Ts RX1) (hin : ∀ w ∈ wsX10, w ∈ Ts) (hK : sa_K G cI cZ cL s) (hP : va_P G vwCl (sa_W1 cI cZ a σ th) H) (hl : Cond.fieldLink RX1 20 "SpotAccountModel" "advertiser" "[I" ∈ Ts) (hdg : decode cc pc = .ok (.getfield 20, 3)) (kk : W p l e R s m args below meth c H locs cells slots Q (F0 m (pc + 3) ls (.ref (a 4) :: rest))) : W p l e R s m args below meth c H locs cells slots Q (F0 m pc ls (.ref (a 0) :: rest)) := va_get (D := G) (ci := 1) (v := .ref (a 4)) (C := RX1) (T := TX1) (N := 19) S.1 S.2.1 S.2.2.2.2 hin S.2.2.2.1 hK hP 0 rfl rfl 6 (by decide) (S.2.2.2.2 _ hl) (fun _ h9 => h9) rfl hdg kk
theorem sa_g1_category (S : CallFix p m c cc nL s args Ts RX1) (hin : ∀ w ∈ wsX10, w ∈ Ts) (hK : sa_K G cI cZ cL s) (hP : va_P G vwCl (sa_W1 cI cZ a σ th) H) (hl : Cond.fieldLink RX1 23 "SpotAccountModel" "category" "[I" ∈ Ts) (hdg : decode cc pc = .ok (.getfield 23, 3)) (kk : W p l e R s m args below meth c H locs cells slots Q (F0 m (pc + 3) ls (.ref (a 5) :: rest))) : W p l e R s m args below meth c H locs cells slots Q (F0 m pc ls (.ref (a 0) :: rest)) := va_get (D := G) (ci := 1) (v := .ref (a 5)) (C := RX1) (T := TX1) (N := 19) S.1 S.2.1 S.2.2.2.2 hin S.2.2.2.1 hK hP 0 rfl rfl 7 (by decide) (S.2.2.2.2 _ hl) (fun _ h9 => h9) rfl hdg kk
theorem sa_g1_group (S : CallFix p m c cc nL s args Ts RX1) (hin : ∀ w ∈ wsX10, w ∈ Ts) (hK : sa_K G cI cZ cL s) (hP : va_P G vwCl (sa_W1 cI cZ a σ th) H) (hl : Cond.fieldLink RX1 26 "SpotAccountModel" "group" "[I" ∈ Ts) (hdg : decode cc pc = .ok (.getfield 26, 3)) (kk : W p l e R s m args below meth c H locs cells slots Q (F0 m (pc + 3) ls (.ref (a 6) :: rest))) : W p l e R s m args below meth c H locs cells slots Q (F0 m pc ls (.ref (a 0) :: rest)) := va_get (D := G) (ci := 1) (v := .ref (a 6)) (C := RX1) (T := TX1) (N := 19) S.1 S.2.1 S.2.2.2.2 hin S.2.2.2.1 hK hP 0 rfl rfl 8 (by decide) (S.2.2.2.2 _ hl) (fun _ h9 => h9) rfl hdg kk
theorem sa_g1_seconds (S : CallFix p m c cc nL s args Ts RX1) (hin : ∀ w ∈ wsX10, w ∈ Ts) (hK : sa_K G cI cZ cL s) (hP : va_P G vwCl (sa_W1 cI cZ a σ th) H) (hl : Cond.fieldLink RX1 29 "SpotAccountModel" "seconds" "[I" ∈ Ts) (hdg : decode cc pc = .ok (.getfield 29, 3)) (kk : W p l e R s m args below meth c H locs cells slots Q (F0 m (pc + 3) ls (.ref (a 7) :: rest))) : W p l e R s m args below meth c H locs cells slots Q (F0 m pc ls (.ref (a 0) :: rest)) := va_get (D := G) (ci := 1) (v := .ref (a 7)) (C := RX1) (T := TX1) (N := 19) S.1 S.2.1 S.2.2.2.2 hin S.2.2.2.1 hK hP 0 rfl rfl 9 (by decide) (S.2.2.2.2 _ hl) (fun _ h9 => h9) rfl hdg kk
theorem sa_g1_price (S : CallFix p m c cc nL s args Ts RX1) (hin : ∀ w ∈ wsX10, w ∈ Ts) (hK : sa_K G cI cZ cL s) (hP : va_P G vwCl (sa_W1 cI cZ a σ th) H) (hl : Cond.fieldLink RX1 32 "SpotAccountModel" "price" "[I" ∈ Ts) (hdg : decode cc pc = .ok (.getfield 32, 3)) (kk : W p l e R s m args below meth c H locs cells slots Q (F0 m (pc + 3) ls (.ref (a 8) :: rest))) : W p l e R s m args below meth c H locs cells slots Q (F0 m pc ls (.ref (a 0) :: rest)) := va_get (D := G) (ci := 1) (v := .ref (a 8)) (C := RX1) (T := TX1) (N := 19) S.1 S.2.1 S.2.2.2.2 hin S.2.2.2.1 hK hP 0 rfl rfl 10 (by decide) (S.2.2.2.2 _ hl) (fun _ h9 => h9) rfl hdg kk
theorem sa_g1_promise (S : CallFix p m c cc nL s args Ts RX1) (hin : ∀ w ∈ wsX10, w ∈ Ts) (hK : sa_K G cI cZ cL s) (hP : va_P G vwCl (sa_W1 cI cZ a σ th) H) (hl : Cond.fieldLink RX1 35 "SpotAccountModel" "promise" "[I" ∈ Ts) (hdg : decode cc pc = .ok (.getfield 35, 3)) (kk : W p l e R s m args below meth c H locs cells slots Q (F0 m (pc + 3) ls (.ref (a 9) :: rest))) : W p l e R s m args below meth c H locs cells slots Q (F0 m pc ls (.ref (a 0) :: rest)) := va_get (D := G) (ci := 1) (v := .ref (a 9)) (C := RX1) (T := TX1) (N := 19) S.1 S.2.1 S.2.2.2.2 hin S.2.2.2.1 hK hP 0 rfl rfl 11 (by decide) (S.2.2.2.2 _ hl) (fun _ h9 => h9) rfl hdg kk
theorem sa_g1_floor (S : CallFix p m c cc nL s args Ts RX1) (hin : ∀ w ∈ wsX10, w ∈ Ts) (hK : sa_K G cI cZ cL s) (hP : va_P G vwCl (sa_W1 cI cZ a σ th) H) (hl : Cond.fieldLink RX1 38 "SpotAccountModel" "floor" "[I" ∈ Ts) (hdg : decode cc pc = .ok (.getfield 38, 3)) (kk : W p l e R s m args below meth c H locs cells slots Q (F0 m (pc + 3) ls (.ref (a 10) :: rest))) : W p l e R s m args below meth c H locs cells slots Q (F0 m pc ls (.ref (a 0) :: rest)) := va_get (D := G) (ci := 1) (v := .ref (a 10)) (C := RX1) (T := TX1) (N := 19) S.1 S.2.1 S.2.2.2.2 hin S.2.2.2.1 hK hP 0 rfl rfl 12 (by decide) (S.2.2.2.2 _ hl) (fun _ h9 => h9) rfl hdg kk
theorem sa_g1_closed (S : CallFix p m c cc nL s args Ts RX1) (hin : ∀ w ∈ wsX10, w ∈ Ts) (hK : sa_K G cI cZ cL s) (hP : va_P G vwCl (sa_W1 cI cZ a σ th) H) (hl : Cond.fieldLink RX1 41 "SpotAccountModel" "closed" "[Z" ∈ Ts) (hdg : decode cc pc = .ok (.getfield 41, 3)) (kk : W p l e R s m args below meth c H locs cells slots Q (F0 m (pc + 3) ls (.ref (a 11) :: rest))) : W p l e R s m args below meth c H locs cells slots Q (F0 m pc ls (.ref (a 0) :: rest)) := va_get (D := G) (ci := 1) (v := .ref (a 11)) (C := RX1) (T := TX1) (N := 19) S.1 S.2.1 S.2.2.2.2 hin S.2.2.2.1 hK hP 0 rfl rfl 13 (by decide) (S.2.2.2.2 _ hl) (fun _ h9 => h9) rfl hdg kk
theorem sa_g1_order (S : CallFix p m c cc nL s args Ts RX1) (hin : ∀ w ∈ wsX10, w ∈ Ts) (hK : sa_K G cI cZ cL s) (hP : va_P G vwCl (sa_W1 cI cZ a σ th) H) (hl : Cond.fieldLink RX1 44 "SpotAccountModel" "order" "[I" ∈ Ts) (hdg : decode cc pc = .ok (.getfield 44, 3)) (kk : W p l e R s m args below meth c H locs cells slots Q (F0 m (pc + 3) ls (.ref (a 12) :: rest))) : W p l e R s m args below meth c H locs cells slots Q (F0 m pc ls (.ref (a 0) :: rest)) := va_get (D := G) (ci := 1) (v := .ref (a 12)) (C := RX1) (T := TX1) (N := 19) S.1 S.2.1 S.2.2.2.2 hin S.2.2.2.1 hK hP 0 rfl rfl 14 (by decide) (S.2.2.2.2 _ hl) (fun _ h9 => h9) rfl hdg kk
theorem sa_g1_where (S : CallFix p m c cc nL s args Ts RX1) (hin : ∀ w ∈ wsX10, w ∈ Ts) (hK : sa_K G cI cZ cL s) (hP : va_P G vwCl (sa_W1 cI cZ a σ th) H) (hl : Cond.fieldLink RX1 47 "SpotAccountModel" "where" "[I" ∈ Ts) (hdg : decode cc pc = .ok (.getfield 47, 3)) (kk : W p l e R s m args below meth c H locs cells slots Q (F0 m (pc + 3) ls (.ref (a 13) :: rest))) : W p l e R s m args below meth c H locs cells slots Q (F0 m pc ls (.ref (a 0) :: rest)) := va_get (D := G) (ci := 1) (v := .ref (a 13)) (C := RX1) (T := TX1) (N := 19) S.1 S.2.1 S.2.2.2.2 hin S.2.2.2.1 hK hP 0 rfl rfl 15 (by decide) (S.2.2.2.2 _ hl) (fun _ h9 => h9) rfl hdg kk
theorem sa_g1_state (S : CallFix p m c cc nL s args Ts RX1) (hin : ∀ w ∈ wsX10, w ∈ Ts) (hK : sa_K G cI cZ cL s) (hP : va_P G vwCl (sa_W1 cI cZ a σ th) H) (hl : Cond.fieldLink RX1 50 "SpotAccountModel" "state" "[I" ∈ Ts) (hdg : decode cc pc = .ok (.getfield 50, 3)) (kk : W p l e R s m args below meth c H locs cells slots Q (F0 m (pc + 3) ls (.ref (a 14) :: rest))) : W p l e R s m args below meth c H locs cells slots Q (F0 m pc ls (.ref (a 0) :: rest)) := va_get (D := G) (ci := 1) (v := .ref (a 14)) (C := RX1) (T := TX1) (N := 19) S.1 S.2.1 S.2.2.2.2 hin S.2.2.2.1 hK hP 0 rfl rfl 16 (by decide) (S.2.2.2.2 _ hl) (fun _ h9 => h9) rfl hdg kk
theorem sa_g1_free (S : CallFix p m c cc nL s args Ts RX1) (hin : ∀ w ∈ wsX10, w ∈ Ts) (hK : sa_K G cI cZ cL s) (hP : va_P G vwCl (sa_W1 cI cZ a σ th) H) (hl : Cond.fieldLink RX1 53 "SpotAccountModel" "free" "[Z" ∈ Ts) (hdg : decode cc pc = .ok (.getfield 53, 3)) (kk : W p l e R s m args below meth c H locs cells slots Q (F0 m (pc + 3) ls (.ref (a 15) :: rest))) : W p l e R s m args below meth c H locs cells slots Q (F0 m pc ls (.ref (a 0) :: rest)) := va_get (D := G) (ci := 1) (v := .ref (a 15)) (C := RX1) (T := TX1) (N := 19) S.1 S.2.1 S.2.2.2.2 hin S.2.2.2.1 hK hP 0 rfl rfl 17 (by decide) (S.2.2.2.2 _ hl) (fun _ h9 => h9) rfl hdg kk
theorem sa_g1_thrown (S : CallFix p m c cc nL s args Ts RX1) (hin : ∀ w ∈ wsX10, w ∈ Ts) (hK : sa_K G cI cZ cL s) (hP : va_P G vwCl (sa_W1 cI cZ a σ th) H) (hl : Cond.fieldLink RX1 56 "SpotAccountModel" "thrown" "I" ∈ Ts) (hdg : decode cc pc = .ok (.getfield 56, 3)) (kk : W p l e R s m args below meth c H locs cells slots Q (F0 m (pc + 3) ls (.int th :: rest))) : W p l e R s m args below meth c H locs cells slots Q (F0 m pc ls (.ref (a 0) :: rest)) := va_get (D := G) (ci := 1) (v := .int th) (C := RX1) (T := TX1) (N := 19) S.1 S.2.1 S.2.2.2.2 hin S.2.2.2.1 hK hP 0 rfl rfl 18 (by decide) (S.2.2.2.2 _ hl) (fun _ h9 => h9) rfl hdg kk
theorem sa_p1_thrown {x : Int32} (S : CallFix p m c cc nL s args Ts RX1) (hin : ∀ w ∈ wsX10, w ∈ Ts) (hK : sa_K G cI cZ cL s) (hP : va_P G vwCl (sa_W1 cI cZ a σ th) H) (hD : va_D A (sa_W1 cI cZ a σ th)) (hS : va_S A H0 H locs) (hl : Cond.fieldLink RX1 56 "SpotAccountModel" "thrown" "I" ∈ Ts) (hdg : decode cc pc = .ok (.putfield 56, 3)) (kk : ∀ (H1 : Heap) (locs1 : List Loc), va_P G vwCl (sa_W1 cI cZ a σ x) H1 → va_S A H0 H1 locs1 → W p l e R s m args below meth c H1 locs1 cells slots Q (F0 m (pc + 3) ls (rest))) : W p l e R s m args below meth c H locs cells slots Q (F0 m pc ls (.int x :: .ref (a 0) :: rest)) := by
  exact va_put (D := G) (ci := 1) (v := .int (x)) (ty := .int) (C := RX1) (T := TX1) (N := 19) S.1 S.2.1 S.2.2.2.2 hin tyX1 tyX1_ok nmX1 S.2.2.2.1 hK hP hD hS 0 rfl rfl 18 (by decide) (S.2.2.2.2 _ hl) (fun _ h9 => h9) rfl (by decide +kernel) rfl rfl (Nat.le_of_ble_eq_true rfl) hdg (fun H1 locs1 h1 _ h3 => kk H1 locs1 h1 h3)
/-- array rows over any world; an index by its number, or as it is -/
theorem sa_ld {ws : va_W} {b n : Nat} {f : Nat → Int32} {i : Int32} {own' : String} (q0 : Nat) (S : CallFix p m c cc nL s args Ts own') (hK : sa_K G cI cZ cL s) (hP : va_P G vwCl ws H) (ha : ws[q0]? = some (b, .inl (cI, n, .inl f))) (hin : vp_in i n) (hdg : decode cc pc = .ok (.iaload, 1)) (kk : W p l e R s m args below meth c H locs cells slots Q (F0 m (pc + 1) ls (.int (f i.toNatClampNeg) :: rest))) : W p l e R s m args below meth c H locs cells slots Q (F0 m pc ls (.int i :: .ref b :: rest)) := va_iald S.1 S.2.1 hK hP q0 0 ha rfl hin hdg kk
theorem sa_ldk {ws : va_W} {b n k : Nat} {f : Nat → Int32} {own' : String} (q0 : Nat) (S : CallFix p m c cc nL s args Ts own') (hK : sa_K G cI cZ cL s) (hP : va_P G vwCl ws H) (ha : ws[q0]? = some (b, .inl (cI, n, .inl f))) (hk : k < n) (hn : n < 2 ^ 31) (hdg : decode cc pc = .ok (.iaload, 1)) (kk : W p l e R s m args below meth c H locs cells slots Q (F0 m (pc + 1) ls (.int (f k) :: rest))) : W p l e R s m args below meth c H locs cells slots Q (F0 m pc ls (.int (nI k) :: .ref b :: rest)) := sa_ld q0 S hK hP ha (vp_in_nI hk hn) hdg (by rw [nI_clamp (by omega)]; exact kk)
theorem sa_ldz {ws : va_W} {b n : Nat} {f : Nat → Int32} {i : Int32} {own' : String} (q0 : Nat) (S : CallFix p m c cc nL s args Ts own') (hK : sa_K G cI cZ cL s) (hP : va_P G vwCl ws H) (ha : ws[q0]? = some (b, .inl (cZ, n, .inl f))) (hin : vp_in i n) (hdg : decode cc pc = .ok (.baload, 1)) (kk : W p l e R s m args below meth c H locs cells slots Q (F0 m (pc + 1) ls (.int (f i.toNatClampNeg) :: rest))) : W p l e R s m args below meth c H locs cells slots Q (F0 m pc ls (.int i :: .ref b :: rest)) := va_zald S.1 S.2.1 hK hP q0 1 ha rfl hin hdg kk
theorem sa_ldzk {ws : va_W} {b n k : Nat} {f : Nat → Int32} {own' : String} (q0 : Nat) (S : CallFix p m c cc nL s args Ts own') (hK : sa_K G cI cZ cL s) (hP : va_P G vwCl ws H) (ha : ws[q0]? = some (b, .inl (cZ, n, .inl f))) (hk : k < n) (hn : n < 2 ^ 31) (hdg : decode cc pc = .ok (.baload, 1)) (kk : W p l e R s m args below meth c H locs cells slots Q (F0 m (pc + 1) ls (.int (f k) :: rest))) : W p l e R s m args below meth c H locs cells slots Q (F0 m pc ls (.int (nI k) :: .ref b :: rest)) := sa_ldz q0 S hK hP ha (vp_in_nI hk hn) hdg (by rw [nI_clamp (by omega)]; exact kk)
theorem sa_st {ws ws' : va_W} {b n : Nat} {f : Nat → Int32} {i x : Int32} {own' : String} (q0 : Nat) (S : CallFix p m c cc nL s args Ts own') (hK : sa_K G cI cZ cL s) (hP : va_P G vwCl ws H) (hD : va_D A ws) (hS : va_S A H0 H locs) (ha : ws[q0]? = some (b, .inl (cI, n, .inl f))) (hin : vp_in i n) (hw : ws.set q0 (b, .inl (cI, n, .inl (upd f i.toNatClampNeg x))) = ws') (hdg : decode cc pc = .ok (.iastore, 1)) (kk : ∀ (H1 : Heap) (locs1 : List Loc), va_P G vwCl ws' H1 → va_S A H0 H1 locs1 → W p l e R s m args below meth c H1 locs1 cells slots Q (F0 m (pc + 1) ls (rest))) : W p l e R s m args below meth c H locs cells slots Q (F0 m pc ls (.int x :: .int i :: .ref b :: rest)) := by
  subst hw
  exact va_iast S.1 S.2.1 hK hP hD hS q0 0 ha rfl hin hdg (fun H1 locs1 h1 _ h3 => kk H1 locs1 h1 h3)
theorem sa_stk {ws ws' : va_W} {b n k : Nat} {f : Nat → Int32} {x : Int32} {own' : String} (q0 : Nat) (S : CallFix p m c cc nL s args Ts own') (hK : sa_K G cI cZ cL s) (hP : va_P G vwCl ws H) (hD : va_D A ws) (hS : va_S A H0 H locs) (ha : ws[q0]? = some (b, .inl (cI, n, .inl f))) (hk : k < n) (hn : n < 2 ^ 31) (hw : ws.set q0 (b, .inl (cI, n, .inl (upd f k x))) = ws') (hdg : decode cc pc = .ok (.iastore, 1)) (kk : ∀ (H1 : Heap) (locs1 : List Loc), va_P G vwCl ws' H1 → va_S A H0 H1 locs1 → W p l e R s m args below meth c H1 locs1 cells slots Q (F0 m (pc + 1) ls (rest))) : W p l e R s m args below meth c H locs cells slots Q (F0 m pc ls (.int x :: .int (nI k) :: .ref b :: rest)) :=
  sa_st q0 S hK hP hD hS ha (vp_in_nI hk hn) (by rw [nI_clamp (by omega)]; exact hw) hdg kk
theorem sa_stz {ws ws' : va_W} {b n : Nat} {f : Nat → Int32} {i x : Int32} {own' : String} (q0 : Nat) (S : CallFix p m c cc nL s args Ts own') (hK : sa_K G cI cZ cL s) (hP : va_P G vwCl ws H) (hD : va_D A ws) (hS : va_S A H0 H locs) (ha : ws[q0]? = some (b, .inl (cZ, n, .inl f))) (hin : vp_in i n) (hx : vp_nar .boolean x = x) (hw : ws.set q0 (b, .inl (cZ, n, .inl (upd f i.toNatClampNeg x))) = ws') (hdg : decode cc pc = .ok (.bastore, 1)) (kk : ∀ (H1 : Heap) (locs1 : List Loc), va_P G vwCl ws' H1 → va_S A H0 H1 locs1 → W p l e R s m args below meth c H1 locs1 cells slots Q (F0 m (pc + 1) ls (rest))) : W p l e R s m args below meth c H locs cells slots Q (F0 m pc ls (.int x :: .int i :: .ref b :: rest)) := by
  subst hw
  exact va_zast S.1 S.2.1 hK hP hD hS q0 1 ha rfl hin hdg (fun H1 locs1 h1 _ h3 => kk H1 locs1 (by rw [hx] at h1; exact h1) h3)
theorem sa_stzk {ws ws' : va_W} {b n k : Nat} {f : Nat → Int32} {x : Int32} {own' : String} (q0 : Nat) (S : CallFix p m c cc nL s args Ts own') (hK : sa_K G cI cZ cL s) (hP : va_P G vwCl ws H) (hD : va_D A ws) (hS : va_S A H0 H locs) (ha : ws[q0]? = some (b, .inl (cZ, n, .inl f))) (hk : k < n) (hn : n < 2 ^ 31) (hx : vp_nar .boolean x = x) (hw : ws.set q0 (b, .inl (cZ, n, .inl (upd f k x))) = ws') (hdg : decode cc pc = .ok (.bastore, 1)) (kk : ∀ (H1 : Heap) (locs1 : List Loc), va_P G vwCl ws' H1 → va_S A H0 H1 locs1 → W p l e R s m args below meth c H1 locs1 cells slots Q (F0 m (pc + 1) ls (rest))) : W p l e R s m args below meth c H locs cells slots Q (F0 m pc ls (.int x :: .int (nI k) :: .ref b :: rest)) :=
  sa_stz q0 S hK hP hD hS ha (vp_in_nI hk hn) hx (by rw [nI_clamp (by omega)]; exact hw) hdg kk
end
end
section
/-! contracts of four kinds, and a row for a call of each -/
abbrev sa_Pw (G : va_G) (cI cZ cL : ClassId) (wd : va_W) : State → Prop := fun U => va_P G vwCl wd U.heap ∧ sa_K G cI cZ cL U
/-- reads a world, answers r -/
abbrev sa_Rd (l : Launch) (y : MethodName) (ws : List Cond) (rm : Room) (G : va_G) (cI cZ cL : ClassId) (wd : va_W) (av : List Value) (r : Int32) : Prop :=
  Met l y ws rm (va_Pc av (sa_Pw G cI cZ cL wd)) (vp_Si (fun z => z = r)) 0 0 (fun _ => False)
/-- reads no world -/
abbrev sa_Rs (l : Launch) (y : MethodName) (ws : List Cond) (rm : Room) (av : List Value) (r : Int32) : Prop :=
  Met l y ws rm (va_Pc av (fun _ => True)) (vp_Si (fun z => z = r)) 0 0 (fun _ => False)
/-- a check that passes -/
abbrev sa_Ok (l : Launch) (y : MethodName) (ws : List Cond) (rm : Room) (B : State → Prop) (av : List Value) : Prop :=
  Met l y ws rm (va_Pc av B) (va_Sv (fun _ => True)) 0 0 (fun _ => False)
/-- changes a world, answers r -/
abbrev sa_Wr (l : Launch) (y : MethodName) (ws : List Cond) (rm : Room) (G : va_G) (cI cZ cL : ClassId) (wd wd' : va_W) (A : Nat → Prop) (av : List Value) (r : Int32) : Prop :=
  Met l y ws rm (va_Pc av (sa_Pw G cI cZ cL wd)) (va_Qi (fun z (_ : Unit) => z = r) (fun _ t => va_P G vwCl wd' t.heap) A) 0 0 A
abbrev sa_Wv (l : Launch) (y : MethodName) (ws : List Cond) (rm : Room) (G : va_G) (cI cZ cL : ClassId) (wd wd' : va_W) (A : Nat → Prop) (av : List Value) : Prop :=
  Met l y ws rm (va_Pc av (sa_Pw G cI cZ cL wd)) (va_Qv (fun (_ : Unit) => True) (fun _ t => va_P G vwCl wd' t.heap) A) 0 0 A
def sa_XC (PE : String → Prop) : String → State → State → Prop := fun E st t => PE E ∧ st.heap.size ≤ t.heap.size ∧ ∀ q : Nat, q < st.heap.size → t.heap[q]? = st.heap[q]?
/-- always throws one of the exceptions PE -/
abbrev sa_Ex (l : Launch) (y : MethodName) (ws : List Cond) (rm : Room) (B : State → Prop) (av : List Value) (PE : String → Prop) : Prop :=
  vx_Met l y ws rm (va_Pc av B) (fun _ _ _ _ => False) (sa_XC PE) 1 6 (fun _ => False)
/-- what a throw takes from the machine -/
abbrev sa_E1 : String := "java/lang/IndexOutOfBoundsException"
abbrev sa_E2 : String := "java/lang/IllegalArgumentException"
abbrev sa_E3 : String := "java/lang/IllegalStateException"
abbrev sa_T1 : String := "there is no such break, order or spot"
abbrev sa_T2 : String := "an argument is out of its range"
abbrev sa_T3 : String := "the account does not allow this now"
def sa_T (lo : Nat) (U : State) (H : Heap) : Prop :=
  vx_Zq Bundle.tN "UNASSIGNED_STACK" Bundle.steD (fun q => lo ≤ q) U H ∧ vx_Zq Bundle.tN "SUPPRESSED_SENTINEL" Bundle.listD (fun q => lo ≤ q) U H ∧
  (∃ b, vk_R RX0 141 sa_T1 b U) ∧ (∃ b, vk_R RX0 148 sa_T2 b U) ∧ (∃ b, vk_R RX0 153 sa_T3 b U) ∧
  va_Nw (.castable sa_E1 sa_E1) U ∧ va_Nw (.castable sa_E2 sa_E2) U ∧ va_Nw (.castable sa_E3 sa_E3) U ∧
  va_Nw (.declares (Bundle.initS "java/lang/RuntimeException")) U ∧ va_Nw (.declares (Bundle.initS "java/lang/Exception")) U ∧ va_Nw (.declares (Bundle.initS Bundle.tN)) U
theorem sa_T.warm {lo : Nat} {s U : State} {H : Heap} (hW : s.WarmedH U.vm) (h : sa_T lo s H) : sa_T lo U H := by
  obtain ⟨h1, h2, ⟨b3, h3⟩, ⟨b4, h4⟩, ⟨b5, h5⟩, h6, h7, h8, h9, h10, h11⟩ := h
  exact ⟨h1.moved hW.alike, h2.moved hW.alike, ⟨b3, h3.warm hW⟩, ⟨b4, h4.warm hW⟩, ⟨b5, h5.warm hW⟩, h6.warmC hW, h7.warmC hW, h8.warmC hW, h9.warmD hW, h10.warmD hW, h11.warmD hW⟩
theorem sa_T.same {lo : Nat} {u U : State} {H : Heap} (hv : U.vm = u.vm) (h : sa_T lo u H) : sa_T lo U H := by
  obtain ⟨h1, h2, ⟨b3, h3⟩, ⟨b4, h4⟩, ⟨b5, h5⟩, h6, h7, h8, h9, h10, h11⟩ := h
  have ha : u.vm.Alike U.vm := by rw [hv]; exact Vm.Alike.refl _
  exact ⟨h1.moved ha, h2.moved ha, ⟨b3, h3.same hv⟩, ⟨b4, h4.same hv⟩, ⟨b5, h5.same hv⟩, h6.same rfl hv.symm, h7.same rfl hv.symm, h8.same rfl hv.symm, h9.same rfl hv.symm, h10.same rfl hv.symm, h11.same rfl hv.symm⟩
theorem sa_T.kept {lo : Nat} {U : State} {H H1 : Heap} (h : sa_T lo U H) (hq : ∀ q : Nat, q < H.size → ¬ lo ≤ q → H1[q]? = H[q]?) : sa_T lo U H1 :=
  ⟨h.1.kept hq, h.2.1.kept hq, h.2.2⟩
abbrev sa_Pt (lo : Nat) : State → Prop := fun U => sa_T lo U U.heap
abbrev sa_Px (lo : Nat) (G : va_G) (cI cZ cL : ClassId) (wd : va_W) : State → Prop := fun U => (va_P G vwCl wd U.heap ∧ sa_K G cI cZ cL U) ∧ sa_T lo U U.heap
section
variable {G : va_G} {cI cZ cL : ClassId} {wd : va_W} {av : List Value} {lo : Nat}
theorem sa_bPw : FrameBlind (va_Pc av (sa_Pw G cI cZ cL wd)) := fun a U g mk h => ⟨h.1, h.2.1, va_K.moved (u := U) (U := U.calling g mk a) (Vm.Alike.refl U.vm) h.2.2⟩
theorem sa_bPt : FrameBlind (va_Pc av (sa_Pt lo)) := fun a U g mk h => ⟨h.1, sa_T.same (u := U) (U := U.calling g mk a) rfl h.2⟩
theorem sa_bPx : FrameBlind (va_Pc av (sa_Px lo G cI cZ cL wd)) := fun a U g mk h => ⟨h.1, ⟨h.2.1.1, va_K.moved (u := U) (U := U.calling g mk a) (Vm.Alike.refl U.vm) h.2.1.2⟩, sa_T.same (u := U) (U := U.calling g mk a) rfl h.2.2⟩
theorem sa_bTr : FrameBlind (va_Pc av (fun _ => True)) := fun _ _ _ _ h => h
end
section
variable {p : Program} {l : Launch} {e : Env} {R : Room} {s : State} {m : MethodId} {args : Array Value} {below : List Frame} {meth : Method} {c : Code} {H H0 : Heap} {locs : List Loc} {cells slots : Nat} {Q : State → Prop}
variable {cc bytes : ByteArray} {pc nL maxL n index : Nat} {ls : Array Slot} {rest st0 As : List Value} {Ts ws ws' : List Cond} {G : va_G} {cI cZ cL : ClassId} {wd wd' : va_W} {A A0 : Nat → Prop}
variable {own C : String} {y : MethodName} {ret : Option FieldType} {rm : Room} {T : u_T} {N ci b lo : Nat} {fs : List Value} {r : Int32} {PE PE' : String → Prop}
theorem sa_kRd (S : CallFix p m c cc nL s args Ts own) (hM : sa_Rd l y ws rm G cI cZ cL wd (.ref b :: As) r) (cw : CallW R s args own C index y bytes maxL ret ws rm 0 0 n) (hP : va_P G vwCl wd H) (hK : sa_K G cI cZ cL s) (hc : vwCl[ci]? = some (C, T, N)) (he : wd[0]? = some (b, .inr (ci, fs)))
    (hn : As.length = n) (hls : ls.size = nL) (hst : (rest.map fun v => v.category).sum ≤ 8) (h0 : st0 = As.reverse ++ .ref b :: rest) (hdg : decode cc pc = .ok (.invokevirtual index, 3)) (hf : cells ≤ R.cells ∧ slots ≤ R.slots)
    (kk : W p l e R s m args below meth c H locs cells slots Q (F0 m (pc + 3) ls (.int r :: rest))) : W p l e R s m args below meth c H locs cells slots Q (F0 m pc ls st0) :=
  vp_callSi (W.runV S hM cw ⟨sa_bPw, va_recv hK hP hc he, fun U hU hW => ⟨rfl, by rw [hU]; exact hP, va_K.moved hW.alike hK⟩⟩ rfl hn hls h0 (lv_room hst) hdg hf) (fun z hz => by rw [hz]; exact kk)
theorem sa_kRs (S : CallFix p m c cc nL s args Ts own) (hM : sa_Rs l y ws rm As r) (cw : CallB R s args own index y bytes maxL ret ws rm 0 0 n ∧ (Cond.static y).before args s = true)
    (hn : As.length = n) (hls : ls.size = nL) (hst : (rest.map fun v => v.category).sum ≤ 8) (h0 : st0 = As.reverse ++ rest) (hdg : decode cc pc = .ok (.invokestatic index, 3)) (hf : cells ≤ R.cells ∧ slots ≤ R.slots)
    (kk : W p l e R s m args below meth c H locs cells slots Q (F0 m (pc + 3) ls (.int r :: rest))) : W p l e R s m args below meth c H locs cells slots Q (F0 m pc ls st0) :=
  vp_callSi (W.runS S hM cw ⟨sa_bTr, fun _ _ _ => ⟨rfl, trivial⟩⟩ rfl hn hls h0 (lv_room hst) hdg hf) (fun z hz => by rw [hz]; exact kk)
/-- checks that pass: static, of the object -/
theorem sa_kOkS (S : CallFix p m c cc nL s args Ts own) (hM : sa_Ok l y ws rm (fun _ => True) As) (cw : CallB R s args own index y bytes maxL ret ws rm 0 0 n ∧ (Cond.static y).before args s = true)
    (hn : As.length = n) (hls : ls.size = nL) (hst : (rest.map fun v => v.category).sum ≤ 8) (h0 : st0 = As.reverse ++ rest) (hdg : decode cc pc = .ok (.invokestatic index, 3)) (hf : cells ≤ R.cells ∧ slots ≤ R.slots)
    (kk : W p l e R s m args below meth c H locs cells slots Q (F0 m (pc + 3) ls rest)) : W p l e R s m args below meth c H locs cells slots Q (F0 m pc ls st0) :=
  va_csv (W.runS S hM cw ⟨sa_bTr, fun _ _ _ => ⟨rfl, trivial⟩⟩ rfl hn hls h0 (lv_room hst) hdg hf) (fun _ => kk)
theorem sa_kOkV (S : CallFix p m c cc nL s args Ts own) (hM : sa_Ok l y ws rm (sa_Pw G cI cZ cL wd) (.ref b :: As)) (cw : CallW R s args own C index y bytes maxL ret ws rm 0 0 n) (hP : va_P G vwCl wd H) (hK : sa_K G cI cZ cL s) (hc : vwCl[ci]? = some (C, T, N)) (he : wd[0]? = some (b, .inr (ci, fs)))
    (hn : As.length = n) (hls : ls.size = nL) (hst : (rest.map fun v => v.category).sum ≤ 8) (h0 : st0 = As.reverse ++ .ref b :: rest) (hdg : decode cc pc = .ok (.invokevirtual index, 3)) (hf : cells ≤ R.cells ∧ slots ≤ R.slots)
    (kk : W p l e R s m args below meth c H locs cells slots Q (F0 m (pc + 3) ls rest)) : W p l e R s m args below meth c H locs cells slots Q (F0 m pc ls st0) :=
  va_csv (W.runV S hM cw ⟨sa_bPw, va_recv hK hP hc he, fun U hU hW => ⟨rfl, by rw [hU]; exact hP, va_K.moved hW.alike hK⟩⟩ rfl hn hls h0 (lv_room hst) hdg hf) (fun _ => kk)
/-- calls that change the world -/
theorem sa_kWr (S : CallFix p m c cc nL s args Ts own) (hM : sa_Wr l y ws rm G cI cZ cL wd wd' A (.ref b :: As) r) (cw : CallW R s args own C index y bytes maxL ret ws rm 0 0 n) (hP : va_P G vwCl wd H) (hK : sa_K G cI cZ cL s) (hS : va_S A0 H0 H locs) (hA : ∀ q, A q → A0 q) (hc : vwCl[ci]? = some (C, T, N)) (he : wd[0]? = some (b, .inr (ci, fs)))
    (hn : As.length = n) (hls : ls.size = nL) (hst : (rest.map fun v => v.category).sum ≤ 8) (h0 : st0 = As.reverse ++ .ref b :: rest) (hdg : decode cc pc = .ok (.invokevirtual index, 3)) (hf : cells ≤ R.cells ∧ slots ≤ R.slots)
    (kk : ∀ (H1 : Heap) (locs1 : List Loc), va_P G vwCl wd' H1 → va_S A0 H0 H1 locs1 → H.size ≤ H1.size → (∀ q : Nat, q < H.size → ¬ A q → H1[q]? = H[q]?) → W p l e R s m args below meth c H1 locs1 cells slots Q (F0 m (pc + 3) ls (.int r :: rest))) : W p l e R s m args below meth c H locs cells slots Q (F0 m pc ls st0) :=
  va_calli (va_runV S hM cw ⟨sa_bPw, va_recv hK hP hc he, fun U hU hW => ⟨rfl, by rw [hU]; exact hP, va_K.moved hW.alike hK⟩⟩ rfl hn hls h0 (lv_room hst) hdg hf) hS (fun q _ h => hA q h) hA (fun z u t H1 locs1 ht _ hz hB h1 h2 h3 => by subst hz; exact kk H1 locs1 (by rw [← ht]; exact hB) h3 h1 h2)
theorem sa_kWv (S : CallFix p m c cc nL s args Ts own) (hM : sa_Wv l y ws rm G cI cZ cL wd wd' A (.ref b :: As)) (cw : CallW R s args own C index y bytes maxL ret ws rm 0 0 n) (hP : va_P G vwCl wd H) (hK : sa_K G cI cZ cL s) (hS : va_S A0 H0 H locs) (hA : ∀ q, A q → A0 q) (hc : vwCl[ci]? = some (C, T, N)) (he : wd[0]? = some (b, .inr (ci, fs)))
    (hn : As.length = n) (hls : ls.size = nL) (hst : (rest.map fun v => v.category).sum ≤ 8) (h0 : st0 = As.reverse ++ .ref b :: rest) (hdg : decode cc pc = .ok (.invokevirtual index, 3)) (hf : cells ≤ R.cells ∧ slots ≤ R.slots)
    (kk : ∀ (H1 : Heap) (locs1 : List Loc), va_P G vwCl wd' H1 → va_S A0 H0 H1 locs1 → H.size ≤ H1.size → (∀ q : Nat, q < H.size → ¬ A q → H1[q]? = H[q]?) → W p l e R s m args below meth c H1 locs1 cells slots Q (F0 m (pc + 3) ls rest)) : W p l e R s m args below meth c H locs cells slots Q (F0 m pc ls st0) :=
  va_callv (va_runV S hM cw ⟨sa_bPw, va_recv hK hP hc he, fun U hU hW => ⟨rfl, by rw [hU]; exact hP, va_K.moved hW.alike hK⟩⟩ rfl hn hls h0 (lv_room hst) hdg hf) hS (fun q _ h => hA q h) hA (fun u t H1 locs1 ht _ _ hB h1 h2 h3 => kk H1 locs1 (by rw [← ht]; exact hB) h3 h1 h2)
variable {Qc : Array Value → State → Outcome → State → Prop}
theorem sa_thrown (hr : vx_Run p l e R s m args below meth c s.heap [] 0 0 1 6 (F0 m pc ls st0) rest (fun _ _ _ => False) (sa_XC PE) (fun _ => False)) (htab : ∀ x ∈ c.exceptionTable.toList, False) (hlocks : meth.locks = false) (hPE : ∀ E, PE E → PE' E) :
    W p l e R s m args below meth c s.heap [] 0 0 (vx_MQ below Qc (sa_XC PE') args s 1 6 (fun _ => False)) (F0 m pc ls st0) := by
  intro T hT X
  rcases hr T hT X with ⟨v, st₀, t, T', L, h0, X', hL, e1, e2, hq, st⟩ | ⟨q, st₀, t, T', L, E, ce, h0, X', hL, e1, e2, hx, hce, hcv, hcl, st⟩
  · exact hq.elim
  · obtain ⟨t2, a1, b1⟩ := vx_out (mc := 1) (ms := 6) (free := fun _ => False) (Qc := Qc) (XC := sa_XC PE') (rest := rest) (pc := pc) (ls := ls) (fun x hx => (htab x hx).elim) hlocks (H := T'.heap) (by rw [e1]; exact hce) hcv hcl
      (fun z hz _ => ⟨hPE E hx.1, by rw [hz, e1, ← h0]; exact hx.2.1, fun q9 h9 => by rw [hz, e1, ← h0]; exact hx.2.2 q9 (by rw [h0]; exact h9)⟩) (fun z hz => (hL z (by simpa using hz)).elim) (Nat.le_refl _) (Nat.le_refl _) T' rfl X'
    exact ⟨t2, st.trans a1, b1⟩
theorem sa_kExS (S : CallFix p m c cc nL s args Ts own) (hM : sa_Ex l y ws rm (sa_Pt lo) As PE) (cw : CallB R s args own index y bytes maxL ret ws rm 1 6 n ∧ (Cond.static y).before args s = true) (hT : sa_T lo s s.heap)
    (htab : ∀ x ∈ c.exceptionTable.toList, False) (hlocks : meth.locks = false) (hPE : ∀ E, PE E → PE' E)
    (hn : As.length = n) (hls : ls.size = nL) (hst : (rest.map fun v => v.category).sum ≤ 8) (h0 : st0 = As.reverse ++ rest) (hdg : decode cc pc = .ok (.invokestatic index, 3)) (hf : 1 ≤ R.cells ∧ 6 ≤ R.slots) :
    W p l e R s m args below meth c s.heap [] 0 0 (vx_MQ below Qc (sa_XC PE') args s 1 6 (fun _ => False)) (F0 m pc ls st0) :=
  sa_thrown (vx_runS S hM cw ⟨sa_bPt, fun U hU hW => ⟨rfl, by show sa_T lo U U.heap; rw [hU]; exact hT.warm hW⟩⟩ rfl hn hls h0 (lv_room hst) hdg (by simpa using hf)) htab hlocks hPE
theorem sa_kExV (S : CallFix p m c cc nL s args Ts own) (hM : sa_Ex l y ws rm (sa_Px lo G cI cZ cL wd) (.ref b :: As) PE) (cw : CallW R s args own C index y bytes maxL ret ws rm 1 6 n) (hP : va_P G vwCl wd s.heap) (hK : sa_K G cI cZ cL s) (hT : sa_T lo s s.heap) (hc : vwCl[ci]? = some (C, T, N)) (he : wd[0]? = some (b, .inr (ci, fs)))
    (htab : ∀ x ∈ c.exceptionTable.toList, False) (hlocks : meth.locks = false) (hPE : ∀ E, PE E → PE' E)
    (hn : As.length = n) (hls : ls.size = nL) (hst : (rest.map fun v => v.category).sum ≤ 8) (h0 : st0 = As.reverse ++ .ref b :: rest) (hdg : decode cc pc = .ok (.invokevirtual index, 3)) (hf : 1 ≤ R.cells ∧ 6 ≤ R.slots) :
    W p l e R s m args below meth c s.heap [] 0 0 (vx_MQ below Qc (sa_XC PE') args s 1 6 (fun _ => False)) (F0 m pc ls st0) :=
  sa_thrown (vx_runV S hM cw ⟨sa_bPx, va_recv hK hP hc he, fun U hU hW => ⟨rfl, ⟨by rw [hU]; exact hP, va_K.moved hW.alike hK⟩, by rw [hU]; exact hT.warm hW⟩⟩ rfl hn hls h0 (lv_room hst) hdg (by simpa using hf)) htab hlocks hPE
end
end
section
/-! plain facts -/
theorem sa_vm {x : Int32} {m n : Nat} (h : vp_in x m) (hmn : m ≤ n) : vp_in x n := fun q => h (q.elim Or.inl (fun z => Or.inr (Nat.le_trans hmn z)))
theorem sa_lt {x : Int32} {m : Nat} (h : vp_in x m) : x.toNatClampNeg < m := Nat.not_le.mp fun q => h (Or.inr q)
theorem sa_inv {x : Int32} {n : Nat} (hn : n < 2 ^ 31) (h : sa_in x n) : vp_in x n := by
  obtain ⟨h1, h2⟩ := h
  obtain ⟨j, hj, rfl⟩ := nI_of h1
  exact vp_in_nI ((nI_ltI hj hn).mp h2) hn
theorem sa_vin {x : Int32} {n : Nat} (hn : n < 2 ^ 31) (h : vp_in x n) : sa_in x n := by
  obtain ⟨j, hj, rfl⟩ := vp_in_of h hn
  exact ⟨nI_pos (by omega), nI_lt hj hn⟩
theorem sa_nI {x : Int32} {n : Nat} (hn : n < 2 ^ 31) (h : vp_in x n) : x = nI x.toNatClampNeg := by
  obtain ⟨j, hj, rfl⟩ := vp_in_of h hn
  rw [nI_clamp (by omega)]
theorem sa_grp {σ : sa_St} (hI : sa_I σ) {o : Int32} (ho : vp_in o (σ.1 1)) : vp_in (σ.2 6 o.toNatClampNeg) 3 := hI.2.2.2.1 _ (sa_lt ho)
theorem sa_cell {x g : Int32} (hx : vp_in x 24) (hg : vp_in g 3) : vp_in (x * 3 + g) 72 := by
  obtain ⟨i, hi, rfl⟩ := vp_in_of hx (by decide)
  obtain ⟨j, hj, rfl⟩ := vp_in_of hg (by decide)
  rw [show (3 : Int32) = nI 3 from rfl, pk_mul, nI_add]
  exact vp_in_nI (by omega) (by decide)
theorem sa_ne1 {k : Nat} (hk : k < 2 ^ 31) : ¬ nI k = -1 := by
  intro h
  have h1 := nI_toInt hk
  rw [h] at h1
  have h2 : ((-1 : Int32)).toInt = -1 := by decide
  omega
theorem sa_th_up {σ : sa_St} {o x w rv : Int32} {k : Nat} (h : sa_th σ o x w rv k = true) : ∀ d, sa_th σ o x w rv (k + d) = true := by
  intro d
  induction d with
  | zero => exact h
  | succ d ih => show (sa_th σ o x w rv (k + d) || _) = true; rw [ih]; rfl
theorem sa_th_mono {σ : sa_St} {o x w rv : Int32} {k n : Nat} (h : sa_th σ o x w rv k = true) (hk : k ≤ n) : sa_th σ o x w rv n = true := by
  obtain ⟨d, rfl⟩ := Nat.exists_eq_add_of_le hk
  exact sa_th_up h d
theorem sa_th_f {σ : sa_St} {o x w rv : Int32} {n : Nat} (h : ∀ k, k < n → ¬ (¬ nI k = w ∧ sa_sd σ k x ∧ sa_cnt σ k o rv)) : sa_th σ o x w rv n = false := by
  induction n with
  | zero => rfl
  | succ n ih => show (sa_th σ o x w rv n || _) = false; rw [ih (fun k hk => h k (by omega)), decide_eq_false (h n (by omega))]; rfl
/-- no spot is in a break that isn't there -/
theorem sa_th_out {σ : sa_St} (hI : sa_I σ) {o x w rv : Int32} (hx : ¬ vp_in x (σ.1 0)) : sa_th σ o x w rv (σ.1 2) = false :=
  sa_th_f fun k hk h => hx (by rw [← h.2.1.1]; exact hI.2.2.2.2.2.1 k hk)
theorem sa_narb {P : Prop} [Decidable P] : narrow .boolean (.int (sa_b P)) = .int (sa_b P) := by
  rcases sa_b_or (P := P) with h | h <;> rw [h] <;> rfl
theorem sa_max0 (x : Int32) : (if x < 0 then 0 else x) = if 0 < x then x else 0 := by
  by_cases h : x < 0
  · rw [if_pos h, if_neg (Int32.not_lt.mpr (Int32.le_of_lt h))]
  · rw [if_neg h]
    by_cases h2 : 0 < x
    · rw [if_pos h2]
    · rw [if_neg h2]; exact Int32.le_antisymm (Int32.not_lt.mp h2) (Int32.not_lt.mp h)
theorem sa_subadd (x y z : Int32) : x - y - z = x - (y + z) := by grind
theorem sa_sub0 (x : Int32) : x = x - 0 := by simp
theorem sa_nx_l {σ : sa_St} (hI : sa_I σ) {o x w rv : Int32} (hx : vp_in x (σ.1 0)) (h : sa_th σ o (x - 1) w rv (σ.1 2) = true) : 0 < x := by
  obtain ⟨j, hj, rfl⟩ := vp_in_of hx (by have := hI.1; omega)
  rcases Nat.eq_zero_or_pos j with rfl | h0
  · rw [sa_th_out hI (by rw [show nI 0 - 1 = (-1 : Int32) from by decide]; intro q; exact q (Or.inl (by decide)))] at h
    exact absurd h (by decide)
  · have := hI.1
    exact nI_lt h0 (by omega)
theorem sa_nx_r {σ : sa_St} (hI : sa_I σ) {o x w rv : Int32} (hx : vp_in x (σ.1 0)) (h : sa_th σ o (x + 1) w rv (σ.1 2) = true) : x + 1 < nI (σ.1 0) := by
  obtain ⟨j, hj, rfl⟩ := vp_in_of hx (by have := hI.1; omega)
  rw [nI_1] at h ⊢
  have := hI.1
  by_cases h0 : j + 1 < σ.1 0
  · exact nI_lt h0 (by omega)
  · rw [sa_th_out hI (by intro q; exact q (Or.inr (by rw [nI_clamp (by omega)]; omega)))] at h
    exact absurd h (by decide)
theorem sa_go_ok {P1 P2 P3 : Prop} [Decidable P1] [Decidable P2] [Decidable P3] {σ : sa_St} {ok : Int32 × sa_St} (h : (sa_go P1 P2 P3 σ ok).1 = 0) : P1 ∧ P2 ∧ P3 := by
  unfold sa_go at h
  by_cases h1 : P1
  · by_cases h2 : P2
    · by_cases h3 : P3
      · exact ⟨h1, h2, h3⟩
      · simp [h1, h2, h3] at h
    · simp [h1, h2] at h
  · simp [h1] at h
theorem sa_ltN {n c : Nat} (hn : n < 2 ^ 31) (hc : c < 2 ^ 31) (h : nI n < nI c) : n < c := (nI_ltI hn hc).mp h
theorem sa_nar01 {x : Int32} (h : x = 0 ∨ x = 1) : narrow .boolean (.int x) = .int x := by rcases h with h | h <;> rw [h] <;> rfl
theorem sa_nrb {x : Int32} (h : x = 0 ∨ x = 1) : vp_nar .boolean x = x := by rcases h with h | h <;> rw [h] <;> rfl
section
variable {p : Program} {l : Launch} {e : Env} {R : Room} {s : State} {m : MethodId} {args : Array Value} {below : List Frame} {meth : Method} {c : Code} {H : Heap} {locs : List Loc} {cells slots : Nat} {Q : State → Prop} {pc : Nat} {ls : Array Slot} {rest : List Value}
/-- a truth value on the stack: one, or nought -/
theorem sa_spl {P : Prop} [Decidable P] (ht : P → W p l e R s m args below meth c H locs cells slots Q (F0 m pc ls (.int 1 :: rest))) (hf : ¬ P → W p l e R s m args below meth c H locs cells slots Q (F0 m pc ls (.int 0 :: rest))) : W p l e R s m args below meth c H locs cells slots Q (F0 m pc ls (.int (sa_b P) :: rest)) := by
  by_cases h : P
  · rw [sa_bt h]; exact ht h
  · rw [sa_bf h]; exact hf h
theorem sa_iadd1 {cc : ByteArray} {k : Nat} (hx : p.tables.exec = Jvm.exec) (hb : c.code = cc) (hdg : decode cc pc = .ok (.iadd, 1)) (kk : W p l e R s m args below meth c H locs cells slots Q (F0 m (pc + 1) ls (.int (nI (k + 1)) :: rest))) : W p l e R s m args below meth c H locs cells slots Q (F0 m pc ls (.int 1 :: .int (nI k) :: rest)) :=
  lv_iadd hx hb hdg (by rw [nI_1]; exact kk)
theorem sa_isub1 {cc : ByteArray} {k : Nat} (hx : p.tables.exec = Jvm.exec) (hb : c.code = cc) (hdg : decode cc pc = .ok (.isub, 1)) (kk : W p l e R s m args below meth c H locs cells slots Q (F0 m (pc + 1) ls (.int (nI k) :: rest))) : W p l e R s m args below meth c H locs cells slots Q (F0 m pc ls (.int 1 :: .int (nI (k + 1)) :: rest)) :=
  lv_isub hx hb hdg (by rw [nI_pred]; exact kk)
end
end
section
set_option maxHeartbeats 4000000 in
set_option maxRecDepth 100000 in
theorem c_X0_isWithin (l : Launch) (x lo hi : Int32) : sa_Rs l yX0_isWithin wsX0_isWithin ({ frames := 0, cells := 0, slots := 0, locals := 0 }) [.int (x), .int (lo), .int (hi)] (sa_b (sa_w x lo hi)) := by
  refine Met.ofW (cc := cX0_isWithin) (maxL := 3) (ret := (some .boolean)) (by decide) rfl ?_
  intro p e s m args below meth c s₁ B9 hml hv
  obtain ⟨rfl, -⟩ := hv
  have hx := B9.exec
  have hb := B9.bytes
  have hr := B9.returns
  have hlk := B9.notSynchronized
  have hts := atoms_spec (ws := wsX0_isWithin) B9.pre
  have hown : s.vm.findClass RX0 = some m.cls := findClass_of_methodNamed B9.named
  have S : CallFix p m c cX0_isWithin 3 s _ wsX0_isWithin RX0 := ⟨hx, hb, hml, hown, hts⟩
  have hl := lv_entry ([.int (x), .int (lo), .int (hi)]) (n := 3) (Nat.le_of_ble_eq_true rfl)
  rw [lg_entry_eq]
  generalize (lg_sl ([.int (x), .int (lo), .int (hi)]) ++ List.replicate (3 - (lg_sl ([.int (x), .int (lo), .int (hi)])).length) Slot.unset).toArray = ls at hl ⊢
  have hl : lv_has ls 3 [(0, .int (x)), (1, .int (lo)), (2, .int (hi))] := hl
  refine lv_iload_n hx hb dX0_isWithin_0 rfl (lv_at hl 0 rfl) ?_
  refine lv_iload_n hx hb dX0_isWithin_1 rfl (lv_at hl 1 rfl) ?_
  refine lv_icmp_lt (tgt := 14) hx hb dX0_isWithin_2 (by decide) (fun c_2 => ?_) (fun c_2 => ?_)
  · skip
    refine lv_iconst (v := 0) hx hb dX0_isWithin_14 (by decide) ?_
    exact W.zret (v := 0) (ty := .boolean) hx hb hr rfl (fun t9 ht _ => ⟨_, rfl, (sa_bf (by simp only [sa_w, ← Int32.not_lt]; simp [c_2])).symm, ht⟩) (fun _ h => nomatch h) dX0_isWithin_15
  · skip
    refine lv_iload_n hx hb dX0_isWithin_5 rfl (lv_at hl 0 rfl) ?_
    refine lv_iload_n hx hb dX0_isWithin_6 rfl (lv_at hl 2 rfl) ?_
    refine lv_icmp_gt (tgt := 14) hx hb dX0_isWithin_7 (by decide) (fun c_7 => ?_) (fun c_7 => ?_)
    · skip
      refine lv_iconst (v := 0) hx hb dX0_isWithin_14 (by decide) ?_
      exact W.zret (v := 0) (ty := .boolean) hx hb hr rfl (fun t9 ht _ => ⟨_, rfl, (sa_bf (by simp only [sa_w, ← Int32.not_lt]; simp [c_2, c_7])).symm, ht⟩) (fun _ h => nomatch h) dX0_isWithin_15
    · skip
      refine lv_iconst (v := 1) hx hb dX0_isWithin_10 (by decide) ?_
      refine lv_goto (tgt := 15) hx hb dX0_isWithin_11 (by decide) ?_
      exact W.zret (v := 1) (ty := .boolean) hx hb hr rfl (fun t9 ht _ => ⟨_, rfl, (sa_bt (by simp only [sa_w, ← Int32.not_lt]; simp [c_2, c_7])).symm, ht⟩) (fun _ h => nomatch h) dX0_isWithin_15

set_option maxHeartbeats 4000000 in
set_option maxRecDepth 100000 in
theorem c_X0_isGroup (l : Launch) (x : Int32) : sa_Rs l yX0_isGroup wsX0_isGroup ({ frames := 1, cells := 0, slots := 0, locals := 22 }) [.int (x)] (sa_b (sa_w x 0 2)) := by
  refine Met.ofW (cc := cX0_isGroup) (maxL := 1) (ret := (some .boolean)) (by decide) rfl ?_
  intro p e s m args below meth c s₁ B9 hml hv
  obtain ⟨rfl, -⟩ := hv
  have hx := B9.exec
  have hb := B9.bytes
  have hr := B9.returns
  have hlk := B9.notSynchronized
  have hts := atoms_spec (ws := wsX0_isGroup) B9.pre
  have hown : s.vm.findClass RX0 = some m.cls := findClass_of_methodNamed B9.named
  have S : CallFix p m c cX0_isGroup 1 s _ wsX0_isGroup RX0 := ⟨hx, hb, hml, hown, hts⟩
  have hl := lv_entry ([.int (x)]) (n := 1) (Nat.le_of_ble_eq_true rfl)
  rw [lg_entry_eq]
  generalize (lg_sl ([.int (x)]) ++ List.replicate (1 - (lg_sl ([.int (x)])).length) Slot.unset).toArray = ls at hl ⊢
  have hl : lv_has ls 1 [(0, .int (x))] := hl
  refine lv_iload_n hx hb dX0_isGroup_0 rfl (lv_at hl 0 rfl) ?_
  refine lv_iconst (v := 0) hx hb dX0_isGroup_1 (by decide) ?_
  refine lv_iconst (v := 2) hx hb dX0_isGroup_2 (by decide) ?_
  refine sa_kRs (As := [.int (x), .int (0), .int (2)]) (rest := []) S (c_X0_isWithin l x 0 2) (va_cwS 3 hts gX0_isGroup_X0_isWithin rfl rfl rfl (by decide +kernel) ⟨Nat.le_of_ble_eq_true rfl, Nat.le_of_ble_eq_true rfl⟩) rfl hl.1 (Nat.le_of_ble_eq_true rfl) rfl dX0_isGroup_3 ⟨Nat.zero_le _, Nat.zero_le _⟩ ?_
  exact W.zret (v := sa_b (sa_w x 0 2)) (ty := .boolean) hx hb hr sa_narb (fun t9 ht _ => ⟨_, rfl, rfl, ht⟩) (fun _ h => nomatch h) dX0_isGroup_6

set_option maxHeartbeats 4000000 in
set_option maxRecDepth 100000 in
theorem c_X0_isAdvertiser (l : Launch) (x : Int32) : sa_Rs l yX0_isAdvertiser wsX0_isAdvertiser ({ frames := 1, cells := 0, slots := 0, locals := 22 }) [.int (x)] (sa_b (sa_w x 0 9)) := by
  refine Met.ofW (cc := cX0_isAdvertiser) (maxL := 1) (ret := (some .boolean)) (by decide) rfl ?_
  intro p e s m args below meth c s₁ B9 hml hv
  obtain ⟨rfl, -⟩ := hv
  have hx := B9.exec
  have hb := B9.bytes
  have hr := B9.returns
  have hlk := B9.notSynchronized
  have hts := atoms_spec (ws := wsX0_isAdvertiser) B9.pre
  have hown : s.vm.findClass RX0 = some m.cls := findClass_of_methodNamed B9.named
  have S : CallFix p m c cX0_isAdvertiser 1 s _ wsX0_isAdvertiser RX0 := ⟨hx, hb, hml, hown, hts⟩
  have hl := lv_entry ([.int (x)]) (n := 1) (Nat.le_of_ble_eq_true rfl)
  rw [lg_entry_eq]
  generalize (lg_sl ([.int (x)]) ++ List.replicate (1 - (lg_sl ([.int (x)])).length) Slot.unset).toArray = ls at hl ⊢
  have hl : lv_has ls 1 [(0, .int (x))] := hl
  refine lv_iload_n hx hb dX0_isAdvertiser_0 rfl (lv_at hl 0 rfl) ?_
  refine lv_iconst (v := 0) hx hb dX0_isAdvertiser_1 (by decide) ?_
  refine lv_bipush (v := 9) hx hb dX0_isAdvertiser_2 (by decide) ?_
  refine sa_kRs (As := [.int (x), .int (0), .int (9)]) (rest := []) S (c_X0_isWithin l x 0 9) (va_cwS 3 hts gX0_isAdvertiser_X0_isWithin rfl rfl rfl (by decide +kernel) ⟨Nat.le_of_ble_eq_true rfl, Nat.le_of_ble_eq_true rfl⟩) rfl hl.1 (Nat.le_of_ble_eq_true rfl) rfl dX0_isAdvertiser_4 ⟨Nat.zero_le _, Nat.zero_le _⟩ ?_
  exact W.zret (v := sa_b (sa_w x 0 9)) (ty := .boolean) hx hb hr sa_narb (fun t9 ht _ => ⟨_, rfl, rfl, ht⟩) (fun _ h => nomatch h) dX0_isAdvertiser_7

set_option maxHeartbeats 4000000 in
set_option maxRecDepth 100000 in
theorem c_X0_isSpotLength (l : Launch) (x : Int32) : sa_Rs l yX0_isSpotLength wsX0_isSpotLength ({ frames := 0, cells := 0, slots := 0, locals := 0 }) [.int (x)] (sa_b (x = 15 ∨ x = 30 ∨ x = 60)) := by
  refine Met.ofW (cc := cX0_isSpotLength) (maxL := 1) (ret := (some .boolean)) (by decide) rfl ?_
  intro p e s m args below meth c s₁ B9 hml hv
  obtain ⟨rfl, -⟩ := hv
  have hx := B9.exec
  have hb := B9.bytes
  have hr := B9.returns
  have hlk := B9.notSynchronized
  have hts := atoms_spec (ws := wsX0_isSpotLength) B9.pre
  have hown : s.vm.findClass RX0 = some m.cls := findClass_of_methodNamed B9.named
  have S : CallFix p m c cX0_isSpotLength 1 s _ wsX0_isSpotLength RX0 := ⟨hx, hb, hml, hown, hts⟩
  have hl := lv_entry ([.int (x)]) (n := 1) (Nat.le_of_ble_eq_true rfl)
  rw [lg_entry_eq]
  generalize (lg_sl ([.int (x)]) ++ List.replicate (1 - (lg_sl ([.int (x)])).length) Slot.unset).toArray = ls at hl ⊢
  have hl : lv_has ls 1 [(0, .int (x))] := hl
  refine lv_iload_n hx hb dX0_isSpotLength_0 rfl (lv_at hl 0 rfl) ?_
  refine lv_bipush (v := 15) hx hb dX0_isSpotLength_1 (by decide) ?_
  refine lv_icmp_eq (tgt := 18) hx hb dX0_isSpotLength_3 (by decide) (fun c_3 => ?_) (fun c_3 => ?_)
  · skip
    refine lv_iconst (v := 1) hx hb dX0_isSpotLength_18 (by decide) ?_
    refine lv_goto (tgt := 23) hx hb dX0_isSpotLength_19 (by decide) ?_
    exact W.zret (v := 1) (ty := .boolean) hx hb hr rfl (fun t9 ht _ => ⟨_, rfl, (sa_bt (by simp [sa_sd, sa_sec, sa_rat, sa_adv, sa_cat, sa_cnt, sa_aud, sa_less, sa_w, c_3])).symm, ht⟩) (fun _ h => nomatch h) dX0_isSpotLength_23
  · skip
    refine lv_iload_n hx hb dX0_isSpotLength_6 rfl (lv_at hl 0 rfl) ?_
    refine lv_bipush (v := 30) hx hb dX0_isSpotLength_7 (by decide) ?_
    refine lv_icmp_eq (tgt := 18) hx hb dX0_isSpotLength_9 (by decide) (fun c_9 => ?_) (fun c_9 => ?_)
    · skip
      refine lv_iconst (v := 1) hx hb dX0_isSpotLength_18 (by decide) ?_
      refine lv_goto (tgt := 23) hx hb dX0_isSpotLength_19 (by decide) ?_
      exact W.zret (v := 1) (ty := .boolean) hx hb hr rfl (fun t9 ht _ => ⟨_, rfl, (sa_bt (by simp [sa_sd, sa_sec, sa_rat, sa_adv, sa_cat, sa_cnt, sa_aud, sa_less, sa_w, c_3, c_9])).symm, ht⟩) (fun _ h => nomatch h) dX0_isSpotLength_23
    · skip
      refine lv_iload_n hx hb dX0_isSpotLength_12 rfl (lv_at hl 0 rfl) ?_
      refine lv_bipush (v := 60) hx hb dX0_isSpotLength_13 (by decide) ?_
      refine lv_icmp_ne (tgt := 22) hx hb dX0_isSpotLength_15 (by decide) (fun c_15 => ?_) (fun c_15 => ?_)
      · skip
        refine lv_iconst (v := 0) hx hb dX0_isSpotLength_22 (by decide) ?_
        exact W.zret (v := 0) (ty := .boolean) hx hb hr rfl (fun t9 ht _ => ⟨_, rfl, (sa_bf (by simp [sa_sd, sa_sec, sa_rat, sa_adv, sa_cat, sa_cnt, sa_aud, sa_less, sa_w, c_3, c_9, c_15])).symm, ht⟩) (fun _ h => nomatch h) dX0_isSpotLength_23
      · skip
        refine lv_iconst (v := 1) hx hb dX0_isSpotLength_18 (by decide) ?_
        refine lv_goto (tgt := 23) hx hb dX0_isSpotLength_19 (by decide) ?_
        exact W.zret (v := 1) (ty := .boolean) hx hb hr rfl (fun t9 ht _ => ⟨_, rfl, (sa_bt (by simp [sa_sd, sa_sec, sa_rat, sa_adv, sa_cat, sa_cnt, sa_aud, sa_less, sa_w, c_3, c_9, c_15])).symm, ht⟩) (fun _ h => nomatch h) dX0_isSpotLength_23

set_option maxHeartbeats 4000000 in
set_option maxRecDepth 100000 in
theorem c_X0_isInBreak (l : Launch) (G : va_G) (cI cZ cL : ClassId) (a : Nat → Nat) (σ : sa_St) (k : Nat) (hk : k < 150) : sa_Rd l yX0_isInBreak wsX0_isInBreak ({ frames := 0, cells := 0, slots := 0, locals := 0 }) G cI cZ cL (sa_W0 cI cZ a σ) [.ref (a 0), .int (nI k)] (sa_b (σ.2 14 k = 0 ∨ σ.2 14 k = 1)) := by
  refine Met.ofW (cc := cX0_isInBreak) (maxL := 2) (ret := (some .boolean)) (by decide) rfl ?_
  intro p e s m args below meth c s₁ B9 hml hv
  obtain ⟨rfl, hP, hK⟩ := hv
  have hx := B9.exec
  have hb := B9.bytes
  have hr := B9.returns
  have hlk := B9.notSynchronized
  have hts := atoms_spec (ws := wsX0_isInBreak) B9.pre
  have hown : s.vm.findClass RX0 = some m.cls := findClass_of_methodNamed B9.named
  have S : CallFix p m c cX0_isInBreak 2 s _ wsX0_isInBreak RX0 := ⟨hx, hb, hml, hown, hts⟩
  have hin : ∀ w ∈ wsX00, w ∈ wsX0_isInBreak := by decide +kernel
  have hl := lv_entry ([.ref (a 0), .int (nI k)]) (n := 2) (Nat.le_of_ble_eq_true rfl)
  rw [lg_entry_eq]
  generalize (lg_sl ([.ref (a 0), .int (nI k)]) ++ List.replicate (2 - (lg_sl ([.ref (a 0), .int (nI k)])).length) Slot.unset).toArray = ls at hl ⊢
  have hl : lv_has ls 2 [(0, .ref (a 0)), (1, .int (nI k))] := hl
  refine lv_aload_n hx hb dX0_isInBreak_0 rfl (lv_at hl 0 rfl) ?_
  refine sa_g0_spotState S hin hK hP (by decide +kernel) dX0_isInBreak_1 ?_
  refine lv_iload_n hx hb dX0_isInBreak_4 rfl (lv_at hl 1 rfl) ?_
  refine sa_ldk 14 S hK hP rfl (by omega) (by decide) dX0_isInBreak_5 ?_
  refine lv_if_eq (tgt := 19) hx hb dX0_isInBreak_6 (by decide) (fun c_6 => ?_) (fun c_6 => ?_)
  · skip
    refine lv_iconst (v := 1) hx hb dX0_isInBreak_19 (by decide) ?_
    refine lv_goto (tgt := 24) hx hb dX0_isInBreak_20 (by decide) ?_
    exact W.zret (v := 1) (ty := .boolean) hx hb hr rfl (fun t9 ht _ => ⟨_, rfl, (sa_bt (by simp [sa_sd, sa_sec, sa_rat, sa_adv, sa_cat, sa_cnt, sa_aud, sa_less, sa_w, c_6])).symm, ht⟩) (fun _ h => nomatch h) dX0_isInBreak_24
  · skip
    refine lv_aload_n hx hb dX0_isInBreak_9 rfl (lv_at hl 0 rfl) ?_
    refine sa_g0_spotState S hin hK hP (by decide +kernel) dX0_isInBreak_10 ?_
    refine lv_iload_n hx hb dX0_isInBreak_13 rfl (lv_at hl 1 rfl) ?_
    refine sa_ldk 14 S hK hP rfl (by omega) (by decide) dX0_isInBreak_14 ?_
    refine lv_iconst (v := 1) hx hb dX0_isInBreak_15 (by decide) ?_
    refine lv_icmp_ne (tgt := 23) hx hb dX0_isInBreak_16 (by decide) (fun c_16 => ?_) (fun c_16 => ?_)
    · skip
      refine lv_iconst (v := 0) hx hb dX0_isInBreak_23 (by decide) ?_
      exact W.zret (v := 0) (ty := .boolean) hx hb hr rfl (fun t9 ht _ => ⟨_, rfl, (sa_bf (by simp [sa_sd, sa_sec, sa_rat, sa_adv, sa_cat, sa_cnt, sa_aud, sa_less, sa_w, c_6, c_16])).symm, ht⟩) (fun _ h => nomatch h) dX0_isInBreak_24
    · skip
      refine lv_iconst (v := 1) hx hb dX0_isInBreak_19 (by decide) ?_
      refine lv_goto (tgt := 24) hx hb dX0_isInBreak_20 (by decide) ?_
      exact W.zret (v := 1) (ty := .boolean) hx hb hr rfl (fun t9 ht _ => ⟨_, rfl, (sa_bt (by simp [sa_sd, sa_sec, sa_rat, sa_adv, sa_cat, sa_cnt, sa_aud, sa_less, sa_w, c_6, c_16])).symm, ht⟩) (fun _ h => nomatch h) dX0_isInBreak_24

set_option maxHeartbeats 4000000 in
set_option maxRecDepth 100000 in
theorem c_X0_ratingCell (l : Launch) (x y : Int32) : sa_Rs l yX0_ratingCell wsX0_ratingCell ({ frames := 0, cells := 0, slots := 0, locals := 0 }) [.int (x), .int (y)] (x * 3 + y) := by
  refine Met.ofW (cc := cX0_ratingCell) (maxL := 2) (ret := (some .int)) (by decide) rfl ?_
  intro p e s m args below meth c s₁ B9 hml hv
  obtain ⟨rfl, -⟩ := hv
  have hx := B9.exec
  have hb := B9.bytes
  have hr := B9.returns
  have hlk := B9.notSynchronized
  have hts := atoms_spec (ws := wsX0_ratingCell) B9.pre
  have hown : s.vm.findClass RX0 = some m.cls := findClass_of_methodNamed B9.named
  have S : CallFix p m c cX0_ratingCell 2 s _ wsX0_ratingCell RX0 := ⟨hx, hb, hml, hown, hts⟩
  have hl := lv_entry ([.int (x), .int (y)]) (n := 2) (Nat.le_of_ble_eq_true rfl)
  rw [lg_entry_eq]
  generalize (lg_sl ([.int (x), .int (y)]) ++ List.replicate (2 - (lg_sl ([.int (x), .int (y)])).length) Slot.unset).toArray = ls at hl ⊢
  have hl : lv_has ls 2 [(0, .int (x)), (1, .int (y))] := hl
  refine lv_iload_n hx hb dX0_ratingCell_0 rfl (lv_at hl 0 rfl) ?_
  refine lv_iconst (v := 3) hx hb dX0_ratingCell_1 (by decide) ?_
  refine lv_imul hx hb dX0_ratingCell_2 ?_
  refine lv_iload_n hx hb dX0_ratingCell_3 rfl (lv_at hl 1 rfl) ?_
  refine lv_iadd hx hb dX0_ratingCell_4 ?_
  exact W.iret (v := (x * 3) + y) hx hb hr (fun t9 ht _ => ⟨_, rfl, rfl, ht⟩) (fun _ h => nomatch h) dX0_ratingCell_5

set_option maxHeartbeats 4000000 in
set_option maxRecDepth 100000 in
theorem c_X0_ratingFor (l : Launch) (G : va_G) (cI cZ cL : ClassId) (a : Nat → Nat) (σ : sa_St) (hI : sa_I σ) (o at' : Int32) (ho : vp_in o (σ.1 1)) (hat : vp_in at' (σ.1 0)) : sa_Rd l yX0_ratingFor wsX0_ratingFor ({ frames := 1, cells := 0, slots := 0, locals := 21 }) G cI cZ cL (sa_W0 cI cZ a σ) [.ref (a 0), .int (o), .int (at')] (sa_rat σ o at') := by
  obtain ⟨hnb, hno, hns, hgr, hor, hbr, hai⟩ := id hI
  refine Met.ofW (cc := cX0_ratingFor) (maxL := 3) (ret := (some .int)) (by decide) rfl ?_
  intro p e s m args below meth c s₁ B9 hml hv
  obtain ⟨rfl, hP, hK⟩ := hv
  have hx := B9.exec
  have hb := B9.bytes
  have hr := B9.returns
  have hlk := B9.notSynchronized
  have hts := atoms_spec (ws := wsX0_ratingFor) B9.pre
  have hown : s.vm.findClass RX0 = some m.cls := findClass_of_methodNamed B9.named
  have S : CallFix p m c cX0_ratingFor 3 s _ wsX0_ratingFor RX0 := ⟨hx, hb, hml, hown, hts⟩
  have hin : ∀ w ∈ wsX00, w ∈ wsX0_ratingFor := by decide +kernel
  have hl := lv_entry ([.ref (a 0), .int (o), .int (at')]) (n := 3) (Nat.le_of_ble_eq_true rfl)
  rw [lg_entry_eq]
  generalize (lg_sl ([.ref (a 0), .int (o), .int (at')]) ++ List.replicate (3 - (lg_sl ([.ref (a 0), .int (o), .int (at')])).length) Slot.unset).toArray = ls at hl ⊢
  have hl : lv_has ls 3 [(0, .ref (a 0)), (1, .int (o)), (2, .int (at'))] := hl
  refine lv_aload_n hx hb dX0_ratingFor_0 rfl (lv_at hl 0 rfl) ?_
  refine sa_g0_ratings S hin hK hP (by decide +kernel) dX0_ratingFor_1 ?_
  refine lv_iload_n hx hb dX0_ratingFor_4 rfl (lv_at hl 2 rfl) ?_
  refine lv_aload_n hx hb dX0_ratingFor_5 rfl (lv_at hl 0 rfl) ?_
  refine sa_g0_orderGroup S hin hK hP (by decide +kernel) dX0_ratingFor_6 ?_
  refine lv_iload_n hx hb dX0_ratingFor_9 rfl (lv_at hl 1 rfl) ?_
  refine sa_ld 6 S hK hP rfl (sa_vm ho (by omega)) dX0_ratingFor_10 ?_
  refine sa_kRs (As := [.int (at'), .int (σ.2 6 o.toNatClampNeg)]) (rest := [.ref (a 3)]) S (c_X0_ratingCell l at' (σ.2 6 o.toNatClampNeg)) (va_cwS 2 hts gX0_ratingFor_X0_ratingCell rfl rfl rfl (by decide +kernel) ⟨Nat.le_of_ble_eq_true rfl, Nat.le_of_ble_eq_true rfl⟩) rfl hl.1 (Nat.le_of_ble_eq_true rfl) rfl dX0_ratingFor_11 ⟨Nat.zero_le _, Nat.zero_le _⟩ ?_
  refine sa_ld 3 S hK hP rfl (sa_cell (sa_vm hat hnb) (sa_grp hI ho)) dX0_ratingFor_14 ?_
  exact W.iret (v := σ.2 3 (at' * 3 + σ.2 6 o.toNatClampNeg).toNatClampNeg) hx hb hr (fun t9 ht _ => ⟨_, rfl, rfl, ht⟩) (fun _ h => nomatch h) dX0_ratingFor_15

set_option maxHeartbeats 4000000 in
set_option maxRecDepth 100000 in
theorem c_X0_secondsLeft (l : Launch) (G : va_G) (cI cZ cL : ClassId) (a : Nat → Nat) (σ : sa_St) (hI : sa_I σ) (at' : Int32) (hat : vp_in at' (σ.1 0)) : sa_Rd l yX0_secondsLeft wsX0_secondsLeft ({ frames := 1, cells := 0, slots := 0, locals := 21 }) G cI cZ cL (sa_W0 cI cZ a σ) [.ref (a 0), .int (at')] (sa_room σ at' (-1) (σ.1 2)) := by
  obtain ⟨hnb, hno, hns, hgr, hor, hbr, hai⟩ := id hI
  refine Met.ofW (cc := cX0_secondsLeft) (maxL := 4) (ret := (some .int)) (by decide) rfl ?_
  intro p e s m args below meth c s₁ B9 hml hv
  obtain ⟨rfl, hP, hK⟩ := hv
  have hx := B9.exec
  have hb := B9.bytes
  have hr := B9.returns
  have hlk := B9.notSynchronized
  have hts := atoms_spec (ws := wsX0_secondsLeft) B9.pre
  have hown : s.vm.findClass RX0 = some m.cls := findClass_of_methodNamed B9.named
  have S : CallFix p m c cX0_secondsLeft 4 s _ wsX0_secondsLeft RX0 := ⟨hx, hb, hml, hown, hts⟩
  have hin : ∀ w ∈ wsX00, w ∈ wsX0_secondsLeft := by decide +kernel
  have hl := lv_entry ([.ref (a 0), .int (at')]) (n := 4) (Nat.le_of_ble_eq_true rfl)
  rw [lg_entry_eq]
  generalize (lg_sl ([.ref (a 0), .int (at')]) ++ List.replicate (4 - (lg_sl ([.ref (a 0), .int (at')])).length) Slot.unset).toArray = ls at hl ⊢
  have hl : lv_has ls 4 [(0, .ref (a 0)), (1, .int (at'))] := hl
  refine lv_aload_n hx hb dX0_secondsLeft_0 rfl (lv_at hl 0 rfl) ?_
  refine sa_g0_breakSeconds S hin hK hP (by decide +kernel) dX0_secondsLeft_1 ?_
  refine lv_iload_n hx hb dX0_secondsLeft_4 rfl (lv_at hl 1 rfl) ?_
  refine sa_ld 1 S hK hP rfl (sa_vm hat (by omega)) dX0_secondsLeft_5 ?_
  refine lv_istore_n (lv' := [(2, .int (σ.2 1 at'.toNatClampNeg)), (0, .ref (a 0)), (1, .int (at'))]) hx hb dX0_secondsLeft_6 rfl hl (by decide) rfl (fun ls hl => ?_)
  refine lv_iconst (v := 0) hx hb dX0_secondsLeft_7 (by decide) ?_
  refine lv_istore_n (lv' := [(3, .int (0)), (2, .int (σ.2 1 at'.toNatClampNeg)), (0, .ref (a 0)), (1, .int (at'))]) hx hb dX0_secondsLeft_8 rfl hl (by decide) rfl (fun ls hl => ?_)
  have loop : ∀ (n k : Nat), k + n = σ.1 2 → ∀ (x1 : Int32), x1 = sa_room σ at' (-1) k →   ∀ ls : Array Slot, lv_has ls 4 [(3, .int (nI k)), (2, .int (x1)), (0, .ref (a 0)), (1, .int (at'))] → W p l e (headSpec wsX0_secondsLeft ({ frames := 1, cells := 0, slots := 0, locals := 21 })).room s m ([Value.ref (a 0), Value.int (at')] : List Value).toArray below meth c s.heap [] 0 0 (MQ below (vp_Si (fun z => z = sa_room σ at' (-1) (σ.1 2))) ([Value.ref (a 0), Value.int (at')] : List Value).toArray s 0 0 (fun _ => False)) (F0 m 9 ls []) := by
    intro n
    induction n with
    | zero =>
      intro k hk x1 hx1  ls hl
      have hk2 : k = σ.1 2 := by omega
      subst hk2
      refine lv_iload_n hx hb dX0_secondsLeft_9 rfl (lv_at hl 0 rfl) ?_
      refine lv_aload_n hx hb dX0_secondsLeft_10 rfl (lv_at hl 2 rfl) ?_
      refine sa_g0_spotCount S hin hK hP (by decide +kernel) dX0_secondsLeft_11 ?_
      refine lv_icmp_ge (tgt := 55) hx hb dX0_secondsLeft_14 (by decide) (fun _ => ?_) (fun c9 => absurd (nI_le (Nat.le_refl _) (by omega)) c9)
      refine lv_iload_n hx hb dX0_secondsLeft_55 rfl (lv_at hl 1 rfl) ?_
      exact W.iret (v := x1) hx hb hr (fun t9 ht _ => ⟨_, rfl, hx1, ht⟩) (fun _ h => nomatch h) dX0_secondsLeft_56
    | succ n ih =>
      intro k hk x1 hx1  ls hl
      have hkn : k < σ.1 2 := by omega
      refine lv_iload_n hx hb dX0_secondsLeft_9 rfl (lv_at hl 0 rfl) ?_
      refine lv_aload_n hx hb dX0_secondsLeft_10 rfl (lv_at hl 2 rfl) ?_
      refine sa_g0_spotCount S hin hK hP (by decide +kernel) dX0_secondsLeft_11 ?_
      refine lv_icmp_ge (tgt := 55) hx hb dX0_secondsLeft_14 (by decide) (fun c9 => absurd c9 (nI_ge (by omega) (by omega))) (fun _ => ?_)
      refine lv_aload_n hx hb dX0_secondsLeft_17 rfl (lv_at hl 2 rfl) ?_
      refine sa_g0_spotBreak S hin hK hP (by decide +kernel) dX0_secondsLeft_18 ?_
      refine lv_iload_n hx hb dX0_secondsLeft_21 rfl (lv_at hl 0 rfl) ?_
      refine sa_ldk 13 S hK hP rfl (by omega) (by decide) dX0_secondsLeft_22 ?_
      refine lv_iload_n hx hb dX0_secondsLeft_23 rfl (lv_at hl 3 rfl) ?_
      refine lv_icmp_ne (tgt := 49) hx hb dX0_secondsLeft_24 (by decide) (fun c_24 => ?_) (fun c_24 => ?_)
      · skip
        refine lv_iinc (v := nI (k + 1)) (lv' := [(3, .int (nI (k + 1))), (2, .int (x1)), (0, .ref (a 0)), (1, .int (at'))]) hx hb dX0_secondsLeft_49 hl (k := 0) rfl (nI_1 k) (by decide) rfl (fun ls hl => ?_)
        refine lv_goto (tgt := 9) hx hb dX0_secondsLeft_52 (by decide) ?_
        exact ih (k + 1) (by omega) x1 (by have h9 := sa_ne1 (k := k) (by omega); simp [sa_room, hx1, h9, sa_sd, sa_sec, sa_rat, sa_adv, sa_cat, sa_cnt, sa_aud, sa_less, sa_w, c_24])  ls (lv_sub hl [0, 1, 2, 3] rfl)
      · skip
        refine lv_aload_n hx hb dX0_secondsLeft_27 rfl (lv_at hl 2 rfl) ?_
        refine lv_iload_n hx hb dX0_secondsLeft_28 rfl (lv_at hl 0 rfl) ?_
        refine sa_kRd (As := [.int (nI k)]) (rest := []) S (c_X0_isInBreak l G cI cZ cL a σ k (by omega)) (cwV 1 hts gX0_secondsLeft_X0_isInBreak rfl rfl rfl (by decide +kernel) ⟨Nat.le_of_ble_eq_true rfl, Nat.le_of_ble_eq_true rfl⟩) hP hK (ci := 0) rfl rfl rfl hl.1 (Nat.le_of_ble_eq_true rfl) rfl dX0_secondsLeft_29 ⟨Nat.zero_le _, Nat.zero_le _⟩ ?_
        refine lv_if_eq (tgt := 49) hx hb dX0_secondsLeft_32 (by decide) (fun c_32 => ?_) (fun c_32 => ?_)
        · skip
          have c_32 := sa_b0 c_32
          refine lv_iinc (v := nI (k + 1)) (lv' := [(3, .int (nI (k + 1))), (2, .int (x1)), (0, .ref (a 0)), (1, .int (at'))]) hx hb dX0_secondsLeft_49 hl (k := 0) rfl (nI_1 k) (by decide) rfl (fun ls hl => ?_)
          refine lv_goto (tgt := 9) hx hb dX0_secondsLeft_52 (by decide) ?_
          exact ih (k + 1) (by omega) x1 (by have h9 := sa_ne1 (k := k) (by omega); simp [sa_room, hx1, h9, sa_sd, sa_sec, sa_rat, sa_adv, sa_cat, sa_cnt, sa_aud, sa_less, sa_w, c_24, c_32])  ls (lv_sub hl [0, 1, 2, 3] rfl)
        · skip
          have c_32 := sa_b1 c_32
          refine lv_iload_n hx hb dX0_secondsLeft_35 rfl (lv_at hl 1 rfl) ?_
          refine lv_aload_n hx hb dX0_secondsLeft_36 rfl (lv_at hl 2 rfl) ?_
          refine sa_g0_orderSeconds S hin hK hP (by decide +kernel) dX0_secondsLeft_37 ?_
          refine lv_aload_n hx hb dX0_secondsLeft_40 rfl (lv_at hl 2 rfl) ?_
          refine sa_g0_spotOrder S hin hK hP (by decide +kernel) dX0_secondsLeft_41 ?_
          refine lv_iload_n hx hb dX0_secondsLeft_44 rfl (lv_at hl 0 rfl) ?_
          refine sa_ldk 12 S hK hP rfl (by omega) (by decide) dX0_secondsLeft_45 ?_
          refine sa_ld 7 S hK hP rfl (sa_vm (hor k (by omega)) (by omega)) dX0_secondsLeft_46 ?_
          refine lv_isub hx hb dX0_secondsLeft_47 ?_
          refine lv_istore_n (lv' := [(2, .int (x1 - (σ.2 7 (σ.2 12 k).toNatClampNeg))), (3, .int (nI k)), (0, .ref (a 0)), (1, .int (at'))]) hx hb dX0_secondsLeft_48 rfl hl (by decide) rfl (fun ls hl => ?_)
          refine lv_iinc (v := nI (k + 1)) (lv' := [(3, .int (nI (k + 1))), (2, .int (x1 - (σ.2 7 (σ.2 12 k).toNatClampNeg))), (0, .ref (a 0)), (1, .int (at'))]) hx hb dX0_secondsLeft_49 hl (k := 1) rfl (nI_1 k) (by decide) rfl (fun ls hl => ?_)
          refine lv_goto (tgt := 9) hx hb dX0_secondsLeft_52 (by decide) ?_
          exact ih (k + 1) (by omega) (x1 - (σ.2 7 (σ.2 12 k).toNatClampNeg)) (by have h9 := sa_ne1 (k := k) (by omega); simp [sa_room, hx1, h9, sa_sd, sa_sec, sa_rat, sa_adv, sa_cat, sa_cnt, sa_aud, sa_less, sa_w, c_24, c_32])  ls (lv_sub hl [0, 1, 2, 3] rfl)
  exact loop (σ.1 2) 0 (Nat.zero_add _) (σ.2 1 at'.toNatClampNeg) rfl  ls (lv_sub hl [0, 1, 2, 3] rfl)

set_option maxHeartbeats 4000000 in
set_option maxRecDepth 100000 in
theorem c_X0_holdsAdvertiser (l : Launch) (G : va_G) (cI cZ cL : ClassId) (a : Nat → Nat) (σ : sa_St) (hI : sa_I σ) (o at' : Int32) (ho : vp_in o (σ.1 1)) : sa_Rd l yX0_holdsAdvertiser wsX0_holdsAdvertiser ({ frames := 1, cells := 0, slots := 0, locals := 21 }) G cI cZ cL (sa_W0 cI cZ a σ) [.ref (a 0), .int (at'), .int (σ.2 4 o.toNatClampNeg)] (sa_b (sa_th σ o at' (-1) 0 (σ.1 2) = true)) := by
  obtain ⟨hnb, hno, hns, hgr, hor, hbr, hai⟩ := id hI
  refine Met.ofW (cc := cX0_holdsAdvertiser) (maxL := 4) (ret := (some .boolean)) (by decide) rfl ?_
  intro p e s m args below meth c s₁ B9 hml hv
  obtain ⟨rfl, hP, hK⟩ := hv
  have hx := B9.exec
  have hb := B9.bytes
  have hr := B9.returns
  have hlk := B9.notSynchronized
  have hts := atoms_spec (ws := wsX0_holdsAdvertiser) B9.pre
  have hown : s.vm.findClass RX0 = some m.cls := findClass_of_methodNamed B9.named
  have S : CallFix p m c cX0_holdsAdvertiser 4 s _ wsX0_holdsAdvertiser RX0 := ⟨hx, hb, hml, hown, hts⟩
  have hin : ∀ w ∈ wsX00, w ∈ wsX0_holdsAdvertiser := by decide +kernel
  have hl := lv_entry ([.ref (a 0), .int (at'), .int (σ.2 4 o.toNatClampNeg)]) (n := 4) (Nat.le_of_ble_eq_true rfl)
  rw [lg_entry_eq]
  generalize (lg_sl ([.ref (a 0), .int (at'), .int (σ.2 4 o.toNatClampNeg)]) ++ List.replicate (4 - (lg_sl ([.ref (a 0), .int (at'), .int (σ.2 4 o.toNatClampNeg)])).length) Slot.unset).toArray = ls at hl ⊢
  have hl : lv_has ls 4 [(0, .ref (a 0)), (1, .int (at')), (2, .int (σ.2 4 o.toNatClampNeg))] := hl
  refine lv_iconst (v := 0) hx hb dX0_holdsAdvertiser_0 (by decide) ?_
  refine lv_istore_n (lv' := [(3, .int (0)), (0, .ref (a 0)), (1, .int (at')), (2, .int (σ.2 4 o.toNatClampNeg))]) hx hb dX0_holdsAdvertiser_1 rfl hl (by decide) rfl (fun ls hl => ?_)
  have loop : ∀ (n k : Nat), k + n = σ.1 2 →  (sa_th σ o at' (-1) 0 k = false) →  ∀ ls : Array Slot, lv_has ls 4 [(3, .int (nI k)), (0, .ref (a 0)), (1, .int (at')), (2, .int (σ.2 4 o.toNatClampNeg))] → W p l e (headSpec wsX0_holdsAdvertiser ({ frames := 1, cells := 0, slots := 0, locals := 21 })).room s m ([Value.ref (a 0), Value.int (at'), Value.int (σ.2 4 o.toNatClampNeg)] : List Value).toArray below meth c s.heap [] 0 0 (MQ below (vp_Si (fun z => z = sa_b (sa_th σ o at' (-1) 0 (σ.1 2) = true))) ([Value.ref (a 0), Value.int (at'), Value.int (σ.2 4 o.toNatClampNeg)] : List Value).toArray s 0 0 (fun _ => False)) (F0 m 2 ls []) := by
    intro n
    induction n with
    | zero =>
      intro k hk  hth ls hl
      have hk2 : k = σ.1 2 := by omega
      subst hk2
      refine lv_iload_n hx hb dX0_holdsAdvertiser_2 rfl (lv_at hl 0 rfl) ?_
      refine lv_aload_n hx hb dX0_holdsAdvertiser_3 rfl (lv_at hl 1 rfl) ?_
      refine sa_g0_spotCount S hin hK hP (by decide +kernel) dX0_holdsAdvertiser_4 ?_
      refine lv_icmp_ge (tgt := 51) hx hb dX0_holdsAdvertiser_7 (by decide) (fun _ => ?_) (fun c9 => absurd (nI_le (Nat.le_refl _) (by omega)) c9)
      refine lv_iconst (v := 0) hx hb dX0_holdsAdvertiser_51 (by decide) ?_
      exact W.zret (v := 0) (ty := .boolean) hx hb hr rfl (fun t9 ht _ => ⟨_, rfl, (sa_bf (by simp [hth])).symm, ht⟩) (fun _ h => nomatch h) dX0_holdsAdvertiser_52
    | succ n ih =>
      intro k hk  hth ls hl
      have hkn : k < σ.1 2 := by omega
      refine lv_iload_n hx hb dX0_holdsAdvertiser_2 rfl (lv_at hl 0 rfl) ?_
      refine lv_aload_n hx hb dX0_holdsAdvertiser_3 rfl (lv_at hl 1 rfl) ?_
      refine sa_g0_spotCount S hin hK hP (by decide +kernel) dX0_holdsAdvertiser_4 ?_
      refine lv_icmp_ge (tgt := 51) hx hb dX0_holdsAdvertiser_7 (by decide) (fun c9 => absurd c9 (nI_ge (by omega) (by omega))) (fun _ => ?_)
      refine lv_aload_n hx hb dX0_holdsAdvertiser_10 rfl (lv_at hl 1 rfl) ?_
      refine sa_g0_spotBreak S hin hK hP (by decide +kernel) dX0_holdsAdvertiser_11 ?_
      refine lv_iload_n hx hb dX0_holdsAdvertiser_14 rfl (lv_at hl 0 rfl) ?_
      refine sa_ldk 13 S hK hP rfl (by omega) (by decide) dX0_holdsAdvertiser_15 ?_
      refine lv_iload_n hx hb dX0_holdsAdvertiser_16 rfl (lv_at hl 2 rfl) ?_
      refine lv_icmp_ne (tgt := 45) hx hb dX0_holdsAdvertiser_17 (by decide) (fun c_17 => ?_) (fun c_17 => ?_)
      · skip
        refine lv_iinc (v := nI (k + 1)) (lv' := [(3, .int (nI (k + 1))), (0, .ref (a 0)), (1, .int (at')), (2, .int (σ.2 4 o.toNatClampNeg))]) hx hb dX0_holdsAdvertiser_45 hl (k := 0) rfl (nI_1 k) (by decide) rfl (fun ls hl => ?_)
        refine lv_goto (tgt := 2) hx hb dX0_holdsAdvertiser_48 (by decide) ?_
        exact ih (k + 1) (by omega)  (by have h9 := sa_ne1 (k := k) (by omega); simp [sa_th, hth, h9, sa_sd, sa_sec, sa_rat, sa_adv, sa_cat, sa_cnt, sa_aud, sa_less, sa_w, c_17]) ls (lv_sub hl [0, 1, 2, 3] rfl)
      · skip
        refine lv_aload_n hx hb dX0_holdsAdvertiser_20 rfl (lv_at hl 1 rfl) ?_
        refine lv_iload_n hx hb dX0_holdsAdvertiser_21 rfl (lv_at hl 0 rfl) ?_
        refine sa_kRd (As := [.int (nI k)]) (rest := []) S (c_X0_isInBreak l G cI cZ cL a σ k (by omega)) (cwV 1 hts gX0_holdsAdvertiser_X0_isInBreak rfl rfl rfl (by decide +kernel) ⟨Nat.le_of_ble_eq_true rfl, Nat.le_of_ble_eq_true rfl⟩) hP hK (ci := 0) rfl rfl rfl hl.1 (Nat.le_of_ble_eq_true rfl) rfl dX0_holdsAdvertiser_22 ⟨Nat.zero_le _, Nat.zero_le _⟩ ?_
        refine lv_if_eq (tgt := 45) hx hb dX0_holdsAdvertiser_25 (by decide) (fun c_25 => ?_) (fun c_25 => ?_)
        · skip
          have c_25 := sa_b0 c_25
          refine lv_iinc (v := nI (k + 1)) (lv' := [(3, .int (nI (k + 1))), (0, .ref (a 0)), (1, .int (at')), (2, .int (σ.2 4 o.toNatClampNeg))]) hx hb dX0_holdsAdvertiser_45 hl (k := 0) rfl (nI_1 k) (by decide) rfl (fun ls hl => ?_)
          refine lv_goto (tgt := 2) hx hb dX0_holdsAdvertiser_48 (by decide) ?_
          exact ih (k + 1) (by omega)  (by have h9 := sa_ne1 (k := k) (by omega); simp [sa_th, hth, h9, sa_sd, sa_sec, sa_rat, sa_adv, sa_cat, sa_cnt, sa_aud, sa_less, sa_w, c_17, c_25]) ls (lv_sub hl [0, 1, 2, 3] rfl)
        · skip
          have c_25 := sa_b1 c_25
          refine lv_aload_n hx hb dX0_holdsAdvertiser_28 rfl (lv_at hl 1 rfl) ?_
          refine sa_g0_orderAdvertiser S hin hK hP (by decide +kernel) dX0_holdsAdvertiser_29 ?_
          refine lv_aload_n hx hb dX0_holdsAdvertiser_32 rfl (lv_at hl 1 rfl) ?_
          refine sa_g0_spotOrder S hin hK hP (by decide +kernel) dX0_holdsAdvertiser_33 ?_
          refine lv_iload_n hx hb dX0_holdsAdvertiser_36 rfl (lv_at hl 0 rfl) ?_
          refine sa_ldk 12 S hK hP rfl (by omega) (by decide) dX0_holdsAdvertiser_37 ?_
          refine sa_ld 4 S hK hP rfl (sa_vm (hor k (by omega)) (by omega)) dX0_holdsAdvertiser_38 ?_
          refine lv_iload_n hx hb dX0_holdsAdvertiser_39 rfl (lv_at hl 3 rfl) ?_
          refine lv_icmp_ne (tgt := 45) hx hb dX0_holdsAdvertiser_40 (by decide) (fun c_40 => ?_) (fun c_40 => ?_)
          · skip
            refine lv_iinc (v := nI (k + 1)) (lv' := [(3, .int (nI (k + 1))), (0, .ref (a 0)), (1, .int (at')), (2, .int (σ.2 4 o.toNatClampNeg))]) hx hb dX0_holdsAdvertiser_45 hl (k := 0) rfl (nI_1 k) (by decide) rfl (fun ls hl => ?_)
            refine lv_goto (tgt := 2) hx hb dX0_holdsAdvertiser_48 (by decide) ?_
            exact ih (k + 1) (by omega)  (by have h9 := sa_ne1 (k := k) (by omega); simp [sa_th, hth, h9, sa_sd, sa_sec, sa_rat, sa_adv, sa_cat, sa_cnt, sa_aud, sa_less, sa_w, c_17, c_25, c_40]) ls (lv_sub hl [0, 1, 2, 3] rfl)
          · skip
            refine lv_iconst (v := 1) hx hb dX0_holdsAdvertiser_43 (by decide) ?_
            exact W.zret (v := 1) (ty := .boolean) hx hb hr rfl (fun t9 ht _ => ⟨_, rfl, (sa_bt (sa_th_mono (k := k + 1) (by have h9 := sa_ne1 (k := k) (by omega); simp [sa_th, hth, h9, sa_sd, sa_sec, sa_rat, sa_adv, sa_cat, sa_cnt, sa_aud, sa_less, sa_w, c_17, c_25, c_40]) (by omega))).symm, ht⟩) (fun _ h => nomatch h) dX0_holdsAdvertiser_44
  exact loop (σ.1 2) 0 (Nat.zero_add _)  rfl ls (lv_sub hl [0, 1, 2, 3] rfl)

set_option maxHeartbeats 4000000 in
set_option maxRecDepth 100000 in
theorem c_X0_areRivals (l : Launch) (G : va_G) (cI cZ cL : ClassId) (a : Nat → Nat) (σ : sa_St) (hI : sa_I σ) (x o : Int32) (hx1 : vp_in x (σ.1 1)) (ho : vp_in o (σ.1 1)) : sa_Rd l yX0_areRivals wsX0_areRivals ({ frames := 0, cells := 0, slots := 0, locals := 0 }) G cI cZ cL (sa_W0 cI cZ a σ) [.ref (a 0), .int (x), .int (o)] (sa_b (¬ σ.2 4 x.toNatClampNeg = σ.2 4 o.toNatClampNeg ∧ σ.2 5 x.toNatClampNeg = σ.2 5 o.toNatClampNeg)) := by
  obtain ⟨hnb, hno, hns, hgr, hor, hbr, hai⟩ := id hI
  refine Met.ofW (cc := cX0_areRivals) (maxL := 3) (ret := (some .boolean)) (by decide) rfl ?_
  intro p e s m args below meth c s₁ B9 hml hv
  obtain ⟨rfl, hP, hK⟩ := hv
  have hx := B9.exec
  have hb := B9.bytes
  have hr := B9.returns
  have hlk := B9.notSynchronized
  have hts := atoms_spec (ws := wsX0_areRivals) B9.pre
  have hown : s.vm.findClass RX0 = some m.cls := findClass_of_methodNamed B9.named
  have S : CallFix p m c cX0_areRivals 3 s _ wsX0_areRivals RX0 := ⟨hx, hb, hml, hown, hts⟩
  have hin : ∀ w ∈ wsX00, w ∈ wsX0_areRivals := by decide +kernel
  have hl := lv_entry ([.ref (a 0), .int (x), .int (o)]) (n := 3) (Nat.le_of_ble_eq_true rfl)
  rw [lg_entry_eq]
  generalize (lg_sl ([.ref (a 0), .int (x), .int (o)]) ++ List.replicate (3 - (lg_sl ([.ref (a 0), .int (x), .int (o)])).length) Slot.unset).toArray = ls at hl ⊢
  have hl : lv_has ls 3 [(0, .ref (a 0)), (1, .int (x)), (2, .int (o))] := hl
  refine lv_aload_n hx hb dX0_areRivals_0 rfl (lv_at hl 0 rfl) ?_
  refine sa_g0_orderCategory S hin hK hP (by decide +kernel) dX0_areRivals_1 ?_
  refine lv_iload_n hx hb dX0_areRivals_4 rfl (lv_at hl 1 rfl) ?_
  refine sa_ld 5 S hK hP rfl (sa_vm hx1 (by omega)) dX0_areRivals_5 ?_
  refine lv_aload_n hx hb dX0_areRivals_6 rfl (lv_at hl 0 rfl) ?_
  refine sa_g0_orderCategory S hin hK hP (by decide +kernel) dX0_areRivals_7 ?_
  refine lv_iload_n hx hb dX0_areRivals_10 rfl (lv_at hl 2 rfl) ?_
  refine sa_ld 5 S hK hP rfl (sa_vm ho (by omega)) dX0_areRivals_11 ?_
  refine lv_icmp_ne (tgt := 34) hx hb dX0_areRivals_12 (by decide) (fun c_12 => ?_) (fun c_12 => ?_)
  · skip
    refine lv_iconst (v := 0) hx hb dX0_areRivals_34 (by decide) ?_
    exact W.zret (v := 0) (ty := .boolean) hx hb hr rfl (fun t9 ht _ => ⟨_, rfl, (sa_bf (by simp [sa_sd, sa_sec, sa_rat, sa_adv, sa_cat, sa_cnt, sa_aud, sa_less, sa_w, c_12])).symm, ht⟩) (fun _ h => nomatch h) dX0_areRivals_35
  · skip
    refine lv_aload_n hx hb dX0_areRivals_15 rfl (lv_at hl 0 rfl) ?_
    refine sa_g0_orderAdvertiser S hin hK hP (by decide +kernel) dX0_areRivals_16 ?_
    refine lv_iload_n hx hb dX0_areRivals_19 rfl (lv_at hl 1 rfl) ?_
    refine sa_ld 4 S hK hP rfl (sa_vm hx1 (by omega)) dX0_areRivals_20 ?_
    refine lv_aload_n hx hb dX0_areRivals_21 rfl (lv_at hl 0 rfl) ?_
    refine sa_g0_orderAdvertiser S hin hK hP (by decide +kernel) dX0_areRivals_22 ?_
    refine lv_iload_n hx hb dX0_areRivals_25 rfl (lv_at hl 2 rfl) ?_
    refine sa_ld 4 S hK hP rfl (sa_vm ho (by omega)) dX0_areRivals_26 ?_
    refine lv_icmp_eq (tgt := 34) hx hb dX0_areRivals_27 (by decide) (fun c_27 => ?_) (fun c_27 => ?_)
    · skip
      refine lv_iconst (v := 0) hx hb dX0_areRivals_34 (by decide) ?_
      exact W.zret (v := 0) (ty := .boolean) hx hb hr rfl (fun t9 ht _ => ⟨_, rfl, (sa_bf (by simp [sa_sd, sa_sec, sa_rat, sa_adv, sa_cat, sa_cnt, sa_aud, sa_less, sa_w, c_12, c_27])).symm, ht⟩) (fun _ h => nomatch h) dX0_areRivals_35
    · skip
      refine lv_iconst (v := 1) hx hb dX0_areRivals_30 (by decide) ?_
      refine lv_goto (tgt := 35) hx hb dX0_areRivals_31 (by decide) ?_
      exact W.zret (v := 1) (ty := .boolean) hx hb hr rfl (fun t9 ht _ => ⟨_, rfl, (sa_bt (by simp [sa_sd, sa_sec, sa_rat, sa_adv, sa_cat, sa_cnt, sa_aud, sa_less, sa_w, c_12, c_27])).symm, ht⟩) (fun _ h => nomatch h) dX0_areRivals_35

set_option maxHeartbeats 4000000 in
set_option maxRecDepth 100000 in
theorem c_X0_holdsRival (l : Launch) (G : va_G) (cI cZ cL : ClassId) (a : Nat → Nat) (σ : sa_St) (hI : sa_I σ) (o at' : Int32) (ho : vp_in o (σ.1 1)) : sa_Rd l yX0_holdsRival wsX0_holdsRival ({ frames := 1, cells := 0, slots := 0, locals := 22 }) G cI cZ cL (sa_W0 cI cZ a σ) [.ref (a 0), .int (at'), .int (o)] (sa_b (sa_th σ o at' (-1) 1 (σ.1 2) = true)) := by
  obtain ⟨hnb, hno, hns, hgr, hor, hbr, hai⟩ := id hI
  refine Met.ofW (cc := cX0_holdsRival) (maxL := 4) (ret := (some .boolean)) (by decide) rfl ?_
  intro p e s m args below meth c s₁ B9 hml hv
  obtain ⟨rfl, hP, hK⟩ := hv
  have hx := B9.exec
  have hb := B9.bytes
  have hr := B9.returns
  have hlk := B9.notSynchronized
  have hts := atoms_spec (ws := wsX0_holdsRival) B9.pre
  have hown : s.vm.findClass RX0 = some m.cls := findClass_of_methodNamed B9.named
  have S : CallFix p m c cX0_holdsRival 4 s _ wsX0_holdsRival RX0 := ⟨hx, hb, hml, hown, hts⟩
  have hin : ∀ w ∈ wsX00, w ∈ wsX0_holdsRival := by decide +kernel
  have hl := lv_entry ([.ref (a 0), .int (at'), .int (o)]) (n := 4) (Nat.le_of_ble_eq_true rfl)
  rw [lg_entry_eq]
  generalize (lg_sl ([.ref (a 0), .int (at'), .int (o)]) ++ List.replicate (4 - (lg_sl ([.ref (a 0), .int (at'), .int (o)])).length) Slot.unset).toArray = ls at hl ⊢
  have hl : lv_has ls 4 [(0, .ref (a 0)), (1, .int (at')), (2, .int (o))] := hl
  refine lv_iconst (v := 0) hx hb dX0_holdsRival_0 (by decide) ?_
  refine lv_istore_n (lv' := [(3, .int (0)), (0, .ref (a 0)), (1, .int (at')), (2, .int (o))]) hx hb dX0_holdsRival_1 rfl hl (by decide) rfl (fun ls hl => ?_)
  have loop : ∀ (n k : Nat), k + n = σ.1 2 →  (sa_th σ o at' (-1) 1 k = false) →  ∀ ls : Array Slot, lv_has ls 4 [(3, .int (nI k)), (0, .ref (a 0)), (1, .int (at')), (2, .int (o))] → W p l e (headSpec wsX0_holdsRival ({ frames := 1, cells := 0, slots := 0, locals := 22 })).room s m ([Value.ref (a 0), Value.int (at'), Value.int (o)] : List Value).toArray below meth c s.heap [] 0 0 (MQ below (vp_Si (fun z => z = sa_b (sa_th σ o at' (-1) 1 (σ.1 2) = true))) ([Value.ref (a 0), Value.int (at'), Value.int (o)] : List Value).toArray s 0 0 (fun _ => False)) (F0 m 2 ls []) := by
    intro n
    induction n with
    | zero =>
      intro k hk  hth ls hl
      have hk2 : k = σ.1 2 := by omega
      subst hk2
      refine lv_iload_n hx hb dX0_holdsRival_2 rfl (lv_at hl 0 rfl) ?_
      refine lv_aload_n hx hb dX0_holdsRival_3 rfl (lv_at hl 1 rfl) ?_
      refine sa_g0_spotCount S hin hK hP (by decide +kernel) dX0_holdsRival_4 ?_
      refine lv_icmp_ge (tgt := 50) hx hb dX0_holdsRival_7 (by decide) (fun _ => ?_) (fun c9 => absurd (nI_le (Nat.le_refl _) (by omega)) c9)
      refine lv_iconst (v := 0) hx hb dX0_holdsRival_50 (by decide) ?_
      exact W.zret (v := 0) (ty := .boolean) hx hb hr rfl (fun t9 ht _ => ⟨_, rfl, (sa_bf (by simp [hth])).symm, ht⟩) (fun _ h => nomatch h) dX0_holdsRival_51
    | succ n ih =>
      intro k hk  hth ls hl
      have hkn : k < σ.1 2 := by omega
      refine lv_iload_n hx hb dX0_holdsRival_2 rfl (lv_at hl 0 rfl) ?_
      refine lv_aload_n hx hb dX0_holdsRival_3 rfl (lv_at hl 1 rfl) ?_
      refine sa_g0_spotCount S hin hK hP (by decide +kernel) dX0_holdsRival_4 ?_
      refine lv_icmp_ge (tgt := 50) hx hb dX0_holdsRival_7 (by decide) (fun c9 => absurd c9 (nI_ge (by omega) (by omega))) (fun _ => ?_)
      refine lv_aload_n hx hb dX0_holdsRival_10 rfl (lv_at hl 1 rfl) ?_
      refine sa_g0_spotBreak S hin hK hP (by decide +kernel) dX0_holdsRival_11 ?_
      refine lv_iload_n hx hb dX0_holdsRival_14 rfl (lv_at hl 0 rfl) ?_
      refine sa_ldk 13 S hK hP rfl (by omega) (by decide) dX0_holdsRival_15 ?_
      refine lv_iload_n hx hb dX0_holdsRival_16 rfl (lv_at hl 2 rfl) ?_
      refine lv_icmp_ne (tgt := 44) hx hb dX0_holdsRival_17 (by decide) (fun c_17 => ?_) (fun c_17 => ?_)
      · skip
        refine lv_iinc (v := nI (k + 1)) (lv' := [(3, .int (nI (k + 1))), (0, .ref (a 0)), (1, .int (at')), (2, .int (o))]) hx hb dX0_holdsRival_44 hl (k := 0) rfl (nI_1 k) (by decide) rfl (fun ls hl => ?_)
        refine lv_goto (tgt := 2) hx hb dX0_holdsRival_47 (by decide) ?_
        exact ih (k + 1) (by omega)  (by have h9 := sa_ne1 (k := k) (by omega); simp [sa_th, hth, h9, sa_sd, sa_sec, sa_rat, sa_adv, sa_cat, sa_cnt, sa_aud, sa_less, sa_w, c_17]) ls (lv_sub hl [0, 1, 2, 3] rfl)
      · skip
        refine lv_aload_n hx hb dX0_holdsRival_20 rfl (lv_at hl 1 rfl) ?_
        refine lv_iload_n hx hb dX0_holdsRival_21 rfl (lv_at hl 0 rfl) ?_
        refine sa_kRd (As := [.int (nI k)]) (rest := []) S (c_X0_isInBreak l G cI cZ cL a σ k (by omega)) (cwV 1 hts gX0_holdsRival_X0_isInBreak rfl rfl rfl (by decide +kernel) ⟨Nat.le_of_ble_eq_true rfl, Nat.le_of_ble_eq_true rfl⟩) hP hK (ci := 0) rfl rfl rfl hl.1 (Nat.le_of_ble_eq_true rfl) rfl dX0_holdsRival_22 ⟨Nat.zero_le _, Nat.zero_le _⟩ ?_
        refine lv_if_eq (tgt := 44) hx hb dX0_holdsRival_25 (by decide) (fun c_25 => ?_) (fun c_25 => ?_)
        · skip
          have c_25 := sa_b0 c_25
          refine lv_iinc (v := nI (k + 1)) (lv' := [(3, .int (nI (k + 1))), (0, .ref (a 0)), (1, .int (at')), (2, .int (o))]) hx hb dX0_holdsRival_44 hl (k := 0) rfl (nI_1 k) (by decide) rfl (fun ls hl => ?_)
          refine lv_goto (tgt := 2) hx hb dX0_holdsRival_47 (by decide) ?_
          exact ih (k + 1) (by omega)  (by have h9 := sa_ne1 (k := k) (by omega); simp [sa_th, hth, h9, sa_sd, sa_sec, sa_rat, sa_adv, sa_cat, sa_cnt, sa_aud, sa_less, sa_w, c_17, c_25]) ls (lv_sub hl [0, 1, 2, 3] rfl)
        · skip
          have c_25 := sa_b1 c_25
          refine lv_aload_n hx hb dX0_holdsRival_28 rfl (lv_at hl 1 rfl) ?_
          refine lv_aload_n hx hb dX0_holdsRival_29 rfl (lv_at hl 1 rfl) ?_
          refine sa_g0_spotOrder S hin hK hP (by decide +kernel) dX0_holdsRival_30 ?_
          refine lv_iload_n hx hb dX0_holdsRival_33 rfl (lv_at hl 0 rfl) ?_
          refine sa_ldk 12 S hK hP rfl (by omega) (by decide) dX0_holdsRival_34 ?_
          refine lv_iload_n hx hb dX0_holdsRival_35 rfl (lv_at hl 3 rfl) ?_
          refine sa_kRd (As := [.int (σ.2 12 k), .int (o)]) (rest := []) S (c_X0_areRivals l G cI cZ cL a σ hI (σ.2 12 k) o (hor k (by omega)) ho) (cwV 2 hts gX0_holdsRival_X0_areRivals rfl rfl rfl (by decide +kernel) ⟨Nat.le_of_ble_eq_true rfl, Nat.le_of_ble_eq_true rfl⟩) hP hK (ci := 0) rfl rfl rfl hl.1 (Nat.le_of_ble_eq_true rfl) rfl dX0_holdsRival_36 ⟨Nat.zero_le _, Nat.zero_le _⟩ ?_
          refine lv_if_eq (tgt := 44) hx hb dX0_holdsRival_39 (by decide) (fun c_39 => ?_) (fun c_39 => ?_)
          · skip
            have c_39 := sa_b0 c_39
            refine lv_iinc (v := nI (k + 1)) (lv' := [(3, .int (nI (k + 1))), (0, .ref (a 0)), (1, .int (at')), (2, .int (o))]) hx hb dX0_holdsRival_44 hl (k := 0) rfl (nI_1 k) (by decide) rfl (fun ls hl => ?_)
            refine lv_goto (tgt := 2) hx hb dX0_holdsRival_47 (by decide) ?_
            exact ih (k + 1) (by omega)  (by have h9 := sa_ne1 (k := k) (by omega); simp [sa_th, hth, h9, sa_sd, sa_sec, sa_rat, sa_adv, sa_cat, sa_cnt, sa_aud, sa_less, sa_w, c_17, c_25, c_39]) ls (lv_sub hl [0, 1, 2, 3] rfl)
          · skip
            have c_39 := sa_b1 c_39
            refine lv_iconst (v := 1) hx hb dX0_holdsRival_42 (by decide) ?_
            exact W.zret (v := 1) (ty := .boolean) hx hb hr rfl (fun t9 ht _ => ⟨_, rfl, (sa_bt (sa_th_mono (k := k + 1) (by have h9 := sa_ne1 (k := k) (by omega); simp [sa_th, hth, h9, sa_sd, sa_sec, sa_rat, sa_adv, sa_cat, sa_cnt, sa_aud, sa_less, sa_w, c_17, c_25, c_39]) (by omega))).symm, ht⟩) (fun _ h => nomatch h) dX0_holdsRival_43
  exact loop (σ.1 2) 0 (Nat.zero_add _)  rfl ls (lv_sub hl [0, 1, 2, 3] rfl)

set_option maxHeartbeats 4000000 in
set_option maxRecDepth 100000 in
theorem c_X0_obstacle (l : Launch) (G : va_G) (cI cZ cL : ClassId) (a : Nat → Nat) (σ : sa_St) (hI : sa_I σ) (o at' : Int32) (ho : vp_in o (σ.1 1)) (hat : vp_in at' (σ.1 0)) : sa_Rd l yX0_obstacle wsX0_obstacle ({ frames := 2, cells := 0, slots := 0, locals := 45 }) G cI cZ cL (sa_W0 cI cZ a σ) [.ref (a 0), .int (o), .int (at')] (sa_why σ o at' (-1)) := by
  obtain ⟨hnb, hno, hns, hgr, hor, hbr, hai⟩ := id hI
  refine Met.ofW (cc := cX0_obstacle) (maxL := 3) (ret := (some .int)) (by decide) rfl ?_
  intro p e s m args below meth c s₁ B9 hml hv
  obtain ⟨rfl, hP, hK⟩ := hv
  have hx := B9.exec
  have hb := B9.bytes
  have hr := B9.returns
  have hlk := B9.notSynchronized
  have hts := atoms_spec (ws := wsX0_obstacle) B9.pre
  have hown : s.vm.findClass RX0 = some m.cls := findClass_of_methodNamed B9.named
  have S : CallFix p m c cX0_obstacle 3 s _ wsX0_obstacle RX0 := ⟨hx, hb, hml, hown, hts⟩
  have hin : ∀ w ∈ wsX00, w ∈ wsX0_obstacle := by decide +kernel
  have hl := lv_entry ([.ref (a 0), .int (o), .int (at')]) (n := 3) (Nat.le_of_ble_eq_true rfl)
  rw [lg_entry_eq]
  generalize (lg_sl ([.ref (a 0), .int (o), .int (at')]) ++ List.replicate (3 - (lg_sl ([.ref (a 0), .int (o), .int (at')])).length) Slot.unset).toArray = ls at hl ⊢
  have hl : lv_has ls 3 [(0, .ref (a 0)), (1, .int (o)), (2, .int (at'))] := hl
  refine lv_aload_n hx hb dX0_obstacle_0 rfl (lv_at hl 0 rfl) ?_
  refine sa_g0_breakAired S hin hK hP (by decide +kernel) dX0_obstacle_1 ?_
  refine lv_iload_n hx hb dX0_obstacle_4 rfl (lv_at hl 2 rfl) ?_
  refine sa_ldz 2 S hK hP rfl (sa_vm hat (by omega)) dX0_obstacle_5 ?_
  refine lv_if_eq (tgt := 11) hx hb dX0_obstacle_6 (by decide) (fun c_6 => ?_) (fun c_6 => ?_)
  · skip
    refine lv_aload_n hx hb dX0_obstacle_11 rfl (lv_at hl 0 rfl) ?_
    refine lv_iload_n hx hb dX0_obstacle_12 rfl (lv_at hl 2 rfl) ?_
    refine sa_kRd (As := [.int (at')]) (rest := []) S (c_X0_secondsLeft l G cI cZ cL a σ hI at' hat) (cwV 1 hts gX0_obstacle_X0_secondsLeft rfl rfl rfl (by decide +kernel) ⟨Nat.le_of_ble_eq_true rfl, Nat.le_of_ble_eq_true rfl⟩) hP hK (ci := 0) rfl rfl rfl hl.1 (Nat.le_of_ble_eq_true rfl) rfl dX0_obstacle_13 ⟨Nat.zero_le _, Nat.zero_le _⟩ ?_
    refine lv_aload_n hx hb dX0_obstacle_16 rfl (lv_at hl 0 rfl) ?_
    refine sa_g0_orderSeconds S hin hK hP (by decide +kernel) dX0_obstacle_17 ?_
    refine lv_iload_n hx hb dX0_obstacle_20 rfl (lv_at hl 1 rfl) ?_
    refine sa_ld 7 S hK hP rfl (sa_vm ho (by omega)) dX0_obstacle_21 ?_
    refine lv_icmp_ge (tgt := 27) hx hb dX0_obstacle_22 (by decide) (fun c_22 => ?_) (fun c_22 => ?_)
    · skip
      have c_22 := Int32.not_lt.mpr c_22
      refine lv_aload_n hx hb dX0_obstacle_27 rfl (lv_at hl 0 rfl) ?_
      refine lv_iload_n hx hb dX0_obstacle_28 rfl (lv_at hl 1 rfl) ?_
      refine lv_iload_n hx hb dX0_obstacle_29 rfl (lv_at hl 2 rfl) ?_
      refine sa_kRd (As := [.int (o), .int (at')]) (rest := []) S (c_X0_ratingFor l G cI cZ cL a σ hI o at' ho hat) (cwV 2 hts gX0_obstacle_X0_ratingFor rfl rfl rfl (by decide +kernel) ⟨Nat.le_of_ble_eq_true rfl, Nat.le_of_ble_eq_true rfl⟩) hP hK (ci := 0) rfl rfl rfl hl.1 (Nat.le_of_ble_eq_true rfl) rfl dX0_obstacle_30 ⟨Nat.zero_le _, Nat.zero_le _⟩ ?_
      refine lv_aload_n hx hb dX0_obstacle_33 rfl (lv_at hl 0 rfl) ?_
      refine sa_g0_orderFloor S hin hK hP (by decide +kernel) dX0_obstacle_34 ?_
      refine lv_iload_n hx hb dX0_obstacle_37 rfl (lv_at hl 1 rfl) ?_
      refine sa_ld 10 S hK hP rfl (sa_vm ho (by omega)) dX0_obstacle_38 ?_
      refine lv_icmp_ge (tgt := 44) hx hb dX0_obstacle_39 (by decide) (fun c_39 => ?_) (fun c_39 => ?_)
      · skip
        have c_39 := Int32.not_lt.mpr c_39
        refine lv_aload_n hx hb dX0_obstacle_44 rfl (lv_at hl 0 rfl) ?_
        refine lv_iload_n hx hb dX0_obstacle_45 rfl (lv_at hl 2 rfl) ?_
        refine lv_aload_n hx hb dX0_obstacle_46 rfl (lv_at hl 0 rfl) ?_
        refine sa_g0_orderAdvertiser S hin hK hP (by decide +kernel) dX0_obstacle_47 ?_
        refine lv_iload_n hx hb dX0_obstacle_50 rfl (lv_at hl 1 rfl) ?_
        refine sa_ld 4 S hK hP rfl (sa_vm ho (by omega)) dX0_obstacle_51 ?_
        refine sa_kRd (As := [.int (at'), .int (σ.2 4 o.toNatClampNeg)]) (rest := []) S (c_X0_holdsAdvertiser l G cI cZ cL a σ hI o at' ho) (cwV 2 hts gX0_obstacle_X0_holdsAdvertiser rfl rfl rfl (by decide +kernel) ⟨Nat.le_of_ble_eq_true rfl, Nat.le_of_ble_eq_true rfl⟩) hP hK (ci := 0) rfl rfl rfl hl.1 (Nat.le_of_ble_eq_true rfl) rfl dX0_obstacle_52 ⟨Nat.zero_le _, Nat.zero_le _⟩ ?_
        refine lv_if_eq (tgt := 60) hx hb dX0_obstacle_55 (by decide) (fun c_55 => ?_) (fun c_55 => ?_)
        · skip
          have c_55 := sa_b0 c_55
          refine lv_aload_n hx hb dX0_obstacle_60 rfl (lv_at hl 0 rfl) ?_
          refine lv_iload_n hx hb dX0_obstacle_61 rfl (lv_at hl 2 rfl) ?_
          refine lv_iload_n hx hb dX0_obstacle_62 rfl (lv_at hl 1 rfl) ?_
          refine sa_kRd (As := [.int (at'), .int (o)]) (rest := []) S (c_X0_holdsRival l G cI cZ cL a σ hI o at' ho) (cwV 2 hts gX0_obstacle_X0_holdsRival rfl rfl rfl (by decide +kernel) ⟨Nat.le_of_ble_eq_true rfl, Nat.le_of_ble_eq_true rfl⟩) hP hK (ci := 0) rfl rfl rfl hl.1 (Nat.le_of_ble_eq_true rfl) rfl dX0_obstacle_63 ⟨Nat.zero_le _, Nat.zero_le _⟩ ?_
          refine lv_if_eq (tgt := 71) hx hb dX0_obstacle_66 (by decide) (fun c_66 => ?_) (fun c_66 => ?_)
          · skip
            have c_66 := sa_b0 c_66
            refine lv_aload_n hx hb dX0_obstacle_71 rfl (lv_at hl 0 rfl) ?_
            refine lv_iload_n hx hb dX0_obstacle_72 rfl (lv_at hl 2 rfl) ?_
            refine lv_iconst (v := 1) hx hb dX0_obstacle_73 (by decide) ?_
            refine lv_isub hx hb dX0_obstacle_74 ?_
            refine lv_iload_n hx hb dX0_obstacle_75 rfl (lv_at hl 1 rfl) ?_
            refine sa_kRd (As := [.int (at' - 1), .int (o)]) (rest := []) S (c_X0_holdsRival l G cI cZ cL a σ hI o (at' - 1) ho) (cwV 2 hts gX0_obstacle_X0_holdsRival rfl rfl rfl (by decide +kernel) ⟨Nat.le_of_ble_eq_true rfl, Nat.le_of_ble_eq_true rfl⟩) hP hK (ci := 0) rfl rfl rfl hl.1 (Nat.le_of_ble_eq_true rfl) rfl dX0_obstacle_76 ⟨Nat.zero_le _, Nat.zero_le _⟩ ?_
            refine lv_if_ne (tgt := 93) hx hb dX0_obstacle_79 (by decide) (fun c_79 => ?_) (fun c_79 => ?_)
            · skip
              have c_79 := sa_b1 c_79
              refine lv_bipush (v := 6) hx hb dX0_obstacle_93 (by decide) ?_
              exact W.iret (v := 6) hx hb hr (fun t9 ht _ => ⟨_, rfl, (by have h9 := sa_nx_l hI hat c_79; unfold sa_why; simp [h9, c_6, c_22, c_39, c_55, c_66, c_79]), ht⟩) (fun _ h => nomatch h) dX0_obstacle_95
            · skip
              have c_79 := sa_b0 c_79
              refine lv_aload_n hx hb dX0_obstacle_82 rfl (lv_at hl 0 rfl) ?_
              refine lv_iload_n hx hb dX0_obstacle_83 rfl (lv_at hl 2 rfl) ?_
              refine lv_iconst (v := 1) hx hb dX0_obstacle_84 (by decide) ?_
              refine lv_iadd hx hb dX0_obstacle_85 ?_
              refine lv_iload_n hx hb dX0_obstacle_86 rfl (lv_at hl 1 rfl) ?_
              refine sa_kRd (As := [.int (at' + 1), .int (o)]) (rest := []) S (c_X0_holdsRival l G cI cZ cL a σ hI o (at' + 1) ho) (cwV 2 hts gX0_obstacle_X0_holdsRival rfl rfl rfl (by decide +kernel) ⟨Nat.le_of_ble_eq_true rfl, Nat.le_of_ble_eq_true rfl⟩) hP hK (ci := 0) rfl rfl rfl hl.1 (Nat.le_of_ble_eq_true rfl) rfl dX0_obstacle_87 ⟨Nat.zero_le _, Nat.zero_le _⟩ ?_
              refine lv_if_eq (tgt := 96) hx hb dX0_obstacle_90 (by decide) (fun c_90 => ?_) (fun c_90 => ?_)
              · skip
                have c_90 := sa_b0 c_90
                refine lv_iconst (v := 0) hx hb dX0_obstacle_96 (by decide) ?_
                exact W.iret (v := 0) hx hb hr (fun t9 ht _ => ⟨_, rfl, (by unfold sa_why; simp [c_6, c_22, c_39, c_55, c_66, c_79, c_90]), ht⟩) (fun _ h => nomatch h) dX0_obstacle_97
              · skip
                have c_90 := sa_b1 c_90
                refine lv_bipush (v := 6) hx hb dX0_obstacle_93 (by decide) ?_
                exact W.iret (v := 6) hx hb hr (fun t9 ht _ => ⟨_, rfl, (by have h9 := sa_nx_r hI hat c_90; unfold sa_why; simp [h9, c_6, c_22, c_39, c_55, c_66, c_79, c_90]), ht⟩) (fun _ h => nomatch h) dX0_obstacle_95
          · skip
            have c_66 := sa_b1 c_66
            refine lv_iconst (v := 5) hx hb dX0_obstacle_69 (by decide) ?_
            exact W.iret (v := 5) hx hb hr (fun t9 ht _ => ⟨_, rfl, (by unfold sa_why; simp [c_6, c_22, c_39, c_55, c_66]), ht⟩) (fun _ h => nomatch h) dX0_obstacle_70
        · skip
          have c_55 := sa_b1 c_55
          refine lv_iconst (v := 4) hx hb dX0_obstacle_58 (by decide) ?_
          exact W.iret (v := 4) hx hb hr (fun t9 ht _ => ⟨_, rfl, (by unfold sa_why; simp [c_6, c_22, c_39, c_55]), ht⟩) (fun _ h => nomatch h) dX0_obstacle_59
      · skip
        have c_39 := Int32.not_le.mp c_39
        refine lv_iconst (v := 3) hx hb dX0_obstacle_42 (by decide) ?_
        exact W.iret (v := 3) hx hb hr (fun t9 ht _ => ⟨_, rfl, (by unfold sa_why; simp [c_6, c_22, c_39]), ht⟩) (fun _ h => nomatch h) dX0_obstacle_43
    · skip
      have c_22 := Int32.not_le.mp c_22
      refine lv_iconst (v := 2) hx hb dX0_obstacle_25 (by decide) ?_
      exact W.iret (v := 2) hx hb hr (fun t9 ht _ => ⟨_, rfl, (by unfold sa_why; simp [c_6, c_22]), ht⟩) (fun _ h => nomatch h) dX0_obstacle_26
  · skip
    refine lv_iconst (v := 1) hx hb dX0_obstacle_9 (by decide) ?_
    exact W.iret (v := 1) hx hb hr (fun t9 ht _ => ⟨_, rfl, (by unfold sa_why; simp [c_6]), ht⟩) (fun _ h => nomatch h) dX0_obstacle_10

set_option maxHeartbeats 4000000 in
set_option maxRecDepth 100000 in
theorem c_X0_audience (l : Launch) (G : va_G) (cI cZ cL : ClassId) (a : Nat → Nat) (σ : sa_St) (hI : sa_I σ) (o st : Int32) (ho : vp_in o (σ.1 1)) : sa_Rd l yX0_audience wsX0_audience ({ frames := 2, cells := 0, slots := 0, locals := 43 }) G cI cZ cL (sa_W0 cI cZ a σ) [.ref (a 0), .int (o), .int (st)] (sa_sum σ o st 0 (σ.1 2)) := by
  obtain ⟨hnb, hno, hns, hgr, hor, hbr, hai⟩ := id hI
  refine Met.ofW (cc := cX0_audience) (maxL := 5) (ret := (some .int)) (by decide) rfl ?_
  intro p e s m args below meth c s₁ B9 hml hv
  obtain ⟨rfl, hP, hK⟩ := hv
  have hx := B9.exec
  have hb := B9.bytes
  have hr := B9.returns
  have hlk := B9.notSynchronized
  have hts := atoms_spec (ws := wsX0_audience) B9.pre
  have hown : s.vm.findClass RX0 = some m.cls := findClass_of_methodNamed B9.named
  have S : CallFix p m c cX0_audience 5 s _ wsX0_audience RX0 := ⟨hx, hb, hml, hown, hts⟩
  have hin : ∀ w ∈ wsX00, w ∈ wsX0_audience := by decide +kernel
  have hl := lv_entry ([.ref (a 0), .int (o), .int (st)]) (n := 5) (Nat.le_of_ble_eq_true rfl)
  rw [lg_entry_eq]
  generalize (lg_sl ([.ref (a 0), .int (o), .int (st)]) ++ List.replicate (5 - (lg_sl ([.ref (a 0), .int (o), .int (st)])).length) Slot.unset).toArray = ls at hl ⊢
  have hl : lv_has ls 5 [(0, .ref (a 0)), (1, .int (o)), (2, .int (st))] := hl
  refine lv_iconst (v := 0) hx hb dX0_audience_0 (by decide) ?_
  refine lv_istore_n (lv' := [(3, .int (0)), (0, .ref (a 0)), (1, .int (o)), (2, .int (st))]) hx hb dX0_audience_1 rfl hl (by decide) rfl (fun ls hl => ?_)
  refine lv_iconst (v := 0) hx hb dX0_audience_2 (by decide) ?_
  refine lv_istore (lv' := [(4, .int (0)), (3, .int (0)), (0, .ref (a 0)), (1, .int (o)), (2, .int (st))]) hx hb dX0_audience_3 hl (by decide) rfl (fun ls hl => ?_)
  have loop : ∀ (n k : Nat), k + n = σ.1 2 → ∀ (x1 : Int32), x1 = sa_sum σ o st 0 k →   ∀ ls : Array Slot, lv_has ls 5 [(4, .int (nI k)), (3, .int (x1)), (0, .ref (a 0)), (1, .int (o)), (2, .int (st))] → W p l e (headSpec wsX0_audience ({ frames := 2, cells := 0, slots := 0, locals := 43 })).room s m ([Value.ref (a 0), Value.int (o), Value.int (st)] : List Value).toArray below meth c s.heap [] 0 0 (MQ below (vp_Si (fun z => z = sa_sum σ o st 0 (σ.1 2))) ([Value.ref (a 0), Value.int (o), Value.int (st)] : List Value).toArray s 0 0 (fun _ => False)) (F0 m 5 ls []) := by
    intro n
    induction n with
    | zero =>
      intro k hk x1 hx1  ls hl
      have hk2 : k = σ.1 2 := by omega
      subst hk2
      refine lv_iload hx hb dX0_audience_5 (lv_at hl 0 rfl) ?_
      refine lv_aload_n hx hb dX0_audience_7 rfl (lv_at hl 2 rfl) ?_
      refine sa_g0_spotCount S hin hK hP (by decide +kernel) dX0_audience_8 ?_
      refine lv_icmp_ge (tgt := 57) hx hb dX0_audience_11 (by decide) (fun _ => ?_) (fun c9 => absurd (nI_le (Nat.le_refl _) (by omega)) c9)
      refine lv_iload_n hx hb dX0_audience_57 rfl (lv_at hl 1 rfl) ?_
      exact W.iret (v := x1) hx hb hr (fun t9 ht _ => ⟨_, rfl, hx1, ht⟩) (fun _ h => nomatch h) dX0_audience_58
    | succ n ih =>
      intro k hk x1 hx1  ls hl
      have hkn : k < σ.1 2 := by omega
      refine lv_iload hx hb dX0_audience_5 (lv_at hl 0 rfl) ?_
      refine lv_aload_n hx hb dX0_audience_7 rfl (lv_at hl 2 rfl) ?_
      refine sa_g0_spotCount S hin hK hP (by decide +kernel) dX0_audience_8 ?_
      refine lv_icmp_ge (tgt := 57) hx hb dX0_audience_11 (by decide) (fun c9 => absurd c9 (nI_ge (by omega) (by omega))) (fun _ => ?_)
      refine lv_aload_n hx hb dX0_audience_14 rfl (lv_at hl 2 rfl) ?_
      refine sa_g0_spotOrder S hin hK hP (by decide +kernel) dX0_audience_15 ?_
      refine lv_iload hx hb dX0_audience_18 (lv_at hl 0 rfl) ?_
      refine sa_ldk 12 S hK hP rfl (by omega) (by decide) dX0_audience_20 ?_
      refine lv_iload_n hx hb dX0_audience_21 rfl (lv_at hl 3 rfl) ?_
      refine lv_icmp_ne (tgt := 51) hx hb dX0_audience_22 (by decide) (fun c_22 => ?_) (fun c_22 => ?_)
      · skip
        refine lv_iinc (v := nI (k + 1)) (lv' := [(4, .int (nI (k + 1))), (3, .int (x1)), (0, .ref (a 0)), (1, .int (o)), (2, .int (st))]) hx hb dX0_audience_51 hl (k := 0) rfl (nI_1 k) (by decide) rfl (fun ls hl => ?_)
        refine lv_goto (tgt := 5) hx hb dX0_audience_54 (by decide) ?_
        exact ih (k + 1) (by omega) x1 (by simp [sa_sum, hx1, sa_sd, sa_sec, sa_rat, sa_adv, sa_cat, sa_cnt, sa_aud, sa_less, sa_w, c_22])  ls (lv_sub hl [0, 1, 2, 3, 4] rfl)
      · skip
        refine lv_aload_n hx hb dX0_audience_25 rfl (lv_at hl 2 rfl) ?_
        refine sa_g0_spotState S hin hK hP (by decide +kernel) dX0_audience_26 ?_
        refine lv_iload hx hb dX0_audience_29 (lv_at hl 0 rfl) ?_
        refine sa_ldk 14 S hK hP rfl (by omega) (by decide) dX0_audience_31 ?_
        refine lv_iload_n hx hb dX0_audience_32 rfl (lv_at hl 4 rfl) ?_
        refine lv_icmp_ne (tgt := 51) hx hb dX0_audience_33 (by decide) (fun c_33 => ?_) (fun c_33 => ?_)
        · skip
          refine lv_iinc (v := nI (k + 1)) (lv' := [(4, .int (nI (k + 1))), (3, .int (x1)), (0, .ref (a 0)), (1, .int (o)), (2, .int (st))]) hx hb dX0_audience_51 hl (k := 0) rfl (nI_1 k) (by decide) rfl (fun ls hl => ?_)
          refine lv_goto (tgt := 5) hx hb dX0_audience_54 (by decide) ?_
          exact ih (k + 1) (by omega) x1 (by simp [sa_sum, hx1, sa_sd, sa_sec, sa_rat, sa_adv, sa_cat, sa_cnt, sa_aud, sa_less, sa_w, c_22, c_33])  ls (lv_sub hl [0, 1, 2, 3, 4] rfl)
        · skip
          refine lv_iload_n hx hb dX0_audience_36 rfl (lv_at hl 1 rfl) ?_
          refine lv_aload_n hx hb dX0_audience_37 rfl (lv_at hl 2 rfl) ?_
          refine lv_iload_n hx hb dX0_audience_38 rfl (lv_at hl 3 rfl) ?_
          refine lv_aload_n hx hb dX0_audience_39 rfl (lv_at hl 2 rfl) ?_
          refine sa_g0_spotBreak S hin hK hP (by decide +kernel) dX0_audience_40 ?_
          refine lv_iload hx hb dX0_audience_43 (lv_at hl 0 rfl) ?_
          refine sa_ldk 13 S hK hP rfl (by omega) (by decide) dX0_audience_45 ?_
          refine sa_kRd (As := [.int (o), .int (σ.2 13 k)]) (rest := [.int (x1)]) S (c_X0_ratingFor l G cI cZ cL a σ hI o (σ.2 13 k) ho (hbr k (by omega))) (cwV 2 hts gX0_audience_X0_ratingFor rfl rfl rfl (by decide +kernel) ⟨Nat.le_of_ble_eq_true rfl, Nat.le_of_ble_eq_true rfl⟩) hP hK (ci := 0) rfl rfl rfl hl.1 (Nat.le_of_ble_eq_true rfl) rfl dX0_audience_46 ⟨Nat.zero_le _, Nat.zero_le _⟩ ?_
          refine lv_iadd hx hb dX0_audience_49 ?_
          refine lv_istore_n (lv' := [(3, .int (x1 + (sa_rat σ o (σ.2 13 k)))), (4, .int (nI k)), (0, .ref (a 0)), (1, .int (o)), (2, .int (st))]) hx hb dX0_audience_50 rfl hl (by decide) rfl (fun ls hl => ?_)
          refine lv_iinc (v := nI (k + 1)) (lv' := [(4, .int (nI (k + 1))), (3, .int (x1 + (sa_rat σ o (σ.2 13 k)))), (0, .ref (a 0)), (1, .int (o)), (2, .int (st))]) hx hb dX0_audience_51 hl (k := 1) rfl (nI_1 k) (by decide) rfl (fun ls hl => ?_)
          refine lv_goto (tgt := 5) hx hb dX0_audience_54 (by decide) ?_
          exact ih (k + 1) (by omega) (x1 + (sa_rat σ o (σ.2 13 k))) (by simp [sa_sum, hx1, sa_sd, sa_sec, sa_rat, sa_adv, sa_cat, sa_cnt, sa_aud, sa_less, sa_w, c_22, c_33])  ls (lv_sub hl [0, 1, 2, 3, 4] rfl)
  exact loop (σ.1 2) 0 (Nat.zero_add _) 0 rfl  ls (lv_sub hl [0, 1, 2, 3, 4] rfl)

set_option maxHeartbeats 4000000 in
set_option maxRecDepth 100000 in
theorem c_X0_isShortOfPromise (l : Launch) (G : va_G) (cI cZ cL : ClassId) (a : Nat → Nat) (σ : sa_St) (hI : sa_I σ) (o : Int32) (ho : vp_in o (σ.1 1)) : sa_Rd l yX0_isShortOfPromise wsX0_isShortOfPromise ({ frames := 3, cells := 0, slots := 0, locals := 67 }) G cI cZ cL (sa_W0 cI cZ a σ) [.ref (a 0), .int (o)] (sa_b (sa_aud σ o 1 + sa_aud σ o 0 < σ.2 9 o.toNatClampNeg)) := by
  obtain ⟨hnb, hno, hns, hgr, hor, hbr, hai⟩ := id hI
  refine Met.ofW (cc := cX0_isShortOfPromise) (maxL := 2) (ret := (some .boolean)) (by decide) rfl ?_
  intro p e s m args below meth c s₁ B9 hml hv
  obtain ⟨rfl, hP, hK⟩ := hv
  have hx := B9.exec
  have hb := B9.bytes
  have hr := B9.returns
  have hlk := B9.notSynchronized
  have hts := atoms_spec (ws := wsX0_isShortOfPromise) B9.pre
  have hown : s.vm.findClass RX0 = some m.cls := findClass_of_methodNamed B9.named
  have S : CallFix p m c cX0_isShortOfPromise 2 s _ wsX0_isShortOfPromise RX0 := ⟨hx, hb, hml, hown, hts⟩
  have hin : ∀ w ∈ wsX00, w ∈ wsX0_isShortOfPromise := by decide +kernel
  have hl := lv_entry ([.ref (a 0), .int (o)]) (n := 2) (Nat.le_of_ble_eq_true rfl)
  rw [lg_entry_eq]
  generalize (lg_sl ([.ref (a 0), .int (o)]) ++ List.replicate (2 - (lg_sl ([.ref (a 0), .int (o)])).length) Slot.unset).toArray = ls at hl ⊢
  have hl : lv_has ls 2 [(0, .ref (a 0)), (1, .int (o))] := hl
  refine lv_aload_n hx hb dX0_isShortOfPromise_0 rfl (lv_at hl 0 rfl) ?_
  refine lv_iload_n hx hb dX0_isShortOfPromise_1 rfl (lv_at hl 1 rfl) ?_
  refine lv_iconst (v := 1) hx hb dX0_isShortOfPromise_2 (by decide) ?_
  refine sa_kRd (As := [.int (o), .int (1)]) (rest := []) S (c_X0_audience l G cI cZ cL a σ hI o 1 ho) (cwV 2 hts gX0_isShortOfPromise_X0_audience rfl rfl rfl (by decide +kernel) ⟨Nat.le_of_ble_eq_true rfl, Nat.le_of_ble_eq_true rfl⟩) hP hK (ci := 0) rfl rfl rfl hl.1 (Nat.le_of_ble_eq_true rfl) rfl dX0_isShortOfPromise_3 ⟨Nat.zero_le _, Nat.zero_le _⟩ ?_
  refine lv_aload_n hx hb dX0_isShortOfPromise_6 rfl (lv_at hl 0 rfl) ?_
  refine lv_iload_n hx hb dX0_isShortOfPromise_7 rfl (lv_at hl 1 rfl) ?_
  refine lv_iconst (v := 0) hx hb dX0_isShortOfPromise_8 (by decide) ?_
  refine sa_kRd (As := [.int (o), .int (0)]) (rest := [.int (sa_sum σ o 1 0 (σ.1 2))]) S (c_X0_audience l G cI cZ cL a σ hI o 0 ho) (cwV 2 hts gX0_isShortOfPromise_X0_audience rfl rfl rfl (by decide +kernel) ⟨Nat.le_of_ble_eq_true rfl, Nat.le_of_ble_eq_true rfl⟩) hP hK (ci := 0) rfl rfl rfl hl.1 (Nat.le_of_ble_eq_true rfl) rfl dX0_isShortOfPromise_9 ⟨Nat.zero_le _, Nat.zero_le _⟩ ?_
  refine lv_iadd hx hb dX0_isShortOfPromise_12 ?_
  refine lv_aload_n hx hb dX0_isShortOfPromise_13 rfl (lv_at hl 0 rfl) ?_
  refine sa_g0_orderPromise S hin hK hP (by decide +kernel) dX0_isShortOfPromise_14 ?_
  refine lv_iload_n hx hb dX0_isShortOfPromise_17 rfl (lv_at hl 1 rfl) ?_
  refine sa_ld 9 S hK hP rfl (sa_vm ho (by omega)) dX0_isShortOfPromise_18 ?_
  refine lv_icmp_ge (tgt := 26) hx hb dX0_isShortOfPromise_19 (by decide) (fun c_19 => ?_) (fun c_19 => ?_)
  · skip
    have c_19 := Int32.not_lt.mpr c_19
    refine lv_iconst (v := 0) hx hb dX0_isShortOfPromise_26 (by decide) ?_
    exact W.zret (v := 0) (ty := .boolean) hx hb hr rfl (fun t9 ht _ => ⟨_, rfl, (sa_bf (by simp [sa_sd, sa_sec, sa_rat, sa_adv, sa_cat, sa_cnt, sa_aud, sa_less, sa_w, c_19])).symm, ht⟩) (fun _ h => nomatch h) dX0_isShortOfPromise_27
  · skip
    have c_19 := Int32.not_le.mp c_19
    refine lv_iconst (v := 1) hx hb dX0_isShortOfPromise_22 (by decide) ?_
    refine lv_goto (tgt := 27) hx hb dX0_isShortOfPromise_23 (by decide) ?_
    exact W.zret (v := 1) (ty := .boolean) hx hb hr rfl (fun t9 ht _ => ⟨_, rfl, (sa_bt (by simp [sa_sd, sa_sec, sa_rat, sa_adv, sa_cat, sa_cnt, sa_aud, sa_less, sa_w, c_19])).symm, ht⟩) (fun _ h => nomatch h) dX0_isShortOfPromise_27

set_option maxHeartbeats 4000000 in
set_option maxRecDepth 100000 in
theorem c_X0_owedTo (l : Launch) (G : va_G) (cI cZ cL : ClassId) (a : Nat → Nat) (σ : sa_St) (hI : sa_I σ) (o : Int32) (ho : vp_in o (σ.1 1)) : sa_Rd l yX0_owedTo wsX0_owedTo ({ frames := 3, cells := 0, slots := 0, locals := 67 }) G cI cZ cL (sa_W0 cI cZ a σ) [.ref (a 0), .int (o)] (sa_owes σ o) := by
  obtain ⟨hnb, hno, hns, hgr, hor, hbr, hai⟩ := id hI
  refine Met.ofW (cc := cX0_owedTo) (maxL := 2) (ret := (some .int)) (by decide) rfl ?_
  intro p e s m args below meth c s₁ B9 hml hv
  obtain ⟨rfl, hP, hK⟩ := hv
  have hx := B9.exec
  have hb := B9.bytes
  have hr := B9.returns
  have hlk := B9.notSynchronized
  have hts := atoms_spec (ws := wsX0_owedTo) B9.pre
  have hown : s.vm.findClass RX0 = some m.cls := findClass_of_methodNamed B9.named
  have S : CallFix p m c cX0_owedTo 2 s _ wsX0_owedTo RX0 := ⟨hx, hb, hml, hown, hts⟩
  have hin : ∀ w ∈ wsX00, w ∈ wsX0_owedTo := by decide +kernel
  have hl := lv_entry ([.ref (a 0), .int (o)]) (n := 2) (Nat.le_of_ble_eq_true rfl)
  rw [lg_entry_eq]
  generalize (lg_sl ([.ref (a 0), .int (o)]) ++ List.replicate (2 - (lg_sl ([.ref (a 0), .int (o)])).length) Slot.unset).toArray = ls at hl ⊢
  have hl : lv_has ls 2 [(0, .ref (a 0)), (1, .int (o))] := hl
  refine lv_aload_n hx hb dX0_owedTo_0 rfl (lv_at hl 0 rfl) ?_
  refine sa_g0_orderClosed S hin hK hP (by decide +kernel) dX0_owedTo_1 ?_
  refine lv_iload_n hx hb dX0_owedTo_4 rfl (lv_at hl 1 rfl) ?_
  refine sa_ldz 11 S hK hP rfl (sa_vm ho (by omega)) dX0_owedTo_5 ?_
  refine lv_if_ne (tgt := 11) hx hb dX0_owedTo_6 (by decide) (fun c_6 => ?_) (fun c_6 => ?_)
  · skip
    refine lv_aload_n hx hb dX0_owedTo_11 rfl (lv_at hl 0 rfl) ?_
    refine sa_g0_orderPromise S hin hK hP (by decide +kernel) dX0_owedTo_12 ?_
    refine lv_iload_n hx hb dX0_owedTo_15 rfl (lv_at hl 1 rfl) ?_
    refine sa_ld 9 S hK hP rfl (sa_vm ho (by omega)) dX0_owedTo_16 ?_
    refine lv_aload_n hx hb dX0_owedTo_17 rfl (lv_at hl 0 rfl) ?_
    refine lv_iload_n hx hb dX0_owedTo_18 rfl (lv_at hl 1 rfl) ?_
    refine lv_iconst (v := 1) hx hb dX0_owedTo_19 (by decide) ?_
    refine sa_kRd (As := [.int (o), .int (1)]) (rest := [.int (σ.2 9 o.toNatClampNeg)]) S (c_X0_audience l G cI cZ cL a σ hI o 1 ho) (cwV 2 hts gX0_owedTo_X0_audience rfl rfl rfl (by decide +kernel) ⟨Nat.le_of_ble_eq_true rfl, Nat.le_of_ble_eq_true rfl⟩) hP hK (ci := 0) rfl rfl rfl hl.1 (Nat.le_of_ble_eq_true rfl) rfl dX0_owedTo_20 ⟨Nat.zero_le _, Nat.zero_le _⟩ ?_
    refine lv_isub hx hb dX0_owedTo_23 ?_
    refine lv_iconst (v := 0) hx hb dX0_owedTo_24 (by decide) ?_
    refine va_mmax hx hb (hml.trans hl.1.symm) hown (hts (.methodLink RX0 169 Lib.Math.max.name) (by decide +kernel)) (hts (.static Lib.Math.max.name) (by decide +kernel)) (hts (.initialized "java/lang/Math") (by decide +kernel)) (hts (.code Lib.Math.max.name Lib.Math.max.code 2 (some .int)) (by decide +kernel)) (Nat.le_of_ble_eq_true rfl) (Nat.le_of_ble_eq_true rfl) (Nat.le_of_ble_eq_true rfl) (Nat.le_of_ble_eq_true rfl) dX0_owedTo_25 ?_
    exact W.iret (v := if (σ.2 9 o.toNatClampNeg) - (sa_sum σ o 1 0 (σ.1 2)) < 0 then 0 else (σ.2 9 o.toNatClampNeg) - (sa_sum σ o 1 0 (σ.1 2))) hx hb hr (fun t9 ht _ => ⟨_, rfl, (by rw [sa_max0]; unfold sa_owes; simp [sa_sd, sa_sec, sa_rat, sa_adv, sa_cat, sa_cnt, sa_aud, sa_less, sa_w, c_6]), ht⟩) (fun _ h => nomatch h) dX0_owedTo_28
  · skip
    refine lv_iconst (v := 0) hx hb dX0_owedTo_9 (by decide) ?_
    exact W.iret (v := 0) hx hb hr (fun t9 ht _ => ⟨_, rfl, (by unfold sa_owes; simp [c_6]), ht⟩) (fun _ h => nomatch h) dX0_owedTo_10

set_option maxHeartbeats 4000000 in
set_option maxRecDepth 100000 in
theorem c_X0_restOf (l : Launch) (G : va_G) (cI cZ cL : ClassId) (a : Nat → Nat) (σ : sa_St) (hI : sa_I σ) (o : Int32) (ho : vp_in o (σ.1 1)) : sa_Rd l yX0_restOf wsX0_restOf ({ frames := 4, cells := 0, slots := 0, locals := 88 }) G cI cZ cL (sa_W0 cI cZ a σ) [.ref (a 0), .int (o)] (sa_left σ o) := by
  obtain ⟨hnb, hno, hns, hgr, hor, hbr, hai⟩ := id hI
  refine Met.ofW (cc := cX0_restOf) (maxL := 4) (ret := (some .int)) (by decide) rfl ?_
  intro p e s m args below meth c s₁ B9 hml hv
  obtain ⟨rfl, hP, hK⟩ := hv
  have hx := B9.exec
  have hb := B9.bytes
  have hr := B9.returns
  have hlk := B9.notSynchronized
  have hts := atoms_spec (ws := wsX0_restOf) B9.pre
  have hown : s.vm.findClass RX0 = some m.cls := findClass_of_methodNamed B9.named
  have S : CallFix p m c cX0_restOf 4 s _ wsX0_restOf RX0 := ⟨hx, hb, hml, hown, hts⟩
  have hin : ∀ w ∈ wsX00, w ∈ wsX0_restOf := by decide +kernel
  have hl := lv_entry ([.ref (a 0), .int (o)]) (n := 4) (Nat.le_of_ble_eq_true rfl)
  rw [lg_entry_eq]
  generalize (lg_sl ([.ref (a 0), .int (o)]) ++ List.replicate (4 - (lg_sl ([.ref (a 0), .int (o)])).length) Slot.unset).toArray = ls at hl ⊢
  have hl : lv_has ls 4 [(0, .ref (a 0)), (1, .int (o))] := hl
  refine lv_aload_n hx hb dX0_restOf_0 rfl (lv_at hl 0 rfl) ?_
  refine lv_iload_n hx hb dX0_restOf_1 rfl (lv_at hl 1 rfl) ?_
  refine sa_kRd (As := [.int (o)]) (rest := []) S (c_X0_owedTo l G cI cZ cL a σ hI o ho) (cwV 1 hts gX0_restOf_X0_owedTo rfl rfl rfl (by decide +kernel) ⟨Nat.le_of_ble_eq_true rfl, Nat.le_of_ble_eq_true rfl⟩) hP hK (ci := 0) rfl rfl rfl hl.1 (Nat.le_of_ble_eq_true rfl) rfl dX0_restOf_2 ⟨Nat.zero_le _, Nat.zero_le _⟩ ?_
  refine lv_istore_n (lv' := [(2, .int (sa_owes σ o)), (0, .ref (a 0)), (1, .int (o))]) hx hb dX0_restOf_5 rfl hl (by decide) rfl (fun ls hl => ?_)
  refine lv_iconst (v := 0) hx hb dX0_restOf_6 (by decide) ?_
  refine lv_istore_n (lv' := [(3, .int (0)), (2, .int (sa_owes σ o)), (0, .ref (a 0)), (1, .int (o))]) hx hb dX0_restOf_7 rfl hl (by decide) rfl (fun ls hl => ?_)
  have loop : ∀ (n k : Nat), k + n = σ.1 2 → ∀ (x1 : Int32), x1 = sa_owes σ o - sa_sum σ o 0 1 k →   ∀ ls : Array Slot, lv_has ls 4 [(3, .int (nI k)), (2, .int (x1)), (0, .ref (a 0)), (1, .int (o))] → W p l e (headSpec wsX0_restOf ({ frames := 4, cells := 0, slots := 0, locals := 88 })).room s m ([Value.ref (a 0), Value.int (o)] : List Value).toArray below meth c s.heap [] 0 0 (MQ below (vp_Si (fun z => z = sa_left σ o)) ([Value.ref (a 0), Value.int (o)] : List Value).toArray s 0 0 (fun _ => False)) (F0 m 8 ls []) := by
    intro n
    induction n with
    | zero =>
      intro k hk x1 hx1  ls hl
      have hk2 : k = σ.1 2 := by omega
      subst hk2
      refine lv_iload_n hx hb dX0_restOf_8 rfl (lv_at hl 0 rfl) ?_
      refine lv_aload_n hx hb dX0_restOf_9 rfl (lv_at hl 2 rfl) ?_
      refine sa_g0_spotCount S hin hK hP (by decide +kernel) dX0_restOf_10 ?_
      refine lv_icmp_ge (tgt := 64) hx hb dX0_restOf_13 (by decide) (fun _ => ?_) (fun c9 => absurd (nI_le (Nat.le_refl _) (by omega)) c9)
      refine lv_iload_n hx hb dX0_restOf_64 rfl (lv_at hl 1 rfl) ?_
      refine lv_iconst (v := 0) hx hb dX0_restOf_65 (by decide) ?_
      refine va_mmax hx hb (hml.trans hl.1.symm) hown (hts (.methodLink RX0 169 Lib.Math.max.name) (by decide +kernel)) (hts (.static Lib.Math.max.name) (by decide +kernel)) (hts (.initialized "java/lang/Math") (by decide +kernel)) (hts (.code Lib.Math.max.name Lib.Math.max.code 2 (some .int)) (by decide +kernel)) (Nat.le_of_ble_eq_true rfl) (Nat.le_of_ble_eq_true rfl) (Nat.le_of_ble_eq_true rfl) (Nat.le_of_ble_eq_true rfl) dX0_restOf_66 ?_
      exact W.iret (v := if x1 < 0 then 0 else x1) hx hb hr (fun t9 ht _ => ⟨_, rfl, (by rw [sa_max0, hx1]; rfl), ht⟩) (fun _ h => nomatch h) dX0_restOf_69
    | succ n ih =>
      intro k hk x1 hx1  ls hl
      have hkn : k < σ.1 2 := by omega
      refine lv_iload_n hx hb dX0_restOf_8 rfl (lv_at hl 0 rfl) ?_
      refine lv_aload_n hx hb dX0_restOf_9 rfl (lv_at hl 2 rfl) ?_
      refine sa_g0_spotCount S hin hK hP (by decide +kernel) dX0_restOf_10 ?_
      refine lv_icmp_ge (tgt := 64) hx hb dX0_restOf_13 (by decide) (fun c9 => absurd c9 (nI_ge (by omega) (by omega))) (fun _ => ?_)
      refine lv_aload_n hx hb dX0_restOf_16 rfl (lv_at hl 2 rfl) ?_
      refine sa_g0_spotOrder S hin hK hP (by decide +kernel) dX0_restOf_17 ?_
      refine lv_iload_n hx hb dX0_restOf_20 rfl (lv_at hl 0 rfl) ?_
      refine sa_ldk 12 S hK hP rfl (by omega) (by decide) dX0_restOf_21 ?_
      refine lv_iload_n hx hb dX0_restOf_22 rfl (lv_at hl 3 rfl) ?_
      refine lv_icmp_ne (tgt := 58) hx hb dX0_restOf_23 (by decide) (fun c_23 => ?_) (fun c_23 => ?_)
      · skip
        refine lv_iinc (v := nI (k + 1)) (lv' := [(3, .int (nI (k + 1))), (2, .int (x1)), (0, .ref (a 0)), (1, .int (o))]) hx hb dX0_restOf_58 hl (k := 0) rfl (nI_1 k) (by decide) rfl (fun ls hl => ?_)
        refine lv_goto (tgt := 8) hx hb dX0_restOf_61 (by decide) ?_
        exact ih (k + 1) (by omega) x1 (by simp [sa_sum, sa_subadd, hx1, sa_sd, sa_sec, sa_rat, sa_adv, sa_cat, sa_cnt, sa_aud, sa_less, sa_w, c_23])  ls (lv_sub hl [0, 1, 2, 3] rfl)
      · skip
        refine lv_aload_n hx hb dX0_restOf_26 rfl (lv_at hl 2 rfl) ?_
        refine sa_g0_spotFree S hin hK hP (by decide +kernel) dX0_restOf_27 ?_
        refine lv_iload_n hx hb dX0_restOf_30 rfl (lv_at hl 0 rfl) ?_
        refine sa_ldzk 15 S hK hP rfl (by omega) (by decide) dX0_restOf_31 ?_
        refine lv_if_eq (tgt := 58) hx hb dX0_restOf_32 (by decide) (fun c_32 => ?_) (fun c_32 => ?_)
        · skip
          refine lv_iinc (v := nI (k + 1)) (lv' := [(3, .int (nI (k + 1))), (2, .int (x1)), (0, .ref (a 0)), (1, .int (o))]) hx hb dX0_restOf_58 hl (k := 0) rfl (nI_1 k) (by decide) rfl (fun ls hl => ?_)
          refine lv_goto (tgt := 8) hx hb dX0_restOf_61 (by decide) ?_
          exact ih (k + 1) (by omega) x1 (by simp [sa_sum, sa_subadd, hx1, sa_sd, sa_sec, sa_rat, sa_adv, sa_cat, sa_cnt, sa_aud, sa_less, sa_w, c_23, c_32])  ls (lv_sub hl [0, 1, 2, 3] rfl)
        · skip
          refine lv_aload_n hx hb dX0_restOf_35 rfl (lv_at hl 2 rfl) ?_
          refine sa_g0_spotState S hin hK hP (by decide +kernel) dX0_restOf_36 ?_
          refine lv_iload_n hx hb dX0_restOf_39 rfl (lv_at hl 0 rfl) ?_
          refine sa_ldk 14 S hK hP rfl (by omega) (by decide) dX0_restOf_40 ?_
          refine lv_if_ne (tgt := 58) hx hb dX0_restOf_41 (by decide) (fun c_41 => ?_) (fun c_41 => ?_)
          · skip
            refine lv_iinc (v := nI (k + 1)) (lv' := [(3, .int (nI (k + 1))), (2, .int (x1)), (0, .ref (a 0)), (1, .int (o))]) hx hb dX0_restOf_58 hl (k := 0) rfl (nI_1 k) (by decide) rfl (fun ls hl => ?_)
            refine lv_goto (tgt := 8) hx hb dX0_restOf_61 (by decide) ?_
            exact ih (k + 1) (by omega) x1 (by simp [sa_sum, sa_subadd, hx1, sa_sd, sa_sec, sa_rat, sa_adv, sa_cat, sa_cnt, sa_aud, sa_less, sa_w, c_23, c_32, c_41])  ls (lv_sub hl [0, 1, 2, 3] rfl)
          · skip
            refine lv_iload_n hx hb dX0_restOf_44 rfl (lv_at hl 1 rfl) ?_
            refine lv_aload_n hx hb dX0_restOf_45 rfl (lv_at hl 2 rfl) ?_
            refine lv_iload_n hx hb dX0_restOf_46 rfl (lv_at hl 3 rfl) ?_
            refine lv_aload_n hx hb dX0_restOf_47 rfl (lv_at hl 2 rfl) ?_
            refine sa_g0_spotBreak S hin hK hP (by decide +kernel) dX0_restOf_48 ?_
            refine lv_iload_n hx hb dX0_restOf_51 rfl (lv_at hl 0 rfl) ?_
            refine sa_ldk 13 S hK hP rfl (by omega) (by decide) dX0_restOf_52 ?_
            refine sa_kRd (As := [.int (o), .int (σ.2 13 k)]) (rest := [.int (x1)]) S (c_X0_ratingFor l G cI cZ cL a σ hI o (σ.2 13 k) ho (hbr k (by omega))) (cwV 2 hts gX0_restOf_X0_ratingFor rfl rfl rfl (by decide +kernel) ⟨Nat.le_of_ble_eq_true rfl, Nat.le_of_ble_eq_true rfl⟩) hP hK (ci := 0) rfl rfl rfl hl.1 (Nat.le_of_ble_eq_true rfl) rfl dX0_restOf_53 ⟨Nat.zero_le _, Nat.zero_le _⟩ ?_
            refine lv_isub hx hb dX0_restOf_56 ?_
            refine lv_istore_n (lv' := [(2, .int (x1 - (sa_rat σ o (σ.2 13 k)))), (3, .int (nI k)), (0, .ref (a 0)), (1, .int (o))]) hx hb dX0_restOf_57 rfl hl (by decide) rfl (fun ls hl => ?_)
            refine lv_iinc (v := nI (k + 1)) (lv' := [(3, .int (nI (k + 1))), (2, .int (x1 - (sa_rat σ o (σ.2 13 k)))), (0, .ref (a 0)), (1, .int (o))]) hx hb dX0_restOf_58 hl (k := 1) rfl (nI_1 k) (by decide) rfl (fun ls hl => ?_)
            refine lv_goto (tgt := 8) hx hb dX0_restOf_61 (by decide) ?_
            exact ih (k + 1) (by omega) (x1 - (sa_rat σ o (σ.2 13 k))) (by simp [sa_sum, sa_subadd, hx1, sa_sd, sa_sec, sa_rat, sa_adv, sa_cat, sa_cnt, sa_aud, sa_less, sa_w, c_23, c_32, c_41])  ls (lv_sub hl [0, 1, 2, 3] rfl)
  exact loop (σ.1 2) 0 (Nat.zero_add _) (sa_owes σ o) (sa_sub0 _)  ls (lv_sub hl [0, 1, 2, 3] rfl)

set_option maxHeartbeats 4000000 in
set_option maxRecDepth 100000 in
theorem c_X0_billOf (l : Launch) (G : va_G) (cI cZ cL : ClassId) (a : Nat → Nat) (σ : sa_St) (hI : sa_I σ) (o : Int32) (ho : vp_in o (σ.1 1)) : sa_Rd l yX0_billOf wsX0_billOf ({ frames := 0, cells := 0, slots := 0, locals := 0 }) G cI cZ cL (sa_W0 cI cZ a σ) [.ref (a 0), .int (o)] (sa_bil σ o (σ.1 2)) := by
  obtain ⟨hnb, hno, hns, hgr, hor, hbr, hai⟩ := id hI
  refine Met.ofW (cc := cX0_billOf) (maxL := 4) (ret := (some .int)) (by decide) rfl ?_
  intro p e s m args below meth c s₁ B9 hml hv
  obtain ⟨rfl, hP, hK⟩ := hv
  have hx := B9.exec
  have hb := B9.bytes
  have hr := B9.returns
  have hlk := B9.notSynchronized
  have hts := atoms_spec (ws := wsX0_billOf) B9.pre
  have hown : s.vm.findClass RX0 = some m.cls := findClass_of_methodNamed B9.named
  have S : CallFix p m c cX0_billOf 4 s _ wsX0_billOf RX0 := ⟨hx, hb, hml, hown, hts⟩
  have hin : ∀ w ∈ wsX00, w ∈ wsX0_billOf := by decide +kernel
  have hl := lv_entry ([.ref (a 0), .int (o)]) (n := 4) (Nat.le_of_ble_eq_true rfl)
  rw [lg_entry_eq]
  generalize (lg_sl ([.ref (a 0), .int (o)]) ++ List.replicate (4 - (lg_sl ([.ref (a 0), .int (o)])).length) Slot.unset).toArray = ls at hl ⊢
  have hl : lv_has ls 4 [(0, .ref (a 0)), (1, .int (o))] := hl
  refine lv_iconst (v := 0) hx hb dX0_billOf_0 (by decide) ?_
  refine lv_istore_n (lv' := [(2, .int (0)), (0, .ref (a 0)), (1, .int (o))]) hx hb dX0_billOf_1 rfl hl (by decide) rfl (fun ls hl => ?_)
  refine lv_iconst (v := 0) hx hb dX0_billOf_2 (by decide) ?_
  refine lv_istore_n (lv' := [(3, .int (0)), (2, .int (0)), (0, .ref (a 0)), (1, .int (o))]) hx hb dX0_billOf_3 rfl hl (by decide) rfl (fun ls hl => ?_)
  have loop : ∀ (n k : Nat), k + n = σ.1 2 → ∀ (x1 : Int32), x1 = sa_bil σ o k →   ∀ ls : Array Slot, lv_has ls 4 [(3, .int (nI k)), (2, .int (x1)), (0, .ref (a 0)), (1, .int (o))] → W p l e (headSpec wsX0_billOf ({ frames := 0, cells := 0, slots := 0, locals := 0 })).room s m ([Value.ref (a 0), Value.int (o)] : List Value).toArray below meth c s.heap [] 0 0 (MQ below (vp_Si (fun z => z = sa_bil σ o (σ.1 2))) ([Value.ref (a 0), Value.int (o)] : List Value).toArray s 0 0 (fun _ => False)) (F0 m 4 ls []) := by
    intro n
    induction n with
    | zero =>
      intro k hk x1 hx1  ls hl
      have hk2 : k = σ.1 2 := by omega
      subst hk2
      refine lv_iload_n hx hb dX0_billOf_4 rfl (lv_at hl 0 rfl) ?_
      refine lv_aload_n hx hb dX0_billOf_5 rfl (lv_at hl 2 rfl) ?_
      refine sa_g0_spotCount S hin hK hP (by decide +kernel) dX0_billOf_6 ?_
      refine lv_icmp_ge (tgt := 56) hx hb dX0_billOf_9 (by decide) (fun _ => ?_) (fun c9 => absurd (nI_le (Nat.le_refl _) (by omega)) c9)
      refine lv_iload_n hx hb dX0_billOf_56 rfl (lv_at hl 1 rfl) ?_
      exact W.iret (v := x1) hx hb hr (fun t9 ht _ => ⟨_, rfl, hx1, ht⟩) (fun _ h => nomatch h) dX0_billOf_57
    | succ n ih =>
      intro k hk x1 hx1  ls hl
      have hkn : k < σ.1 2 := by omega
      refine lv_iload_n hx hb dX0_billOf_4 rfl (lv_at hl 0 rfl) ?_
      refine lv_aload_n hx hb dX0_billOf_5 rfl (lv_at hl 2 rfl) ?_
      refine sa_g0_spotCount S hin hK hP (by decide +kernel) dX0_billOf_6 ?_
      refine lv_icmp_ge (tgt := 56) hx hb dX0_billOf_9 (by decide) (fun c9 => absurd c9 (nI_ge (by omega) (by omega))) (fun _ => ?_)
      refine lv_aload_n hx hb dX0_billOf_12 rfl (lv_at hl 2 rfl) ?_
      refine sa_g0_spotOrder S hin hK hP (by decide +kernel) dX0_billOf_13 ?_
      refine lv_iload_n hx hb dX0_billOf_16 rfl (lv_at hl 0 rfl) ?_
      refine sa_ldk 12 S hK hP rfl (by omega) (by decide) dX0_billOf_17 ?_
      refine lv_iload_n hx hb dX0_billOf_18 rfl (lv_at hl 3 rfl) ?_
      refine lv_icmp_ne (tgt := 50) hx hb dX0_billOf_19 (by decide) (fun c_19 => ?_) (fun c_19 => ?_)
      · skip
        refine lv_iinc (v := nI (k + 1)) (lv' := [(3, .int (nI (k + 1))), (2, .int (x1)), (0, .ref (a 0)), (1, .int (o))]) hx hb dX0_billOf_50 hl (k := 0) rfl (nI_1 k) (by decide) rfl (fun ls hl => ?_)
        refine lv_goto (tgt := 4) hx hb dX0_billOf_53 (by decide) ?_
        exact ih (k + 1) (by omega) x1 (by simp [sa_bil, hx1, sa_sd, sa_sec, sa_rat, sa_adv, sa_cat, sa_cnt, sa_aud, sa_less, sa_w, c_19])  ls (lv_sub hl [0, 1, 2, 3] rfl)
      · skip
        refine lv_aload_n hx hb dX0_billOf_22 rfl (lv_at hl 2 rfl) ?_
        refine sa_g0_spotFree S hin hK hP (by decide +kernel) dX0_billOf_23 ?_
        refine lv_iload_n hx hb dX0_billOf_26 rfl (lv_at hl 0 rfl) ?_
        refine sa_ldzk 15 S hK hP rfl (by omega) (by decide) dX0_billOf_27 ?_
        refine lv_if_ne (tgt := 50) hx hb dX0_billOf_28 (by decide) (fun c_28 => ?_) (fun c_28 => ?_)
        · skip
          refine lv_iinc (v := nI (k + 1)) (lv' := [(3, .int (nI (k + 1))), (2, .int (x1)), (0, .ref (a 0)), (1, .int (o))]) hx hb dX0_billOf_50 hl (k := 0) rfl (nI_1 k) (by decide) rfl (fun ls hl => ?_)
          refine lv_goto (tgt := 4) hx hb dX0_billOf_53 (by decide) ?_
          exact ih (k + 1) (by omega) x1 (by simp [sa_bil, hx1, sa_sd, sa_sec, sa_rat, sa_adv, sa_cat, sa_cnt, sa_aud, sa_less, sa_w, c_19, c_28])  ls (lv_sub hl [0, 1, 2, 3] rfl)
        · skip
          refine lv_aload_n hx hb dX0_billOf_31 rfl (lv_at hl 2 rfl) ?_
          refine sa_g0_spotState S hin hK hP (by decide +kernel) dX0_billOf_32 ?_
          refine lv_iload_n hx hb dX0_billOf_35 rfl (lv_at hl 0 rfl) ?_
          refine sa_ldk 14 S hK hP rfl (by omega) (by decide) dX0_billOf_36 ?_
          refine lv_iconst (v := 1) hx hb dX0_billOf_37 (by decide) ?_
          refine lv_icmp_ne (tgt := 50) hx hb dX0_billOf_38 (by decide) (fun c_38 => ?_) (fun c_38 => ?_)
          · skip
            refine lv_iinc (v := nI (k + 1)) (lv' := [(3, .int (nI (k + 1))), (2, .int (x1)), (0, .ref (a 0)), (1, .int (o))]) hx hb dX0_billOf_50 hl (k := 0) rfl (nI_1 k) (by decide) rfl (fun ls hl => ?_)
            refine lv_goto (tgt := 4) hx hb dX0_billOf_53 (by decide) ?_
            exact ih (k + 1) (by omega) x1 (by simp [sa_bil, hx1, sa_sd, sa_sec, sa_rat, sa_adv, sa_cat, sa_cnt, sa_aud, sa_less, sa_w, c_19, c_28, c_38])  ls (lv_sub hl [0, 1, 2, 3] rfl)
          · skip
            refine lv_iload_n hx hb dX0_billOf_41 rfl (lv_at hl 1 rfl) ?_
            refine lv_aload_n hx hb dX0_billOf_42 rfl (lv_at hl 2 rfl) ?_
            refine sa_g0_orderPrice S hin hK hP (by decide +kernel) dX0_billOf_43 ?_
            refine lv_iload_n hx hb dX0_billOf_46 rfl (lv_at hl 3 rfl) ?_
            refine sa_ld 8 S hK hP rfl (sa_vm ho (by omega)) dX0_billOf_47 ?_
            refine lv_iadd hx hb dX0_billOf_48 ?_
            refine lv_istore_n (lv' := [(2, .int (x1 + (σ.2 8 o.toNatClampNeg))), (3, .int (nI k)), (0, .ref (a 0)), (1, .int (o))]) hx hb dX0_billOf_49 rfl hl (by decide) rfl (fun ls hl => ?_)
            refine lv_iinc (v := nI (k + 1)) (lv' := [(3, .int (nI (k + 1))), (2, .int (x1 + (σ.2 8 o.toNatClampNeg))), (0, .ref (a 0)), (1, .int (o))]) hx hb dX0_billOf_50 hl (k := 1) rfl (nI_1 k) (by decide) rfl (fun ls hl => ?_)
            refine lv_goto (tgt := 4) hx hb dX0_billOf_53 (by decide) ?_
            exact ih (k + 1) (by omega) (x1 + (σ.2 8 o.toNatClampNeg)) (by simp [sa_bil, hx1, sa_sd, sa_sec, sa_rat, sa_adv, sa_cat, sa_cnt, sa_aud, sa_less, sa_w, c_19, c_28, c_38])  ls (lv_sub hl [0, 1, 2, 3] rfl)
  exact loop (σ.1 2) 0 (Nat.zero_add _) 0 rfl  ls (lv_sub hl [0, 1, 2, 3] rfl)

set_option maxHeartbeats 4000000 in
set_option maxRecDepth 100000 in
theorem c_X0_bestBreak (l : Launch) (G : va_G) (cI cZ cL : ClassId) (a : Nat → Nat) (σ : sa_St) (hI : sa_I σ) (o : Int32) (ho : vp_in o (σ.1 1)) : sa_Rd l yX0_bestBreak wsX0_bestBreak ({ frames := 3, cells := 0, slots := 0, locals := 67 }) G cI cZ cL (sa_W0 cI cZ a σ) [.ref (a 0), .int (o)] (sa_best σ o (σ.1 0)) := by
  obtain ⟨hnb, hno, hns, hgr, hor, hbr, hai⟩ := id hI
  refine Met.ofW (cc := cX0_bestBreak) (maxL := 6) (ret := (some .int)) (by decide) rfl ?_
  intro p e s m args below meth c s₁ B9 hml hv
  obtain ⟨rfl, hP, hK⟩ := hv
  have hx := B9.exec
  have hb := B9.bytes
  have hr := B9.returns
  have hlk := B9.notSynchronized
  have hts := atoms_spec (ws := wsX0_bestBreak) B9.pre
  have hown : s.vm.findClass RX0 = some m.cls := findClass_of_methodNamed B9.named
  have S : CallFix p m c cX0_bestBreak 6 s _ wsX0_bestBreak RX0 := ⟨hx, hb, hml, hown, hts⟩
  have hin : ∀ w ∈ wsX00, w ∈ wsX0_bestBreak := by decide +kernel
  have hl := lv_entry ([.ref (a 0), .int (o)]) (n := 6) (Nat.le_of_ble_eq_true rfl)
  rw [lg_entry_eq]
  generalize (lg_sl ([.ref (a 0), .int (o)]) ++ List.replicate (6 - (lg_sl ([.ref (a 0), .int (o)])).length) Slot.unset).toArray = ls at hl ⊢
  have hl : lv_has ls 6 [(0, .ref (a 0)), (1, .int (o))] := hl
  refine lv_iconst (v := (-1)) hx hb dX0_bestBreak_0 (by decide) ?_
  refine lv_istore_n (lv' := [(2, .int ((-1))), (0, .ref (a 0)), (1, .int (o))]) hx hb dX0_bestBreak_1 rfl hl (by decide) rfl (fun ls hl => ?_)
  refine lv_iconst (v := 0) hx hb dX0_bestBreak_2 (by decide) ?_
  refine lv_istore_n (lv' := [(3, .int (0)), (2, .int ((-1))), (0, .ref (a 0)), (1, .int (o))]) hx hb dX0_bestBreak_3 rfl hl (by decide) rfl (fun ls hl => ?_)
  refine lv_iconst (v := 0) hx hb dX0_bestBreak_4 (by decide) ?_
  refine lv_istore (lv' := [(4, .int (0)), (3, .int (0)), (2, .int ((-1))), (0, .ref (a 0)), (1, .int (o))]) hx hb dX0_bestBreak_5 hl (by decide) rfl (fun ls hl => ?_)
  have loop : ∀ (n k : Nat), k + n = σ.1 0 → ∀ (x2 : Int32), x2 = sa_best σ o k → ∀ (x3 : Int32), x3 = (if sa_best σ o k = -1 then 0 else sa_rat σ o (sa_best σ o k)) →   ∀ ls : Array Slot, lv_has ls 6 [(4, .int (nI k)), (3, .int (x3)), (2, .int (x2)), (0, .ref (a 0)), (1, .int (o))] → W p l e (headSpec wsX0_bestBreak ({ frames := 3, cells := 0, slots := 0, locals := 67 })).room s m ([Value.ref (a 0), Value.int (o)] : List Value).toArray below meth c s.heap [] 0 0 (MQ below (vp_Si (fun z => z = sa_best σ o (σ.1 0))) ([Value.ref (a 0), Value.int (o)] : List Value).toArray s 0 0 (fun _ => False)) (F0 m 7 ls []) := by
    intro n
    induction n with
    | zero =>
      intro k hk x2 hx2 x3 hx3  ls hl
      have hk2 : k = σ.1 0 := by omega
      subst hk2
      refine lv_iload hx hb dX0_bestBreak_7 (lv_at hl 0 rfl) ?_
      refine lv_aload_n hx hb dX0_bestBreak_9 rfl (lv_at hl 3 rfl) ?_
      refine sa_g0_breakCount S hin hK hP (by decide +kernel) dX0_bestBreak_10 ?_
      refine lv_icmp_ge (tgt := 58) hx hb dX0_bestBreak_13 (by decide) (fun _ => ?_) (fun c9 => absurd (nI_le (Nat.le_refl _) (by omega)) c9)
      refine lv_iload_n hx hb dX0_bestBreak_58 rfl (lv_at hl 2 rfl) ?_
      exact W.iret (v := x2) hx hb hr (fun t9 ht _ => ⟨_, rfl, hx2, ht⟩) (fun _ h => nomatch h) dX0_bestBreak_59
    | succ n ih =>
      intro k hk x2 hx2 x3 hx3  ls hl
      have hkn : k < σ.1 0 := by omega
      refine lv_iload hx hb dX0_bestBreak_7 (lv_at hl 0 rfl) ?_
      refine lv_aload_n hx hb dX0_bestBreak_9 rfl (lv_at hl 3 rfl) ?_
      refine sa_g0_breakCount S hin hK hP (by decide +kernel) dX0_bestBreak_10 ?_
      refine lv_icmp_ge (tgt := 58) hx hb dX0_bestBreak_13 (by decide) (fun c9 => absurd c9 (nI_ge (by omega) (by omega))) (fun _ => ?_)
      refine lv_aload_n hx hb dX0_bestBreak_16 rfl (lv_at hl 3 rfl) ?_
      refine lv_iload_n hx hb dX0_bestBreak_17 rfl (lv_at hl 4 rfl) ?_
      refine lv_iload hx hb dX0_bestBreak_18 (lv_at hl 0 rfl) ?_
      refine sa_kRd (As := [.int (o), .int (nI k)]) (rest := []) S (c_X0_ratingFor l G cI cZ cL a σ hI o (nI k) ho (vp_in_nI (by omega) (by omega))) (cwV 2 hts gX0_bestBreak_X0_ratingFor rfl rfl rfl (by decide +kernel) ⟨Nat.le_of_ble_eq_true rfl, Nat.le_of_ble_eq_true rfl⟩) hP hK (ci := 0) rfl rfl rfl hl.1 (Nat.le_of_ble_eq_true rfl) rfl dX0_bestBreak_20 ⟨Nat.zero_le _, Nat.zero_le _⟩ ?_
      refine lv_istore (lv' := [(5, .int (sa_rat σ o (nI k))), (4, .int (nI k)), (3, .int (x3)), (2, .int (x2)), (0, .ref (a 0)), (1, .int (o))]) hx hb dX0_bestBreak_23 hl (by decide) rfl (fun ls hl => ?_)
      refine lv_iload_n hx hb dX0_bestBreak_25 rfl (lv_at hl 3 rfl) ?_
      refine lv_iconst (v := (-1)) hx hb dX0_bestBreak_26 (by decide) ?_
      refine lv_icmp_eq (tgt := 36) hx hb dX0_bestBreak_27 (by decide) (fun c_27 => ?_) (fun c_27 => ?_)
      · skip
        refine lv_aload_n hx hb dX0_bestBreak_36 rfl (lv_at hl 4 rfl) ?_
        refine lv_iload_n hx hb dX0_bestBreak_37 rfl (lv_at hl 5 rfl) ?_
        refine lv_iload hx hb dX0_bestBreak_38 (lv_at hl 1 rfl) ?_
        refine sa_kRd (As := [.int (o), .int (nI k)]) (rest := []) S (c_X0_obstacle l G cI cZ cL a σ hI o (nI k) ho (vp_in_nI (by omega) (by omega))) (cwV 2 hts gX0_bestBreak_X0_obstacle rfl rfl rfl (by decide +kernel) ⟨Nat.le_of_ble_eq_true rfl, Nat.le_of_ble_eq_true rfl⟩) hP hK (ci := 0) rfl rfl rfl hl.1 (Nat.le_of_ble_eq_true rfl) rfl dX0_bestBreak_40 ⟨Nat.zero_le _, Nat.zero_le _⟩ ?_
        refine lv_if_ne (tgt := 52) hx hb dX0_bestBreak_43 (by decide) (fun c_43 => ?_) (fun c_43 => ?_)
        · skip
          refine lv_iinc (v := nI (k + 1)) (lv' := [(4, .int (nI (k + 1))), (5, .int (sa_rat σ o (nI k))), (3, .int (x3)), (2, .int (x2)), (0, .ref (a 0)), (1, .int (o))]) hx hb dX0_bestBreak_52 hl (k := 1) rfl (nI_1 k) (by decide) rfl (fun ls hl => ?_)
          refine lv_goto (tgt := 7) hx hb dX0_bestBreak_55 (by decide) ?_
          exact ih (k + 1) (by omega) x2 (by have h9 := sa_ne1 (k := k) (by omega); simp only [sa_best]; simp only [hx2, hx3] at *; grind) x3 (by have h9 := sa_ne1 (k := k) (by omega); simp only [sa_best]; simp only [hx2, hx3] at *; grind)  ls (lv_sub hl [0, 2, 3, 4, 5] rfl)
        · skip
          refine lv_iload hx hb dX0_bestBreak_46 (lv_at hl 0 rfl) ?_
          refine lv_istore_n (lv' := [(3, .int (sa_rat σ o (nI k))), (5, .int (sa_rat σ o (nI k))), (4, .int (nI k)), (2, .int (x2)), (0, .ref (a 0)), (1, .int (o))]) hx hb dX0_bestBreak_48 rfl hl (by decide) rfl (fun ls hl => ?_)
          refine lv_iload hx hb dX0_bestBreak_49 (lv_at hl 2 rfl) ?_
          refine lv_istore_n (lv' := [(2, .int (nI k)), (3, .int (sa_rat σ o (nI k))), (5, .int (sa_rat σ o (nI k))), (4, .int (nI k)), (0, .ref (a 0)), (1, .int (o))]) hx hb dX0_bestBreak_51 rfl hl (by decide) rfl (fun ls hl => ?_)
          refine lv_iinc (v := nI (k + 1)) (lv' := [(4, .int (nI (k + 1))), (2, .int (nI k)), (3, .int (sa_rat σ o (nI k))), (5, .int (sa_rat σ o (nI k))), (0, .ref (a 0)), (1, .int (o))]) hx hb dX0_bestBreak_52 hl (k := 3) rfl (nI_1 k) (by decide) rfl (fun ls hl => ?_)
          refine lv_goto (tgt := 7) hx hb dX0_bestBreak_55 (by decide) ?_
          exact ih (k + 1) (by omega) (nI k) (by have h9 := sa_ne1 (k := k) (by omega); simp only [sa_best]; simp only [hx2, hx3] at *; grind) (sa_rat σ o (nI k)) (by have h9 := sa_ne1 (k := k) (by omega); simp only [sa_best]; simp only [hx2, hx3] at *; grind)  ls (lv_sub hl [0, 2, 1, 4, 5] rfl)
      · skip
        refine lv_iload hx hb dX0_bestBreak_30 (lv_at hl 0 rfl) ?_
        refine lv_iload_n hx hb dX0_bestBreak_32 rfl (lv_at hl 2 rfl) ?_
        refine lv_icmp_le (tgt := 52) hx hb dX0_bestBreak_33 (by decide) (fun c_33 => ?_) (fun c_33 => ?_)
        · skip
          have c_33 := Int32.not_lt.mpr c_33
          refine lv_iinc (v := nI (k + 1)) (lv' := [(4, .int (nI (k + 1))), (5, .int (sa_rat σ o (nI k))), (3, .int (x3)), (2, .int (x2)), (0, .ref (a 0)), (1, .int (o))]) hx hb dX0_bestBreak_52 hl (k := 1) rfl (nI_1 k) (by decide) rfl (fun ls hl => ?_)
          refine lv_goto (tgt := 7) hx hb dX0_bestBreak_55 (by decide) ?_
          exact ih (k + 1) (by omega) x2 (by have h9 := sa_ne1 (k := k) (by omega); simp only [sa_best]; simp only [hx2, hx3] at *; grind) x3 (by have h9 := sa_ne1 (k := k) (by omega); simp only [sa_best]; simp only [hx2, hx3] at *; grind)  ls (lv_sub hl [0, 2, 3, 4, 5] rfl)
        · skip
          have c_33 := Int32.not_le.mp c_33
          refine lv_aload_n hx hb dX0_bestBreak_36 rfl (lv_at hl 4 rfl) ?_
          refine lv_iload_n hx hb dX0_bestBreak_37 rfl (lv_at hl 5 rfl) ?_
          refine lv_iload hx hb dX0_bestBreak_38 (lv_at hl 1 rfl) ?_
          refine sa_kRd (As := [.int (o), .int (nI k)]) (rest := []) S (c_X0_obstacle l G cI cZ cL a σ hI o (nI k) ho (vp_in_nI (by omega) (by omega))) (cwV 2 hts gX0_bestBreak_X0_obstacle rfl rfl rfl (by decide +kernel) ⟨Nat.le_of_ble_eq_true rfl, Nat.le_of_ble_eq_true rfl⟩) hP hK (ci := 0) rfl rfl rfl hl.1 (Nat.le_of_ble_eq_true rfl) rfl dX0_bestBreak_40 ⟨Nat.zero_le _, Nat.zero_le _⟩ ?_
          refine lv_if_ne (tgt := 52) hx hb dX0_bestBreak_43 (by decide) (fun c_43 => ?_) (fun c_43 => ?_)
          · skip
            refine lv_iinc (v := nI (k + 1)) (lv' := [(4, .int (nI (k + 1))), (5, .int (sa_rat σ o (nI k))), (3, .int (x3)), (2, .int (x2)), (0, .ref (a 0)), (1, .int (o))]) hx hb dX0_bestBreak_52 hl (k := 1) rfl (nI_1 k) (by decide) rfl (fun ls hl => ?_)
            refine lv_goto (tgt := 7) hx hb dX0_bestBreak_55 (by decide) ?_
            exact ih (k + 1) (by omega) x2 (by have h9 := sa_ne1 (k := k) (by omega); simp only [sa_best]; simp only [hx2, hx3] at *; grind) x3 (by have h9 := sa_ne1 (k := k) (by omega); simp only [sa_best]; simp only [hx2, hx3] at *; grind)  ls (lv_sub hl [0, 2, 3, 4, 5] rfl)
          · skip
            refine lv_iload hx hb dX0_bestBreak_46 (lv_at hl 0 rfl) ?_
            refine lv_istore_n (lv' := [(3, .int (sa_rat σ o (nI k))), (5, .int (sa_rat σ o (nI k))), (4, .int (nI k)), (2, .int (x2)), (0, .ref (a 0)), (1, .int (o))]) hx hb dX0_bestBreak_48 rfl hl (by decide) rfl (fun ls hl => ?_)
            refine lv_iload hx hb dX0_bestBreak_49 (lv_at hl 2 rfl) ?_
            refine lv_istore_n (lv' := [(2, .int (nI k)), (3, .int (sa_rat σ o (nI k))), (5, .int (sa_rat σ o (nI k))), (4, .int (nI k)), (0, .ref (a 0)), (1, .int (o))]) hx hb dX0_bestBreak_51 rfl hl (by decide) rfl (fun ls hl => ?_)
            refine lv_iinc (v := nI (k + 1)) (lv' := [(4, .int (nI (k + 1))), (2, .int (nI k)), (3, .int (sa_rat σ o (nI k))), (5, .int (sa_rat σ o (nI k))), (0, .ref (a 0)), (1, .int (o))]) hx hb dX0_bestBreak_52 hl (k := 3) rfl (nI_1 k) (by decide) rfl (fun ls hl => ?_)
            refine lv_goto (tgt := 7) hx hb dX0_bestBreak_55 (by decide) ?_
            exact ih (k + 1) (by omega) (nI k) (by have h9 := sa_ne1 (k := k) (by omega); simp only [sa_best]; simp only [hx2, hx3] at *; grind) (sa_rat σ o (nI k)) (by have h9 := sa_ne1 (k := k) (by omega); simp only [sa_best]; simp only [hx2, hx3] at *; grind)  ls (lv_sub hl [0, 2, 1, 4, 5] rfl)
  exact loop (σ.1 0) 0 (Nat.zero_add _) ((-1)) rfl 0 rfl  ls (lv_sub hl [0, 1, 2, 3, 4] rfl)
end
section
set_option maxHeartbeats 4000000 in
set_option maxRecDepth 100000 in
theorem c_X0_checkIndex_ok (l : Launch) (x : Int32) (n : Nat) (h : sa_in x n) : sa_Ok l yX0_checkIndex wsX0_checkIndex ({ frames := 6, cells := 0, slots := 0, locals := 90 }) (fun _ => True) [.int (x), .int (nI n)] := by
  refine Met.ofW (cc := cX0_checkIndex) (maxL := 2) (ret := none) (by decide) rfl ?_
  intro p e s m args below meth c s₁ B9 hml hv
  obtain ⟨rfl, -⟩ := hv
  have hx := B9.exec
  have hb := B9.bytes
  have hr := B9.returns
  have hlk := B9.notSynchronized
  have hts := atoms_spec (ws := wsX0_checkIndex) B9.pre
  have hown : s.vm.findClass RX0 = some m.cls := findClass_of_methodNamed B9.named
  have S : CallFix p m c cX0_checkIndex 2 s _ wsX0_checkIndex RX0 := ⟨hx, hb, hml, hown, hts⟩
  have hl := lv_entry ([.int (x), .int (nI n)]) (n := 2) (Nat.le_of_ble_eq_true rfl)
  rw [lg_entry_eq]
  generalize (lg_sl ([.int (x), .int (nI n)]) ++ List.replicate (2 - (lg_sl ([.int (x), .int (nI n)])).length) Slot.unset).toArray = ls at hl ⊢
  have hl : lv_has ls 2 [(0, .int (x)), (1, .int (nI n))] := hl
  refine lv_iload_n hx hb dX0_checkIndex_0 rfl (lv_at hl 0 rfl) ?_
  refine lv_if_lt (tgt := 9) hx hb dX0_checkIndex_1 (by decide) (fun c9 => absurd c9 h.1) (fun _ => ?_)
  refine lv_iload_n hx hb dX0_checkIndex_4 rfl (lv_at hl 0 rfl) ?_
  refine lv_iload_n hx hb dX0_checkIndex_5 rfl (lv_at hl 1 rfl) ?_
  refine lv_icmp_lt (tgt := 19) hx hb dX0_checkIndex_6 (by decide) (fun _ => ?_) (fun c9 => absurd h.2 c9)
  exact W.vret hx hb hr (fun t9 ht _ => ⟨rfl, trivial, ht⟩) (fun _ h => nomatch h) dX0_checkIndex_19

set_option maxHeartbeats 4000000 in
set_option maxRecDepth 100000 in
theorem c_X0_checkIndex_ex (l : Launch) (lo : Nat) (hst : l.stackTraces = false) (x : Int32) (n : Nat) (h : ¬ sa_in x n) : sa_Ex l yX0_checkIndex wsX0_checkIndex ({ frames := 6, cells := 1, slots := 6, locals := 90 }) (sa_Pt lo) [.int (x), .int (nI n)] (fun E => E = sa_E1) := by
  refine vx_ofW (cc := cX0_checkIndex) (maxL := 2) (ret := none) (by decide) rfl ?_
  intro p e s m args below meth c s₁ B9 hml htab hv
  obtain ⟨rfl, hT⟩ := hv
  obtain ⟨hU, hN, ⟨b1, hs1⟩, ⟨b2, hs2⟩, ⟨b3, hs3⟩, hc1, hc2, hc3, hd1, hd2, hd3⟩ := id hT
  have hx := B9.exec
  have hb := B9.bytes
  have hr := B9.returns
  have hlk := B9.notSynchronized
  have hts := atoms_spec (ws := wsX0_checkIndex) B9.pre
  have hown : s.vm.findClass RX0 = some m.cls := findClass_of_methodNamed B9.named
  have S : CallFix p m c cX0_checkIndex 2 s _ wsX0_checkIndex RX0 := ⟨hx, hb, hml, hown, hts⟩
  have hl := lv_entry ([.int (x), .int (nI n)]) (n := 2) (Nat.le_of_ble_eq_true rfl)
  rw [lg_entry_eq]
  generalize (lg_sl ([.int (x), .int (nI n)]) ++ List.replicate (2 - (lg_sl ([.int (x), .int (nI n)])).length) Slot.unset).toArray = ls at hl ⊢
  have hl : lv_has ls 2 [(0, .int (x)), (1, .int (nI n))] := hl
  refine lv_iload_n hx hb dX0_checkIndex_0 rfl (lv_at hl 0 rfl) ?_
  refine lv_if_lt (tgt := 9) hx hb dX0_checkIndex_1 (by decide) (fun c_1 => ?_) (fun c_1 => ?_)
  · skip
    exact vx_throwS (own := RX0) (cls := sa_E1) (text := sa_T1) (names := ["java/lang/RuntimeException", "java/lang/Exception"]) (ik := 139) (is := 141) (ic := 143) (mc := 1) (ms := 6) (A := fun q => lo ≤ q) hx hb hst hown (by decide +kernel) (by decide +kernel) (hts (.classLink RX0 139 sa_E1) (by decide +kernel)) (hts (.initialized sa_E1) (by decide +kernel)) hs1
      (vx_hat (B := [.castable sa_E1 sa_E1, .declares (Bundle.initS "java/lang/RuntimeException"), .declares (Bundle.initS "java/lang/Exception"), .declares (Bundle.initS Bundle.tN)]) (fun w hw => hts w (by unfold wsX0_checkIndex; exact List.mem_cons_of_mem _ (List.mem_append_right _ hw))) (by decide +kernel) (vx_c (va_Nw.use rfl hc1) (vx_c (va_Nw.use rfl hd1) (vx_c (va_Nw.use rfl hd2) (vx_c (va_Nw.use rfl hd3) vx_n))))) (by decide +kernel) hU hN va_S.rf (hl.1.trans hml.symm) dX0_checkIndex_9 dX0_checkIndex_12 dX0_checkIndex_13 dX0_checkIndex_15 dX0_checkIndex_18 (fun x hx => (htab x hx).elim) (Nat.le_of_ble_eq_true rfl) (Nat.le_of_ble_eq_true rfl) (Nat.le_of_ble_eq_true rfl) (Nat.le_of_ble_eq_true rfl) hlk (fun t _ hz hq => ⟨rfl, hz, hq⟩) (fun _ h => nomatch h) (Nat.le_refl _) (Nat.le_refl _)
  · skip
    refine lv_iload_n hx hb dX0_checkIndex_4 rfl (lv_at hl 0 rfl) ?_
    refine lv_iload_n hx hb dX0_checkIndex_5 rfl (lv_at hl 1 rfl) ?_
    refine lv_icmp_lt (tgt := 19) hx hb dX0_checkIndex_6 (by decide) (fun c_6 => ?_) (fun c_6 => ?_)
    · skip
      exact (h (by simp [sa_in, c_1, c_6])).elim
    · skip
      exact vx_throwS (own := RX0) (cls := sa_E1) (text := sa_T1) (names := ["java/lang/RuntimeException", "java/lang/Exception"]) (ik := 139) (is := 141) (ic := 143) (mc := 1) (ms := 6) (A := fun q => lo ≤ q) hx hb hst hown (by decide +kernel) (by decide +kernel) (hts (.classLink RX0 139 sa_E1) (by decide +kernel)) (hts (.initialized sa_E1) (by decide +kernel)) hs1
        (vx_hat (B := [.castable sa_E1 sa_E1, .declares (Bundle.initS "java/lang/RuntimeException"), .declares (Bundle.initS "java/lang/Exception"), .declares (Bundle.initS Bundle.tN)]) (fun w hw => hts w (by unfold wsX0_checkIndex; exact List.mem_cons_of_mem _ (List.mem_append_right _ hw))) (by decide +kernel) (vx_c (va_Nw.use rfl hc1) (vx_c (va_Nw.use rfl hd1) (vx_c (va_Nw.use rfl hd2) (vx_c (va_Nw.use rfl hd3) vx_n))))) (by decide +kernel) hU hN va_S.rf (hl.1.trans hml.symm) dX0_checkIndex_9 dX0_checkIndex_12 dX0_checkIndex_13 dX0_checkIndex_15 dX0_checkIndex_18 (fun x hx => (htab x hx).elim) (Nat.le_of_ble_eq_true rfl) (Nat.le_of_ble_eq_true rfl) (Nat.le_of_ble_eq_true rfl) (Nat.le_of_ble_eq_true rfl) hlk (fun t _ hz hq => ⟨rfl, hz, hq⟩) (fun _ h => nomatch h) (Nat.le_refl _) (Nat.le_refl _)

set_option maxHeartbeats 4000000 in
set_option maxRecDepth 100000 in
theorem c_X0_checkArgument_ok (l : Launch) (x : Int32) (h : ¬ x = 0) : sa_Ok l yX0_checkArgument wsX0_checkArgument ({ frames := 6, cells := 0, slots := 0, locals := 90 }) (fun _ => True) [.int (x)] := by
  refine Met.ofW (cc := cX0_checkArgument) (maxL := 1) (ret := none) (by decide) rfl ?_
  intro p e s m args below meth c s₁ B9 hml hv
  obtain ⟨rfl, -⟩ := hv
  have hx := B9.exec
  have hb := B9.bytes
  have hr := B9.returns
  have hlk := B9.notSynchronized
  have hts := atoms_spec (ws := wsX0_checkArgument) B9.pre
  have hown : s.vm.findClass RX0 = some m.cls := findClass_of_methodNamed B9.named
  have S : CallFix p m c cX0_checkArgument 1 s _ wsX0_checkArgument RX0 := ⟨hx, hb, hml, hown, hts⟩
  have hl := lv_entry ([.int (x)]) (n := 1) (Nat.le_of_ble_eq_true rfl)
  rw [lg_entry_eq]
  generalize (lg_sl ([.int (x)]) ++ List.replicate (1 - (lg_sl ([.int (x)])).length) Slot.unset).toArray = ls at hl ⊢
  have hl : lv_has ls 1 [(0, .int (x))] := hl
  refine lv_iload_n hx hb dX0_checkArgument_0 rfl (lv_at hl 0 rfl) ?_
  refine lv_if_ne (tgt := 14) hx hb dX0_checkArgument_1 (by decide) (fun _ => ?_) (fun c9 => absurd c9 h)
  exact W.vret hx hb hr (fun t9 ht _ => ⟨rfl, trivial, ht⟩) (fun _ h => nomatch h) dX0_checkArgument_14

set_option maxHeartbeats 4000000 in
set_option maxRecDepth 100000 in
theorem c_X0_checkArgument_ex (l : Launch) (lo : Nat) (hst : l.stackTraces = false) (x : Int32) (h : x = 0) : sa_Ex l yX0_checkArgument wsX0_checkArgument ({ frames := 6, cells := 1, slots := 6, locals := 90 }) (sa_Pt lo) [.int (x)] (fun E => E = sa_E2) := by
  refine vx_ofW (cc := cX0_checkArgument) (maxL := 1) (ret := none) (by decide) rfl ?_
  intro p e s m args below meth c s₁ B9 hml htab hv
  obtain ⟨rfl, hT⟩ := hv
  obtain ⟨hU, hN, ⟨b1, hs1⟩, ⟨b2, hs2⟩, ⟨b3, hs3⟩, hc1, hc2, hc3, hd1, hd2, hd3⟩ := id hT
  have hx := B9.exec
  have hb := B9.bytes
  have hr := B9.returns
  have hlk := B9.notSynchronized
  have hts := atoms_spec (ws := wsX0_checkArgument) B9.pre
  have hown : s.vm.findClass RX0 = some m.cls := findClass_of_methodNamed B9.named
  have S : CallFix p m c cX0_checkArgument 1 s _ wsX0_checkArgument RX0 := ⟨hx, hb, hml, hown, hts⟩
  have hl := lv_entry ([.int (x)]) (n := 1) (Nat.le_of_ble_eq_true rfl)
  rw [lg_entry_eq]
  generalize (lg_sl ([.int (x)]) ++ List.replicate (1 - (lg_sl ([.int (x)])).length) Slot.unset).toArray = ls at hl ⊢
  have hl : lv_has ls 1 [(0, .int (x))] := hl
  refine lv_iload_n hx hb dX0_checkArgument_0 rfl (lv_at hl 0 rfl) ?_
  refine lv_if_ne (tgt := 14) hx hb dX0_checkArgument_1 (by decide) (fun c9 => absurd h c9) (fun _ => ?_)
  exact vx_throwS (own := RX0) (cls := sa_E2) (text := sa_T2) (names := ["java/lang/RuntimeException", "java/lang/Exception"]) (ik := 146) (is := 148) (ic := 150) (mc := 1) (ms := 6) (A := fun q => lo ≤ q) hx hb hst hown (by decide +kernel) (by decide +kernel) (hts (.classLink RX0 146 sa_E2) (by decide +kernel)) (hts (.initialized sa_E2) (by decide +kernel)) hs2
    (vx_hat (B := [.castable sa_E2 sa_E2, .declares (Bundle.initS "java/lang/RuntimeException"), .declares (Bundle.initS "java/lang/Exception"), .declares (Bundle.initS Bundle.tN)]) (fun w hw => hts w (by unfold wsX0_checkArgument; exact List.mem_cons_of_mem _ (List.mem_append_right _ hw))) (by decide +kernel) (vx_c (va_Nw.use rfl hc2) (vx_c (va_Nw.use rfl hd1) (vx_c (va_Nw.use rfl hd2) (vx_c (va_Nw.use rfl hd3) vx_n))))) (by decide +kernel) hU hN va_S.rf (hl.1.trans hml.symm) dX0_checkArgument_4 dX0_checkArgument_7 dX0_checkArgument_8 dX0_checkArgument_10 dX0_checkArgument_13 (fun x hx => (htab x hx).elim) (Nat.le_of_ble_eq_true rfl) (Nat.le_of_ble_eq_true rfl) (Nat.le_of_ble_eq_true rfl) (Nat.le_of_ble_eq_true rfl) hlk (fun t _ hz hq => ⟨rfl, hz, hq⟩) (fun _ h => nomatch h) (Nat.le_refl _) (Nat.le_refl _)

set_option maxHeartbeats 4000000 in
set_option maxRecDepth 100000 in
theorem c_X0_checkState_ok (l : Launch) (x : Int32) (h : ¬ x = 0) : sa_Ok l yX0_checkState wsX0_checkState ({ frames := 6, cells := 0, slots := 0, locals := 90 }) (fun _ => True) [.int (x)] := by
  refine Met.ofW (cc := cX0_checkState) (maxL := 1) (ret := none) (by decide) rfl ?_
  intro p e s m args below meth c s₁ B9 hml hv
  obtain ⟨rfl, -⟩ := hv
  have hx := B9.exec
  have hb := B9.bytes
  have hr := B9.returns
  have hlk := B9.notSynchronized
  have hts := atoms_spec (ws := wsX0_checkState) B9.pre
  have hown : s.vm.findClass RX0 = some m.cls := findClass_of_methodNamed B9.named
  have S : CallFix p m c cX0_checkState 1 s _ wsX0_checkState RX0 := ⟨hx, hb, hml, hown, hts⟩
  have hl := lv_entry ([.int (x)]) (n := 1) (Nat.le_of_ble_eq_true rfl)
  rw [lg_entry_eq]
  generalize (lg_sl ([.int (x)]) ++ List.replicate (1 - (lg_sl ([.int (x)])).length) Slot.unset).toArray = ls at hl ⊢
  have hl : lv_has ls 1 [(0, .int (x))] := hl
  refine lv_iload_n hx hb dX0_checkState_0 rfl (lv_at hl 0 rfl) ?_
  refine lv_if_ne (tgt := 14) hx hb dX0_checkState_1 (by decide) (fun _ => ?_) (fun c9 => absurd c9 h)
  exact W.vret hx hb hr (fun t9 ht _ => ⟨rfl, trivial, ht⟩) (fun _ h => nomatch h) dX0_checkState_14

set_option maxHeartbeats 4000000 in
set_option maxRecDepth 100000 in
theorem c_X0_checkState_ex (l : Launch) (lo : Nat) (hst : l.stackTraces = false) (x : Int32) (h : x = 0) : sa_Ex l yX0_checkState wsX0_checkState ({ frames := 6, cells := 1, slots := 6, locals := 90 }) (sa_Pt lo) [.int (x)] (fun E => E = sa_E3) := by
  refine vx_ofW (cc := cX0_checkState) (maxL := 1) (ret := none) (by decide) rfl ?_
  intro p e s m args below meth c s₁ B9 hml htab hv
  obtain ⟨rfl, hT⟩ := hv
  obtain ⟨hU, hN, ⟨b1, hs1⟩, ⟨b2, hs2⟩, ⟨b3, hs3⟩, hc1, hc2, hc3, hd1, hd2, hd3⟩ := id hT
  have hx := B9.exec
  have hb := B9.bytes
  have hr := B9.returns
  have hlk := B9.notSynchronized
  have hts := atoms_spec (ws := wsX0_checkState) B9.pre
  have hown : s.vm.findClass RX0 = some m.cls := findClass_of_methodNamed B9.named
  have S : CallFix p m c cX0_checkState 1 s _ wsX0_checkState RX0 := ⟨hx, hb, hml, hown, hts⟩
  have hl := lv_entry ([.int (x)]) (n := 1) (Nat.le_of_ble_eq_true rfl)
  rw [lg_entry_eq]
  generalize (lg_sl ([.int (x)]) ++ List.replicate (1 - (lg_sl ([.int (x)])).length) Slot.unset).toArray = ls at hl ⊢
  have hl : lv_has ls 1 [(0, .int (x))] := hl
  refine lv_iload_n hx hb dX0_checkState_0 rfl (lv_at hl 0 rfl) ?_
  refine lv_if_ne (tgt := 14) hx hb dX0_checkState_1 (by decide) (fun c9 => absurd h c9) (fun _ => ?_)
  exact vx_throwS (own := RX0) (cls := sa_E3) (text := sa_T3) (names := ["java/lang/RuntimeException", "java/lang/Exception"]) (ik := 151) (is := 153) (ic := 155) (mc := 1) (ms := 6) (A := fun q => lo ≤ q) hx hb hst hown (by decide +kernel) (by decide +kernel) (hts (.classLink RX0 151 sa_E3) (by decide +kernel)) (hts (.initialized sa_E3) (by decide +kernel)) hs3
    (vx_hat (B := [.castable sa_E3 sa_E3, .declares (Bundle.initS "java/lang/RuntimeException"), .declares (Bundle.initS "java/lang/Exception"), .declares (Bundle.initS Bundle.tN)]) (fun w hw => hts w (by unfold wsX0_checkState; exact List.mem_cons_of_mem _ (List.mem_append_right _ hw))) (by decide +kernel) (vx_c (va_Nw.use rfl hc3) (vx_c (va_Nw.use rfl hd1) (vx_c (va_Nw.use rfl hd2) (vx_c (va_Nw.use rfl hd3) vx_n))))) (by decide +kernel) hU hN va_S.rf (hl.1.trans hml.symm) dX0_checkState_4 dX0_checkState_7 dX0_checkState_8 dX0_checkState_10 dX0_checkState_13 (fun x hx => (htab x hx).elim) (Nat.le_of_ble_eq_true rfl) (Nat.le_of_ble_eq_true rfl) (Nat.le_of_ble_eq_true rfl) (Nat.le_of_ble_eq_true rfl) hlk (fun t _ hz hq => ⟨rfl, hz, hq⟩) (fun _ h => nomatch h) (Nat.le_refl _) (Nat.le_refl _)

set_option maxHeartbeats 4000000 in
set_option maxRecDepth 100000 in
theorem c_X0_checkBreak_ok (l : Launch) (G : va_G) (cI cZ cL : ClassId) (a : Nat → Nat) (σ : sa_St) (hI : sa_I σ) (x : Int32) (h : sa_in x (σ.1 0)) : sa_Ok l yX0_checkBreak wsX0_checkBreak ({ frames := 7, cells := 0, slots := 0, locals := 111 }) (sa_Pw G cI cZ cL (sa_W0 cI cZ a σ)) [.ref (a 0), .int (x)] := by
  obtain ⟨hnb, hno, hns, hgr, hor, hbr, hai⟩ := id hI
  refine Met.ofW (cc := cX0_checkBreak) (maxL := 2) (ret := none) (by decide) rfl ?_
  intro p e s m args below meth c s₁ B9 hml hv
  obtain ⟨rfl, hP, hK⟩ := hv
  have hx := B9.exec
  have hb := B9.bytes
  have hr := B9.returns
  have hlk := B9.notSynchronized
  have hts := atoms_spec (ws := wsX0_checkBreak) B9.pre
  have hown : s.vm.findClass RX0 = some m.cls := findClass_of_methodNamed B9.named
  have S : CallFix p m c cX0_checkBreak 2 s _ wsX0_checkBreak RX0 := ⟨hx, hb, hml, hown, hts⟩
  have hin : ∀ w ∈ wsX00, w ∈ wsX0_checkBreak := by decide +kernel
  have hl := lv_entry ([.ref (a 0), .int (x)]) (n := 2) (Nat.le_of_ble_eq_true rfl)
  rw [lg_entry_eq]
  generalize (lg_sl ([.ref (a 0), .int (x)]) ++ List.replicate (2 - (lg_sl ([.ref (a 0), .int (x)])).length) Slot.unset).toArray = ls at hl ⊢
  have hl : lv_has ls 2 [(0, .ref (a 0)), (1, .int (x))] := hl
  refine lv_iload_n hx hb dX0_checkBreak_0 rfl (lv_at hl 1 rfl) ?_
  refine lv_aload_n hx hb dX0_checkBreak_1 rfl (lv_at hl 0 rfl) ?_
  refine sa_g0_breakCount S hin hK hP (by decide +kernel) dX0_checkBreak_2 ?_
  refine sa_kOkS (As := [.int (x), .int (nI (σ.1 0))]) (rest := []) S (c_X0_checkIndex_ok l x (σ.1 0) h) (va_cwS 2 hts gX0_checkBreak_X0_checkIndex rfl rfl rfl (by decide +kernel) ⟨Nat.le_of_ble_eq_true rfl, Nat.le_of_ble_eq_true rfl⟩) rfl hl.1 (Nat.le_of_ble_eq_true rfl) rfl dX0_checkBreak_5 ⟨Nat.zero_le _, Nat.zero_le _⟩ ?_
  exact W.vret hx hb hr (fun t9 ht _ => ⟨rfl, trivial, ht⟩) (fun _ h => nomatch h) dX0_checkBreak_8

set_option maxHeartbeats 4000000 in
set_option maxRecDepth 100000 in
theorem c_X0_checkBreak_ex (l : Launch) (lo : Nat) (hst : l.stackTraces = false) (G : va_G) (cI cZ cL : ClassId) (a : Nat → Nat) (σ : sa_St) (hI : sa_I σ) (x : Int32) (h : ¬ sa_in x (σ.1 0)) : sa_Ex l yX0_checkBreak wsX0_checkBreak ({ frames := 7, cells := 1, slots := 6, locals := 111 }) (sa_Px lo G cI cZ cL (sa_W0 cI cZ a σ)) [.ref (a 0), .int (x)] (fun E => E = sa_E1) := by
  obtain ⟨hnb, hno, hns, hgr, hor, hbr, hai⟩ := id hI
  refine vx_ofW (cc := cX0_checkBreak) (maxL := 2) (ret := none) (by decide) rfl ?_
  intro p e s m args below meth c s₁ B9 hml htab hv
  obtain ⟨rfl, ⟨hP, hK⟩, hT⟩ := hv
  have hx := B9.exec
  have hb := B9.bytes
  have hr := B9.returns
  have hlk := B9.notSynchronized
  have hts := atoms_spec (ws := wsX0_checkBreak) B9.pre
  have hown : s.vm.findClass RX0 = some m.cls := findClass_of_methodNamed B9.named
  have S : CallFix p m c cX0_checkBreak 2 s _ wsX0_checkBreak RX0 := ⟨hx, hb, hml, hown, hts⟩
  have hin : ∀ w ∈ wsX00, w ∈ wsX0_checkBreak := by decide +kernel
  have hl := lv_entry ([.ref (a 0), .int (x)]) (n := 2) (Nat.le_of_ble_eq_true rfl)
  rw [lg_entry_eq]
  generalize (lg_sl ([.ref (a 0), .int (x)]) ++ List.replicate (2 - (lg_sl ([.ref (a 0), .int (x)])).length) Slot.unset).toArray = ls at hl ⊢
  have hl : lv_has ls 2 [(0, .ref (a 0)), (1, .int (x))] := hl
  refine lv_iload_n hx hb dX0_checkBreak_0 rfl (lv_at hl 1 rfl) ?_
  refine lv_aload_n hx hb dX0_checkBreak_1 rfl (lv_at hl 0 rfl) ?_
  refine sa_g0_breakCount S hin hK hP (by decide +kernel) dX0_checkBreak_2 ?_
  exact sa_kExS (As := [.int (x), .int (nI (σ.1 0))]) (rest := []) S (c_X0_checkIndex_ex l lo hst x (σ.1 0) h) (va_cwS 2 hts gX0_checkBreak_X0_checkIndex rfl rfl rfl (by decide +kernel) ⟨Nat.le_of_ble_eq_true rfl, Nat.le_of_ble_eq_true rfl⟩) hT htab hlk (fun _ h => h) rfl hl.1 (Nat.le_of_ble_eq_true rfl) rfl dX0_checkBreak_5 ⟨Nat.le_refl _, Nat.le_refl _⟩

set_option maxHeartbeats 4000000 in
set_option maxRecDepth 100000 in
theorem c_X0_checkOrder_ok (l : Launch) (G : va_G) (cI cZ cL : ClassId) (a : Nat → Nat) (σ : sa_St) (hI : sa_I σ) (x : Int32) (h : sa_in x (σ.1 1)) : sa_Ok l yX0_checkOrder wsX0_checkOrder ({ frames := 7, cells := 0, slots := 0, locals := 111 }) (sa_Pw G cI cZ cL (sa_W0 cI cZ a σ)) [.ref (a 0), .int (x)] := by
  obtain ⟨hnb, hno, hns, hgr, hor, hbr, hai⟩ := id hI
  refine Met.ofW (cc := cX0_checkOrder) (maxL := 2) (ret := none) (by decide) rfl ?_
  intro p e s m args below meth c s₁ B9 hml hv
  obtain ⟨rfl, hP, hK⟩ := hv
  have hx := B9.exec
  have hb := B9.bytes
  have hr := B9.returns
  have hlk := B9.notSynchronized
  have hts := atoms_spec (ws := wsX0_checkOrder) B9.pre
  have hown : s.vm.findClass RX0 = some m.cls := findClass_of_methodNamed B9.named
  have S : CallFix p m c cX0_checkOrder 2 s _ wsX0_checkOrder RX0 := ⟨hx, hb, hml, hown, hts⟩
  have hin : ∀ w ∈ wsX00, w ∈ wsX0_checkOrder := by decide +kernel
  have hl := lv_entry ([.ref (a 0), .int (x)]) (n := 2) (Nat.le_of_ble_eq_true rfl)
  rw [lg_entry_eq]
  generalize (lg_sl ([.ref (a 0), .int (x)]) ++ List.replicate (2 - (lg_sl ([.ref (a 0), .int (x)])).length) Slot.unset).toArray = ls at hl ⊢
  have hl : lv_has ls 2 [(0, .ref (a 0)), (1, .int (x))] := hl
  refine lv_iload_n hx hb dX0_checkOrder_0 rfl (lv_at hl 1 rfl) ?_
  refine lv_aload_n hx hb dX0_checkOrder_1 rfl (lv_at hl 0 rfl) ?_
  refine sa_g0_orderCount S hin hK hP (by decide +kernel) dX0_checkOrder_2 ?_
  refine sa_kOkS (As := [.int (x), .int (nI (σ.1 1))]) (rest := []) S (c_X0_checkIndex_ok l x (σ.1 1) h) (va_cwS 2 hts gX0_checkOrder_X0_checkIndex rfl rfl rfl (by decide +kernel) ⟨Nat.le_of_ble_eq_true rfl, Nat.le_of_ble_eq_true rfl⟩) rfl hl.1 (Nat.le_of_ble_eq_true rfl) rfl dX0_checkOrder_5 ⟨Nat.zero_le _, Nat.zero_le _⟩ ?_
  exact W.vret hx hb hr (fun t9 ht _ => ⟨rfl, trivial, ht⟩) (fun _ h => nomatch h) dX0_checkOrder_8

set_option maxHeartbeats 4000000 in
set_option maxRecDepth 100000 in
theorem c_X0_checkOrder_ex (l : Launch) (lo : Nat) (hst : l.stackTraces = false) (G : va_G) (cI cZ cL : ClassId) (a : Nat → Nat) (σ : sa_St) (hI : sa_I σ) (x : Int32) (h : ¬ sa_in x (σ.1 1)) : sa_Ex l yX0_checkOrder wsX0_checkOrder ({ frames := 7, cells := 1, slots := 6, locals := 111 }) (sa_Px lo G cI cZ cL (sa_W0 cI cZ a σ)) [.ref (a 0), .int (x)] (fun E => E = sa_E1) := by
  obtain ⟨hnb, hno, hns, hgr, hor, hbr, hai⟩ := id hI
  refine vx_ofW (cc := cX0_checkOrder) (maxL := 2) (ret := none) (by decide) rfl ?_
  intro p e s m args below meth c s₁ B9 hml htab hv
  obtain ⟨rfl, ⟨hP, hK⟩, hT⟩ := hv
  have hx := B9.exec
  have hb := B9.bytes
  have hr := B9.returns
  have hlk := B9.notSynchronized
  have hts := atoms_spec (ws := wsX0_checkOrder) B9.pre
  have hown : s.vm.findClass RX0 = some m.cls := findClass_of_methodNamed B9.named
  have S : CallFix p m c cX0_checkOrder 2 s _ wsX0_checkOrder RX0 := ⟨hx, hb, hml, hown, hts⟩
  have hin : ∀ w ∈ wsX00, w ∈ wsX0_checkOrder := by decide +kernel
  have hl := lv_entry ([.ref (a 0), .int (x)]) (n := 2) (Nat.le_of_ble_eq_true rfl)
  rw [lg_entry_eq]
  generalize (lg_sl ([.ref (a 0), .int (x)]) ++ List.replicate (2 - (lg_sl ([.ref (a 0), .int (x)])).length) Slot.unset).toArray = ls at hl ⊢
  have hl : lv_has ls 2 [(0, .ref (a 0)), (1, .int (x))] := hl
  refine lv_iload_n hx hb dX0_checkOrder_0 rfl (lv_at hl 1 rfl) ?_
  refine lv_aload_n hx hb dX0_checkOrder_1 rfl (lv_at hl 0 rfl) ?_
  refine sa_g0_orderCount S hin hK hP (by decide +kernel) dX0_checkOrder_2 ?_
  exact sa_kExS (As := [.int (x), .int (nI (σ.1 1))]) (rest := []) S (c_X0_checkIndex_ex l lo hst x (σ.1 1) h) (va_cwS 2 hts gX0_checkOrder_X0_checkIndex rfl rfl rfl (by decide +kernel) ⟨Nat.le_of_ble_eq_true rfl, Nat.le_of_ble_eq_true rfl⟩) hT htab hlk (fun _ h => h) rfl hl.1 (Nat.le_of_ble_eq_true rfl) rfl dX0_checkOrder_5 ⟨Nat.le_refl _, Nat.le_refl _⟩

set_option maxHeartbeats 4000000 in
set_option maxRecDepth 100000 in
theorem c_X0_checkSpot_ok (l : Launch) (G : va_G) (cI cZ cL : ClassId) (a : Nat → Nat) (σ : sa_St) (hI : sa_I σ) (x : Int32) (h : sa_in x (σ.1 2)) : sa_Ok l yX0_checkSpot wsX0_checkSpot ({ frames := 7, cells := 0, slots := 0, locals := 111 }) (sa_Pw G cI cZ cL (sa_W0 cI cZ a σ)) [.ref (a 0), .int (x)] := by
  obtain ⟨hnb, hno, hns, hgr, hor, hbr, hai⟩ := id hI
  refine Met.ofW (cc := cX0_checkSpot) (maxL := 2) (ret := none) (by decide) rfl ?_
  intro p e s m args below meth c s₁ B9 hml hv
  obtain ⟨rfl, hP, hK⟩ := hv
  have hx := B9.exec
  have hb := B9.bytes
  have hr := B9.returns
  have hlk := B9.notSynchronized
  have hts := atoms_spec (ws := wsX0_checkSpot) B9.pre
  have hown : s.vm.findClass RX0 = some m.cls := findClass_of_methodNamed B9.named
  have S : CallFix p m c cX0_checkSpot 2 s _ wsX0_checkSpot RX0 := ⟨hx, hb, hml, hown, hts⟩
  have hin : ∀ w ∈ wsX00, w ∈ wsX0_checkSpot := by decide +kernel
  have hl := lv_entry ([.ref (a 0), .int (x)]) (n := 2) (Nat.le_of_ble_eq_true rfl)
  rw [lg_entry_eq]
  generalize (lg_sl ([.ref (a 0), .int (x)]) ++ List.replicate (2 - (lg_sl ([.ref (a 0), .int (x)])).length) Slot.unset).toArray = ls at hl ⊢
  have hl : lv_has ls 2 [(0, .ref (a 0)), (1, .int (x))] := hl
  refine lv_iload_n hx hb dX0_checkSpot_0 rfl (lv_at hl 1 rfl) ?_
  refine lv_aload_n hx hb dX0_checkSpot_1 rfl (lv_at hl 0 rfl) ?_
  refine sa_g0_spotCount S hin hK hP (by decide +kernel) dX0_checkSpot_2 ?_
  refine sa_kOkS (As := [.int (x), .int (nI (σ.1 2))]) (rest := []) S (c_X0_checkIndex_ok l x (σ.1 2) h) (va_cwS 2 hts gX0_checkSpot_X0_checkIndex rfl rfl rfl (by decide +kernel) ⟨Nat.le_of_ble_eq_true rfl, Nat.le_of_ble_eq_true rfl⟩) rfl hl.1 (Nat.le_of_ble_eq_true rfl) rfl dX0_checkSpot_5 ⟨Nat.zero_le _, Nat.zero_le _⟩ ?_
  exact W.vret hx hb hr (fun t9 ht _ => ⟨rfl, trivial, ht⟩) (fun _ h => nomatch h) dX0_checkSpot_8

set_option maxHeartbeats 4000000 in
set_option maxRecDepth 100000 in
theorem c_X0_checkSpot_ex (l : Launch) (lo : Nat) (hst : l.stackTraces = false) (G : va_G) (cI cZ cL : ClassId) (a : Nat → Nat) (σ : sa_St) (hI : sa_I σ) (x : Int32) (h : ¬ sa_in x (σ.1 2)) : sa_Ex l yX0_checkSpot wsX0_checkSpot ({ frames := 7, cells := 1, slots := 6, locals := 111 }) (sa_Px lo G cI cZ cL (sa_W0 cI cZ a σ)) [.ref (a 0), .int (x)] (fun E => E = sa_E1) := by
  obtain ⟨hnb, hno, hns, hgr, hor, hbr, hai⟩ := id hI
  refine vx_ofW (cc := cX0_checkSpot) (maxL := 2) (ret := none) (by decide) rfl ?_
  intro p e s m args below meth c s₁ B9 hml htab hv
  obtain ⟨rfl, ⟨hP, hK⟩, hT⟩ := hv
  have hx := B9.exec
  have hb := B9.bytes
  have hr := B9.returns
  have hlk := B9.notSynchronized
  have hts := atoms_spec (ws := wsX0_checkSpot) B9.pre
  have hown : s.vm.findClass RX0 = some m.cls := findClass_of_methodNamed B9.named
  have S : CallFix p m c cX0_checkSpot 2 s _ wsX0_checkSpot RX0 := ⟨hx, hb, hml, hown, hts⟩
  have hin : ∀ w ∈ wsX00, w ∈ wsX0_checkSpot := by decide +kernel
  have hl := lv_entry ([.ref (a 0), .int (x)]) (n := 2) (Nat.le_of_ble_eq_true rfl)
  rw [lg_entry_eq]
  generalize (lg_sl ([.ref (a 0), .int (x)]) ++ List.replicate (2 - (lg_sl ([.ref (a 0), .int (x)])).length) Slot.unset).toArray = ls at hl ⊢
  have hl : lv_has ls 2 [(0, .ref (a 0)), (1, .int (x))] := hl
  refine lv_iload_n hx hb dX0_checkSpot_0 rfl (lv_at hl 1 rfl) ?_
  refine lv_aload_n hx hb dX0_checkSpot_1 rfl (lv_at hl 0 rfl) ?_
  refine sa_g0_spotCount S hin hK hP (by decide +kernel) dX0_checkSpot_2 ?_
  exact sa_kExS (As := [.int (x), .int (nI (σ.1 2))]) (rest := []) S (c_X0_checkIndex_ex l lo hst x (σ.1 2) h) (va_cwS 2 hts gX0_checkSpot_X0_checkIndex rfl rfl rfl (by decide +kernel) ⟨Nat.le_of_ble_eq_true rfl, Nat.le_of_ble_eq_true rfl⟩) hT htab hlk (fun _ h => h) rfl hl.1 (Nat.le_of_ble_eq_true rfl) rfl dX0_checkSpot_5 ⟨Nat.le_refl _, Nat.le_refl _⟩
end
