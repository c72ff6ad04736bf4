/-! plain facts -/
theorem sa_vm {x : Int32} {m n : Nat} (h : vp_in x m) (hmn : m ≤ n) : vp_in x n := fun q => h (q.elim Or.inl (fun z => Or.inr (Nat.le_trans hmn z)))
theorem sa_lt {x : Int32} {m : Nat} (h : vp_in x m) : x.toNatClampNeg < m := Nat.not_le.mp fun q => h (Or.inr q)
theorem sa_inv {x : Int32} {n : Nat} (hn : n < 2 ^ 31) (h : sa_in x n) : vp_in x n := by
  obtain ⟨h1, h2⟩ := h
  obtain ⟨j, hj, rfl⟩ := nI_of h1
  exact vp_in_nI ((nI_ltI hj hn).mp h2) hn
theorem sa_vin {x : Int32} {n : Nat} (hn : n < 2 ^ 31) (h : vp_in x n) : sa_in x n := by
  obtain ⟨j, hj, rfl⟩ := vp_in_of h hn
  exact ⟨nI_pos (by omega), nI_lt hj hn⟩
theorem sa_nI {x : Int32} {n : Nat} (hn : n < 2 ^ 31) (h : vp_in x n) : x = nI x.toNatClampNeg := by
  obtain ⟨j, hj, rfl⟩ := vp_in_of h hn
  rw [nI_clamp (by omega)]
theorem sa_grp {σ : sa_St} (hI : sa_I σ) {o : Int32} (ho : vp_in o (σ.1 1)) : vp_in (σ.2 6 o.toNatClampNeg) 3 := hI.2.2.2.1 _ (sa_lt ho)
theorem sa_cell {x g : Int32} (hx : vp_in x 24) (hg : vp_in g 3) : vp_in (x * 3 + g) 72 := by
  obtain ⟨i, hi, rfl⟩ := vp_in_of hx (by decide)
  obtain ⟨j, hj, rfl⟩ := vp_in_of hg (by decide)
  rw [show (3 : Int32) = nI 3 from rfl, pk_mul, nI_add]
  exact vp_in_nI (by omega) (by decide)
theorem sa_ne1 {k : Nat} (hk : k < 2 ^ 31) : ¬ nI k = -1 := by
  intro h
  have h1 := nI_toInt hk
  rw [h] at h1
  have h2 : ((-1 : Int32)).toInt = -1 := by decide
  omega
theorem sa_th_up {σ : sa_St} {o x w rv : Int32} {k : Nat} (h : sa_th σ o x w rv k = true) : ∀ d, sa_th σ o x w rv (k + d) = true := by
  intro d
  induction d with
  | zero => exact h
  | succ d ih => show (sa_th σ o x w rv (k + d) || _) = true; rw [ih]; rfl
theorem sa_th_mono {σ : sa_St} {o x w rv : Int32} {k n : Nat} (h : sa_th σ o x w rv k = true) (hk : k ≤ n) : sa_th σ o x w rv n = true := by
  obtain ⟨d, rfl⟩ := Nat.exists_eq_add_of_le hk
  exact sa_th_up h d
theorem sa_th_f {σ : sa_St} {o x w rv : Int32} {n : Nat} (h : ∀ k, k < n → ¬ (¬ nI k = w ∧ sa_sd σ k x ∧ sa_cnt σ k o rv)) : sa_th σ o x w rv n = false := by
  induction n with
  | zero => rfl
  | succ n ih => show (sa_th σ o x w rv n || _) = false; rw [ih (fun k hk => h k (by omega)), decide_eq_false (h n (by omega))]; rfl
/-- no spot is in a break that isn't there -/
theorem sa_th_out {σ : sa_St} (hI : sa_I σ) {o x w rv : Int32} (hx : ¬ vp_in x (σ.1 0)) : sa_th σ o x w rv (σ.1 2) = false :=
  sa_th_f fun k hk h => hx (by rw [← h.2.1.1]; exact hI.2.2.2.2.2.1 k hk)
theorem sa_narb {P : Prop} [Decidable P] : narrow .boolean (.int (sa_b P)) = .int (sa_b P) := by
  rcases sa_b_or (P := P) with h | h <;> rw [h] <;> rfl
theorem sa_max0 (x : Int32) : (if x < 0 then 0 else x) = if 0 < x then x else 0 := by
  by_cases h : x < 0
  · rw [if_pos h, if_neg (Int32.not_lt.mpr (Int32.le_of_lt h))]
  · rw [if_neg h]
    by_cases h2 : 0 < x
    · rw [if_pos h2]
    · rw [if_neg h2]; exact Int32.le_antisymm (Int32.not_lt.mp h2) (Int32.not_lt.mp h)
theorem sa_subadd (x y z : Int32) : x - y - z = x - (y + z) := by grind
theorem sa_sub0 (x : Int32) : x = x - 0 := by simp
theorem sa_nx_l {σ : sa_St} (hI : sa_I σ) {o x w rv : Int32} (hx : vp_in x (σ.1 0)) (h : sa_th σ o (x - 1) w rv (σ.1 2) = true) : 0 < x := by
  obtain ⟨j, hj, rfl⟩ := vp_in_of hx (by have := hI.1; omega)
  rcases Nat.eq_zero_or_pos j with rfl | h0
  · rw [sa_th_out hI (by rw [show nI 0 - 1 = (-1 : Int32) from by decide]; intro q; exact q (Or.inl (by decide)))] at h
    exact absurd h (by decide)
  · have := hI.1
    exact nI_lt h0 (by omega)
theorem sa_nx_r {σ : sa_St} (hI : sa_I σ) {o x w rv : Int32} (hx : vp_in x (σ.1 0)) (h : sa_th σ o (x + 1) w rv (σ.1 2) = true) : x + 1 < nI (σ.1 0) := by
  obtain ⟨j, hj, rfl⟩ := vp_in_of hx (by have := hI.1; omega)
  rw [nI_1] at h ⊢
  have := hI.1
  by_cases h0 : j + 1 < σ.1 0
  · exact nI_lt h0 (by omega)
  · rw [sa_th_out hI (by intro q; exact q (Or.inr (by rw [nI_clamp (by omega)]; omega)))] at h
    exact absurd h (by decide)
theorem sa_go_ok {P1 P2 P3 : Prop} [Decidable P1] [Decidable P2] [Decidable P3] {σ : sa_St} {ok : Int32 × sa_St} (h : (sa_go P1 P2 P3 σ ok).1 = 0) : P1 ∧ P2 ∧ P3 := by
  unfold sa_go at h
  by_cases h1 : P1
  · by_cases h2 : P2
    · by_cases h3 : P3
      · exact ⟨h1, h2, h3⟩
      · simp [h1, h2, h3] at h
    · simp [h1, h2] at h
  · simp [h1] at h
theorem sa_ltN {n c : Nat} (hn : n < 2 ^ 31) (hc : c < 2 ^ 31) (h : nI n < nI c) : n < c := (nI_ltI hn hc).mp h
theorem sa_nar01 {x : Int32} (h : x = 0 ∨ x = 1) : narrow .boolean (.int x) = .int x := by rcases h with h | h <;> rw [h] <;> rfl
theorem sa_nrb {x : Int32} (h : x = 0 ∨ x = 1) : vp_nar .boolean x = x := by rcases h with h | h <;> rw [h] <;> rfl
section
variable {p : Program} {l : Launch} {e : Env} {R : Room} {s : State} {m : MethodId} {args : Array Value} {below : List Frame} {meth : Method} {c : Code} {H : Heap} {locs : List Loc} {cells slots : Nat} {Q : State → Prop} {pc : Nat} {ls : Array Slot} {rest : List Value}
/-- a truth value on the stack: one, or nought -/
theorem sa_spl {P : Prop} [Decidable P] (ht : P → W p l e R s m args below meth c H locs cells slots Q (F0 m pc ls (.int 1 :: rest))) (hf : ¬ P → W p l e R s m args below meth c H locs cells slots Q (F0 m pc ls (.int 0 :: rest))) : W p l e R s m args below meth c H locs cells slots Q (F0 m pc ls (.int (sa_b P) :: rest)) := by
  by_cases h : P
  · rw [sa_bt h]; exact ht h
  · rw [sa_bf h]; exact hf h
theorem sa_iadd1 {cc : ByteArray} {k : Nat} (hx : p.tables.exec = Jvm.exec) (hb : c.code = cc) (hdg : decode cc pc = .ok (.iadd, 1)) (kk : W p l e R s m args below meth c H locs cells slots Q (F0 m (pc + 1) ls (.int (nI (k + 1)) :: rest))) : W p l e R s m args below meth c H locs cells slots Q (F0 m pc ls (.int 1 :: .int (nI k) :: rest)) :=
  lv_iadd hx hb hdg (by rw [nI_1]; exact kk)
theorem sa_isub1 {cc : ByteArray} {k : Nat} (hx : p.tables.exec = Jvm.exec) (hb : c.code = cc) (hdg : decode cc pc = .ok (.isub, 1)) (kk : W p l e R s m args below meth c H locs cells slots Q (F0 m (pc + 1) ls (.int (nI k) :: rest))) : W p l e R s m args below meth c H locs cells slots Q (F0 m pc ls (.int 1 :: .int (nI (k + 1)) :: rest)) :=
  lv_isub hx hb hdg (by rw [nI_pred]; exact kk)
end
/-! what is so stays so -/
theorem sa_I_f {σ : sa_St} {j : Nat} {g : Nat → Int32} (hI : sa_I σ) (h2 : ¬ j = 2) (h6 : ¬ j = 6) (h12 : ¬ j = 12) (h13 : ¬ j = 13) : sa_I (sa_f σ j g) := by
  obtain ⟨a1, a2, a3, a4, a5, a6, a7⟩ := hI
  have e : ∀ i, ¬ i = j → (sa_f σ j g).2 i = σ.2 i := fun i hi => by show va_up σ.2 j g i = _; unfold va_up; rw [if_neg hi]
  refine ⟨a1, a2, a3, ?_, ?_, ?_, ?_⟩
  · rw [e 6 (fun h => h6 h.symm)]; exact a4
  · rw [e 12 (fun h => h12 h.symm)]; exact a5
  · rw [e 13 (fun h => h13 h.symm)]; exact a6
  · rw [e 2 (fun h => h2 h.symm)]; exact a7
theorem sa_I_add {σ : sa_St} {o x fr : Int32} (hI : sa_I σ) (hs : σ.1 2 < 150) (ho : vp_in o (σ.1 1)) (hat : vp_in x (σ.1 0)) : sa_I (sa_add σ o x fr) := by
  obtain ⟨a1, a2, a3, a4, a5, a6, a7⟩ := hI
  refine ⟨a1, a2, ?_, a4, ?_, ?_, a7⟩
  · show σ.1 2 + 1 ≤ 150; omega
  · intro k hk
    have hk : k < σ.1 2 + 1 := hk
    show vp_in (upd (σ.2 12) (σ.1 2) o k) (σ.1 1)
    unfold upd
    by_cases h : k = σ.1 2
    · rw [if_pos h]; exact ho
    · rw [if_neg h]; exact a5 k (by omega)
  · intro k hk
    have hk : k < σ.1 2 + 1 := hk
    show vp_in (upd (σ.2 13) (σ.1 2) x k) (σ.1 0)
    unfold upd
    by_cases h : k = σ.1 2
    · rw [if_pos h]; exact hat
    · rw [if_neg h]; exact a6 k (by omega)
theorem sa_I_clo {σ : sa_St} {o : Int32} (hI : sa_I σ) : sa_I (sa_clo σ o) := sa_I_f (sa_I_f hI (by decide) (by decide) (by decide) (by decide)) (by decide) (by decide) (by decide) (by decide)
theorem sa_I_addBreak {σ : sa_St} {x : Int32} (hI : sa_I σ) (h : nI (σ.1 0) < 24) : sa_I (sa_n (sa_f σ 1 (upd (σ.2 1) (σ.1 0) x)) 0 (σ.1 0 + 1)) := by
  obtain ⟨a1, a2, a3, a4, a5, a6, a7⟩ := hI
  have h24 : σ.1 0 < 24 := sa_ltN (by omega) (by decide) h
  refine ⟨?_, a2, a3, a4, a5, fun k hk => sa_vm (a6 k hk) ?_, a7⟩
  · show σ.1 0 + 1 ≤ 24; omega
  · show σ.1 0 ≤ σ.1 0 + 1; omega
theorem sa_I_ord {σ : sa_St} {x1 x2 x3 x4 x5 x6 x7 : Int32} (hI : sa_I σ) (h : nI (σ.1 1) < 20) (h3 : sa_w x3 0 2) : sa_I (sa_ord σ x1 x2 x3 x4 x5 x6 x7) := by
  obtain ⟨a1, a2, a3, a4, a5, a6, a7⟩ := hI
  have h20 : σ.1 1 < 20 := sa_ltN (by omega) (by decide) h
  refine ⟨a1, ?_, a3, ?_, fun k hk => sa_vm (a5 k hk) ?_, a6, a7⟩
  · show σ.1 1 + 1 ≤ 20; omega
  · intro k hk
    have hk : k < σ.1 1 + 1 := hk
    show vp_in (upd (σ.2 6) (σ.1 1) x3 k) 3
    unfold upd
    by_cases h9 : k = σ.1 1
    · rw [if_pos h9]
      exact sa_inv (by decide) ⟨Int32.not_lt.mpr h3.1, by have := h3.2; show x3 < 3; exact Int32.lt_of_le_of_lt this (by decide)⟩
    · rw [if_neg h9]; exact a4 k (by omega)
  · show σ.1 1 ≤ σ.1 1 + 1; omega
theorem sa_I_air {σ : sa_St} {x : Int32} {g : Nat → Int32} (hI : sa_I σ) : sa_I (sa_f (sa_f σ 2 (upd (σ.2 2) x.toNatClampNeg 1)) 14 g) := by
  refine sa_I_f ?_ (by decide) (by decide) (by decide) (by decide)
  obtain ⟨a1, a2, a3, a4, a5, a6, a7⟩ := hI
  refine ⟨a1, a2, a3, a4, a5, a6, fun k => ?_⟩
  show upd (σ.2 2) x.toNatClampNeg 1 k = 0 ∨ upd (σ.2 2) x.toNatClampNeg 1 k = 1
  unfold upd
  by_cases h : k = x.toNatClampNeg
  · rw [if_pos h]; exact Or.inr rfl
  · rw [if_neg h]; exact a7 k
theorem sa_I_mv {σ : sa_St} {x y : Int32} (hI : sa_I σ) (hy : vp_in y (σ.1 0)) : sa_I (sa_f σ 13 (upd (σ.2 13) x.toNatClampNeg y)) := by
  obtain ⟨a1, a2, a3, a4, a5, a6, a7⟩ := hI
  refine ⟨a1, a2, a3, a4, a5, fun k hk => ?_, a7⟩
  show vp_in (upd (σ.2 13) x.toNatClampNeg y k) (σ.1 0)
  unfold upd
  by_cases h : k = x.toNatClampNeg
  · rw [if_pos h]; exact hy
  · rw [if_neg h]; exact a6 k hk
/-! a spot that is moved doesn't stand in its own way -/
theorem sa_k_of {x : Int32} {k : Nat} (hk : k < 2 ^ 31) (h : nI k = x) : k = x.toNatClampNeg := by rw [← h, nI_clamp hk]
theorem sa_room_mv {σ : sa_St} {x y : Int32} (hne : ¬ σ.2 13 x.toNatClampNeg = y) : ∀ n, n ≤ 150 → sa_room σ y (-1) n = sa_room σ y x n := by
  intro n
  induction n with
  | zero => intro _; rfl
  | succ k ih =>
    intro hn
    show sa_room σ y (-1) k - _ = sa_room σ y x k - _
    rw [ih (by omega)]
    congr 1
    by_cases h : sa_sd σ k y
    · have h1 : ¬ nI k = x := fun q => hne (by rw [← sa_k_of (by omega) q]; exact h.1)
      rw [if_pos ⟨sa_ne1 (by omega), h⟩, if_pos ⟨h1, h⟩]
    · rw [if_neg (fun q => h q.2), if_neg (fun q => h q.2)]
theorem sa_th_mv {σ : sa_St} {o x y rv : Int32} (hne : ∀ k, nI k = x → k < 2 ^ 31 → ¬ (sa_sd σ k y ∧ sa_cnt σ k o rv)) : ∀ n, n ≤ 150 → sa_th σ o y (-1) rv n = sa_th σ o y x rv n := by
  intro n
  induction n with
  | zero => intro _; rfl
  | succ k ih =>
    intro hn
    show (sa_th σ o y (-1) rv k || _) = (sa_th σ o y x rv k || _)
    rw [ih (by omega)]
    congr 1
    by_cases h : sa_sd σ k y ∧ sa_cnt σ k o rv
    · have h1 : ¬ nI k = x := fun q => hne k q (by omega) h
      rw [decide_eq_true ⟨sa_ne1 (by omega), h⟩, decide_eq_true ⟨h1, h⟩]
    · rw [decide_eq_false (fun q => h q.2), decide_eq_false (fun q => h q.2)]
theorem sa_why_mv {σ : sa_St} {x y : Int32} (hI : sa_I σ) (hne : ¬ σ.2 13 x.toNatClampNeg = y) : sa_why σ (σ.2 12 x.toNatClampNeg) y (-1) = sa_why σ (σ.2 12 x.toNatClampNeg) y x := by
  have hn := hI.2.2.1
  have e0 : sa_th σ (σ.2 12 x.toNatClampNeg) y (-1) 0 (σ.1 2) = sa_th σ (σ.2 12 x.toNatClampNeg) y x 0 (σ.1 2) := sa_th_mv (fun k q hk h => hne (by rw [← sa_k_of hk q]; exact h.1.1)) _ hn
  have e1 : ∀ z, sa_th σ (σ.2 12 x.toNatClampNeg) z (-1) 1 (σ.1 2) = sa_th σ (σ.2 12 x.toNatClampNeg) z x 1 (σ.1 2) := fun z => sa_th_mv (fun k q hk h => by
    have hk2 := sa_k_of hk q
    rcases h.2 with h3 | h3
    · exact absurd h3.1 (by decide)
    · exact h3.2.1 (by show σ.2 4 (σ.2 12 k).toNatClampNeg = _; rw [hk2])) _ hn
  unfold sa_why
  rw [sa_room_mv hne _ hn, e0, e1 y]
  unfold sa_nx
  rw [e1 (y - 1), e1 (y + 1)]
theorem sa_best_in {σ : sa_St} {o : Int32} : ∀ n, n < 2 ^ 31 → ¬ sa_best σ o n = -1 → vp_in (sa_best σ o n) n := by
  intro n
  induction n with
  | zero => intro _ h; exact absurd rfl h
  | succ k ih =>
    intro hk h
    by_cases hc : sa_why σ o (nI k) (-1) = 0 ∧ (sa_best σ o k = -1 ∨ sa_rat σ o (sa_best σ o k) < sa_rat σ o (nI k))
    · rw [show sa_best σ o (k + 1) = nI k from if_pos hc]; exact vp_in_nI (by omega) hk
    · rw [show sa_best σ o (k + 1) = sa_best σ o k from if_neg hc] at h ⊢; exact sa_vm (ih (by omega) h) (by omega)
theorem sa_fill_y {o : Int32} {n i : Nat} {σ : sa_St} (h : sa_more σ o) : sa_fill o (n + 1) i σ = sa_fill o n (i + 1) (sa_add σ o (sa_best σ o (σ.1 0)) 0) := if_pos h
theorem sa_fill_n {o : Int32} {n i : Nat} {σ : sa_St} (h : ¬ sa_more σ o) : sa_fill o (n + 1) i σ = (nI i, σ) := if_neg h
theorem sa_in_iff {x : Int32} {n : Nat} (hn : n < 2 ^ 31) : sa_w x 0 (nI n - 1) ↔ sa_in x n := by
  constructor
  · intro h
    refine ⟨Int32.not_lt.mpr h.1, ?_⟩
    rcases Nat.eq_zero_or_pos n with rfl | h0
    · exfalso
      have h2 := Int32.le_trans h.1 h.2
      exact absurd h2 (by decide)
    · obtain ⟨m, rfl⟩ : ∃ m, n = m + 1 := ⟨n - 1, by omega⟩
      have h2 := h.2
      rw [nI_pred] at h2
      exact Int32.lt_of_le_of_lt h2 (nI_lt (by omega) hn)
  · intro h
    obtain ⟨j, hj, rfl⟩ := vp_in_of (sa_inv hn h) hn
    refine ⟨nI_pos' (by omega), ?_⟩
    obtain ⟨m, rfl⟩ : ∃ m, n = m + 1 := ⟨n - 1, by omega⟩
    rw [nI_pred]
    exact nI_le (by omega) (by omega)
theorem sa_in_b {x : Int32} {n : Nat} (hn : n < 2 ^ 31) : sa_b (sa_w x 0 (nI n - 1)) = sa_b (sa_in x n) := by
  by_cases h : sa_in x n
  · rw [sa_bt h, sa_bt ((sa_in_iff hn).mpr h)]
  · rw [sa_bf h, sa_bf (fun q => h ((sa_in_iff hn).mp q))]
def sa_gc (x1 x2 x3 : Int32) : Int32 := if x1 = 0 then 1 else if x2 = 0 then 2 else if x3 = 0 then 3 else 0
theorem sa_upd_self (f : Nat → Int32) (k : Nat) : upd f k (f k) = f := by
  funext j; unfold upd
  by_cases h : j = k
  · rw [if_pos h, h]
  · rw [if_neg h]
theorem sa_most {x : Int32} (h : sa_w x 1 24) : ∃ M : Nat, 1 ≤ M ∧ M ≤ 24 ∧ x = nI M := by
  have h0 : ¬ x < 0 := fun q => absurd (Int32.lt_of_le_of_lt h.1 q) (by decide)
  obtain ⟨M, hM, rfl⟩ := nI_of h0
  exact ⟨M, (nI_leI (a := 1) (by decide) hM).mp h.1, (nI_leI (b := 24) hM (by decide)).mp h.2, rfl⟩
