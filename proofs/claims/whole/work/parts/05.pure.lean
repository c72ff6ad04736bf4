/-! plain facts -/
theorem sa_vm {x : Int32} {m n : Nat} (h : vp_in x m) (hmn : m ≤ n) : vp_in x n := fun q => h (q.elim Or.inl (fun z => Or.inr (Nat.le_trans hmn z)))
theorem sa_lt {x : Int32} {m : Nat} (h : vp_in x m) : x.toNatClampNeg < m := Nat.not_le.mp fun q => h (Or.inr q)
theorem sa_inv {x : Int32} {n : Nat} (hn : n < 2 ^ 31) (h : sa_in x n) : vp_in x n := by
  obtain ⟨h1, h2⟩ := h
  obtain ⟨j, hj, rfl⟩ := nI_of h1
  exact vp_in_nI ((nI_ltI hj hn).mp h2) hn
theorem sa_vin {x : Int32} {n : Nat} (hn : n < 2 ^ 31) (h : vp_in x n) : sa_in x n := by
  obtain ⟨j, hj, rfl⟩ := vp_in_of h hn
  exact ⟨nI_pos (by omega), nI_lt hj hn⟩
theorem sa_nI {x : Int32} {n : Nat} (hn : n < 2 ^ 31) (h : vp_in x n) : x = nI x.toNatClampNeg := by
  obtain ⟨j, hj, rfl⟩ := vp_in_of h hn
  rw [nI_clamp (by omega)]
theorem sa_grp {σ : sa_St} (hI : sa_I σ) {o : Int32} (ho : vp_in o (σ.1 1)) : vp_in (σ.2 6 o.toNatClampNeg) 3 := hI.2.2.2.1 _ (sa_lt ho)
theorem sa_cell {x g : Int32} (hx : vp_in x 24) (hg : vp_in g 3) : vp_in (x * 3 + g) 72 := by
  obtain ⟨i, hi, rfl⟩ := vp_in_of hx (by decide)
  obtain ⟨j, hj, rfl⟩ := vp_in_of hg (by decide)
  rw [show (3 : Int32) = nI 3 from rfl, pk_mul, nI_add]
  exact vp_in_nI (by omega) (by decide)
theorem sa_ne1 {k : Nat} (hk : k < 2 ^ 31) : ¬ nI k = -1 := by
  intro h
  have h1 := nI_toInt hk
  rw [h] at h1
  have h2 : ((-1 : Int32)).toInt = -1 := by decide
  omega
theorem sa_th_up {σ : sa_St} {o x w rv : Int32} {k : Nat} (h : sa_th σ o x w rv k = true) : ∀ d, sa_th σ o x w rv (k + d) = true := by
  intro d
  induction d with
  | zero => exact h
  | succ d ih => show (sa_th σ o x w rv (k + d) || _) = true; rw [ih]; rfl
theorem sa_th_mono {σ : sa_St} {o x w rv : Int32} {k n : Nat} (h : sa_th σ o x w rv k = true) (hk : k ≤ n) : sa_th σ o x w rv n = true := by
  obtain ⟨d, rfl⟩ := Nat.exists_eq_add_of_le hk
  exact sa_th_up h d
theorem sa_th_f {σ : sa_St} {o x w rv : Int32} {n : Nat} (h : ∀ k, k < n → ¬ (¬ nI k = w ∧ sa_sd σ k x ∧ sa_cnt σ k o rv)) : sa_th σ o x w rv n = false := by
  induction n with
  | zero => rfl
  | succ n ih => show (sa_th σ o x w rv n || _) = false; rw [ih (fun k hk => h k (by omega)), decide_eq_false (h n (by omega))]; rfl
/-- no spot is in a break that isn't there -/
theorem sa_th_out {σ : sa_St} (hI : sa_I σ) {o x w rv : Int32} (hx : ¬ vp_in x (σ.1 0)) : sa_th σ o x w rv (σ.1 2) = false :=
  sa_th_f fun k hk h => hx (by rw [← h.2.1.1]; exact hI.2.2.2.2.2.1 k hk)
theorem sa_narb {P : Prop} [Decidable P] : narrow .boolean (.int (sa_b P)) = .int (sa_b P) := by
  rcases sa_b_or (P := P) with h | h <;> rw [h] <;> rfl
theorem sa_max0 (x : Int32) : (if x < 0 then 0 else x) = if 0 < x then x else 0 := by
  by_cases h : x < 0
  · rw [if_pos h, if_neg (Int32.not_lt.mpr (Int32.le_of_lt h))]
  · rw [if_neg h]
    by_cases h2 : 0 < x
    · rw [if_pos h2]
    · rw [if_neg h2]; exact Int32.le_antisymm (Int32.not_lt.mp h2) (Int32.not_lt.mp h)
theorem sa_subadd (x y z : Int32) : x - y - z = x - (y + z) := by grind
theorem sa_sub0 (x : Int32) : x = x - 0 := by simp
theorem sa_nx_l {σ : sa_St} (hI : sa_I σ) {o x w rv : Int32} (hx : vp_in x (σ.1 0)) (h : sa_th σ o (x - 1) w rv (σ.1 2) = true) : 0 < x := by
  obtain ⟨j, hj, rfl⟩ := vp_in_of hx (by have := hI.1; omega)
  rcases Nat.eq_zero_or_pos j with rfl | h0
  · rw [sa_th_out hI (by rw [show nI 0 - 1 = (-1 : Int32) from by decide]; intro q; exact q (Or.inl (by decide)))] at h
    exact absurd h (by decide)
  · have := hI.1
    exact nI_lt h0 (by omega)
theorem sa_nx_r {σ : sa_St} (hI : sa_I σ) {o x w rv : Int32} (hx : vp_in x (σ.1 0)) (h : sa_th σ o (x + 1) w rv (σ.1 2) = true) : x + 1 < nI (σ.1 0) := by
  obtain ⟨j, hj, rfl⟩ := vp_in_of hx (by have := hI.1; omega)
  rw [nI_1] at h ⊢
  have := hI.1
  by_cases h0 : j + 1 < σ.1 0
  · exact nI_lt h0 (by omega)
  · rw [sa_th_out hI (by intro q; exact q (Or.inr (by rw [nI_clamp (by omega)]; omega)))] at h
    exact absurd h (by decide)
theorem sa_go_ok {P1 P2 P3 : Prop} [Decidable P1] [Decidable P2] [Decidable P3] {σ : sa_St} {ok : Int32 × sa_St} (h : (sa_go P1 P2 P3 σ ok).1 = 0) : P1 ∧ P2 ∧ P3 := by
  unfold sa_go at h
  by_cases h1 : P1
  · by_cases h2 : P2
    · by_cases h3 : P3
      · exact ⟨h1, h2, h3⟩
      · simp [h1, h2, h3] at h
    · simp [h1, h2] at h
  · simp [h1] at h
theorem sa_ltN {n c : Nat} (hn : n < 2 ^ 31) (hc : c < 2 ^ 31) (h : nI n < nI c) : n < c := (nI_ltI hn hc).mp h
theorem sa_nar01 {x : Int32} (h : x = 0 ∨ x = 1) : narrow .boolean (.int x) = .int x := by rcases h with h | h <;> rw [h] <;> rfl
theorem sa_nrb {x : Int32} (h : x = 0 ∨ x = 1) : vp_nar .boolean x = x := by rcases h with h | h <;> rw [h] <;> rfl
section
variable {p : Program} {l : Launch} {e : Env} {R : Room} {s : State} {m : MethodId} {args : Array Value} {below : List Frame} {meth : Method} {c : Code} {H : Heap} {locs : List Loc} {cells slots : Nat} {Q : State → Prop} {pc : Nat} {ls : Array Slot} {rest : List Value}
/-- a truth value on the stack: one, or nought -/
theorem sa_spl {P : Prop} [Decidable P] (ht : P → W p l e R s m args below meth c H locs cells slots Q (F0 m pc ls (.int 1 :: rest))) (hf : ¬ P → W p l e R s m args below meth c H locs cells slots Q (F0 m pc ls (.int 0 :: rest))) : W p l e R s m args below meth c H locs cells slots Q (F0 m pc ls (.int (sa_b P) :: rest)) := by
  by_cases h : P
  · rw [sa_bt h]; exact ht h
  · rw [sa_bf h]; exact hf h
theorem sa_iadd1 {cc : ByteArray} {k : Nat} (hx : p.tables.exec = Jvm.exec) (hb : c.code = cc) (hdg : decode cc pc = .ok (.iadd, 1)) (kk : W p l e R s m args below meth c H locs cells slots Q (F0 m (pc + 1) ls (.int (nI (k + 1)) :: rest))) : W p l e R s m args below meth c H locs cells slots Q (F0 m pc ls (.int 1 :: .int (nI k) :: rest)) :=
  lv_iadd hx hb hdg (by rw [nI_1]; exact kk)
theorem sa_isub1 {cc : ByteArray} {k : Nat} (hx : p.tables.exec = Jvm.exec) (hb : c.code = cc) (hdg : decode cc pc = .ok (.isub, 1)) (kk : W p l e R s m args below meth c H locs cells slots Q (F0 m (pc + 1) ls (.int (nI k) :: rest))) : W p l e R s m args below meth c H locs cells slots Q (F0 m pc ls (.int 1 :: .int (nI (k + 1)) :: rest)) :=
  lv_isub hx hb hdg (by rw [nI_pred]; exact kk)
end
