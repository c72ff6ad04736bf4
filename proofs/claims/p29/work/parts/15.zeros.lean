/-! the script of zeros: one break of 15 seconds more at each act while there are fewer than 24; no order, no spot -/
def zs : Nat → sa_St
  | 0 => sa_0
  | n + 1 => sa_n (sa_f (zs n) 1 (upd ((zs n).2 1) ((zs n).1 0) 15)) 0 ((zs n).1 0 + 1)
def zs_l : Nat → Nat → Int32
  | 0 => fun _ => 0
  | n + 1 => upd (zs_l n) n 15
def zs_g : Nat → Nat → Int32
  | 0 => fun _ => 0
  | n + 1 => upd (zs_g n) 0 (nI n + 1)
theorem zs_n0 (n : Nat) : (zs n).1 0 = n := by
  induction n with
  | zero => rfl
  | succ n ih => show (zs n).1 0 + 1 = n + 1; rw [ih]
theorem zs_n1 (n : Nat) : (zs n).1 1 = 0 := by
  induction n with
  | zero => rfl
  | succ n ih => show (zs n).1 1 = 0; exact ih
theorem zs_n2 (n : Nat) : (zs n).1 2 = 0 := by
  induction n with
  | zero => rfl
  | succ n ih => show (zs n).1 2 = 0; exact ih
theorem zs_sec (n k : Nat) (h : k < n) : (zs n).2 1 k = 15 := by
  induction n with
  | zero => omega
  | succ n ih =>
    show upd ((zs n).2 1) ((zs n).1 0) 15 k = 15
    rw [zs_n0]
    by_cases e : k = n
    · unfold upd; rw [if_pos e]
    · unfold upd; rw [if_neg e]; exact ih (by omega)
theorem zs_ll (n k : Nat) (h : k < n) : zs_l n k = 15 := by
  induction n with
  | zero => omega
  | succ n ih =>
    show upd (zs_l n) n 15 k = 15
    by_cases e : k = n
    · unfold upd; rw [if_pos e]
    · unfold upd; rw [if_neg e]; exact ih (by omega)
theorem zs_g0 (n : Nat) : zs_g n 0 = nI n := by
  cases n with
  | zero => rfl
  | succ n => show upd (zs_g n) 0 (nI n + 1) 0 = nI (n + 1); unfold upd; rw [if_pos rfl, nI_1]
theorem zs_gj (n j : Nat) (hj : ¬ j = 0) : zs_g n j = 0 := by
  induction n with
  | zero => rfl
  | succ n ih => show upd (zs_g n) 0 (nI n + 1) j = 0; unfold upd; rw [if_neg hj]; exact ih
theorem zs_I (n : Nat) (h : n ≤ 24) : sa_I (zs n) := by
  refine ⟨by rw [zs_n0]; exact h, by rw [zs_n1]; omega, by rw [zs_n2]; omega, fun k hk => ?_, fun k hk => ?_, fun k hk => ?_, ?_⟩
  · rw [zs_n1] at hk; omega
  · rw [zs_n2] at hk; omega
  · rw [zs_n2] at hk; omega
  · intro k
    left
    clear h
    induction n with
    | zero => rfl
    | succ n ih => exact ih
theorem zs_out (n : Nat) (x : Int32) (j : Nat) (h : (zs n).1 j = 0) : ¬ sa_in x ((zs n).1 j) := by
  rw [h]; intro q; exact q.1 q.2
theorem zs_neg (n : Nat) (j : Nat) : ¬ sa_in (-1) ((zs n).1 j) := fun q => q.1 (by decide)
theorem zs_at (n k : Nat) (h : k < n) (hn : n ≤ 24) : sa_in (nI k) ((zs n).1 0) := by
  rw [zs_n0]; exact ⟨nI_pos (by omega), nI_lt h (by omega)⟩
theorem zs_end (n : Nat) (hn : n ≤ 24) : ¬ sa_in (nI n) ((zs n).1 0) := by
  rw [zs_n0]; exact fun q => nI_nlt (Nat.le_refl n) (by omega) q.2
theorem zs_room (n k : Nat) (h : k < n) (hn : n ≤ 24) : sa_room (zs n) (nI k) (-1) ((zs n).1 2) = 15 := by
  rw [zs_n2]
  show (zs n).2 1 (nI k).toNatClampNeg = 15
  rw [nI_clamp (by omega)]; exact zs_sec n k h
theorem zs_bito (n : Nat) (x : Int32) : sa_bito (zs n) x ((zs n).1 1) = 0 := by rw [zs_n1]; rfl
theorem zs_mo (n : Nat) : (sa_mo (zs n) ((zs n).1 1)).1 = -1 := by rw [zs_n1]; rfl
/-! the calls -/
theorem z_breaks (l : Launch) (G : va_G) (cI cZ cL : ClassId) (a : Nat → Nat) (n : Nat) (hn : n ≤ 24) : sa_Rd l yX0_breaks wsX0_breaks ({ frames := 0, cells := 0, slots := 0, locals := 0 }) G cI cZ cL (sa_W0 cI cZ a (zs n)) [.ref (a 0)] (nI n) := by
  have h := c_X0_breaks_ok l G cI cZ cL a (zs n) (zs_I n hn)
  rw [zs_n0] at h
  exact h
theorem z_orders (l : Launch) (G : va_G) (cI cZ cL : ClassId) (a : Nat → Nat) (n : Nat) (hn : n ≤ 24) : sa_Rd l yX0_orders wsX0_orders ({ frames := 0, cells := 0, slots := 0, locals := 0 }) G cI cZ cL (sa_W0 cI cZ a (zs n)) [.ref (a 0)] (nI 0) := by
  have h := c_X0_orders_ok l G cI cZ cL a (zs n) (zs_I n hn)
  rw [zs_n1] at h
  exact h
theorem z_spots (l : Launch) (G : va_G) (cI cZ cL : ClassId) (a : Nat → Nat) (n : Nat) (hn : n ≤ 24) : sa_Rd l yX0_spots wsX0_spots ({ frames := 0, cells := 0, slots := 0, locals := 0 }) G cI cZ cL (sa_W0 cI cZ a (zs n)) [.ref (a 0)] (nI 0) := by
  have h := c_X0_spots_ok l G cI cZ cL a (zs n) (zs_I n hn)
  rw [zs_n2] at h
  exact h
theorem z_mostOwed (l : Launch) (G : va_G) (cI cZ cL : ClassId) (a : Nat → Nat) (n : Nat) (hn : n ≤ 24) : sa_Rd l yX0_mostOwed wsX0_mostOwed ({ frames := 5, cells := 0, slots := 0, locals := 111 }) G cI cZ cL (sa_W0 cI cZ a (zs n)) [.ref (a 0)] (-1) := by
  have h := c_X0_mostOwed_ok l G cI cZ cL a (zs n) (zs_I n hn)
  rw [zs_mo] at h
  exact h
theorem z_room (l : Launch) (G : va_G) (cI cZ cL : ClassId) (a : Nat → Nat) (n : Nat) (hn : n ≤ 24) (k : Nat) (hk : k < n) : sa_Lr l yL_room wsL_room ({ frames := 9, cells := 0, slots := 0, locals := 153 }) G cI cZ cL a (zs n) [.ref (a 0), .int (nI k)] 15 := by
  have h := k_room_ok l G cI cZ cL a (zs n) (zs_I n hn) (nI k) (zs_at n k hk hn)
  rw [zs_room n k hk hn] at h
  exact h
theorem z_billTo (l : Launch) (G : va_G) (cI cZ cL : ClassId) (a : Nat → Nat) (n : Nat) (hn : n ≤ 24) (k : Nat) (hk : k < 10) : sa_Lr l yL_billTo wsL_billTo ({ frames := 8, cells := 0, slots := 0, locals := 133 }) G cI cZ cL a (zs n) [.ref (a 0), .int (nI k)] 0 := by
  have h := k_billTo_ok l G cI cZ cL a (zs n) (zs_I n hn) (nI k) ⟨show nI 0 ≤ nI k from nI_le (Nat.zero_le k) (by omega), show nI k ≤ nI 9 from nI_le (by omega) (by decide)⟩
  rw [zs_bito] at h
  exact h
theorem z_addBreak (l : Launch) (G : va_G) (cI cZ cL : ClassId) (a : Nat → Nat) (n : Nat) (hn : n ≤ 24) (hJ : sa_J a) (hk : n < 24) : sa_Wr l yL_addBreak wsL_addBreak ({ frames := 8, cells := 0, slots := 0, locals := 132 }) G cI cZ cL (sa_W0 cI cZ a (zs n)) (sa_W0 cI cZ a (zs (n + 1))) (sa_A a) [.ref (a 0), .int 15] (nI n) := by
  have h := k_addBreak_ok l G cI cZ cL a (zs n) (zs_I n hn) hJ 15 (by decide) (by rw [zs_n0]; exact nI_lt hk (by decide))
  have e : nI ((zs n).1 0) = nI n := by rw [zs_n0]
  rw [e] at h
  exact h
theorem z_room_x (l : Launch) (lo h0 : Nat) (hst : l.stackTraces = false) (G : va_G) (cI cZ cL : ClassId) (a : Nat → Nat) (n : Nat) (hn : n ≤ 24) : sa_Lx l yL_room wsL_room ({ frames := 9, cells := 1, slots := 6, locals := 153 }) lo h0 G cI cZ cL a (zs n) [.ref (a 0), .int (nI n)] (-1000001) :=
  k_room_e1 l lo h0 hst G cI cZ cL a (zs n) (zs_I n hn) (nI n) (congrArg Prod.fst (sa_go1 (zs_end n hn)))
theorem z_isAired_x (l : Launch) (lo h0 : Nat) (hst : l.stackTraces = false) (G : va_G) (cI cZ cL : ClassId) (a : Nat → Nat) (n : Nat) (hn : n ≤ 24) : sa_Lx l yL_isAired wsL_isAired ({ frames := 9, cells := 1, slots := 6, locals := 153 }) lo h0 G cI cZ cL a (zs n) [.ref (a 0), .int (-1)] (-1000001) :=
  k_isAired_e1 l lo h0 hst G cI cZ cL a (zs n) (zs_I n hn) (-1) (congrArg Prod.fst (sa_go1 (zs_neg n 0)))
theorem z_stateOf_x (l : Launch) (lo h0 : Nat) (hst : l.stackTraces = false) (G : va_G) (cI cZ cL : ClassId) (a : Nat → Nat) (n : Nat) (hn : n ≤ 24) : sa_Lx l yL_stateOf wsL_stateOf ({ frames := 9, cells := 1, slots := 6, locals := 153 }) lo h0 G cI cZ cL a (zs n) [.ref (a 0), .int (0)] (-1000001) :=
  k_stateOf_e1 l lo h0 hst G cI cZ cL a (zs n) (zs_I n hn) (0) (congrArg Prod.fst (sa_go1 (zs_out n 0 2 (zs_n2 n))))
theorem z_breakOf_x (l : Launch) (lo h0 : Nat) (hst : l.stackTraces = false) (G : va_G) (cI cZ cL : ClassId) (a : Nat → Nat) (n : Nat) (hn : n ≤ 24) : sa_Lx l yL_breakOf wsL_breakOf ({ frames := 9, cells := 1, slots := 6, locals := 153 }) lo h0 G cI cZ cL a (zs n) [.ref (a 0), .int (-1)] (-1000001) :=
  k_breakOf_e1 l lo h0 hst G cI cZ cL a (zs n) (zs_I n hn) (-1) (congrArg Prod.fst (sa_go1 (zs_neg n 2)))
theorem z_billTo_x (l : Launch) (lo h0 : Nat) (hst : l.stackTraces = false) (G : va_G) (cI cZ cL : ClassId) (a : Nat → Nat) (n : Nat) (hn : n ≤ 24) : sa_Lx l yL_billTo wsL_billTo ({ frames := 8, cells := 1, slots := 6, locals := 133 }) lo h0 G cI cZ cL a (zs n) [.ref (a 0), .int (10)] (-1000002) :=
  k_billTo_e1 l lo h0 hst G cI cZ cL a (zs n) (zs_I n hn) (10) (congrArg Prod.fst (sa_go1 (by decide)))
theorem z_delivered_x (l : Launch) (lo h0 : Nat) (hst : l.stackTraces = false) (G : va_G) (cI cZ cL : ClassId) (a : Nat → Nat) (n : Nat) (hn : n ≤ 24) : sa_Lx l yL_delivered wsL_delivered ({ frames := 9, cells := 1, slots := 6, locals := 153 }) lo h0 G cI cZ cL a (zs n) [.ref (a 0), .int (0)] (-1000001) :=
  k_delivered_e1 l lo h0 hst G cI cZ cL a (zs n) (zs_I n hn) (0) (congrArg Prod.fst (sa_go1 (zs_out n 0 1 (zs_n1 n))))
theorem z_owed_x (l : Launch) (lo h0 : Nat) (hst : l.stackTraces = false) (G : va_G) (cI cZ cL : ClassId) (a : Nat → Nat) (n : Nat) (hn : n ≤ 24) : sa_Lx l yL_owed wsL_owed ({ frames := 9, cells := 1, slots := 6, locals := 153 }) lo h0 G cI cZ cL a (zs n) [.ref (a 0), .int (-1)] (-1000001) :=
  k_owed_e1 l lo h0 hst G cI cZ cL a (zs n) (zs_I n hn) (-1) (congrArg Prod.fst (sa_go1 (zs_neg n 1)))
theorem z_rest_x (l : Launch) (lo h0 : Nat) (hst : l.stackTraces = false) (G : va_G) (cI cZ cL : ClassId) (a : Nat → Nat) (n : Nat) (hn : n ≤ 24) : sa_Lx l yL_rest wsL_rest ({ frames := 9, cells := 1, slots := 6, locals := 153 }) lo h0 G cI cZ cL a (zs n) [.ref (a 0), .int (0)] (-1000001) :=
  k_rest_e1 l lo h0 hst G cI cZ cL a (zs n) (zs_I n hn) (0) (congrArg Prod.fst (sa_go1 (zs_out n 0 1 (zs_n1 n))))
theorem z_bill_x (l : Launch) (lo h0 : Nat) (hst : l.stackTraces = false) (G : va_G) (cI cZ cL : ClassId) (a : Nat → Nat) (n : Nat) (hn : n ≤ 24) : sa_Lx l yL_bill wsL_bill ({ frames := 9, cells := 1, slots := 6, locals := 153 }) lo h0 G cI cZ cL a (zs n) [.ref (a 0), .int (-1)] (-1000001) :=
  k_bill_e1 l lo h0 hst G cI cZ cL a (zs n) (zs_I n hn) (-1) (congrArg Prod.fst (sa_go1 (zs_neg n 1)))
theorem z_add14 (l : Launch) (lo h0 : Nat) (hst : l.stackTraces = false) (G : va_G) (cI cZ cL : ClassId) (a : Nat → Nat) (n : Nat) (hn : n ≤ 24) : sa_Lx l yL_addBreak wsL_addBreak ({ frames := 8, cells := 1, slots := 6, locals := 132 }) lo h0 G cI cZ cL a (zs n) [.ref (a 0), .int (14)] (-1000002) :=
  k_addBreak_e1 l lo h0 hst G cI cZ cL a (zs n) (zs_I n hn) (14) (congrArg Prod.fst (sa_go1 (by decide)))
theorem z_add601 (l : Launch) (lo h0 : Nat) (hst : l.stackTraces = false) (G : va_G) (cI cZ cL : ClassId) (a : Nat → Nat) (n : Nat) (hn : n ≤ 24) : sa_Lx l yL_addBreak wsL_addBreak ({ frames := 8, cells := 1, slots := 6, locals := 132 }) lo h0 G cI cZ cL a (zs n) [.ref (a 0), .int (601)] (-1000002) :=
  k_addBreak_e1 l lo h0 hst G cI cZ cL a (zs n) (zs_I n hn) (601) (congrArg Prod.fst (sa_go1 (by decide)))
theorem z_addFull (l : Launch) (lo h0 : Nat) (hst : l.stackTraces = false) (G : va_G) (cI cZ cL : ClassId) (a : Nat → Nat) (n : Nat) (hn : n ≤ 24) (hf : n = 24) : sa_Lx l yL_addBreak wsL_addBreak ({ frames := 8, cells := 1, slots := 6, locals := 132 }) lo h0 G cI cZ cL a (zs n) [.ref (a 0), .int (15)] (-1000003) :=
  k_addBreak_e2 l lo h0 hst G cI cZ cL a (zs n) (zs_I n hn) (15) (congrArg Prod.fst (sa_go2 (by decide) (by rw [zs_n0, hf]; decide)))
