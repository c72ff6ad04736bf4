/-! The account as a mathematical value: counts (0 breaks, 1 orders, 2 spots) and columns
(1 seconds of a break, 2 aired, 3 ratings, 4 advertiser, 5 category, 6 group, 7 seconds, 8 price, 9 promise, 10 floor, 11 closed, 12 order, 13 break, 14 state, 15 free), and what each call answers. -/
abbrev sa_St : Type := (Nat → Nat) × (Nat → Nat → Int32)
abbrev sa_R : Type := Nat × Int32 × sa_St
def sa_n (σ : sa_St) (j v : Nat) : sa_St := (va_up σ.1 j v, σ.2)
def sa_f (σ : sa_St) (j : Nat) (g : Nat → Int32) : sa_St := (σ.1, va_up σ.2 j g)
def sa_0 : sa_St := (fun _ => 0, fun _ _ => 0)
def sa_b (P : Prop) [Decidable P] : Int32 := if P then 1 else 0
theorem sa_b0 {P : Prop} [Decidable P] (h : sa_b P = 0) : ¬ P := by
  intro hp; unfold sa_b at h; rw [if_pos hp] at h; exact absurd h (by decide)
theorem sa_b1 {P : Prop} [Decidable P] (h : ¬ sa_b P = 0) : P := by
  unfold sa_b at h
  by_cases hp : P
  · exact hp
  · rw [if_neg hp] at h; exact absurd rfl h
theorem sa_bt {P : Prop} [Decidable P] (h : P) : sa_b P = 1 := if_pos h
theorem sa_bf {P : Prop} [Decidable P] (h : ¬ P) : sa_b P = 0 := if_neg h
theorem sa_b_or {P : Prop} [Decidable P] : sa_b P = 0 ∨ sa_b P = 1 := by
  by_cases h : P
  · exact Or.inr (sa_bt h)
  · exact Or.inl (sa_bf h)
/-- a spot stands in a break -/
abbrev sa_sd (σ : sa_St) (k : Nat) (at' : Int32) : Prop := σ.2 13 k = at' ∧ (σ.2 14 k = 0 ∨ σ.2 14 k = 1)
abbrev sa_sec (σ : sa_St) (k : Nat) : Int32 := σ.2 7 (σ.2 12 k).toNatClampNeg
def sa_room (σ : sa_St) (at' w : Int32) : Nat → Int32
  | 0 => σ.2 1 at'.toNatClampNeg
  | k + 1 => sa_room σ at' w k - (if ¬ nI k = w ∧ sa_sd σ k at' then sa_sec σ k else 0)
abbrev sa_rat (σ : sa_St) (o at' : Int32) : Int32 := σ.2 3 (at' * 3 + σ.2 6 o.toNatClampNeg).toNatClampNeg
/-- the same advertiser (rv = 0), or a rival -/
abbrev sa_adv (σ : sa_St) (k : Nat) (o : Int32) : Prop := σ.2 4 (σ.2 12 k).toNatClampNeg = σ.2 4 o.toNatClampNeg
abbrev sa_cat (σ : sa_St) (k : Nat) (o : Int32) : Prop := σ.2 5 (σ.2 12 k).toNatClampNeg = σ.2 5 o.toNatClampNeg
abbrev sa_cnt (σ : sa_St) (k : Nat) (o rv : Int32) : Prop := (rv = 0 ∧ sa_adv σ k o) ∨ (¬ rv = 0 ∧ ¬ sa_adv σ k o ∧ sa_cat σ k o)
def sa_th (σ : sa_St) (o at' w rv : Int32) : Nat → Bool
  | 0 => false
  | k + 1 => sa_th σ o at' w rv k || decide (¬ nI k = w ∧ sa_sd σ k at' ∧ sa_cnt σ k o rv)
abbrev sa_nx (σ : sa_St) (o at' w : Int32) : Prop :=
  (0 < at' ∧ sa_th σ o (at' - 1) w 1 (σ.1 2) = true) ∨ (at' + 1 < nI (σ.1 0) ∧ sa_th σ o (at' + 1) w 1 (σ.1 2) = true)
def sa_why (σ : sa_St) (o at' w : Int32) : Int32 :=
  if ¬ σ.2 2 at'.toNatClampNeg = 0 then 1
  else if sa_room σ at' w (σ.1 2) < σ.2 7 o.toNatClampNeg then 2
  else if sa_rat σ o at' < σ.2 10 o.toNatClampNeg then 3
  else if sa_th σ o at' w 0 (σ.1 2) = true then 4
  else if sa_th σ o at' w 1 (σ.1 2) = true then 5
  else if sa_nx σ o at' w then 6 else 0
def sa_sum (σ : sa_St) (o st fr : Int32) : Nat → Int32
  | 0 => 0
  | k + 1 => sa_sum σ o st fr k + (if σ.2 12 k = o ∧ σ.2 14 k = st ∧ (¬ σ.2 15 k = 0 ∨ fr = 0) then sa_rat σ o (σ.2 13 k) else 0)
abbrev sa_aud (σ : sa_St) (o st : Int32) : Int32 := sa_sum σ o st 0 (σ.1 2)
abbrev sa_less (σ : sa_St) (o : Int32) : Int32 := σ.2 9 o.toNatClampNeg - sa_aud σ o 1
def sa_owes (σ : sa_St) (o : Int32) : Int32 := if ¬ σ.2 11 o.toNatClampNeg = 0 ∧ 0 < sa_less σ o then sa_less σ o else 0
def sa_left (σ : sa_St) (o : Int32) : Int32 :=
  if 0 < sa_owes σ o - sa_sum σ o 0 1 (σ.1 2) then sa_owes σ o - sa_sum σ o 0 1 (σ.1 2) else 0
def sa_bil (σ : sa_St) (o : Int32) : Nat → Int32
  | 0 => 0
  | k + 1 => sa_bil σ o k + (if σ.2 12 k = o ∧ σ.2 14 k = 1 ∧ σ.2 15 k = 0 then σ.2 8 o.toNatClampNeg else 0)
def sa_bito (σ : sa_St) (by' : Int32) : Nat → Int32
  | 0 => 0
  | k + 1 => sa_bito σ by' k + (if σ.2 4 k = by' then sa_bil σ (nI k) (σ.1 2) else 0)
def sa_mo (σ : sa_St) : Nat → Int32 × Int32
  | 0 => (-1, 0)
  | k + 1 => if (sa_mo σ k).2 < sa_left σ (nI k) then (nI k, sa_left σ (nI k)) else sa_mo σ k
def sa_best (σ : sa_St) (o : Int32) : Nat → Int32
  | 0 => -1
  | k + 1 => if sa_why σ o (nI k) (-1) = 0 ∧ (sa_best σ o k = -1 ∨ sa_rat σ o (sa_best σ o k) < sa_rat σ o (nI k)) then nI k else sa_best σ o k
/-- a spot more -/
def sa_add (σ : sa_St) (o at' fr : Int32) : sa_St :=
  sa_n (sa_f (sa_f (sa_f (sa_f σ 12 (upd (σ.2 12) (σ.1 2) o)) 13 (upd (σ.2 13) (σ.1 2) at')) 14 (upd (σ.2 14) (σ.1 2) 0)) 15 (upd (σ.2 15) (σ.1 2) fr)) 2 (σ.1 2 + 1)
abbrev sa_more (σ : sa_St) (o : Int32) : Prop := σ.1 2 < 150 ∧ sa_aud σ o 1 + sa_aud σ o 0 < σ.2 9 o.toNatClampNeg ∧ ¬ sa_best σ o (σ.1 0) = -1
def sa_fill (o : Int32) : Nat → Nat → sa_St → Int32 × sa_St
  | 0, i, σ => (nI i, σ)
  | n + 1, i, σ => if sa_more σ o then sa_fill o n (i + 1) (sa_add σ o (sa_best σ o (σ.1 0)) 0) else (nI i, σ)
def sa_air (σ : sa_St) (at' : Int32) : Nat → (Nat → Int32) × Int32
  | 0 => (σ.2 14, 0)
  | k + 1 => if σ.2 13 k = at' ∧ (sa_air σ at' k).1 k = 0 then (upd (sa_air σ at' k).1 k 1, (sa_air σ at' k).2 + 1) else sa_air σ at' k
def sa_cls (σ : sa_St) (o : Int32) : Nat → Nat → Int32
  | 0 => σ.2 14
  | k + 1 => if σ.2 12 k = o ∧ sa_cls σ o k k = 0 then upd (sa_cls σ o k) k 3 else sa_cls σ o k
/-- what is so of every account -/
def sa_I (σ : sa_St) : Prop :=
  σ.1 0 ≤ 24 ∧ σ.1 1 ≤ 20 ∧ σ.1 2 ≤ 150 ∧ (∀ k, k < σ.1 1 → vp_in (σ.2 6 k) 3) ∧ (∀ k, k < σ.1 2 → vp_in (σ.2 12 k) (σ.1 1)) ∧ (∀ k, k < σ.1 2 → vp_in (σ.2 13 k) (σ.1 0)) ∧ (∀ k, σ.2 2 k = 0 ∨ σ.2 2 k = 1)
/-! the calls: which exception (0: none), the answer, the account behind it -/
abbrev sa_in (x : Int32) (n : Nat) : Prop := ¬ x < 0 ∧ x < nI n
abbrev sa_iB (σ : sa_St) (x : Int32) : Prop := sa_in x (σ.1 0)
abbrev sa_iO (σ : sa_St) (x : Int32) : Prop := sa_in x (σ.1 1)
abbrev sa_iS (σ : sa_St) (x : Int32) : Prop := sa_in x (σ.1 2)
abbrev sa_w (v a b : Int32) : Prop := a ≤ v ∧ v ≤ b
/-- three conditions in their order -/
def sa_go (P1 P2 P3 : Prop) [Decidable P1] [Decidable P2] [Decidable P3] (σ : sa_St) (ok : Int32 × sa_St) : sa_R :=
  if ¬ P1 then (1, 0, σ) else if ¬ P2 then (2, 0, σ) else if ¬ P3 then (3, 0, σ) else (0, ok)
theorem sa_go0 {P1 P2 P3 : Prop} [Decidable P1] [Decidable P2] [Decidable P3] {σ : sa_St} {ok : Int32 × sa_St} (h1 : P1) (h2 : P2) (h3 : P3) : sa_go P1 P2 P3 σ ok = (0, ok) := by unfold sa_go; rw [if_neg (fun h => h h1), if_neg (fun h => h h2), if_neg (fun h => h h3)]
theorem sa_go1 {P1 P2 P3 : Prop} [Decidable P1] [Decidable P2] [Decidable P3] {σ : sa_St} {ok : Int32 × sa_St} (h1 : ¬ P1) : sa_go P1 P2 P3 σ ok = (1, 0, σ) := by unfold sa_go; rw [if_pos h1]
theorem sa_go2 {P1 P2 P3 : Prop} [Decidable P1] [Decidable P2] [Decidable P3] {σ : sa_St} {ok : Int32 × sa_St} (h1 : P1) (h2 : ¬ P2) : sa_go P1 P2 P3 σ ok = (2, 0, σ) := by unfold sa_go; rw [if_neg (fun h => h h1), if_pos h2]
theorem sa_go3 {P1 P2 P3 : Prop} [Decidable P1] [Decidable P2] [Decidable P3] {σ : sa_St} {ok : Int32 × sa_St} (h1 : P1) (h2 : P2) (h3 : ¬ P3) : sa_go P1 P2 P3 σ ok = (3, 0, σ) := by unfold sa_go; rw [if_neg (fun h => h h1), if_neg (fun h => h h2), if_pos h3]
def sp_addBreak (σ : sa_St) (x : Int32) : sa_R := sa_go (sa_w x 15 600) (nI (σ.1 0) < 24) True σ (nI (σ.1 0), sa_n (sa_f σ 1 (upd (σ.2 1) (σ.1 0) x)) 0 (σ.1 0 + 1))
def sp_rate (σ : sa_St) (at' g v : Int32) : sa_R := sa_go (sa_iB σ at') (sa_w g 0 2 ∧ sa_w v 0 100000) True σ (σ.2 3 (at' * 3 + g).toNatClampNeg, sa_f σ 3 (upd (σ.2 3) (at' * 3 + g).toNatClampNeg v))
def sp_air (σ : sa_St) (at' : Int32) : sa_R := sa_go (sa_iB σ at') (σ.2 2 at'.toNatClampNeg = 0) True σ ((sa_air σ at' (σ.1 2)).2, sa_f (sa_f σ 2 (upd (σ.2 2) at'.toNatClampNeg 1)) 14 (sa_air σ at' (σ.1 2)).1)
def sp_isAired (σ : sa_St) (at' : Int32) : sa_R := sa_go (sa_iB σ at') True True σ (σ.2 2 at'.toNatClampNeg, σ)
def sp_room (σ : sa_St) (at' : Int32) : sa_R := sa_go (sa_iB σ at') True True σ (sa_room σ at' (-1) (σ.1 2), σ)
def sp_rating (σ : sa_St) (at' g : Int32) : sa_R := sa_go (sa_iB σ at') (sa_w g 0 2) True σ (σ.2 3 (at' * 3 + g).toNatClampNeg, σ)
def sa_ord (σ : sa_St) (x1 x2 x3 x4 x5 x6 x7 : Int32) : sa_St :=
  sa_n (sa_f (sa_f (sa_f (sa_f (sa_f (sa_f (sa_f σ 4 (upd (σ.2 4) (σ.1 1) x1)) 5 (upd (σ.2 5) (σ.1 1) x2)) 6 (upd (σ.2 6) (σ.1 1) x3)) 7 (upd (σ.2 7) (σ.1 1) x4)) 8 (upd (σ.2 8) (σ.1 1) x5)) 9 (upd (σ.2 9) (σ.1 1) x6)) 10 (upd (σ.2 10) (σ.1 1) x7)) 1 (σ.1 1 + 1)
def sp_addOrder (σ : sa_St) (x1 x2 x3 x4 x5 x6 x7 : Int32) : sa_R :=
  sa_go (sa_w x1 0 9 ∧ sa_w x2 0 7 ∧ sa_w x3 0 2 ∧ (x4 = 15 ∨ x4 = 30 ∨ x4 = 60) ∧ sa_w x5 0 1000000 ∧ sa_w x6 0 1000000 ∧ sa_w x7 0 100000) (nI (σ.1 1) < 20) True σ (nI (σ.1 1), sa_ord σ x1 x2 x3 x4 x5 x6 x7)
def sa_clo (σ : sa_St) (o : Int32) : sa_St := sa_f (sa_f σ 11 (upd (σ.2 11) o.toNatClampNeg 1)) 14 (sa_cls σ o (σ.1 2))
def sp_close (σ : sa_St) (o : Int32) : sa_R := sa_go (sa_iO σ o) (σ.2 11 o.toNatClampNeg = 0) True σ (sa_owes (sa_clo σ o) o, sa_clo σ o)
def sp_whyNot (σ : sa_St) (o at' : Int32) : sa_R := sa_go (sa_iO σ o ∧ sa_iB σ at') True True σ (sa_why σ o at' (-1), σ)
def sp_place (σ : sa_St) (o at' : Int32) : sa_R := sa_go (sa_iO σ o ∧ sa_iB σ at') (σ.2 11 o.toNatClampNeg = 0 ∧ nI (σ.1 2) < 150 ∧ sa_why σ o at' (-1) = 0) True σ (nI (σ.1 2), sa_add σ o at' 0)
def sp_give (σ : sa_St) (o at' : Int32) : sa_R := sa_go (sa_iO σ o ∧ sa_iB σ at') (0 < sa_left σ o ∧ nI (σ.1 2) < 150 ∧ sa_why σ o at' (-1) = 0) True σ (nI (σ.1 2), sa_add σ o at' 1)
def sp_fill (σ : sa_St) (o most : Int32) : sa_R := sa_go (sa_iO σ o) (sa_w most 1 24) (σ.2 11 o.toNatClampNeg = 0) σ (sa_fill o most.toNatClampNeg 0 σ)
def sp_move (σ : sa_St) (x at' : Int32) : sa_R := sa_go (sa_iS σ x ∧ sa_iB σ at') (σ.2 14 x.toNatClampNeg = 0 ∧ (σ.2 13 x.toNatClampNeg = at' ∨ sa_why σ (σ.2 12 x.toNatClampNeg) at' x = 0)) True σ (σ.2 13 x.toNatClampNeg, sa_f σ 13 (upd (σ.2 13) x.toNatClampNeg at'))
def sp_miss (σ : sa_St) (x : Int32) : sa_R := sa_go (sa_iS σ x) (σ.2 14 x.toNatClampNeg = 0 ∨ σ.2 14 x.toNatClampNeg = 1) True σ (sa_b (σ.2 14 x.toNatClampNeg = 1), sa_f σ 14 (upd (σ.2 14) x.toNatClampNeg 2))
def sp_drop (σ : sa_St) (x : Int32) : sa_R := sa_go (sa_iS σ x) (σ.2 14 x.toNatClampNeg = 0) True σ (0, sa_f σ 14 (upd (σ.2 14) x.toNatClampNeg 3))
def sp_stateOf (σ : sa_St) (x : Int32) : sa_R := sa_go (sa_iS σ x) True True σ (σ.2 14 x.toNatClampNeg, σ)
def sp_breakOf (σ : sa_St) (x : Int32) : sa_R := sa_go (sa_iS σ x) True True σ (σ.2 13 x.toNatClampNeg, σ)
def sp_delivered (σ : sa_St) (o : Int32) : sa_R := sa_go (sa_iO σ o) True True σ (sa_aud σ o 1, σ)
def sp_owed (σ : sa_St) (o : Int32) : sa_R := sa_go (sa_iO σ o) True True σ (sa_owes σ o, σ)
def sp_rest (σ : sa_St) (o : Int32) : sa_R := sa_go (sa_iO σ o) True True σ (sa_left σ o, σ)
def sp_bill (σ : sa_St) (o : Int32) : sa_R := sa_go (sa_iO σ o) True True σ (sa_bil σ o (σ.1 2), σ)
def sp_billTo (σ : sa_St) (x : Int32) : sa_R := sa_go (sa_w x 0 9) True True σ (sa_bito σ x (σ.1 1), σ)
