/-! a start with 180 zeros: the printed witness's state with another script -/
def zs_cells : Array Value := (zs_zeros.map Value.int).toArray
def zs_state : State := start1.aboutOf zs_cells
theorem zs_code (c : Jvm.Cond) (hc : su_isCode c = true) (h : c.before start1.args0 start1.about = true) : c.before start1.args0 zs_state = true := by
  cases c with
  | code x bytes maxL r =>
    simp only [Cond.before, Cond.holds, Cond.value] at h ⊢
    exact h
  | _ => exact nomatch hc
set_option maxRecDepth 16384 in
theorem zs_others_1_0 : ((tables_1_1.take 40)).all (fun c => su_isCode c || c.before start1.args0 zs_state) = true := by decide +kernel
set_option maxRecDepth 16384 in
theorem zs_others_1_1 : (((tables_1_1.drop 40).take 40)).all (fun c => su_isCode c || c.before start1.args0 zs_state) = true := by decide +kernel
set_option maxRecDepth 16384 in
theorem zs_others_1_2 : ((((tables_1_1.drop 40).drop 40).take 40)).all (fun c => su_isCode c || c.before start1.args0 zs_state) = true := by decide +kernel
set_option maxRecDepth 16384 in
theorem zs_others_1_3 : (((((tables_1_1.drop 40).drop 40).drop 40).take 40)).all (fun c => su_isCode c || c.before start1.args0 zs_state) = true := by decide +kernel
set_option maxRecDepth 16384 in
theorem zs_others_1_4 : ((((((tables_1_1.drop 40).drop 40).drop 40).drop 40).take 40)).all (fun c => su_isCode c || c.before start1.args0 zs_state) = true := by decide +kernel
set_option maxRecDepth 16384 in
theorem zs_others_1_5 : ((((((tables_1_1.drop 40).drop 40).drop 40).drop 40).drop 40)).all (fun c => su_isCode c || c.before start1.args0 zs_state) = true := by decide +kernel
theorem zs_words_1 : ∀ c ∈ tables_1_1, c.before start1.args0 zs_state = true := fun c h => su_words (start1.su_all_split _ 40 tables_1_1 zs_others_1_0 (start1.su_all_split _ 40 (tables_1_1.drop 40) zs_others_1_1 (start1.su_all_split _ 40 ((tables_1_1.drop 40).drop 40) zs_others_1_2 (start1.su_all_split _ 40 (((tables_1_1.drop 40).drop 40).drop 40) zs_others_1_3 (start1.su_all_split _ 40 ((((tables_1_1.drop 40).drop 40).drop 40).drop 40) zs_others_1_4 zs_others_1_5))))) (fun c h => zs_code c (List.mem_filter.mp h).2 (start1.codes_hold_1 c h)) c h
set_option maxRecDepth 16384 in
theorem zs_others_2_0 : ((tables_1_2.take 40)).all (fun c => su_isCode c || c.before start1.args0 zs_state) = true := by decide +kernel
set_option maxRecDepth 16384 in
theorem zs_others_2_1 : (((tables_1_2.drop 40).take 40)).all (fun c => su_isCode c || c.before start1.args0 zs_state) = true := by decide +kernel
set_option maxRecDepth 16384 in
theorem zs_others_2_2 : ((((tables_1_2.drop 40).drop 40).take 40)).all (fun c => su_isCode c || c.before start1.args0 zs_state) = true := by decide +kernel
set_option maxRecDepth 16384 in
theorem zs_others_2_3 : (((((tables_1_2.drop 40).drop 40).drop 40).take 40)).all (fun c => su_isCode c || c.before start1.args0 zs_state) = true := by decide +kernel
set_option maxRecDepth 16384 in
theorem zs_others_2_4 : ((((((tables_1_2.drop 40).drop 40).drop 40).drop 40).take 40)).all (fun c => su_isCode c || c.before start1.args0 zs_state) = true := by decide +kernel
set_option maxRecDepth 16384 in
theorem zs_others_2_5 : ((((((tables_1_2.drop 40).drop 40).drop 40).drop 40).drop 40)).all (fun c => su_isCode c || c.before start1.args0 zs_state) = true := by decide +kernel
theorem zs_words_2 : ∀ c ∈ tables_1_2, c.before start1.args0 zs_state = true := fun c h => su_words (start1.su_all_split _ 40 tables_1_2 zs_others_2_0 (start1.su_all_split _ 40 (tables_1_2.drop 40) zs_others_2_1 (start1.su_all_split _ 40 ((tables_1_2.drop 40).drop 40) zs_others_2_2 (start1.su_all_split _ 40 (((tables_1_2.drop 40).drop 40).drop 40) zs_others_2_3 (start1.su_all_split _ 40 ((((tables_1_2.drop 40).drop 40).drop 40).drop 40) zs_others_2_4 zs_others_2_5))))) (fun c h => zs_code c (List.mem_filter.mp h).2 (start1.codes_hold_2 c h)) c h
theorem zs_words : ∀ c ∈ (Cond.code x code maxLocals ret :: tables_1), c.before start1.args0 zs_state = true := by
  intro c hc
  rcases List.mem_cons.mp hc with h | h
  · rw [h]; exact zs_code _ rfl start1.word_code
  · have h1 : c ∈ tables_1_1 ++ tables_1_2 := h
    rcases List.mem_append.mp h1 with h2 | h2
    · exact zs_words_1 c h2
    · exact zs_words_2 c h2
set_option maxRecDepth 16384 in
theorem zs_atStart : AtStart classFile x code maxLocals ret World_1 tables_1 room_1 Calls_1 rest_1 Pre_1 launch0 start1.p0 start1.e0 zs_state ⟨0, 0⟩ start1.args0 Lib.HandBits.below0 :=
  ⟨lists_1, trivial, launch0.admits_env _ _ _, launch0.least_env, fairChoices_fair.cas, fairChoices_fair.clock, rfl, by decide +kernel, by decide +kernel,
    (Spec.applies_iff rfl).mpr ⟨rfl, rfl, rfl, by decide +kernel, by decide +kernel, by decide +kernel, launch0.hasRoom_least _ room_1 (by decide +kernel) (by decide +kernel) (by decide +kernel) (by decide +kernel) (by decide +kernel) (by decide +kernel), atoms_intro zs_words⟩,
    trivial, (show rest_1_c.before start1.args0 zs_state = true by decide +kernel), (show (Cond.and given_1 narrow_1).before start1.args0 zs_state = true by decide +kernel)⟩
set_option maxRecDepth 16384 in
theorem zs_roomy : (headSpec (Cond.code x code maxLocals ret :: tables_1) zs_R).appliesLoose x start1.e0.platform zs_state = true := by
  have h : (headSpec (Cond.code x code maxLocals ret :: tables_1) zs_R).applies x start1.e0.platform zs_state = true :=
    (Spec.applies_iff rfl).mpr ⟨rfl, rfl, rfl, by decide +kernel, by decide +kernel, by decide +kernel, launch0.hasRoom_least _ zs_R (by decide +kernel) (by decide +kernel) (by decide +kernel) (by decide +kernel) (by decide +kernel) (by decide +kernel), atoms_intro zs_words⟩
  exact ((Spec.applies_iff_loose (args := start1.args0) (m := ⟨0, 0⟩) (below := Lib.HandBits.below0) rfl).mp h).1
theorem zs_ints : zs_state.IntsAt 0 zs_zeros :=
  ⟨{ cls := 12, slots := zs_cells, vm := .none }, rfl, rfl, ⟨(fun k h => nomatch h), _, rfl, _, rfl⟩, by show zs_zeros.length < 2 ^ 31; rw [zs_zeros, List.length_replicate]; decide⟩
