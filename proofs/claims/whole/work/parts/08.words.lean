/-! ===== the words that every method takes along ===== -/
def ns_Gt : List Cond := lw_tbl.filter goodWord
abbrev ns_w (k : Nat) : List Cond := Cond.code (ns_y k) (ns_c k) (ns_m k) (ns_r k) :: ns_Gt
theorem ns_Gt_good : ∀ w ∈ ns_Gt, w ∈ lw_tbl ∧ goodWord w = true := fun _ h => ⟨(List.mem_filter.mp h).1, (List.mem_filter.mp h).2⟩
theorem ns_in_Gt {w : Cond} (h : w ∈ lw_tbl) (hg : goodWord w = true) : w ∈ ns_Gt := List.mem_filter.mpr ⟨h, hg⟩
set_option maxRecDepth 100000 in
theorem ns_cw : ∀ k, k < 95 → Cond.code (ns_y k) (ns_c k) (ns_m k) (ns_r k) ∈ ns_Gt := by decide +kernel
set_option maxRecDepth 100000 in
theorem ns_ws : ∀ ci, ci < 5 → ∀ w ∈ u_ws (ns_R ci) (ns_T ci) (ns_N ci), w ∈ ns_Gt := by decide +kernel
set_option maxRecDepth 100000 in
theorem ns_ft_ok : ∀ e ∈ ns_ft, Cond.fieldLink (ns_R e.1) e.2.1 (ns_T e.2.2.1 e.2.2.2).1 (ns_T e.2.2.1 e.2.2.2).2.1 (ns_T e.2.2.1 e.2.2.2).2.2.1 ∈ ns_Gt ∧ e.2.2.2 < ns_N e.2.2.1 ∧ e.2.2.1 < 5 := by decide +kernel
set_option maxRecDepth 100000 in
theorem ns_ct_ok : ∀ e ∈ ns_ct, Cond.classLink (ns_R e.1) e.2.1 (ns_R e.2.2) ∈ ns_Gt ∧ Cond.instantiable (ns_R e.2.2) (ns_N e.2.2) ∈ ns_Gt ∧ Cond.initialized (ns_R e.2.2) ∈ ns_Gt ∧ e.2.2 < 5 := by decide +kernel
set_option maxRecDepth 100000 in
theorem ns_ot_ok : ∀ e ∈ ns_ot, Cond.methodLink (ns_R e.1) e.2.1 objectInit ∈ ns_Gt := by decide +kernel
set_option maxRecDepth 100000 in
theorem ns_oi_ok : Cond.instanceMethod objectInit ∈ ns_Gt ∧ Cond.code objectInit ⟨#[0xb1]⟩ 1 none ∈ ns_Gt := by decide +kernel
set_option maxRecDepth 100000 in
theorem ns_mt_ok : ∀ e ∈ ns_mt, Cond.methodLink (ns_R e.1) e.2.1 (ns_y e.2.2) ∈ ns_Gt ∧ e.2.2 < 95 := by decide +kernel
set_option maxRecDepth 100000 in
theorem ns_kind_ok : ∀ k, k < 95 → Cond.initialized (ns_y k).cls ∈ ns_Gt ∧ (ns_y k).cls = ns_R (ns_o k) ∧ ((ns_y k).cls ≠ "java/lang/invoke/MethodHandle" ∧ (ns_y k).cls ≠ "java/lang/invoke/VarHandle" ∧ (parseMethodDescriptor (ns_y k).desc).map (fun d => d.parameters.length) = some (ns_pn k)) ∧ plainName (ns_y k).cls = true := by decide +kernel
set_option maxRecDepth 100000 in
/-- every method is static, or an instance method that its own class selects; a constructor is one -/
theorem ns_sel_ok : ∀ k, k < 95 → (Cond.static (ns_y k) ∈ ns_Gt) ∨ (Cond.instanceMethod (ns_y k) ∈ ns_Gt ∧ (ns_ini k = false → Cond.selects (ns_R (ns_o k)) (ns_y k) (ns_y k) ∈ ns_Gt) ∧ (ns_ini k = true → (ns_y k).name = "<init>")) := by decide +kernel
set_option maxRecDepth 100000 in
theorem ns_k1_ok : ∀ e ∈ ns_k1, Cond.constant (ns_R e.1) e.2.1 e.2.2 ∈ ns_Gt := by decide +kernel
set_option maxRecDepth 100000 in
theorem ns_k2_ok : ∀ e ∈ ns_k2, Cond.constantLong (ns_R e.1) e.2.1 e.2.2 ∈ ns_Gt := by decide +kernel
set_option maxRecDepth 100000 in
theorem ns_ar_ok : Cond.arrayClass .int ∈ ns_Gt ∧ Cond.arrayClass .long ∈ ns_Gt ∧ Cond.classLink RX3 9 RX1 ∈ ns_Gt := by decide +kernel
set_option maxRecDepth 100000 in
theorem ns_cl_ok : (Cond.methodLink RX1 31 ⟨"[J", "clone", "()Ljava/lang/Object;"⟩ ∈ ns_Gt ∧ Cond.sameMethod "[J" "java/lang/Object" "clone" "()Ljava/lang/Object;" ∈ ns_Gt ∧ Cond.native ⟨"java/lang/Object", "clone", "()Ljava/lang/Object;"⟩ ∈ ns_Gt ∧ Cond.instanceMethod ⟨"java/lang/Object", "clone", "()Ljava/lang/Object;"⟩ ∈ ns_Gt ∧ Cond.selects "[J" ⟨"[J", "clone", "()Ljava/lang/Object;"⟩ ⟨"java/lang/Object", "clone", "()Ljava/lang/Object;"⟩ ∈ ns_Gt ∧ Cond.classLink RX1 32 "[J" ∈ ns_Gt) ∧ (Cond.methodLink RX1 36 ⟨"[LNestShelf$Thing;", "clone", "()Ljava/lang/Object;"⟩ ∈ ns_Gt ∧ Cond.sameMethod "[LNestShelf$Thing;" "java/lang/Object" "clone" "()Ljava/lang/Object;" ∈ ns_Gt ∧ Cond.selects "[LNestShelf$Thing;" ⟨"[LNestShelf$Thing;", "clone", "()Ljava/lang/Object;"⟩ ⟨"java/lang/Object", "clone", "()Ljava/lang/Object;"⟩ ∈ ns_Gt ∧ Cond.classLink RX1 37 "[LNestShelf$Thing;" ∈ ns_Gt) := by decide +kernel
set_option maxRecDepth 100000 in
theorem ns_min_ok : Cond.methodLink RX3 145 Lib.Math.min.name ∈ ns_Gt ∧ Cond.static Lib.Math.min.name ∈ ns_Gt ∧ Cond.initialized "java/lang/Math" ∈ ns_Gt ∧ Cond.code Lib.Math.min.name Lib.Math.min.code 2 (some .int) ∈ ns_Gt := by decide +kernel
theorem ns_ty_ok : ∀ ci, ci < 5 → ∀ k, k < ns_N ci → parseFieldDescriptor (ns_T ci k).2.2.1 = some (ns_ty ci k) := by decide +kernel
theorem ns_nm_ok : ∀ ci, ci < 5 → ∀ a, a < ns_N ci → ∀ b, b < ns_N ci → a ≠ b → (ns_T ci a).2.1 ≠ (ns_T ci b).2.1 := by decide +kernel
theorem ns_own_ok : ∀ ci, ci < 5 → ∀ k, k < ns_N ci → (ns_T ci k).1 = ns_R ci := by decide +kernel
theorem ns_vw_ok : ∀ ci, ci < 5 → vwCl[ci]? = some (ns_R ci, ns_T ci, ns_N ci) := fun ci h => by
  match ci, h with
  | 0, _ => rfl
  | 1, _ => rfl
  | 2, _ => rfl
  | 3, _ => rfl
  | 4, _ => rfl
theorem ns_good {w : Cond} (h : w ∈ ns_Gt) : (w.onTables && w.keeps) = true ∨ ∃ ty, w = .arrayClass ty := good_of_word (ns_Gt_good w h).2
theorem ns_goodIn {big : List Cond} (hb : ∀ w ∈ ns_Gt, w ∈ big) {k : Nat} (hk : k < 95) : GoodIn big (ns_w k) := fun w hw => by
  rcases List.mem_cons.mp hw with h | h
  · subst h
    exact ⟨hb _ (ns_cw k hk), ns_good (ns_cw k hk)⟩
  · exact ⟨hb _ h, ns_good h⟩
/-- words that are no good words -/
def ns_E (U : State) : Prop := va_AO "NestShelf$Thing" U ∧ va_Nw (.methodLinkNest RX3 17 yX2_init "NestShelf") U ∧ va_Nw (.methodLinkNest RX3 109 yX0_init "NestShelf") U ∧ va_Nw (.castable "[J" "java/lang/Cloneable") U ∧ va_Nw (.castable "[LNestShelf$Thing;" "java/lang/Cloneable") U
theorem ns_E.warm {s U : State} (hW : s.WarmedH U.vm) (h : ns_E s) : ns_E U := ⟨h.1.moved hW.alike, h.2.1.warmM hW, h.2.2.1.warmM hW, h.2.2.2.1.warmC hW, h.2.2.2.2.warmC hW⟩
theorem ns_E.same {u U : State} (e : u.vm = U.vm) (h : ns_E u) : ns_E U := ⟨h.1.moved (e ▸ Vm.Alike.refl u.vm), h.2.1.same rfl e, h.2.2.1.same rfl e, h.2.2.2.1.same rfl e, h.2.2.2.2.same rfl e⟩
