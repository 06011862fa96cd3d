/-! ===== the machine beside the heap ===== -/
def ns_lp (L : List (Option Value)) : List (Nat × Value) := (List.range L.length).filterMap (fun i => (L.getD i none).map (fun v => (i, v)))
theorem ns_lp_mem {L : List (Option Value)} {q : Nat × Value} : q ∈ ns_lp L ↔ L.getD q.1 none = some q.2 := by
  unfold ns_lp
  rw [List.mem_filterMap]
  constructor
  · rintro ⟨i, -, h⟩
    cases hi : L.getD i none with
    | none => rw [hi] at h; cases h
    | some v => rw [hi] at h; cases h; exact hi
  · intro h
    refine ⟨q.1, ?_, by rw [h]; rfl⟩
    rw [List.mem_range]
    rcases Nat.lt_or_ge q.1 L.length with g | g
    · exact g
    · rw [List.getD_eq_getElem?_getD, List.getElem?_eq_none g] at h
      cases h
def ns_L (ls : Array Slot) (n : Nat) (L : List (Option Value)) : Prop := L.length = n ∧ lv_has ls n (ns_lp L)
theorem ns_L.at {ls : Array Slot} {n : Nat} {L : List (Option Value)} (h : ns_L ls n L) {i : Nat} {v : Value} (hi : L.getD i none = some v) : ls[i]? = some (.val v) := h.2.2.2 (i, v) (ns_lp_mem.mpr hi)
theorem ns_getD_set {α : Type} (L : List α) (i j : Nat) (v d : α) : (L.set i v).getD j d = if j = i ∧ i < L.length then v else L.getD j d := by
  rw [List.getD_eq_getElem?_getD, List.getD_eq_getElem?_getD, List.getElem?_set]
  by_cases h : i = j
  · subst h
    by_cases g : i < L.length
    · simp [g]
    · simp [g]
  · have h' : ¬ (j = i) := fun q => h q.symm
    simp [h, h']
theorem ns_ahead_ok {L : List (Option Value)} {i : Nat} (h : ns_ahead L i = true) {j : Nat} {w : Value} (hj : j + 1 = i) (hw : L.getD j none = some w) : ¬ w.category = 2 := by
  subst hj
  have h : ns_c1 (L.getD j none) = true := h
  rw [hw] at h
  cases w <;> simp_all [ns_c1, Value.category]
theorem ns_L.set {ls : Array Slot} {n : Nat} {L : List (Option Value)} {i : Nat} {v : Value} (hl : L.length = n) (ha : ns_ahead L i = true) (h : lv_has ls n ((i, v) :: (ns_lp L).filter (fun q => !(q.1 == i) && !(q.1 + 1 == i && q.2.category == 2)))) : ns_L ls n (L.set i (some v)) := by
  refine ⟨by rw [List.length_set]; exact hl, h.1, h.2.1, fun q hq => h.2.2 q ?_⟩
  have hq := ns_lp_mem.mp hq
  rw [ns_getD_set] at hq
  by_cases g : q.1 = i ∧ i < L.length
  · rw [if_pos g] at hq
    cases hq
    exact List.mem_cons.mpr (Or.inl (Prod.ext g.1 rfl))
  · rw [if_neg g] at hq
    have hlt : q.1 < L.length := by
      rcases Nat.lt_or_ge q.1 L.length with z | z
      · exact z
      · rw [List.getD_eq_getElem?_getD, List.getElem?_eq_none z] at hq
        cases hq
    have hne : ¬ q.1 = i := fun z => g ⟨z, by rw [← z]; exact hlt⟩
    refine List.mem_cons_of_mem _ (List.mem_filter.mpr ⟨ns_lp_mem.mpr hq, ?_⟩)
    by_cases z : q.1 + 1 = i
    · have hc := ns_ahead_ok ha z hq
      simp [hne, hc]
    · simp [hne, z]
theorem ns_L.set2 {ls : Array Slot} {n : Nat} {L : List (Option Value)} {i : Nat} {v : Value} (hl : L.length = n) (ha : ns_ahead L i = true) (hi : i + 1 < L.length) (h : lv_has ls n ((i, v) :: (ns_lp L).filter (fun q => !(q.1 == i) && (!(q.1 == i + 1) && !(q.1 + 1 == i && q.2.category == 2))))) : ns_L ls n ((L.set i (some v)).set (i + 1) none) := by
  refine ⟨by rw [List.length_set, List.length_set]; exact hl, h.1, h.2.1, fun q hq => h.2.2 q ?_⟩
  have hq := ns_lp_mem.mp hq
  rw [ns_getD_set] at hq
  by_cases g1 : q.1 = i + 1 ∧ i + 1 < (L.set i (some v)).length
  · rw [if_pos g1] at hq
    cases hq
  · rw [if_neg g1, ns_getD_set] at hq
    rw [List.length_set] at g1
    by_cases g : q.1 = i ∧ i < L.length
    · rw [if_pos g] at hq
      cases hq
      exact List.mem_cons.mpr (Or.inl (Prod.ext g.1 rfl))
    · rw [if_neg g] at hq
      have hlt : q.1 < L.length := by
        rcases Nat.lt_or_ge q.1 L.length with z | z
        · exact z
        · rw [List.getD_eq_getElem?_getD, List.getElem?_eq_none z] at hq
          cases hq
      have hne : ¬ q.1 = i := fun z => g ⟨z, by rw [← z]; exact hlt⟩
      have hne2 : ¬ q.1 = i + 1 := fun z => g1 ⟨z, hi⟩
      refine List.mem_cons_of_mem _ (List.mem_filter.mpr ⟨ns_lp_mem.mpr hq, ?_⟩)
      by_cases z : q.1 + 1 = i
      · have hc := ns_ahead_ok ha z hq
        simp [hne, hne2, hc]
      · simp [hne, hne2, z]
theorem ns_el_len (vs : List Value) : (ns_el vs).length = (lg_sl vs).length := by
  induction vs with
  | nil => rfl
  | cons v t ih =>
    unfold ns_el
    rw [show lg_sl (v :: t) = (if v.category = 2 then [Slot.val v, .second] else [.val v]) ++ lg_sl t from rfl]
    split <;> simp [ih] <;> omega
theorem ns_el_at : ∀ (vs : List Value) (j : Nat) (v : Value), (ns_el vs).getD j none = some v → ∀ b, (b + j, v) ∈ lv_args b vs
  | [], j, v, h => by simp [ns_el] at h
  | w :: t, j, v, h => by
    intro b
    unfold ns_el at h
    unfold lv_args
    by_cases c : w.category = 2
    · rw [if_pos c] at h
      rw [if_pos c]
      match j, h with
      | 0, h => simp at h; subst h; exact List.mem_cons_self
      | 1, h => simp at h
      | j + 2, h =>
        have := ns_el_at t j v (by simpa using h) (b + 2)
        exact List.mem_cons_of_mem _ (by rw [show b + (j + 2) = b + 2 + j by omega]; exact this)
    · rw [if_neg c] at h
      rw [if_neg c]
      match j, h with
      | 0, h => simp at h; subst h; exact List.mem_cons_self
      | j + 1, h =>
        have := ns_el_at t j v (by simpa using h) (b + 1)
        exact List.mem_cons_of_mem _ (by rw [show b + (j + 1) = b + 1 + j by omega]; exact this)
theorem ns_entry_ok {k : Nat} {vs : List Value} (h : (ns_el vs).length ≤ ns_m k) : ns_L ((lg_sl vs ++ List.replicate (ns_m k - (lg_sl vs).length) Slot.unset).toArray) (ns_m k) (ns_entry k vs) := by
  have hv := lv_entry vs (n := ns_m k) (by rw [← ns_el_len]; exact h)
  refine ⟨by unfold ns_entry; rw [List.length_append, List.length_replicate]; omega, hv.1, hv.2.1, fun q hq => hv.2.2 q ?_⟩
  have hq := ns_lp_mem.mp hq
  unfold ns_entry at hq
  have g : (ns_el vs).getD q.1 none = some q.2 := by
    rw [List.getD_eq_getElem?_getD] at hq ⊢
    by_cases z : q.1 < (ns_el vs).length
    · rw [List.getElem?_append_left z] at hq
      exact hq
    · rw [List.getElem?_append_right (by omega), List.getElem?_replicate] at hq
      split at hq <;> simp at hq
  have := ns_el_at vs q.1 q.2 g 0
  rw [Nat.zero_add] at this
  exact this
-- the pool
theorem ns_k_lt {S : ns_St} {a : Nat} (h : ns_k S a ≠ 0) : a < ns_z S := by
  unfold ns_k at h
  by_cases g : a < S.1.1
  · exact g
  · rw [if_neg g] at h
    exact absurd rfl h
theorem ns_dom_mem {S : ns_St} {a : Nat} : a ∈ ns_dom S ↔ ns_k S a ≠ 0 := by
  unfold ns_dom
  rw [List.mem_filter, List.mem_range]
  constructor
  · intro h; simpa using h.2
  · intro h; exact ⟨ns_k_lt h, by simpa using h⟩
theorem ns_dom_nodup (S : ns_St) : (ns_dom S).Nodup := List.Pairwise.filter _ List.nodup_range
section NSP
variable {cI cJ cT : ClassId}
theorem ns_D {A : Nat → Prop} {S : ns_St} (h : ∀ a, ns_k S a ≠ 0 → A a) : va_D A (ns_pool cI cJ cT S) := by
  have key : ∀ (i : Nat) (q : Nat × va_E), (ns_pool cI cJ cT S)[i]? = some q → (ns_dom S)[i]? = some q.1 := by
    intro i q hq
    unfold ns_pool va_pl at hq
    rw [List.getElem?_map] at hq
    cases hd : (ns_dom S)[i]? with
    | none => rw [hd] at hq; cases hq
    | some b => rw [hd] at hq; cases hq; rfl
  refine ⟨fun i j x y hx hy e => ?_, fun i q hq => h _ (ns_dom_mem.mp (List.mem_of_getElem? (key i q hq)))⟩
  have h1 := key i x hx
  have h2 := key j y hy
  rw [← e, ← h1] at h2
  exact (List.getElem?_inj (List.getElem?_eq_some_iff.mp h1).1 (ns_dom_nodup S)).mp h2.symm
theorem ns_at {S : ns_St} {a : Nat} (h : ns_k S a ≠ 0) : ∃ i : Nat, (ns_pool cI cJ cT S)[i]? = some (a, ns_ce cI cJ cT S a) := va_pl_get (X := []) (ns_dom_mem.mpr h)
theorem ns_pool_set {A : Nat → Prop} {S S' : ns_St} {a i : Nat} {e : va_E} (hD : va_D A (ns_pool cI cJ cT S)) (ha : ns_k S a ≠ 0) (hi : (ns_pool cI cJ cT S)[i]? = some (a, ns_ce cI cJ cT S a)) (hd : ns_dom S' = ns_dom S) (hc : ∀ b, va_up (ns_ce cI cJ cT S) a e b = ns_ce cI cJ cT S' b) : (ns_pool cI cJ cT S).set i (a, e) = ns_pool cI cJ cT S' := by
  have h1 := va_pl_set (X := []) (e := e) hD (ns_dom_mem.mpr ha) hi
  refine Eq.trans h1 ?_
  unfold ns_pool
  rw [hd]
  exact va_pl_congr hc
theorem ns_pool_add {S S' : ns_St} {e : va_E} (hd : ns_dom S' = ns_dom S ++ [ns_z S]) (hc : ∀ b, va_up (ns_ce cI cJ cT S) (ns_z S) e b = ns_ce cI cJ cT S' b) : ns_pool cI cJ cT S ++ [(ns_z S, e)] = ns_pool cI cJ cT S' := by
  unfold ns_pool
  rw [hd, va_pl_push (fun h => absurd (ns_k_lt (ns_dom_mem.mp h)) (Nat.lt_irrefl _))]
  exact va_pl_congr hc
theorem ns_dom_add {S S' : ns_St} {kd : Nat} (hz : ns_z S' = ns_z S + 1) (hk : ∀ a, ns_k S' a = if a = ns_z S then kd else ns_k S a) (h0 : kd ≠ 0) : ns_dom S' = ns_dom S ++ [ns_z S] := by
  unfold ns_dom
  rw [hz, List.range_succ, List.filter_append]
  congr 1
  · refine List.filter_congr (fun a ha => ?_)
    rw [List.mem_range] at ha
    rw [hk, if_neg (by omega)]
  · simp [hk, h0]
theorem ns_fl_len (S : ns_St) (ci a : Nat) : (ns_fl S ci a).length = ns_N ci := by simp [ns_fl]
theorem ns_fl_at (S : ns_St) (ci a : Nat) {j : Nat} (h : j < ns_N ci) : (ns_fl S ci a)[j]? = some (ns_fv S ci j a) := by simp [ns_fl, h]
theorem ns_fl_set {S S' : ns_St} {ci a j : Nat} {v : Value} (hj : j < ns_N ci) (h1 : ns_fv S' ci j a = v) (h2 : ∀ i, i ≠ j → ns_fv S' ci i a = ns_fv S ci i a) : (ns_fl S ci a).set j v = ns_fl S' ci a := by
  apply List.ext_getElem?
  intro i
  rw [List.getElem?_set]
  by_cases g : i < ns_N ci
  · rw [ns_fl_at S' ci a g]
    by_cases e : j = i
    · subst e
      rw [if_pos rfl, ns_fl_len, if_pos g, h1]
    · rw [if_neg e, ns_fl_at S ci a g, h2 i (fun q => e q.symm)]
  · have e : j ≠ i := fun q => g (q ▸ hj)
    rw [if_neg e, List.getElem?_eq_none (by rw [ns_fl_len]; omega), List.getElem?_eq_none (by rw [ns_fl_len]; omega)]
theorem ns_ce_O {S : ns_St} {a ci : Nat} (h : ns_k S a = ci + 1) (hc : ci < 5) : ns_ce cI cJ cT S a = .inr (ci, ns_fl S ci a) := by
  unfold ns_ce
  rw [h, if_neg (by omega), if_neg (by omega), if_neg (by omega)]
  rfl
/-- cells are the same where what they are made of is the same -/
theorem ns_ce_congr {S S' : ns_St} {b : Nat} (hk : ns_k S' b = ns_k S b) (hn : ns_n S' b = ns_n S b) (h1 : ∀ j, fI S' j b = fI S j b) (h2 : ∀ j, fJ S' j b = fJ S j b) (h3 : ∀ j, fR S' j b = fR S j b) (h4 : aI S' b = aI S b) (h5 : aJ S' b = aJ S b) (h6 : aR S' b = aR S b) : ns_ce cI cJ cT S b = ns_ce cI cJ cT S' b := by
  have hf : ∀ ci, ns_fl S ci b = ns_fl S' ci b := by
    intro ci
    unfold ns_fl
    refine List.map_congr_left (fun j _ => ?_)
    unfold ns_fv
    rw [h1, h2, h3]
  unfold ns_ce
  rw [hk, hn, h4, h5, h6, hf]
end NSP
