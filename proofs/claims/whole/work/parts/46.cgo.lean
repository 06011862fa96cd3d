/-! ===== the class: goFrom, walkRefusal, weight, depth, ring ===== -/
section CGO
variable {S : ns_St} {sh T wk cur : Nat} {ad na ha : Nat → Nat} {Z : Zs} {G : Nat → Prop}
def gN (S : ns_St) (wk : Nat) (w : Int32) (a : Nat) : ns_St := pI (pI (pI (pR (pR (pI S 200 wk w) 201 wk (some a)) 202 wk none) 203 wk 0) 204 wk 0) 205 wk 0
theorem gN_fI (w : Int32) (a f x : Nat) : fI (gN S wk w a) f x = if x = wk then (if f = 205 ∨ f = 204 ∨ f = 203 then 0 else if f = 200 then w else fI S f x) else fI S f x := by
  unfold gN
  simp only [pI_fI, pR_fI]
  by_cases y : x = wk
  · by_cases h1 : f = 205
    · simp [y, h1]
    · by_cases h2 : f = 204
      · simp [y, h2]
      · by_cases h3 : f = 203
        · simp [y, h3]
        · simp [y, h1, h2, h3]
  · simp [y]
theorem gN_fR (w : Int32) (a f x : Nat) : fR (gN S wk w a) f x = if x = wk then (if f = 202 then none else if f = 201 then some a else fR S f x) else fR S f x := by
  unfold gN
  simp only [pI_fR, pR_fR]
  by_cases y : x = wk
  · by_cases h1 : f = 202
    · simp [y, h1]
    · simp [y, h1]
  · simp [y]
theorem gN_fJ (w : Int32) (a : Nat) : fJ (gN S wk w a) = fJ S := by unfold gN; simp only [pR_fJ, pI_fJ]
theorem gN_k (w : Int32) (a : Nat) : ns_k (gN S wk w a) = ns_k S := by unfold gN; simp only [pR_ns_k, pI_ns_k]
theorem gN_n (w : Int32) (a : Nat) : ns_n (gN S wk w a) = ns_n S := by unfold gN; simp only [pR_ns_n, pI_ns_n]
theorem gN_z (w : Int32) (a : Nat) : ns_z (gN S wk w a) = ns_z S := by unfold gN; simp only [pR_ns_z, pI_ns_z]
theorem gN_s (w : Int32) (a : Nat) : ns_s (gN S wk w a) = ns_s S := by unfold gN; simp only [pR_ns_s, pI_ns_s]
theorem gN_aJ (w : Int32) (a : Nat) : aJ (gN S wk w a) = aJ S := by unfold gN; simp only [pR_aJ, pI_aJ]
theorem gN_aR (w : Int32) (a : Nat) : aR (gN S wk w a) = aR S := by unfold gN; simp only [pR_aR, pI_aR]
theorem CW_0 (h : CR S sh T wk ad na ha cur Z) (hcur : cur < 100000) {s : Nat} (hG : ∀ u, u < zn Z → G u → cln S (ad u)) : CW (gN S wk (nI (cur + 1)) (ad s)) sh T wk ad na ha (cur + 1) Z G s ([], fun _ => 0, [], [], false, false) (fun _ => 0, fun _ => 0) := by
  have nw : ∀ u, u < zn Z → ad u ≠ wk := fun u hu => CR_nw h hu
  have qi : ∀ f u, u < zn Z → fI (gN S wk (nI (cur + 1)) (ad s)) f (ad u) = fI S f (ad u) := fun f u hu => by rw [gN_fI, if_neg (nw u hu)]
  have qr : ∀ f u, u < zn Z → fR (gN S wk (nI (cur + 1)) (ad s)) f (ad u) = fR S f (ad u) := fun f u hu => by rw [gN_fR, if_neg (nw u hu)]
  refine ⟨CR_same h (gN_k _ _) (gN_n _ _) (gN_aJ _ _) (gN_aR _ _) (fun f a hf => ?_) (fun f a hf => ?_) (fun a => by rw [gN_fJ]) (fun u hu => ?_) ?_, ⟨?_, ?_, ?_, ?_, ?_⟩, fun u hu => ?_, fun u hu hg => ?_, trivial, fun i x hi => ?_⟩
  · rw [gN_fI]
    split
    · rw [if_neg (by omega), if_neg (by omega)]
    · rfl
  · rw [gN_fR]
    split
    · rw [if_neg (by omega), if_neg (by omega)]
    · rfl
  · obtain ⟨w, hw, e⟩ := CR_w h hu
    exact ⟨w, by omega, by rw [qi _ u hu]; exact e⟩
  · rw [gN_fI, if_pos rfl, if_neg (by omega), if_pos rfl]
  · rw [gN_fR, if_pos rfl, if_neg (by omega), if_pos rfl]
  · rw [gN_fR, if_pos rfl, if_pos rfl]; rfl
  · rw [gN_fI, if_pos rfl, if_pos (by omega)]; rfl
  · rw [gN_fI, if_pos rfl, if_pos (by omega)]; rfl
  · rw [gN_fI, if_pos rfl, if_pos (by omega)]; rfl
  · unfold NM
    rw [if_pos rfl, qi _ u hu]
    obtain ⟨w, hw, e⟩ := CR_w h hu
    rw [e]
    intro z
    have := (nI_eq (by omega) (by omega)).mp z
    omega
  · rcases hg with z | z
    · have := hG u hu z
      unfold cln
      rw [qr _ u hu, qr _ u hu, qi _ u hu]
      exact this
    · exact absurd rfl z
  · simp at hi
theorem dmu_beg (hZ : ZI Z) {s : Nat} (hs : s < zn Z) : dmu (chl Z) (zn Z) (dbeg (fun _ => 0) [] [] s) ≤ 1002000 := by
  have hn := hZ.1
  have hcl : ∀ u, u < zn Z → chl Z u + 1 ≤ 501 := fun u hu => by
    unfold chl
    have := (hZ.2.1 u hu).2.1
    split <;> omega
  have e1 := sumN_up (f := fun u => chl Z u + 1) (g := fun u => if va_up (fun _ => 0) s 1 u = 0 then chl Z u + 1 else 0) (zn Z) hs (fun u hu => by simp only [va_up_ne _ _ hu]; simp)
  have e2 := sumN_le (f := fun u => chl Z u + 1) (b := 501) (zn Z) hcl
  simp only [va_up_self] at e1
  have e3 : dmu (chl Z) (zn Z) (dbeg (fun _ => 0) [] [] s) = sumN (fun u => if va_up (fun _ => 0) s 1 u = 0 then chl Z u + 1 else 0) (zn Z) + (chl Z s + 1) := by
    unfold dmu dbeg
    all_goals simp
  rw [e3]
  simp at e1
  omega
theorem c_goFrom (h : CR S sh T wk ad na ha cur Z) (hZ : ZI Z) (hcur : cur < 100000) {s : Nat} (hs : s < zn Z) (hG : ∀ u, u < zn Z → G u → cln S (ad u)) : ∃ S' N', Ev (12, 0, [some (va_rf (some wk)), some (va_rf (some (ad s))), none, none, none], [], S) (none, S') ∧ CW S' sh T wk ad na ha (cur + 1) Z G s (wkE Z s) N' ∧ nInv (chl Z) (zh Z) (own Z) (wkE Z s) N' ∧ sz0 S S' := by
  have hC0 := CW_0 (G := G) (s := s) h hcur hG
  have hB := dInv_beg (chl Z) (zh Z) (zn Z) hs rfl (dInv_0 (chl Z) (zh Z) (zn Z))
  have hC1 := CW_new (c := s) (fun v hv => by cases hv) List.nodup_nil (fun v hv => by cases hv) hs rfl hC0
  have hmu := dmu_beg hZ hs
  have hw := CR_wk h
  have ks := CR_k h hs
  obtain ⟨S', N', g1, g2, g3, g4⟩ := c_loop hZ hs (ad s) _ (dbeg (fun _ => 0) [] [] s) _ _ 0 none rfl hB hC1 nv_beg (by omega)
  refine ⟨S', N', ?_, g2, g3, ⟨g1.1.trans ((rN_z _ _).trans (gN_z _ _)), g1.2.trans ((rN_s _ _).trans (gN_s _ _))⟩⟩
  have c := fun (r : ns_Rs) => c14 (S := gN S wk (nI (cur + 1)) (ad s)) (wk := wk) (a := ad s) (fr := none) (r := r) (by rw [gN_k]; exact hw) (by rw [gN_k]; exact ks) (fun l hl => by rw [gN_fR, if_pos rfl, if_pos rfl] at hl; cases hl)
  have e200 := CR_200 h
  unfold gN at c g4
  simp only [e12_0, e12_1, e12_2, e12_5, e12_6, e12_7, e12_10, e12_11, e12_12, e12_15, e12_16, e12_17, e12_20, e12_21, e12_22, e12_25, e12_26, e12_27, e12_30, e12_31, e12_32, e12_35, e12_36, e12_37, e12_38, e12_41, e12_42, e12_43, e12_45, e12_47, e12_50, e12_51, e12_54, e12_55, e12_58, e12_60, e12_62, e12_65, e12_67, e12_68, e12_71, e12_72, e12_75, e12_76, e12_77, e12_80, e12_81, e12_84, e12_85, e12_87, e12_88, e12_89, e12_92, e12_93, e12_94, e12_97, e12_99, e12_100, e12_101, e12_104, e12_105, e12_108, e12_111, c, pI_ns_z, pI_ns_s, pI_ns_k, pI_ns_n, pI_fI, pI_fJ, pI_fR, pI_aI, pI_aJ, pI_aR, pJ_ns_z, pJ_ns_s, pJ_ns_k, pJ_ns_n, pJ_fI, pJ_fJ, pJ_fR, pJ_aI, pJ_aJ, pJ_aR, pR_ns_z, pR_ns_s, pR_ns_k, pR_ns_n, pR_fI, pR_fJ, pR_fR, pR_aI, pR_aJ, pR_aR, qI_ns_z, qI_ns_s, qI_ns_k, qI_ns_n, qI_fI, qI_fJ, qI_fR, qI_aI, qI_aJ, qI_aR, qJ_ns_z, qJ_ns_s, qJ_ns_k, qJ_ns_n, qJ_fI, qJ_fJ, qJ_fR, qJ_aI, qJ_aJ, qJ_aR, qR_ns_z, qR_ns_s, qR_ns_k, qR_ns_n, qR_fI, qR_fJ, qR_fR, qR_aI, qR_aJ, qR_aR, nO_ns_z, nO_ns_s, nO_ns_k, nO_ns_n, nO_fI, nO_fJ, nO_fR, nO_aI, nO_aJ, nO_aR, nA_ns_z, nA_ns_s, nA_ns_k, nA_ns_n, nA_fI, nA_fJ, nA_fR, nA_aI, nA_aJ, nA_aR, nC_ns_z, nC_ns_s, nC_ns_k, nC_ns_n, nC_fI, nC_fJ, nC_fR, nC_aI, nC_aJ, nC_aR, Nat.zero_le, Nat.reduceAdd, Nat.reduceLeDiff, reduceIte, rf_c1, int_c1, none_c1, cat_nil, cat_int, cat_long, cat_rf, toList_s, toList_n, true_and, and_true, Option.some.injEq, exists_eq_left', exists_eq_left, reduceCtorEq, if_true, if_false, eq_self, hw, ks, e200, nI_1, Nat.le_refl]
  all_goals simp
  exact g4
/-- the walk from s is over: what the notes say at s -/
theorem CW_note (hZ : ZI Z) {s : Nat} (hs : s < zn Z) {N : Dn} (hC : CW S sh T wk ad na ha cur Z G s (wkE Z s) N) (hN : nInv (chl Z) (zh Z) (own Z) (wkE Z s) N) (hr : (wkE Z s).2.2.2.2.1 = false) : fI S 111 (ad s) = nI (depZ Z s) ∧ fJ S 112 (ad s) = wtZ Z s := by
  obtain ⟨k1, k2, k3⟩ := wkE_ok hZ hs
  have e2 : (wkE Z s).2.1 s = 2 := (k1.2.2.2.2.2.1.2 s).mp k3
  have hm := NM_n (by rw [e2]; decide) (hC.2.2.1 s hs)
  have := (hN hr).1 s k3
  rw [hm.2.2.1, hm.2.2.2, this.1, this.2]
  exact ⟨rfl, rfl⟩
theorem c48n {r : ns_Rs} : Ev (48, 0, [some (va_rf (some sh)), some (va_rf none)], [], S) r ↔ r = (some (.int 1), S) := by
  simp only [e48_0, e48_1, e48_4, e48_5, e48_6, e48_7, e48_10, e48_11, e48_14, e48_15, e48_18, e48_21, e48_24, e48_25, e48_26, e48_27, e48_30, e48_33, e48_36, e48_38, e48_41, e48_42, pI_ns_z, pI_ns_s, pI_ns_k, pI_ns_n, pI_fI, pI_fJ, pI_fR, pI_aI, pI_aJ, pI_aR, pJ_ns_z, pJ_ns_s, pJ_ns_k, pJ_ns_n, pJ_fI, pJ_fJ, pJ_fR, pJ_aI, pJ_aJ, pJ_aR, pR_ns_z, pR_ns_s, pR_ns_k, pR_ns_n, pR_fI, pR_fJ, pR_fR, pR_aI, pR_aJ, pR_aR, qI_ns_z, qI_ns_s, qI_ns_k, qI_ns_n, qI_fI, qI_fJ, qI_fR, qI_aI, qI_aJ, qI_aR, qJ_ns_z, qJ_ns_s, qJ_ns_k, qJ_ns_n, qJ_fI, qJ_fJ, qJ_fR, qJ_aI, qJ_aJ, qJ_aR, qR_ns_z, qR_ns_s, qR_ns_k, qR_ns_n, qR_fI, qR_fJ, qR_fR, qR_aI, qR_aJ, qR_aR, nO_ns_z, nO_ns_s, nO_ns_k, nO_ns_n, nO_fI, nO_fJ, nO_fR, nO_aI, nO_aJ, nO_aR, nA_ns_z, nA_ns_s, nA_ns_k, nA_ns_n, nA_fI, nA_fJ, nA_fR, nA_aI, nA_aJ, nA_aR, nC_ns_z, nC_ns_s, nC_ns_k, nC_ns_n, nC_fI, nC_fJ, nC_fR, nC_aI, nC_aJ, nC_aR, Nat.zero_le, Nat.reduceAdd, Nat.reduceLeDiff, reduceIte, rf_c1, int_c1, none_c1, cat_nil, cat_int, cat_long, cat_rf, toList_s, toList_n, true_and, and_true, Option.some.injEq, exists_eq_left', exists_eq_left, reduceCtorEq, if_true, if_false, eq_self]
theorem c48 (h : CR S sh T wk ad na ha cur Z) (hZ : ZI Z) (hcur : cur < 100000) {s : Nat} (hs : s < zn Z) (hG : ∀ u, u < zn Z → G u → cln S (ad u)) : ∃ S' N', Ev (48, 0, [some (va_rf (some sh)), some (va_rf (some (ad s)))], [], S) (some (.int (rf Z (nI s))), S') ∧ CW S' sh T wk ad na ha (cur + 1) Z G s (wkE Z s) N' ∧ nInv (chl Z) (zh Z) (own Z) (wkE Z s) N' ∧ sz0 S S' := by
  obtain ⟨S', N', g1, g2, g3, g4⟩ := c_goFrom (G := G) h hZ hcur hs hG
  refine ⟨S', N', ?_, g2, g3, g4⟩
  have hn := hZ.1
  have h1 : ns_k S sh = 4 := h.1.1
  have h2 : fR S 301 sh = some wk := h.1.2.2.1
  have h3 := CR_wk h
  have hR' := g2.1
  have k1 : ns_k S' sh = 4 := hR'.1.1
  have k2 : fR S' 301 sh = some wk := hR'.1.2.2.1
  have k3 := CR_wk hR'
  have k4 := CR_k hR' hs
  have e204 := g2.2.1.2.2.2.1
  have er : rf Z (nI s) = if (wkE Z s).2.2.2.2.1 = true then 5 else if 400 < depZ Z s then 6 else 0 := by
    unfold rf
    rw [zt_nI hs (by omega)]
  rw [er]
  cases hr : (wkE Z s).2.2.2.2.1 with
  | true =>
    rw [hr, if_pos rfl] at e204
    simp only [e48_0, e48_1, e48_4, e48_5, e48_6, e48_7, e48_10, e48_11, e48_14, e48_15, e48_18, e48_21, e48_24, e48_25, e48_26, e48_27, e48_30, e48_33, e48_36, e48_38, e48_41, e48_42, Ev_is g1, pI_ns_z, pI_ns_s, pI_ns_k, pI_ns_n, pI_fI, pI_fJ, pI_fR, pI_aI, pI_aJ, pI_aR, pJ_ns_z, pJ_ns_s, pJ_ns_k, pJ_ns_n, pJ_fI, pJ_fJ, pJ_fR, pJ_aI, pJ_aJ, pJ_aR, pR_ns_z, pR_ns_s, pR_ns_k, pR_ns_n, pR_fI, pR_fJ, pR_fR, pR_aI, pR_aJ, pR_aR, qI_ns_z, qI_ns_s, qI_ns_k, qI_ns_n, qI_fI, qI_fJ, qI_fR, qI_aI, qI_aJ, qI_aR, qJ_ns_z, qJ_ns_s, qJ_ns_k, qJ_ns_n, qJ_fI, qJ_fJ, qJ_fR, qJ_aI, qJ_aJ, qJ_aR, qR_ns_z, qR_ns_s, qR_ns_k, qR_ns_n, qR_fI, qR_fJ, qR_fR, qR_aI, qR_aJ, qR_aR, nO_ns_z, nO_ns_s, nO_ns_k, nO_ns_n, nO_fI, nO_fJ, nO_fR, nO_aI, nO_aJ, nO_aR, nA_ns_z, nA_ns_s, nA_ns_k, nA_ns_n, nA_fI, nA_fJ, nA_fR, nA_aI, nA_aJ, nA_aR, nC_ns_z, nC_ns_s, nC_ns_k, nC_ns_n, nC_fI, nC_fJ, nC_fR, nC_aI, nC_aJ, nC_aR, Nat.zero_le, Nat.reduceAdd, Nat.reduceLeDiff, reduceIte, rf_c1, int_c1, none_c1, cat_nil, cat_int, cat_long, cat_rf, toList_s, toList_n, true_and, and_true, Option.some.injEq, exists_eq_left', exists_eq_left, reduceCtorEq, if_true, if_false, eq_self, h1, h2, h3, k1, k2, k3, k4, e204]
    all_goals simp
  | false =>
    rw [hr, if_neg (by decide)] at e204
    obtain ⟨n1, n2⟩ := CW_note hZ hs g2 g3 hr
    have hd := depZ_le hZ hs
    have n3 : (nI (depZ Z s) ≤ (400 : Int32)) ↔ depZ Z s ≤ 400 := nI_leI (b := 400) (by omega) (by omega)
    by_cases y : depZ Z s ≤ 400
    · simp only [e48_0, e48_1, e48_4, e48_5, e48_6, e48_7, e48_10, e48_11, e48_14, e48_15, e48_18, e48_21, e48_24, e48_25, e48_26, e48_27, e48_30, e48_33, e48_36, e48_38, e48_41, e48_42, Ev_is g1, pI_ns_z, pI_ns_s, pI_ns_k, pI_ns_n, pI_fI, pI_fJ, pI_fR, pI_aI, pI_aJ, pI_aR, pJ_ns_z, pJ_ns_s, pJ_ns_k, pJ_ns_n, pJ_fI, pJ_fJ, pJ_fR, pJ_aI, pJ_aJ, pJ_aR, pR_ns_z, pR_ns_s, pR_ns_k, pR_ns_n, pR_fI, pR_fJ, pR_fR, pR_aI, pR_aJ, pR_aR, qI_ns_z, qI_ns_s, qI_ns_k, qI_ns_n, qI_fI, qI_fJ, qI_fR, qI_aI, qI_aJ, qI_aR, qJ_ns_z, qJ_ns_s, qJ_ns_k, qJ_ns_n, qJ_fI, qJ_fJ, qJ_fR, qJ_aI, qJ_aJ, qJ_aR, qR_ns_z, qR_ns_s, qR_ns_k, qR_ns_n, qR_fI, qR_fJ, qR_fR, qR_aI, qR_aJ, qR_aR, nO_ns_z, nO_ns_s, nO_ns_k, nO_ns_n, nO_fI, nO_fJ, nO_fR, nO_aI, nO_aJ, nO_aR, nA_ns_z, nA_ns_s, nA_ns_k, nA_ns_n, nA_fI, nA_fJ, nA_fR, nA_aI, nA_aJ, nA_aR, nC_ns_z, nC_ns_s, nC_ns_k, nC_ns_n, nC_fI, nC_fJ, nC_fR, nC_aI, nC_aJ, nC_aR, Nat.zero_le, Nat.reduceAdd, Nat.reduceLeDiff, reduceIte, rf_c1, int_c1, none_c1, cat_nil, cat_int, cat_long, cat_rf, toList_s, toList_n, true_and, and_true, Option.some.injEq, exists_eq_left', exists_eq_left, reduceCtorEq, if_true, if_false, eq_self, h1, h2, h3, k1, k2, k3, k4, e204, n1, n3, y, Nat.not_lt.mpr y]
      all_goals simp
    · simp only [e48_0, e48_1, e48_4, e48_5, e48_6, e48_7, e48_10, e48_11, e48_14, e48_15, e48_18, e48_21, e48_24, e48_25, e48_26, e48_27, e48_30, e48_33, e48_36, e48_38, e48_41, e48_42, Ev_is g1, pI_ns_z, pI_ns_s, pI_ns_k, pI_ns_n, pI_fI, pI_fJ, pI_fR, pI_aI, pI_aJ, pI_aR, pJ_ns_z, pJ_ns_s, pJ_ns_k, pJ_ns_n, pJ_fI, pJ_fJ, pJ_fR, pJ_aI, pJ_aJ, pJ_aR, pR_ns_z, pR_ns_s, pR_ns_k, pR_ns_n, pR_fI, pR_fJ, pR_fR, pR_aI, pR_aJ, pR_aR, qI_ns_z, qI_ns_s, qI_ns_k, qI_ns_n, qI_fI, qI_fJ, qI_fR, qI_aI, qI_aJ, qI_aR, qJ_ns_z, qJ_ns_s, qJ_ns_k, qJ_ns_n, qJ_fI, qJ_fJ, qJ_fR, qJ_aI, qJ_aJ, qJ_aR, qR_ns_z, qR_ns_s, qR_ns_k, qR_ns_n, qR_fI, qR_fJ, qR_fR, qR_aI, qR_aJ, qR_aR, nO_ns_z, nO_ns_s, nO_ns_k, nO_ns_n, nO_fI, nO_fJ, nO_fR, nO_aI, nO_aJ, nO_aR, nA_ns_z, nA_ns_s, nA_ns_k, nA_ns_n, nA_fI, nA_fJ, nA_fR, nA_aI, nA_aJ, nA_aR, nC_ns_z, nC_ns_s, nC_ns_k, nC_ns_n, nC_fI, nC_fJ, nC_fR, nC_aI, nC_aJ, nC_aR, Nat.zero_le, Nat.reduceAdd, Nat.reduceLeDiff, reduceIte, rf_c1, int_c1, none_c1, cat_nil, cat_int, cat_long, cat_rf, toList_s, toList_n, true_and, and_true, Option.some.injEq, exists_eq_left', exists_eq_left, reduceCtorEq, if_true, if_false, eq_self, h1, h2, h3, k1, k2, k3, k4, e204, n1, n3, y, Nat.not_le.mp y]
      all_goals simp
theorem c_depth (h : CR S sh T wk ad na ha cur Z) (hZ : ZI Z) (hcur : cur < 100000) (t : Int32) : ∃ S' c', Ev (28, 0, [some (va_rf (some sh)), some (.int t), none], [], S) (some (.int (o_depth Z t).1), S') ∧ c' ≤ cur + 1 ∧ CR S' sh T wk ad na ha c' (o_depth Z t).2 ∧ sz0 S S' := by
  have hn := hZ.1
  have h1 : ns_k S sh = 4 := h.1.1
  rcases zt_cases (n := zn Z) (by omega) t with ⟨e, g⟩ | ⟨s, hs, rfl, e⟩
  · refine ⟨pI S 303 sh 1, cur, ?_, by omega, ?_, ⟨rfl, rfl⟩⟩
    · simp only [e28_0, e28_1, e28_2, e28_5, e28_6, e28_7, e28_8, e28_9, e28_12, e28_15, e28_16, e28_19, e28_20, e28_23, e28_26, e28_27, e28_30, e28_31, e28_34, c36 h hZ, c48n, pI_ns_z, pI_ns_s, pI_ns_k, pI_ns_n, pI_fI, pI_fJ, pI_fR, pI_aI, pI_aJ, pI_aR, pJ_ns_z, pJ_ns_s, pJ_ns_k, pJ_ns_n, pJ_fI, pJ_fJ, pJ_fR, pJ_aI, pJ_aJ, pJ_aR, pR_ns_z, pR_ns_s, pR_ns_k, pR_ns_n, pR_fI, pR_fJ, pR_fR, pR_aI, pR_aJ, pR_aR, qI_ns_z, qI_ns_s, qI_ns_k, qI_ns_n, qI_fI, qI_fJ, qI_fR, qI_aI, qI_aJ, qI_aR, qJ_ns_z, qJ_ns_s, qJ_ns_k, qJ_ns_n, qJ_fI, qJ_fJ, qJ_fR, qJ_aI, qJ_aJ, qJ_aR, qR_ns_z, qR_ns_s, qR_ns_k, qR_ns_n, qR_fI, qR_fJ, qR_fR, qR_aI, qR_aJ, qR_aR, nO_ns_z, nO_ns_s, nO_ns_k, nO_ns_n, nO_fI, nO_fJ, nO_fR, nO_aI, nO_aJ, nO_aR, nA_ns_z, nA_ns_s, nA_ns_k, nA_ns_n, nA_fI, nA_fJ, nA_fR, nA_aI, nA_aJ, nA_aR, nC_ns_z, nC_ns_s, nC_ns_k, nC_ns_n, nC_fI, nC_fJ, nC_fR, nC_aI, nC_aJ, nC_aR, Nat.zero_le, Nat.reduceAdd, Nat.reduceLeDiff, reduceIte, rf_c1, int_c1, none_c1, cat_nil, cat_int, cat_long, cat_rf, toList_s, toList_n, true_and, and_true, Option.some.injEq, exists_eq_left', exists_eq_left, reduceCtorEq, if_true, if_false, eq_self, h1, e, Option.map_none, o_depth, rf]
    · have : (o_depth Z t).2 = wS Z 1 := by unfold o_depth rf; rw [e]
      rw [this]
      exact CR_wS h 1
  · obtain ⟨S', N', g1, g2, g3, g4⟩ := c48 (G := fun _ => False) h hZ hcur hs (fun _ _ z => z.elim)
    have hR' := g2.1
    have k1 : ns_k S' sh = 4 := hR'.1.1
    have k4 := CR_k hR' hs
    refine ⟨pI S' 303 sh (rf Z (nI s)), cur + 1, ?_, Nat.le_refl _, CR_wS hR' _, g4⟩
    have e2 : (o_depth Z (nI s)).1 = if rf Z (nI s) = 0 then nI (depZ Z s) else -1 := by unfold o_depth; rw [e]
    rw [e2]
    by_cases y : rf Z (nI s) = 0
    · have hr : (wkE Z s).2.2.2.2.1 = false := by
        cases hh : (wkE Z s).2.2.2.2.1 with
        | true =>
          unfold rf at y
          rw [e] at y
          simp only [hh, if_true] at y
          exact absurd y (by decide)
        | false => rfl
      obtain ⟨n1, n2⟩ := CW_note hZ hs g2 g3 hr
      rw [y] at g1
      simp only [e28_0, e28_1, e28_2, e28_5, e28_6, e28_7, e28_8, e28_9, e28_12, e28_15, e28_16, e28_19, e28_20, e28_23, e28_26, e28_27, e28_30, e28_31, e28_34, c36 h hZ, Ev_is g1, pI_ns_z, pI_ns_s, pI_ns_k, pI_ns_n, pI_fI, pI_fJ, pI_fR, pI_aI, pI_aJ, pI_aR, pJ_ns_z, pJ_ns_s, pJ_ns_k, pJ_ns_n, pJ_fI, pJ_fJ, pJ_fR, pJ_aI, pJ_aJ, pJ_aR, pR_ns_z, pR_ns_s, pR_ns_k, pR_ns_n, pR_fI, pR_fJ, pR_fR, pR_aI, pR_aJ, pR_aR, qI_ns_z, qI_ns_s, qI_ns_k, qI_ns_n, qI_fI, qI_fJ, qI_fR, qI_aI, qI_aJ, qI_aR, qJ_ns_z, qJ_ns_s, qJ_ns_k, qJ_ns_n, qJ_fI, qJ_fJ, qJ_fR, qJ_aI, qJ_aJ, qJ_aR, qR_ns_z, qR_ns_s, qR_ns_k, qR_ns_n, qR_fI, qR_fJ, qR_fR, qR_aI, qR_aJ, qR_aR, nO_ns_z, nO_ns_s, nO_ns_k, nO_ns_n, nO_fI, nO_fJ, nO_fR, nO_aI, nO_aJ, nO_aR, nA_ns_z, nA_ns_s, nA_ns_k, nA_ns_n, nA_fI, nA_fJ, nA_fR, nA_aI, nA_aJ, nA_aR, nC_ns_z, nC_ns_s, nC_ns_k, nC_ns_n, nC_fI, nC_fJ, nC_fR, nC_aI, nC_aJ, nC_aR, Nat.zero_le, Nat.reduceAdd, Nat.reduceLeDiff, reduceIte, rf_c1, int_c1, none_c1, cat_nil, cat_int, cat_long, cat_rf, toList_s, toList_n, true_and, and_true, Option.some.injEq, exists_eq_left', exists_eq_left, reduceCtorEq, if_true, if_false, eq_self, h1, k1, k4, e, Option.map_some, n1, y]
      all_goals simp [n1]
    · simp only [e28_0, e28_1, e28_2, e28_5, e28_6, e28_7, e28_8, e28_9, e28_12, e28_15, e28_16, e28_19, e28_20, e28_23, e28_26, e28_27, e28_30, e28_31, e28_34, c36 h hZ, Ev_is g1, pI_ns_z, pI_ns_s, pI_ns_k, pI_ns_n, pI_fI, pI_fJ, pI_fR, pI_aI, pI_aJ, pI_aR, pJ_ns_z, pJ_ns_s, pJ_ns_k, pJ_ns_n, pJ_fI, pJ_fJ, pJ_fR, pJ_aI, pJ_aJ, pJ_aR, pR_ns_z, pR_ns_s, pR_ns_k, pR_ns_n, pR_fI, pR_fJ, pR_fR, pR_aI, pR_aJ, pR_aR, qI_ns_z, qI_ns_s, qI_ns_k, qI_ns_n, qI_fI, qI_fJ, qI_fR, qI_aI, qI_aJ, qI_aR, qJ_ns_z, qJ_ns_s, qJ_ns_k, qJ_ns_n, qJ_fI, qJ_fJ, qJ_fR, qJ_aI, qJ_aJ, qJ_aR, qR_ns_z, qR_ns_s, qR_ns_k, qR_ns_n, qR_fI, qR_fJ, qR_fR, qR_aI, qR_aJ, qR_aR, nO_ns_z, nO_ns_s, nO_ns_k, nO_ns_n, nO_fI, nO_fJ, nO_fR, nO_aI, nO_aJ, nO_aR, nA_ns_z, nA_ns_s, nA_ns_k, nA_ns_n, nA_fI, nA_fJ, nA_fR, nA_aI, nA_aJ, nA_aR, nC_ns_z, nC_ns_s, nC_ns_k, nC_ns_n, nC_fI, nC_fJ, nC_fR, nC_aI, nC_aJ, nC_aR, Nat.zero_le, Nat.reduceAdd, Nat.reduceLeDiff, reduceIte, rf_c1, int_c1, none_c1, cat_nil, cat_int, cat_long, cat_rf, toList_s, toList_n, true_and, and_true, Option.some.injEq, exists_eq_left', exists_eq_left, reduceCtorEq, if_true, if_false, eq_self, h1, k1, k4, e, Option.map_some, y]
      all_goals simp [y]
theorem c_weight (h : CR S sh T wk ad na ha cur Z) (hZ : ZI Z) (hcur : cur < 100000) (t : Int32) : ∃ S' c', Ev (27, 0, [some (va_rf (some sh)), some (.int t), none], [], S) (some (.long (o_weight Z t).1), S') ∧ c' ≤ cur + 1 ∧ CR S' sh T wk ad na ha c' (o_weight Z t).2 ∧ sz0 S S' := by
  have hn := hZ.1
  have h1 : ns_k S sh = 4 := h.1.1
  rcases zt_cases (n := zn Z) (by omega) t with ⟨e, g⟩ | ⟨s, hs, rfl, e⟩
  · refine ⟨pI S 303 sh 1, cur, ?_, by omega, ?_, ⟨rfl, rfl⟩⟩
    · simp only [e27_0, e27_1, e27_2, e27_5, e27_6, e27_7, e27_8, e27_9, e27_12, e27_15, e27_16, e27_19, e27_20, e27_23, e27_26, e27_29, e27_32, e27_33, e27_36, c36 h hZ, c48n, pI_ns_z, pI_ns_s, pI_ns_k, pI_ns_n, pI_fI, pI_fJ, pI_fR, pI_aI, pI_aJ, pI_aR, pJ_ns_z, pJ_ns_s, pJ_ns_k, pJ_ns_n, pJ_fI, pJ_fJ, pJ_fR, pJ_aI, pJ_aJ, pJ_aR, pR_ns_z, pR_ns_s, pR_ns_k, pR_ns_n, pR_fI, pR_fJ, pR_fR, pR_aI, pR_aJ, pR_aR, qI_ns_z, qI_ns_s, qI_ns_k, qI_ns_n, qI_fI, qI_fJ, qI_fR, qI_aI, qI_aJ, qI_aR, qJ_ns_z, qJ_ns_s, qJ_ns_k, qJ_ns_n, qJ_fI, qJ_fJ, qJ_fR, qJ_aI, qJ_aJ, qJ_aR, qR_ns_z, qR_ns_s, qR_ns_k, qR_ns_n, qR_fI, qR_fJ, qR_fR, qR_aI, qR_aJ, qR_aR, nO_ns_z, nO_ns_s, nO_ns_k, nO_ns_n, nO_fI, nO_fJ, nO_fR, nO_aI, nO_aJ, nO_aR, nA_ns_z, nA_ns_s, nA_ns_k, nA_ns_n, nA_fI, nA_fJ, nA_fR, nA_aI, nA_aJ, nA_aR, nC_ns_z, nC_ns_s, nC_ns_k, nC_ns_n, nC_fI, nC_fJ, nC_fR, nC_aI, nC_aJ, nC_aR, Nat.zero_le, Nat.reduceAdd, Nat.reduceLeDiff, reduceIte, rf_c1, int_c1, none_c1, cat_nil, cat_int, cat_long, cat_rf, toList_s, toList_n, true_and, and_true, Option.some.injEq, exists_eq_left', exists_eq_left, reduceCtorEq, if_true, if_false, eq_self, h1, e, Option.map_none, o_weight, rf]
    · have : (o_weight Z t).2 = wS Z 1 := by unfold o_weight rf; rw [e]
      rw [this]
      exact CR_wS h 1
  · obtain ⟨S', N', g1, g2, g3, g4⟩ := c48 (G := fun _ => False) h hZ hcur hs (fun _ _ z => z.elim)
    have hR' := g2.1
    have k1 : ns_k S' sh = 4 := hR'.1.1
    have k4 := CR_k hR' hs
    refine ⟨pI S' 303 sh (rf Z (nI s)), cur + 1, ?_, Nat.le_refl _, CR_wS hR' _, g4⟩
    have e2 : (o_weight Z (nI s)).1 = if rf Z (nI s) = 0 then wtZ Z s else -1 := by unfold o_weight; rw [e]
    rw [e2]
    by_cases y : rf Z (nI s) = 0
    · have hr : (wkE Z s).2.2.2.2.1 = false := by
        cases hh : (wkE Z s).2.2.2.2.1 with
        | true =>
          unfold rf at y
          rw [e] at y
          simp only [hh, if_true] at y
          exact absurd y (by decide)
        | false => rfl
      obtain ⟨n1, n2⟩ := CW_note hZ hs g2 g3 hr
      rw [y] at g1
      simp only [e27_0, e27_1, e27_2, e27_5, e27_6, e27_7, e27_8, e27_9, e27_12, e27_15, e27_16, e27_19, e27_20, e27_23, e27_26, e27_29, e27_32, e27_33, e27_36, c36 h hZ, Ev_is g1, pI_ns_z, pI_ns_s, pI_ns_k, pI_ns_n, pI_fI, pI_fJ, pI_fR, pI_aI, pI_aJ, pI_aR, pJ_ns_z, pJ_ns_s, pJ_ns_k, pJ_ns_n, pJ_fI, pJ_fJ, pJ_fR, pJ_aI, pJ_aJ, pJ_aR, pR_ns_z, pR_ns_s, pR_ns_k, pR_ns_n, pR_fI, pR_fJ, pR_fR, pR_aI, pR_aJ, pR_aR, qI_ns_z, qI_ns_s, qI_ns_k, qI_ns_n, qI_fI, qI_fJ, qI_fR, qI_aI, qI_aJ, qI_aR, qJ_ns_z, qJ_ns_s, qJ_ns_k, qJ_ns_n, qJ_fI, qJ_fJ, qJ_fR, qJ_aI, qJ_aJ, qJ_aR, qR_ns_z, qR_ns_s, qR_ns_k, qR_ns_n, qR_fI, qR_fJ, qR_fR, qR_aI, qR_aJ, qR_aR, nO_ns_z, nO_ns_s, nO_ns_k, nO_ns_n, nO_fI, nO_fJ, nO_fR, nO_aI, nO_aJ, nO_aR, nA_ns_z, nA_ns_s, nA_ns_k, nA_ns_n, nA_fI, nA_fJ, nA_fR, nA_aI, nA_aJ, nA_aR, nC_ns_z, nC_ns_s, nC_ns_k, nC_ns_n, nC_fI, nC_fJ, nC_fR, nC_aI, nC_aJ, nC_aR, Nat.zero_le, Nat.reduceAdd, Nat.reduceLeDiff, reduceIte, rf_c1, int_c1, none_c1, cat_nil, cat_int, cat_long, cat_rf, toList_s, toList_n, true_and, and_true, Option.some.injEq, exists_eq_left', exists_eq_left, reduceCtorEq, if_true, if_false, eq_self, h1, k1, k4, e, Option.map_some, n2, y]
      all_goals simp [n2]
    · simp only [e27_0, e27_1, e27_2, e27_5, e27_6, e27_7, e27_8, e27_9, e27_12, e27_15, e27_16, e27_19, e27_20, e27_23, e27_26, e27_29, e27_32, e27_33, e27_36, c36 h hZ, Ev_is g1, pI_ns_z, pI_ns_s, pI_ns_k, pI_ns_n, pI_fI, pI_fJ, pI_fR, pI_aI, pI_aJ, pI_aR, pJ_ns_z, pJ_ns_s, pJ_ns_k, pJ_ns_n, pJ_fI, pJ_fJ, pJ_fR, pJ_aI, pJ_aJ, pJ_aR, pR_ns_z, pR_ns_s, pR_ns_k, pR_ns_n, pR_fI, pR_fJ, pR_fR, pR_aI, pR_aJ, pR_aR, qI_ns_z, qI_ns_s, qI_ns_k, qI_ns_n, qI_fI, qI_fJ, qI_fR, qI_aI, qI_aJ, qI_aR, qJ_ns_z, qJ_ns_s, qJ_ns_k, qJ_ns_n, qJ_fI, qJ_fJ, qJ_fR, qJ_aI, qJ_aJ, qJ_aR, qR_ns_z, qR_ns_s, qR_ns_k, qR_ns_n, qR_fI, qR_fJ, qR_fR, qR_aI, qR_aJ, qR_aR, nO_ns_z, nO_ns_s, nO_ns_k, nO_ns_n, nO_fI, nO_fJ, nO_fR, nO_aI, nO_aJ, nO_aR, nA_ns_z, nA_ns_s, nA_ns_k, nA_ns_n, nA_fI, nA_fJ, nA_fR, nA_aI, nA_aJ, nA_aR, nC_ns_z, nC_ns_s, nC_ns_k, nC_ns_n, nC_fI, nC_fJ, nC_fR, nC_aI, nC_aJ, nC_aR, Nat.zero_le, Nat.reduceAdd, Nat.reduceLeDiff, reduceIte, rf_c1, int_c1, none_c1, cat_nil, cat_int, cat_long, cat_rf, toList_s, toList_n, true_and, and_true, Option.some.injEq, exists_eq_left', exists_eq_left, reduceCtorEq, if_true, if_false, eq_self, h1, k1, k4, e, Option.map_some, y]
      all_goals simp [y]
/-- some thing that is reached from s has s in a place -/
def rgZ (Z : Zs) (s : Nat) : Prop := ∃ u p, Rch (chl Z) (zh Z) s u ∧ p < chl Z u ∧ zh Z u p = some s
def o_ring (Z : Zs) (t : Int32) : Int32 := match zt (zn Z) t with
  | none => -1
  | some s => if (wkE Z s).2.2.2.2.2 = true then 1 else 0
theorem rg_iff (hZ : ZI Z) {s : Nat} (hs : s < zn Z) : (wkE Z s).2.2.2.2.2 = true ↔ rgZ Z s := (dend_rch (zch hZ) hs).2
theorem c_ring (h : CR S sh T wk ad na ha cur Z) (hZ : ZI Z) (hcur : cur < 100000) (t : Int32) : ∃ S' c', Ev (33, 0, [some (va_rf (some sh)), some (.int t), none], [], S) (some (.int (o_ring Z t)), S') ∧ c' ≤ cur + 1 ∧ CR S' sh T wk ad na ha c' Z ∧ sz0 S S' := by
  have hn := hZ.1
  have h1 : ns_k S sh = 4 := h.1.1
  have h2 : fR S 301 sh = some wk := h.1.2.2.1
  have h3 := CR_wk h
  rcases zt_cases (n := zn Z) (by omega) t with ⟨e, g⟩ | ⟨s, hs, rfl, e⟩
  · refine ⟨S, cur, ?_, by omega, h, ⟨rfl, rfl⟩⟩
    have e2 : o_ring Z t = -1 := by unfold o_ring; rw [e]
    rw [e2]
    simp only [e33_0, e33_1, e33_2, e33_5, e33_6, e33_7, e33_10, e33_11, e33_12, e33_13, e33_16, e33_17, e33_20, e33_21, e33_24, e33_27, e33_30, e33_31, e33_34, e33_35, c36 h hZ, pI_ns_z, pI_ns_s, pI_ns_k, pI_ns_n, pI_fI, pI_fJ, pI_fR, pI_aI, pI_aJ, pI_aR, pJ_ns_z, pJ_ns_s, pJ_ns_k, pJ_ns_n, pJ_fI, pJ_fJ, pJ_fR, pJ_aI, pJ_aJ, pJ_aR, pR_ns_z, pR_ns_s, pR_ns_k, pR_ns_n, pR_fI, pR_fJ, pR_fR, pR_aI, pR_aJ, pR_aR, qI_ns_z, qI_ns_s, qI_ns_k, qI_ns_n, qI_fI, qI_fJ, qI_fR, qI_aI, qI_aJ, qI_aR, qJ_ns_z, qJ_ns_s, qJ_ns_k, qJ_ns_n, qJ_fI, qJ_fJ, qJ_fR, qJ_aI, qJ_aJ, qJ_aR, qR_ns_z, qR_ns_s, qR_ns_k, qR_ns_n, qR_fI, qR_fJ, qR_fR, qR_aI, qR_aJ, qR_aR, nO_ns_z, nO_ns_s, nO_ns_k, nO_ns_n, nO_fI, nO_fJ, nO_fR, nO_aI, nO_aJ, nO_aR, nA_ns_z, nA_ns_s, nA_ns_k, nA_ns_n, nA_fI, nA_fJ, nA_fR, nA_aI, nA_aJ, nA_aR, nC_ns_z, nC_ns_s, nC_ns_k, nC_ns_n, nC_fI, nC_fJ, nC_fR, nC_aI, nC_aJ, nC_aR, Nat.zero_le, Nat.reduceAdd, Nat.reduceLeDiff, reduceIte, rf_c1, int_c1, none_c1, cat_nil, cat_int, cat_long, cat_rf, toList_s, toList_n, true_and, and_true, Option.some.injEq, exists_eq_left', exists_eq_left, reduceCtorEq, if_true, if_false, eq_self, h1, e, Option.map_none]
  · obtain ⟨S', N', g1, g2, g3, g4⟩ := c_goFrom (G := fun _ => False) h hZ hcur hs (fun _ _ z => z.elim)
    have hR' := g2.1
    have k1 : ns_k S' sh = 4 := hR'.1.1
    have k2 : fR S' 301 sh = some wk := hR'.1.2.2.1
    have k3 := CR_wk hR'
    refine ⟨S', cur + 1, ?_, Nat.le_refl _, hR', g4⟩
    have e205 := g2.2.1.2.2.2.2
    by_cases y : (wkE Z s).2.2.2.2.2 = true
    · have e2 : o_ring Z (nI s) = 1 := by unfold o_ring; rw [e]; exact if_pos y
      rw [if_pos y] at e205
      rw [e2]
      simp only [e33_0, e33_1, e33_2, e33_5, e33_6, e33_7, e33_10, e33_11, e33_12, e33_13, e33_16, e33_17, e33_20, e33_21, e33_24, e33_27, e33_30, e33_31, e33_34, e33_35, c36 h hZ, Ev_is g1, pI_ns_z, pI_ns_s, pI_ns_k, pI_ns_n, pI_fI, pI_fJ, pI_fR, pI_aI, pI_aJ, pI_aR, pJ_ns_z, pJ_ns_s, pJ_ns_k, pJ_ns_n, pJ_fI, pJ_fJ, pJ_fR, pJ_aI, pJ_aJ, pJ_aR, pR_ns_z, pR_ns_s, pR_ns_k, pR_ns_n, pR_fI, pR_fJ, pR_fR, pR_aI, pR_aJ, pR_aR, qI_ns_z, qI_ns_s, qI_ns_k, qI_ns_n, qI_fI, qI_fJ, qI_fR, qI_aI, qI_aJ, qI_aR, qJ_ns_z, qJ_ns_s, qJ_ns_k, qJ_ns_n, qJ_fI, qJ_fJ, qJ_fR, qJ_aI, qJ_aJ, qJ_aR, qR_ns_z, qR_ns_s, qR_ns_k, qR_ns_n, qR_fI, qR_fJ, qR_fR, qR_aI, qR_aJ, qR_aR, nO_ns_z, nO_ns_s, nO_ns_k, nO_ns_n, nO_fI, nO_fJ, nO_fR, nO_aI, nO_aJ, nO_aR, nA_ns_z, nA_ns_s, nA_ns_k, nA_ns_n, nA_fI, nA_fJ, nA_fR, nA_aI, nA_aJ, nA_aR, nC_ns_z, nC_ns_s, nC_ns_k, nC_ns_n, nC_fI, nC_fJ, nC_fR, nC_aI, nC_aJ, nC_aR, Nat.zero_le, Nat.reduceAdd, Nat.reduceLeDiff, reduceIte, rf_c1, int_c1, none_c1, cat_nil, cat_int, cat_long, cat_rf, toList_s, toList_n, true_and, and_true, Option.some.injEq, exists_eq_left', exists_eq_left, reduceCtorEq, if_true, if_false, eq_self, h1, h2, h3, k1, k2, k3, e, Option.map_some, e205]
      all_goals simp
    · have e2 : o_ring Z (nI s) = 0 := by unfold o_ring; rw [e]; exact if_neg y
      rw [if_neg y] at e205
      rw [e2]
      simp only [e33_0, e33_1, e33_2, e33_5, e33_6, e33_7, e33_10, e33_11, e33_12, e33_13, e33_16, e33_17, e33_20, e33_21, e33_24, e33_27, e33_30, e33_31, e33_34, e33_35, c36 h hZ, Ev_is g1, pI_ns_z, pI_ns_s, pI_ns_k, pI_ns_n, pI_fI, pI_fJ, pI_fR, pI_aI, pI_aJ, pI_aR, pJ_ns_z, pJ_ns_s, pJ_ns_k, pJ_ns_n, pJ_fI, pJ_fJ, pJ_fR, pJ_aI, pJ_aJ, pJ_aR, pR_ns_z, pR_ns_s, pR_ns_k, pR_ns_n, pR_fI, pR_fJ, pR_fR, pR_aI, pR_aJ, pR_aR, qI_ns_z, qI_ns_s, qI_ns_k, qI_ns_n, qI_fI, qI_fJ, qI_fR, qI_aI, qI_aJ, qI_aR, qJ_ns_z, qJ_ns_s, qJ_ns_k, qJ_ns_n, qJ_fI, qJ_fJ, qJ_fR, qJ_aI, qJ_aJ, qJ_aR, qR_ns_z, qR_ns_s, qR_ns_k, qR_ns_n, qR_fI, qR_fJ, qR_fR, qR_aI, qR_aJ, qR_aR, nO_ns_z, nO_ns_s, nO_ns_k, nO_ns_n, nO_fI, nO_fJ, nO_fR, nO_aI, nO_aJ, nO_aR, nA_ns_z, nA_ns_s, nA_ns_k, nA_ns_n, nA_fI, nA_fJ, nA_fR, nA_aI, nA_aJ, nA_aR, nC_ns_z, nC_ns_s, nC_ns_k, nC_ns_n, nC_fI, nC_fJ, nC_fR, nC_aI, nC_aJ, nC_aR, Nat.zero_le, Nat.reduceAdd, Nat.reduceLeDiff, reduceIte, rf_c1, int_c1, none_c1, cat_nil, cat_int, cat_long, cat_rf, toList_s, toList_n, true_and, and_true, Option.some.injEq, exists_eq_left', exists_eq_left, reduceCtorEq, if_true, if_false, eq_self, h1, h2, h3, k1, k2, k3, e, Option.map_some, e205]
      all_goals simp
end CGO
