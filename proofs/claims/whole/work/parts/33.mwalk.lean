/-! ===== the reference's walk goes the steps of the walk ===== -/
theorem nd_len : ∀ (n : Nat) (l : List Nat), l.Nodup → (∀ x, x ∈ l → x < n) → l.length ≤ n
  | 0, [], _, _ => Nat.le_refl _
  | 0, a :: l, _, h => absurd (h a (by simp)) (Nat.not_lt_zero a)
  | n + 1, l, hd, h => by
    by_cases y : n ∈ l
    · obtain ⟨A, B, rfl⟩ := List.append_of_mem y
      rw [List.nodup_append] at hd
      obtain ⟨d1, d2, d3⟩ := hd
      rw [List.nodup_cons] at d2
      have d4 : (A ++ B).Nodup := List.nodup_append.mpr ⟨d1, d2.2, fun a ha b hb => d3 a ha b (List.mem_cons_of_mem _ hb)⟩
      have := nd_len n (A ++ B) d4 (fun x hx => by
        have h1 : x < n + 1 := h x (by
          rcases List.mem_append.mp hx with z | z
          · exact List.mem_append_left _ z
          · exact List.mem_append_right _ (List.mem_cons_of_mem _ z))
        have h2 : x ≠ n := fun z => by
          subst z
          rcases List.mem_append.mp hx with z | z
          · exact d3 x z x (by simp) rfl
          · exact d2.1 z
        omega)
      simp only [List.length_append, List.length_cons] at this ⊢
      omega
    · have := nd_len n l hd (fun x hx => by
        have := h x hx
        have : x ≠ n := fun z => y (z ▸ hx)
        omega)
      omega
/-- a row of ints holds a list -/
def LA (f : Nat → Int32) (l : List Nat) : Prop := ∀ i, i < l.length → f i = nI (l.getD i 0)
theorem LA_push {f g : Nat → Int32} {l : List Nat} {c : Nat} (h : LA f l) (hg : ∀ i, i ≠ l.length → g i = f i) (hc : g l.length = nI c) : LA g (l ++ [c]) := by
  intro i hi
  simp only [List.length_append, List.length_cons, List.length_nil] at hi
  by_cases y : i = l.length
  · subst y
    rw [hc]
    simp [List.getD_eq_getElem?_getD]
  · rw [hg i y, h i (by omega)]
    rw [List.getD_eq_getElem?_getD, List.getD_eq_getElem?_getD, List.getElem?_append_left (by omega)]
/-- the stack in the reference's rows -/
def WY (f g : Nat → Int32) : List (Nat × Nat) → Prop
  | [] => True
  | (u, p) :: t => f t.length = nI u ∧ g t.length = nI p ∧ WY f g t
theorem WY_congr {f g f' g' : Nat → Int32} : ∀ (t : List (Nat × Nat)), (∀ i, i < t.length → f' i = f i ∧ g' i = g i) → WY f g t → WY f' g' t
  | [], _, _ => trivial
  | (u, p) :: t, h, w => by
    simp only [List.length_cons] at h
    exact ⟨by rw [(h _ (by omega)).1]; exact w.1, by rw [(h _ (by omega)).2]; exact w.2.1, WY_congr t (fun i hi => h i (by omega)) w.2.2⟩
def MX (S : ns_St) (m : Nat) (A : Nat → Nat) (Z : Zs) (X : Dx) : Prop := MR S m A Z ∧ (∀ u, u < zn Z → aI S (A 8) u = nI (X.2.1 u)) ∧ (fI S 411 m = nI X.2.2.1.length ∧ LA (aI S (A 9)) X.2.2.1) ∧ (fI S 412 m = nI X.2.2.2.1.length ∧ LA (aI S (A 10)) X.2.2.2.1) ∧ WY (aI S (A 13)) (aI S (A 14)) X.1
section MWALK
variable {S : ns_St} {m : Nat} {A : Nat → Nat} {Z : Zs}
theorem MR_same {S' : ns_St} (h : MR S m A Z) (h1 : ns_k S' = ns_k S) (h2 : ns_n S' = ns_n S) (h3 : fR S' = fR S) (h4 : ∀ f, f = 400 ∨ f = 406 ∨ f = 407 → fI S' f m = fI S f m) (h5 : ∀ f, f ∈ [1, 2, 3, 4] → aI S' (A f) = aI S (A f)) (h6 : aJ S' (A 5) = aJ S (A 5)) : MR S' m A Z := by
  obtain ⟨hW, hc, hT, hu, hp, hs⟩ := id h
  refine ⟨?_, by rw [h4 400 (by decide)]; exact hc, ?_, by rw [h4 406 (by decide)]; exact hu, ?_, by rw [h4 407 (by decide)]; exact hs⟩
  · unfold MW
    rw [h1, h2, h3]
    exact hW
  · rw [h5 1 (by decide), h5 2 (by decide), h5 3 (by decide), h5 4 (by decide)]
    exact hT
  · rw [h6]
    exact hp
theorem m_come (h : MR S m A Z) (hZ : ZI Z) {c d pl : Nat} (hc : c < zn Z) (hd : d < 2000) (hpl : pl < 2000) (h411 : fI S 411 m = nI pl) {r : ns_Rs} : Ev (78, 0, [some (va_rf (some m)), some (.int (nI c)), some (.int (nI d))], [], S) r ↔ r = (none, qI (qI (pI (qI (qI S (A 8) c 1) (A 9) pl (nI c)) 411 m (nI (pl + 1))) (A 13) d (nI c)) (A 14) d 0) := by
  have hn := hZ.1
  have hW := h.1
  have a3 : (nI c).toNatClampNeg = c := nI_clamp (by omega)
  have a4 := in_ok (show c < 2000 by omega) (by omega)
  have b3 : (nI d).toNatClampNeg = d := nI_clamp (by omega)
  have b4 := in_ok hd (by omega)
  have c3 : (nI pl).toNatClampNeg = pl := nI_clamp (by omega)
  have c4 := in_ok hpl (by omega)
  simp only [e78_0, e78_1, e78_4, e78_5, e78_6, e78_7, e78_8, e78_11, e78_12, e78_15, e78_16, e78_17, e78_18, e78_19, e78_22, e78_23, e78_24, e78_27, e78_28, e78_31, e78_32, e78_33, e78_34, e78_35, e78_38, e78_39, e78_40, e78_41, mw0 hW, mr8 hW, mk8 hW, mn8 hW, mr9 hW, mk9 hW, mn9 hW, mr13 hW, mk13 hW, mn13 hW, mr14 hW, mk14 hW, mn14 hW, pI_ns_z, pI_ns_s, pI_ns_k, pI_ns_n, pI_fI, pI_fJ, pI_fR, pI_aI, pI_aJ, pI_aR, pJ_ns_z, pJ_ns_s, pJ_ns_k, pJ_ns_n, pJ_fI, pJ_fJ, pJ_fR, pJ_aI, pJ_aJ, pJ_aR, pR_ns_z, pR_ns_s, pR_ns_k, pR_ns_n, pR_fI, pR_fJ, pR_fR, pR_aI, pR_aJ, pR_aR, qI_ns_z, qI_ns_s, qI_ns_k, qI_ns_n, qI_fI, qI_fJ, qI_fR, qI_aI, qI_aJ, qI_aR, qJ_ns_z, qJ_ns_s, qJ_ns_k, qJ_ns_n, qJ_fI, qJ_fJ, qJ_fR, qJ_aI, qJ_aJ, qJ_aR, qR_ns_z, qR_ns_s, qR_ns_k, qR_ns_n, qR_fI, qR_fJ, qR_fR, qR_aI, qR_aJ, qR_aR, nO_ns_z, nO_ns_s, nO_ns_k, nO_ns_n, nO_fI, nO_fJ, nO_fR, nO_aI, nO_aJ, nO_aR, nA_ns_z, nA_ns_s, nA_ns_k, nA_ns_n, nA_fI, nA_fJ, nA_fR, nA_aI, nA_aJ, nA_aR, nC_ns_z, nC_ns_s, nC_ns_k, nC_ns_n, nC_fI, nC_fJ, nC_fR, nC_aI, nC_aJ, nC_aR, Nat.zero_le, Nat.reduceAdd, Nat.reduceLeDiff, reduceIte, rf_c1, int_c1, none_c1, cat_nil, cat_int, cat_long, cat_rf, toList_s, toList_n, true_and, and_true, Option.some.injEq, exists_eq_left', exists_eq_left, reduceCtorEq, if_true, if_false, eq_self, a3, a4, b3, b4, c3, c4, h411, nI_1]
theorem MX_come (h : MR S m A Z) {mk : Nat → Nat} {pre post : List Nat} {t : List (Nat × Nat)} {ring met : Bool} {c : Nat} (h1 : ∀ u, u < zn Z → aI S (A 8) u = nI (mk u)) (h2 : fI S 411 m = nI pre.length) (h2' : LA (aI S (A 9)) pre) (h3 : fI S 412 m = nI post.length) (h3' : LA (aI S (A 10)) post) (h4 : WY (aI S (A 13)) (aI S (A 14)) t) : MX (qI (qI (pI (qI (qI S (A 8) c 1) (A 9) pre.length (nI c)) 411 m (nI (pre.length + 1))) (A 13) t.length (nI c)) (A 14) t.length 0) m A Z ((c, 0) :: t, va_up mk c 1, pre ++ [c], post, ring, met) := by
  have hW := h.1
  have ne : ∀ f g, f < 20 → g < 20 → f ≠ g → ¬ A f = A g := fun f g hf hg hne z => hne ((mwi hW hf hg).mp z)
  have row : ∀ f i, f < 20 → aI (qI (qI (pI (qI (qI S (A 8) c 1) (A 9) pre.length (nI c)) 411 m (nI (pre.length + 1))) (A 13) t.length (nI c)) (A 14) t.length 0) (A f) i = if f = 14 ∧ i = t.length then 0 else if f = 13 ∧ i = t.length then nI c else if f = 9 ∧ i = pre.length then nI c else if f = 8 ∧ i = c then 1 else aI S (A f) i := by
    intro f i hf
    simp only [qI_aI, pI_aI, mwi hW hf (show 14 < 20 by decide), mwi hW hf (show 13 < 20 by decide), mwi hW hf (show 9 < 20 by decide), mwi hW hf (show 8 < 20 by decide)]
  refine ⟨MR_same h rfl rfl rfl (fun f hf => ?_) (fun f hf => ?_) rfl, fun u hu => ?_, ⟨?_, ?_⟩, ⟨?_, ?_⟩, ?_⟩
  · rw [qI_fI, qI_fI, pI_fI, if_neg (by omega), qI_fI, qI_fI]
  · funext i
    have hf' : f = 1 ∨ f = 2 ∨ f = 3 ∨ f = 4 := by simpa using hf
    rw [row f i (by omega), if_neg (by omega), if_neg (by omega), if_neg (by omega), if_neg (by omega)]
  · rw [row 8 u (by decide), if_neg (by omega), if_neg (by omega), if_neg (by omega)]
    by_cases y : u = c
    · subst y
      rw [if_pos ⟨rfl, rfl⟩]
      show 1 = nI (va_up mk u 1 u)
      rw [va_up_self]; rfl
    · rw [if_neg (fun z => y z.2)]
      show _ = nI (va_up mk c 1 u)
      rw [va_up_ne _ _ y]
      exact h1 u hu
  · rw [qI_fI, qI_fI, pI_fI, if_pos ⟨rfl, rfl⟩]
    simp
  · refine LA_push h2' (fun i hi => ?_) ?_
    · rw [row 9 i (by decide), if_neg (by omega), if_neg (by omega), if_neg (fun z => hi z.2), if_neg (by omega)]
    · rw [row 9 _ (by decide), if_neg (by omega), if_neg (by omega), if_pos ⟨rfl, rfl⟩]
  · rw [qI_fI, qI_fI, pI_fI, if_neg (by omega), qI_fI, qI_fI]
    exact h3
  · intro i hi
    rw [row 10 i (by decide), if_neg (by omega), if_neg (by omega), if_neg (by omega), if_neg (by omega)]
    exact h3' i hi
  · refine ⟨?_, ?_, WY_congr t (fun i hi => ⟨?_, ?_⟩) h4⟩
    · rw [row 13 _ (by decide), if_neg (by omega), if_pos ⟨rfl, rfl⟩]
    · rw [row 14 _ (by decide), if_pos ⟨rfl, rfl⟩]; rfl
    · rw [row 13 i (by decide), if_neg (by omega), if_neg (by omega), if_neg (by omega), if_neg (by omega)]
    · rw [row 14 i (by decide), if_neg (by omega), if_neg (by omega), if_neg (by omega), if_neg (by omega)]
end MWALK
