/-! ===== copy: the reference ===== -/
section MCOPY
variable {S : ns_St} {m : Nat} {A : Nat → Nat} {Z : Zs}
theorem m_addf (h : MR S m A Z) (hZ : ZI Z) (hlt : zn Z < 2000) {k l : Nat} (hk : k ≤ 8) (hl : l ≤ 500) (v : Int32) : ∃ S', Ev (63, 0, [some (va_rf (some m)), some (.int (nI k)), some (.int (nI l)), some (.int v), none], [], S) (some (.int (nI (zn Z))), S') ∧ (∀ f i, f = 9 ∨ f = 17 → aI S' (A f) i = aI S (A f) i) ∧ fI S' 411 m = fI S 411 m := by
  obtain ⟨hW, hc, hT, hu, hp, hs⟩ := id h
  have hn := hZ.1
  have hB := bg_le (l := zl Z) (n := zn Z) (fun i hi => (hZ.2.1 i hi).2.1) (zn Z) (Nat.le_refl _)
  have a3 : (nI (zn Z)).toNatClampNeg = zn Z := nI_clamp (by omega)
  have a4 := in_ok (show zn Z < 2000 by omega) (by omega)
  generalize hS1 : qI (qI (qI (qI S (A 1) (zn Z) (nI k)) (A 2) (zn Z) (nI l)) (A 3) (zn Z) v) (A 4) (zn Z) (nI (bg (zl Z) (zn Z))) = S1
  have hW1 : MW S1 m A := by rw [← hS1]; exact hW
  have e1 : fI S1 = fI S := by rw [← hS1]; rfl
  have e2 : aJ S1 = aJ S := by rw [← hS1]; rfl
  have e3 : sz0 S S1 := by rw [← hS1]; exact ⟨rfl, rfl⟩
  have e4 : ∀ f i, f ∈ [1, 2, 3, 4] → aI S1 (A f) i = if i = zn Z then (if f = 1 then nI k else if f = 2 then nI l else if f = 3 then v else nI (bg (zl Z) (zn Z))) else aI S (A f) i := by
    intro f i hf
    rw [← hS1]
    simp only [qI_aI]
    rcases (show f = 1 ∨ f = 2 ∨ f = 3 ∨ f = 4 by simpa using hf) with rfl | rfl | rfl | rfl <;> by_cases y : i = zn Z <;> simp [y, mwi hW]
  have q0 : mQ S1 S1 m A (bg (zl Z) (zn Z)) 0 (hkw k) := ⟨hW1, by rw [e1]; exact hu, fun _ _ => rfl, rfl, fun p => by rw [if_neg (by omega)], rfl, rfl⟩
  obtain ⟨T, ⟨q1, q2, q3, q4, q5, q6⟩, g2⟩ := m_addloop (u0 := bg (zl Z) (zn Z)) (l := l) (v := v) hk (by omega) l 0 S1 (by omega) q0
  refine ⟨pI T 400 m (nI (zn Z + 1)), ?_, fun f i hf => ?_, ?_⟩
  · have c1 : fI T 400 m = nI (zn Z) := by rw [q3 400 (by decide), e1]; exact hc
    have g3 := g2 (some (.int (nI (zn Z))), pI T 400 m (nI (zn Z + 1))) (by
      simp only [e63_91, e63_92, e63_93, e63_96, e63_97, e63_98, e63_101, e63_102, e63_105, e63_106, e63_107, mw0 q1, pI_ns_z, pI_ns_s, pI_ns_k, pI_ns_n, pI_fI, pI_fJ, pI_fR, pI_aI, pI_aJ, pI_aR, pJ_ns_z, pJ_ns_s, pJ_ns_k, pJ_ns_n, pJ_fI, pJ_fJ, pJ_fR, pJ_aI, pJ_aJ, pJ_aR, pR_ns_z, pR_ns_s, pR_ns_k, pR_ns_n, pR_fI, pR_fJ, pR_fR, pR_aI, pR_aJ, pR_aR, qI_ns_z, qI_ns_s, qI_ns_k, qI_ns_n, qI_fI, qI_fJ, qI_fR, qI_aI, qI_aJ, qI_aR, qJ_ns_z, qJ_ns_s, qJ_ns_k, qJ_ns_n, qJ_fI, qJ_fJ, qJ_fR, qJ_aI, qJ_aJ, qJ_aR, qR_ns_z, qR_ns_s, qR_ns_k, qR_ns_n, qR_fI, qR_fJ, qR_fR, qR_aI, qR_aJ, qR_aR, nO_ns_z, nO_ns_s, nO_ns_k, nO_ns_n, nO_fI, nO_fJ, nO_fR, nO_aI, nO_aJ, nO_aR, nA_ns_z, nA_ns_s, nA_ns_k, nA_ns_n, nA_fI, nA_fJ, nA_fR, nA_aI, nA_aJ, nA_aR, nC_ns_z, nC_ns_s, nC_ns_k, nC_ns_n, nC_fI, nC_fJ, nC_fR, nC_aI, nC_aJ, nC_aR, Nat.zero_le, Nat.reduceAdd, Nat.reduceLeDiff, reduceIte, rf_c1, int_c1, none_c1, cat_nil, cat_int, cat_long, cat_rf, toList_s, toList_n, true_and, and_true, Option.some.injEq, exists_eq_left', exists_eq_left, reduceCtorEq, if_true, if_false, eq_self, c1, nI_1]
      simp [nI_pred])
    simp only [e63_0, e63_1, e63_4, e63_5, e63_8, e63_9, e63_10, e63_11, e63_14, e63_15, e63_18, e63_19, e63_20, e63_21, e63_24, e63_25, e63_28, e63_29, e63_30, e63_31, e63_34, e63_35, e63_38, e63_39, e63_42, e63_43, e63_44, mw0 hW, mr1 hW, mk1 hW, mn1 hW, mr2 hW, mk2 hW, mn2 hW, mr3 hW, mk3 hW, mn3 hW, mr4 hW, mk4 hW, mn4 hW, pI_ns_z, pI_ns_s, pI_ns_k, pI_ns_n, pI_fI, pI_fJ, pI_fR, pI_aI, pI_aJ, pI_aR, pJ_ns_z, pJ_ns_s, pJ_ns_k, pJ_ns_n, pJ_fI, pJ_fJ, pJ_fR, pJ_aI, pJ_aJ, pJ_aR, pR_ns_z, pR_ns_s, pR_ns_k, pR_ns_n, pR_fI, pR_fJ, pR_fR, pR_aI, pR_aJ, pR_aR, qI_ns_z, qI_ns_s, qI_ns_k, qI_ns_n, qI_fI, qI_fJ, qI_fR, qI_aI, qI_aJ, qI_aR, qJ_ns_z, qJ_ns_s, qJ_ns_k, qJ_ns_n, qJ_fI, qJ_fJ, qJ_fR, qJ_aI, qJ_aJ, qJ_aR, qR_ns_z, qR_ns_s, qR_ns_k, qR_ns_n, qR_fI, qR_fJ, qR_fR, qR_aI, qR_aJ, qR_aR, nO_ns_z, nO_ns_s, nO_ns_k, nO_ns_n, nO_fI, nO_fJ, nO_fR, nO_aI, nO_aJ, nO_aR, nA_ns_z, nA_ns_s, nA_ns_k, nA_ns_n, nA_fI, nA_fJ, nA_fR, nA_aI, nA_aJ, nA_aR, nC_ns_z, nC_ns_s, nC_ns_k, nC_ns_n, nC_fI, nC_fJ, nC_fR, nC_aI, nC_aJ, nC_aR, Nat.zero_le, Nat.reduceAdd, Nat.reduceLeDiff, reduceIte, rf_c1, int_c1, none_c1, cat_nil, cat_int, cat_long, cat_rf, toList_s, toList_n, true_and, and_true, Option.some.injEq, exists_eq_left', exists_eq_left, reduceCtorEq, if_true, if_false, eq_self, hc, hu, a3, a4, hS1]
    exact g3
  · rw [pI_aI, q4, ← hS1]
    have hf2 : ∀ g, g = 1 ∨ g = 2 ∨ g = 3 ∨ g = 4 → ¬ A f = A g := fun g hg z => by
      have := (mwi hW (show f < 20 by omega) (show g < 20 by omega)).mp z
      omega
    rw [qI_aI, if_neg (fun z => hf2 4 (by omega) z.1), qI_aI, if_neg (fun z => hf2 3 (by omega) z.1), qI_aI, if_neg (fun z => hf2 2 (by omega) z.1), qI_aI, if_neg (fun z => hf2 1 (by omega) z.1)]
  · rw [pI_fI, if_neg (by omega), q3 411 (by decide), e1]

theorem m_add2 (h : MR S m A Z) (hZ : ZI Z) (hlt : zn Z < 2000) {k l : Nat} (hk : k ≤ 8) (hl : l ≤ 500) (v : Int32) : ∃ S', Ev (63, 0, [some (va_rf (some m)), some (.int (nI k)), some (.int (nI l)), some (.int v), none], [], S) (some (.int (nI (zn Z))), S') ∧ MR S' m A (wN Z k l v (fun _ => 0) (fun _ => none)) ∧ sz0 S S' ∧ (∀ f i, f = 9 ∨ f = 17 → aI S' (A f) i = aI S (A f) i) ∧ fI S' 411 m = fI S 411 m := by
  obtain ⟨S1, g1, g2, g3⟩ := m_add h hZ hlt hk hl v
  obtain ⟨S2, p1, p2, p3⟩ := m_addf h hZ hlt hk hl v
  have e := Ev_det g1 p1
  have e : S1 = S2 := congrArg Prod.snd e
  subst e
  exact ⟨S1, g1, g2, g3, p2, p3⟩
theorem MR_17 (h : MR S m A Z) (u : Nat) (x : Int32) : MR (qI S (A 17) u x) m A Z := by
  have hW := h.1
  refine MR_same h rfl rfl rfl (fun f _ => rfl) (fun f hf => ?_) rfl
  have hf' : f = 1 ∨ f = 2 ∨ f = 3 ∨ f = 4 := by simpa using hf
  funext i
  rw [qI_aI, if_neg (fun z => absurd ((mwi hW (show f < 20 by omega) (by decide)).mp z.1) (by omega))]
theorem wN_wH (Z : Zs) (k l : Nat) (v : Int32) (f : Nat → Int64) (h : Nat → Option Nat) (i : Nat) (c : Option Nat) : wH (wN Z k l v f h) (zn Z) i c = wN Z k l v f (va_up h i c) := by
  have e : up2 (va_up (zh Z) (zn Z) h) (zn Z) i c = va_up (zh Z) (zn Z) (va_up h i c) := by
    funext a x
    rw [up2_at]
    by_cases y : a = zn Z
    · subst y
      rw [va_up_self, va_up_self]
      by_cases w : x = i
      · subst w; rw [if_pos ⟨rfl, rfl⟩, va_up_self]
      · rw [if_neg (fun z => w z.2), va_up_ne _ _ w]
    · rw [if_neg (fun z => y z.1), va_up_ne _ _ y, va_up_ne _ _ y]
  unfold wH wN
  show (zn Z + 1, va_up (zk Z) (zn Z) k, va_up (zl Z) (zn Z) l, va_up (zv Z) (zn Z) v, va_up (zm Z) (zn Z) f, up2 (va_up (zh Z) (zn Z) h) (zn Z) i c, zs Z) = _
  rw [e]
theorem wN_wM (Z : Zs) (k l : Nat) (v : Int32) (f : Nat → Int64) (h : Nat → Option Nat) (i : Nat) (c : Int64) : wM (wN Z k l v f h) (zn Z) i c = wN Z k l v (va_up f i c) h := by
  have e : up2 (va_up (zm Z) (zn Z) f) (zn Z) i c = va_up (zm Z) (zn Z) (va_up f i c) := by
    funext a x
    rw [up2_at]
    by_cases y : a = zn Z
    · subst y
      rw [va_up_self, va_up_self]
      by_cases w : x = i
      · subst w; rw [if_pos ⟨rfl, rfl⟩, va_up_self]
      · rw [if_neg (fun z => w z.2), va_up_ne _ _ w]
    · rw [if_neg (fun z => y z.1), va_up_ne _ _ y, va_up_ne _ _ y]
  unfold wM wN
  show (zn Z + 1, va_up (zk Z) (zn Z) k, va_up (zl Z) (zn Z) l, va_up (zv Z) (zn Z) v, up2 (va_up (zm Z) (zn Z) f) (zn Z) i c, va_up (zh Z) (zn Z) h, zs Z) = _
  rw [e]
theorem MR_wNc {k l : Nat} {v : Int32} {f f' : Nat → Int64} {h h' : Nat → Option Nat} (hM : MR S m A (wN Z k l v f h)) (hf : ¬ hook k → ∀ j, j < l → f j = f' j) (hh : hook k → ∀ j, j < l → h j = h' j) : MR S m A (wN Z k l v f' h') := by
  obtain ⟨hW, hc, hT, hu, hp, hs⟩ := id hM
  refine ⟨hW, hc, hT, hu, fun i j hi hj => ?_, hs⟩
  have := hp i j hi hj
  rw [show bg (zl (wN Z k l v f' h')) i = bg (zl (wN Z k l v f h)) i from rfl, this]
  show (if hook (va_up (zk Z) (zn Z) k i) then chL (va_up (zh Z) (zn Z) h i j) else va_up (zm Z) (zn Z) f i j) = if hook (va_up (zk Z) (zn Z) k i) then chL (va_up (zh Z) (zn Z) h' i j) else va_up (zm Z) (zn Z) f' i j
  have hj : j < va_up (zl Z) (zn Z) l i := hj
  by_cases e : i = zn Z
  · subst e
    rw [va_up_self] at hj
    simp only [va_up_self]
    by_cases w : hook k
    · rw [if_pos w, if_pos w, hh w j hj]
    · rw [if_neg w, if_neg w, hf w j hj]
  · simp only [va_up_ne _ _ e]
theorem m_cpin (hZ : ZI Z) (hlt : zn Z < 2000) {u : Nat} (hu : u < zn Z) : ∀ (d i : Nat) (f : Nat → Int64) (h : Nat → Option Nat) (S : ns_St), i + d = zl Z u → MR S m A (wN Z (zk Z u) (zl Z u) (zv Z u) f h) → (¬ hook (zk Z u) → ∀ j, j < i → f j = zm Z u j) → (hook (zk Z u) → ∀ j, j < i → h j = zh Z u j) → ∃ S', MR S' m A (wC Z u) ∧ sz0 S S' ∧ aI S' = aI S ∧ fI S' = fI S ∧ Ev (91, 25, [some (va_rf (some m)), some (.int (nI u)), some (.int (nI (zn Z))), some (.int (nI i))], [], S) (some (.int (nI (zn Z))), S') := by
  have hn := hZ.1
  have hl := (hZ.2.1 u hu).2.1
  have hZc := ZI_wC hZ hlt hu
  have u3 : (nI u).toNatClampNeg = u := nI_clamp (by omega)
  have u4 := in_ok (show u < 2000 by omega) (by omega)
  have n3 : (nI (zn Z)).toNatClampNeg = zn Z := nI_clamp (by omega)
  have n4 := in_ok (show zn Z < 2000 from hlt) (by omega)
  have lu : zl (wC Z u) u = zl Z u := va_up_ne _ _ (by omega)
  have ln : zl (wC Z u) (zn Z) = zl Z u := va_up_self _ _ _
  intro d
  induction d with
  | zero =>
    intro i f h S hi hM hf hh
    have e : i = zl Z u := by omega
    subst e
    have hW := hM.1
    refine ⟨S, MR_wNc hM (fun w j hj => hf w j hj) (fun w j hj => hh w j hj), ⟨rfl, rfl⟩, rfl, rfl, ?_⟩
    have v2 : aI S (A 2) u = nI (zl Z u) := by
      rw [(hM.2.2.1 u (by rw [wN_zn]; omega)).2.1]
      exact congrArg nI lu
    have z : nI (zl Z u) ≤ nI (zl Z u) := nI_le (Nat.le_refl _) (by omega)
    rw [e91_25]
    simp only [e91_26, e91_27, e91_30, e91_31, e91_32, e91_67, e91_68, mw0 hW, mr2 hW, mk2 hW, mn2 hW, Nat.zero_le, Nat.reduceAdd, Nat.reduceLeDiff, reduceIte, rf_c1, int_c1, none_c1, cat_nil, cat_int, cat_long, cat_rf, toList_s, toList_n, true_and, and_true, Option.some.injEq, exists_eq_left', exists_eq_left, reduceCtorEq, if_true, if_false, eq_self, u3, u4, v2, z]
  | succ d ih =>
    intro i f h S hi hM hf hh
    have hW := hM.1
    have hlt2 : i < zl Z u := by omega
    have v2 : aI S (A 2) u = nI (zl Z u) := by
      rw [(hM.2.2.1 u (by rw [wN_zn]; omega)).2.1]
      exact congrArg nI lu
    have v4 : aI S (A 4) u = nI (bg (zl (wC Z u)) u) := (hM.2.2.1 u (by rw [wN_zn]; omega)).2.2.2
    have v5 : aI S (A 4) (zn Z) = nI (bg (zl (wC Z u)) (zn Z)) := (hM.2.2.1 (zn Z) (by rw [wN_zn]; omega)).2.2.2
    have b1 := bg_in hZc (a := u) (j := i) (show u < zn Z + 1 by omega) (by rw [lu]; exact hlt2)
    have b2 := bg_in hZc (a := zn Z) (j := i) (show zn Z < zn Z + 1 by omega) (by rw [ln]; exact hlt2)
    have b3 : (nI (bg (zl (wC Z u)) u + i)).toNatClampNeg = bg (zl (wC Z u)) u + i := nI_clamp (by omega)
    have b4 := in_ok b1 (by omega)
    have b5 : (nI (bg (zl (wC Z u)) (zn Z) + i)).toNatClampNeg = bg (zl (wC Z u)) (zn Z) + i := nI_clamp (by omega)
    have b6 := in_ok b2 (by omega)
    have z : ¬ nI (zl Z u) ≤ nI i := nI_ge hlt2 (by omega)
    have v6 : aJ S (A 5) (bg (zl (wC Z u)) u + i) = pl Z u i := by
      have := hM.2.2.2.2.1 u i (by rw [wN_zn]; omega) (by rw [wN_zl, va_up_ne _ _ (by omega)]; exact hlt2)
      refine this.trans ?_
      show (if hook (va_up (zk Z) (zn Z) (zk Z u) u) then chL (va_up (zh Z) (zn Z) h u i) else va_up (zm Z) (zn Z) f u i) = _
      simp only [va_up_ne _ _ (show u ≠ zn Z by omega)]
      rfl
    have lz : i < zl (wN Z (zk Z u) (zl Z u) (zv Z u) f h) (zn Z) := by rw [wN_zl, va_up_self]; exact hlt2
    have kz : zk (wN Z (zk Z u) (zl Z u) (zv Z u) f h) (zn Z) = zk Z u := va_up_self _ _ _
    have one : ∃ S', MR S' m A (wC Z u) ∧ sz0 S S' ∧ aI S' = aI S ∧ fI S' = fI S ∧ Ev (91, 25, [some (va_rf (some m)), some (.int (nI u)), some (.int (nI (zn Z))), some (.int (nI (i + 1)))], [], qJ S (A 5) (bg (zl (wC Z u)) (zn Z) + i) (pl Z u i)) (some (.int (nI (zn Z))), S') := by
      by_cases w : hook (zk Z u)
      · have e1 : pl Z u i = chL (zh Z u i) := by unfold pl; rw [if_pos w]
        have h1 := MR_wH hM (j := zn Z) (x := i) (by rw [wN_zn]; omega) lz (by rw [kz]; exact w) (zh Z u i)
        rw [wN_wH, ← e1] at h1
        obtain ⟨S', g1, g2, g3, g4, g5⟩ := ih (i + 1) f (va_up h i (zh Z u i)) _ (by omega) h1 (fun q => absurd w q) (fun _ j hj => by
          by_cases y : j = i
          · subst y; exact va_up_self _ _ _
          · rw [va_up_ne _ _ y]; exact hh w j (by omega))
        exact ⟨S', g1, g2, g3, g4, g5⟩
      · have e1 : pl Z u i = zm Z u i := by unfold pl; rw [if_neg w]
        have h1 := MR_wM hM (j := zn Z) (x := i) (by rw [wN_zn]; omega) lz (by rw [kz]; exact w) (zm Z u i)
        rw [wN_wM, ← e1] at h1
        obtain ⟨S', g1, g2, g3, g4, g5⟩ := ih (i + 1) (va_up f i (pl Z u i)) h _ (by omega) h1 (fun _ j hj => by
          by_cases y : j = i
          · subst y; rw [e1]; exact va_up_self _ _ _
          · rw [va_up_ne _ _ y]; exact hf w j (by omega)) (fun q => absurd q w)
        exact ⟨S', g1, g2, g3, g4, g5⟩
    obtain ⟨S', g1, g2, g3, g4, g5⟩ := one
    refine ⟨S', g1, g2, g3, g4, ?_⟩
    rw [e91_25]
    simp only [e91_26, e91_27, e91_30, e91_31, e91_32, e91_35, e91_36, e91_39, e91_40, e91_43, e91_44, e91_45, e91_46, e91_47, e91_48, e91_51, e91_52, e91_55, e91_56, e91_57, e91_58, e91_59, e91_60, e91_61, e91_64, mw0 hW, mr2 hW, mk2 hW, mn2 hW, mr4 hW, mk4 hW, mn4 hW, mr5 hW, mk5 hW, mn5 hW, Nat.zero_le, Nat.reduceAdd, Nat.reduceLeDiff, reduceIte, rf_c1, int_c1, none_c1, cat_nil, cat_int, cat_long, cat_rf, toList_s, toList_n, true_and, and_true, Option.some.injEq, exists_eq_left', exists_eq_left, reduceCtorEq, if_true, if_false, eq_self, u3, u4, n3, n4, v2, v4, v5, v6, nI_add, b3, b4, b5, b6, z, nI_1]
    exact g5
theorem m_cpone (h : MR S m A Z) (hZ : ZI Z) (hlt : zn Z < 2000) {u : Nat} (hu : u < zn Z) : ∃ S', Ev (91, 0, [some (va_rf (some m)), some (.int (nI u)), none, none], [], S) (some (.int (nI (zn Z))), S') ∧ MR S' m A (wC Z u) ∧ sz0 S S' ∧ (∀ f i, f = 9 ∨ f = 17 → aI S' (A f) i = aI S (A f) i) := by
  obtain ⟨k1, k2, k3, k4⟩ := hZ.2.1 u hu
  have hn := hZ.1
  have hW := h.1
  obtain ⟨S1, g1, g2, g3, g4, g5⟩ := m_add2 h hZ hlt (k := zk Z u) (l := zl Z u) k1 k2 (zv Z u)
  obtain ⟨S', p1, p2, p3, p4, p5⟩ := m_cpin hZ hlt hu (zl Z u) 0 _ _ S1 (by omega) g2 (fun _ j hj => absurd hj (Nat.not_lt_zero j)) (fun _ j hj => absurd hj (Nat.not_lt_zero j))
  refine ⟨S', ?_, p1, ⟨p2.1.trans g3.1, p2.2.trans g3.2⟩, fun f i hf => by rw [p3]; exact g4 f i hf⟩
  have u3 : (nI u).toNatClampNeg = u := nI_clamp (by omega)
  have u4 := in_ok (show u < 2000 by omega) (by omega)
  obtain ⟨v1, v2, v3, v4⟩ := h.2.2.1 u hu
  have p5 : Ev (91, 25, [some (va_rf (some m)), some (.int (nI u)), some (.int (nI (zn Z))), some (.int 0)], [], S1) (some (.int (nI (zn Z))), S') := p5
  simp only [e91_0, e91_1, e91_2, e91_5, e91_6, e91_7, e91_8, e91_11, e91_12, e91_13, e91_14, e91_17, e91_18, e91_19, e91_22, e91_23, e91_24, Ev_is g1, mw0 hW, mr1 hW, mk1 hW, mn1 hW, mr2 hW, mk2 hW, mn2 hW, mr3 hW, mk3 hW, mn3 hW, Nat.zero_le, Nat.reduceAdd, Nat.reduceLeDiff, reduceIte, rf_c1, int_c1, none_c1, cat_nil, cat_int, cat_long, cat_rf, toList_s, toList_n, true_and, and_true, Option.some.injEq, exists_eq_left', exists_eq_left, reduceCtorEq, if_true, if_false, eq_self, u3, u4, v1, v2, v3]
  exact p5
/-- first all are copied -/
theorem m_cp1 (hZ : ZI Z) {pre : List Nat} (hnd : pre.Nodup) (hlt : ∀ u, u ∈ pre → u < zn Z) (hlen : zn Z + pre.length ≤ 2000) (s : Nat) (dd : Int32) : ∀ (d : Nat) (a b : List Nat) (S : ns_St) (l6 : Option Value), b.length = d → pre = a ++ b → MR S m A (cpL Z a) → LA (aI S (A 9)) pre → (∀ k u, a[k]? = some u → aI S (A 17) u = nI (zn Z + k)) → ∃ S' l6', MR S' m A (cpL Z pre) ∧ sz0 S S' ∧ (∀ k u, pre[k]? = some u → aI S' (A 17) u = nI (zn Z + k)) ∧ ∀ r, Ev (92, 134, [some (va_rf (some m)), some (.int (nI s)), some (.int dd), some (.int (nI pre.length)), some (.int (nI (zn Z))), some (.int (nI pre.length)), l6', none], [], S') r → Ev (92, 95, [some (va_rf (some m)), some (.int (nI s)), some (.int dd), some (.int (nI pre.length)), some (.int (nI (zn Z))), some (.int (nI a.length)), l6, none], [], S) r := by
  have hn := hZ.1
  intro d
  induction d with
  | zero =>
    intro a b S l6 hb hab h h9 h17
    have e : b = [] := List.length_eq_zero_iff.mp hb
    subst e
    rw [List.append_nil] at hab
    subst hab
    refine ⟨S, l6, h, ⟨rfl, rfl⟩, h17, fun r hr => ?_⟩
    have z : nI pre.length ≤ nI pre.length := nI_le (Nat.le_refl _) (by omega)
    rw [e92_95]
    simp only [e92_97, e92_98, Nat.zero_le, Nat.reduceAdd, Nat.reduceLeDiff, reduceIte, rf_c1, int_c1, none_c1, cat_nil, cat_int, cat_long, cat_rf, toList_s, toList_n, true_and, and_true, Option.some.injEq, exists_eq_left', exists_eq_left, reduceCtorEq, if_true, if_false, eq_self, z]
    exact hr
  | succ d ih =>
    intro a b S l6 hb hab h h9 h17
    match b, hb, hab with
    | u :: b, hb, hab =>
      have hup : u ∈ pre := by rw [hab]; simp
      have hun := hlt u hup
      have hal : a.length < pre.length := by rw [hab]; simp
      have hua : u ∉ a := by
        rw [hab, List.nodup_append] at hnd
        exact fun z => hnd.2.2 u z u (by simp) rfl
      obtain ⟨hCp, hZa⟩ := cpL_ok hZ _ a rfl (fun v hv => hlt v (by rw [hab]; simp [hv])) (by omega)
      have hza : zn (cpL Z a) = zn Z + a.length := hCp.1
      obtain ⟨S1, g1, g2, g3, g4⟩ := m_cpone h hZa (by omega) (u := u) (by omega)
      have hM : MR (qI S1 (A 17) u (nI (zn Z + a.length))) m A (cpL Z (a ++ [u])) := by rw [cpL_snoc]; exact MR_17 g2 _ _
      have hW1 := g2.1
      have hW := h.1
      have r9 : ∀ i, aI (qI S1 (A 17) u (nI (zn Z + a.length))) (A 9) i = aI S (A 9) i := fun i => by
        rw [qI_aI, if_neg (fun z => absurd ((mwi hW1 (show 9 < 20 by decide) (show 17 < 20 by decide)).mp z.1) (by decide)), g4 9 i (Or.inl rfl)]
      obtain ⟨S', l6', p1, p2, p3, p4⟩ := ih (a ++ [u]) b _ (some (.int (nI (zn Z + a.length)))) (by simpa using hb) (by rw [hab]; simp) hM (fun i hi => by rw [r9]; exact h9 i hi) (fun k v hk => by
        rw [qI_aI]
        by_cases w : k < a.length
        · rw [List.getElem?_append_left w] at hk
          have hva : v ∈ a := List.mem_of_getElem? hk
          rw [if_neg (fun z : A 17 = A 17 ∧ v = u => hua (z.2 ▸ hva)), g4 17 v (Or.inr rfl)]
          exact h17 k v hk
        · have hl2 : k < (a ++ [u]).length := (List.getElem?_eq_some_iff.mp hk).1
          have e : k = a.length := by simp at hl2; omega
          subst e
          rw [List.getElem?_append_right (Nat.le_refl _), Nat.sub_self] at hk
          have : u = v := by simpa using hk
          subst this
          rw [if_pos ⟨rfl, rfl⟩])
      refine ⟨S', l6', p1, ⟨p2.1.trans g3.1, p2.2.trans g3.2⟩, p3, fun r hr => ?_⟩
      have p5 := p4 r hr
      rw [List.length_append] at p5
      simp only [List.length_cons, List.length_nil] at p5
      have z : ¬ nI pre.length ≤ nI a.length := nI_ge hal (by omega)
      have a3 : (nI a.length).toNatClampNeg = a.length := nI_clamp (by omega)
      have a4 := in_ok (show a.length < 2000 by omega) (by omega)
      have u3 : (nI u).toNatClampNeg = u := nI_clamp (by omega)
      have u4 := in_ok (show u < 2000 by omega) (by omega)
      have e9 : aI S (A 9) a.length = nI u := by
        rw [h9 a.length hal, hab]
        simp [List.getD_eq_getElem?_getD]
      have e9' : aI S1 (A 9) a.length = nI u := by rw [g4 9 _ (Or.inl rfl)]; exact e9
      rw [hza] at g1
      rw [e92_95]
      simp only [e92_97, e92_98, e92_101, e92_102, e92_103, e92_106, e92_108, e92_109, e92_112, e92_114, e92_115, e92_118, e92_119, e92_122, e92_124, e92_125, e92_127, e92_128, e92_131, Ev_is g1, mw0 hW, mr9 hW, mk9 hW, mn9 hW, mr17 hW, mk17 hW, mn17 hW, mw0 hW1, mr9 hW1, mk9 hW1, mn9 hW1, mr17 hW1, mk17 hW1, mn17 hW1, Nat.zero_le, Nat.reduceAdd, Nat.reduceLeDiff, reduceIte, rf_c1, int_c1, none_c1, cat_nil, cat_int, cat_long, cat_rf, toList_s, toList_n, true_and, and_true, Option.some.injEq, exists_eq_left', exists_eq_left, reduceCtorEq, if_true, if_false, eq_self, z, a3, a4, u3, u4, e9, e9', nI_1]
      exact p5
theorem m_cp2in {tw : Nat → Nat} {Y : Zs} (hY : ZI Y) {c : Nat} (hc : c < zn Y) {l1 l2 l3 l4 : Option Value} (htl : ∀ x j, j < chl Y c → zh Y c j = some x → tw x < zn Y) : ∀ (d i : Nat) (S : ns_St) (l7 : Option Value), i + d = chl Y c → MR S m A (wF Y c (rhf tw Y c i)) → (∀ x j, j < chl Y c → zh Y c j = some x → aI S (A 17) x = nI (tw x)) → ∃ S' l7', MR S' m A (rhg tw Y c) ∧ aI S' = aI S ∧ sz0 S S' ∧ ∀ r, Ev (92, 212, [some (va_rf (some m)), l1, l2, l3, l4, some (.int (nI c)), some (.int (nI (chl Y c))), l7'], [], S') r → Ev (92, 150, [some (va_rf (some m)), l1, l2, l3, l4, some (.int (nI c)), some (.int (nI i)), l7], [], S) r := by
  have hn := hY.1
  have hl := (hY.2.1 c hc).2.1
  have hcl : chl Y c ≤ 500 := by
    unfold chl
    split <;> omega
  have hclz : chl Y c ≤ zl Y c := by
    unfold chl
    split <;> omega
  have hzi : ∀ i, i ≤ chl Y c → ZI (wF Y c (rhf tw Y c i)) := fun i hi => ZI_wF hY (fun j x hj hx => by
    unfold rhf at hx
    split at hx
    · rename_i hji
      cases hz : zh Y c j with
      | none => rw [hz] at hx; cases hx
      | some y =>
        rw [hz] at hx
        have hx : some (tw y) = some x := hx
        cases hx
        exact htl y j (by omega) hz
    · exact hY.2.2 c j x hc hj hx)
  have c3 : (nI c).toNatClampNeg = c := nI_clamp (by omega)
  have c4 := in_ok (show c < 2000 by omega) (by omega)
  intro d
  induction d with
  | zero =>
    intro i S l7 hi h h17
    have e : i = chl Y c := by omega
    subst e
    have hW := h.1
    have t62 : ∀ r, Ev (62, 0, [some (va_rf (some m)), some (.int (nI c))], [], S) r ↔ r = (some (.int (nI (chl Y c))), S) := fun r => t62z h (hzi _ (Nat.le_refl _)) hc
    refine ⟨S, l7, h, rfl, ⟨rfl, rfl⟩, fun r hr => ?_⟩
    have z : nI (chl Y c) ≤ nI (chl Y c) := nI_le (Nat.le_refl _) (by omega)
    rw [e92_150]
    simp only [e92_152, e92_153, e92_155, e92_158, t62, mw0 hW, mr17 hW, mk17 hW, mn17 hW, Nat.zero_le, Nat.reduceAdd, Nat.reduceLeDiff, reduceIte, rf_c1, int_c1, none_c1, cat_nil, cat_int, cat_long, cat_rf, toList_s, toList_n, true_and, and_true, Option.some.injEq, exists_eq_left', exists_eq_left, reduceCtorEq, if_true, if_false, eq_self, z]
    exact hr
  | succ d ih =>
    intro i S l7 hi h h17
    have hlt : i < chl Y c := by omega
    have hW := h.1
    obtain ⟨hk, hlz⟩ := chl_lt hlt
    have t62 : ∀ r, Ev (62, 0, [some (va_rf (some m)), some (.int (nI c))], [], S) r ↔ r = (some (.int (nI (chl Y c))), S) := fun r => t62z h (hzi i (by omega)) hc
    have q6 : rhf tw Y c i i = zh Y c i := by unfold rhf; rw [if_neg (Nat.lt_irrefl _)]
    have t61 : ∀ r, Ev (61, 0, [some (va_rf (some m)), some (.int (nI c)), some (.int (nI i))], [], S) r ↔ r = (some (.int (chI (zh Y c i))), S) := fun r => by
      have := t61z (r := r) h (hzi i (by omega)) (u := c) (p := i) hc hlt
      rw [wF_zh, q6] at this
      exact this
    have v4 : aI S (A 4) c = nI (bg (zl Y) c) := (h.2.2.1 c hc).2.2.2
    have b1 := bg_in hY hc hlz
    have b3 : (nI (bg (zl Y) c + i)).toNatClampNeg = bg (zl Y) c + i := nI_clamp (by omega)
    have b4 := in_ok b1 (by omega)
    have z : ¬ nI (chl Y c) ≤ nI i := nI_ge hlt (by omega)
    have h1 : MR (qJ S (A 5) (bg (zl Y) c + i) (chL ((zh Y c i).map tw))) m A (wF Y c (rhf tw Y c (i + 1))) := by
      have := MR_wH h (j := c) (x := i) hc hlz hk ((zh Y c i).map tw)
      rw [wF_wH, rhf_s] at this
      exact this
    cases hz : zh Y c i with
    | none =>
      rw [hz] at h1
      obtain ⟨S', l7', g1, g2, g3, g4⟩ := ih (i + 1) _ (some (.int (-1))) (by omega) h1 h17
      refine ⟨S', l7', g1, g2, g3, fun r hr => ?_⟩
      have g5 := g4 r hr
      have k1 : chI none = -1 := rfl
      rw [e92_150]
      simp only [e92_152, e92_153, e92_155, e92_158, e92_161, e92_162, e92_164, e92_166, e92_169, e92_171, e92_172, e92_175, e92_176, e92_179, e92_181, e92_182, e92_184, e92_185, e92_187, e92_188, e92_191, e92_194, e92_197, e92_198, e92_201, e92_203, e92_204, e92_205, e92_206, e92_209, t62, t61, hz, k1, mw0 hW, mr4 hW, mk4 hW, mn4 hW, mr5 hW, mk5 hW, mn5 hW, mr17 hW, mk17 hW, mn17 hW, Nat.zero_le, Nat.reduceAdd, Nat.reduceLeDiff, reduceIte, rf_c1, int_c1, none_c1, cat_nil, cat_int, cat_long, cat_rf, toList_s, toList_n, true_and, and_true, Option.some.injEq, exists_eq_left', exists_eq_left, reduceCtorEq, if_true, if_false, eq_self, z, c3, c4, v4, nI_add, b3, b4, nI_1]
      exact g5
    | some x =>
      rw [hz] at h1
      have hxn := hY.2.2 c i x hc hlz hz
      have x3 : (nI x).toNatClampNeg = x := nI_clamp (by omega)
      have x4 := in_ok (show x < 2000 by omega) (by omega)
      have htx := htl x i hlt hz
      have e17 := h17 x i hlt hz
      obtain ⟨S', l7', g1, g2, g3, g4⟩ := ih (i + 1) _ (some (.int (nI x))) (by omega) h1 h17
      refine ⟨S', l7', g1, g2, g3, fun r hr => ?_⟩
      have g5 := g4 r hr
      have k1 : chI (some x) = nI x := rfl
      have k2 : ¬ nI x = -1 := fun z => (nI_pos (n := x) (by omega)) (by rw [z]; decide)
      have cl : (nI (tw x)).toInt64 = chL (some (tw x)) := chI_l (o := some (tw x)) (fun y hy => by cases hy; omega)
      rw [e92_150]
      simp only [e92_152, e92_153, e92_155, e92_158, e92_161, e92_162, e92_164, e92_166, e92_169, e92_171, e92_172, e92_175, e92_176, e92_179, e92_181, e92_182, e92_184, e92_185, e92_187, e92_188, e92_191, e92_194, e92_197, e92_198, e92_201, e92_203, e92_204, e92_205, e92_206, e92_209, t62, t61, hz, k1, k2, mw0 hW, mr4 hW, mk4 hW, mn4 hW, mr5 hW, mk5 hW, mn5 hW, mr17 hW, mk17 hW, mn17 hW, Nat.zero_le, Nat.reduceAdd, Nat.reduceLeDiff, reduceIte, rf_c1, int_c1, none_c1, cat_nil, cat_int, cat_long, cat_rf, toList_s, toList_n, true_and, and_true, Option.some.injEq, exists_eq_left', exists_eq_left, reduceCtorEq, if_true, if_false, eq_self, z, c3, c4, v4, nI_add, b3, b4, x3, x4, e17, cl, nI_1]
      exact g5
theorem m_cp2 (hZ : ZI Z) {pre : List Nat} (hnd : pre.Nodup) (hlt : ∀ u, u ∈ pre → u < zn Z) (hcl : ∀ u p c, u ∈ pre → p < chl Z u → zh Z u p = some c → c ∈ pre) (hlen : zn Z + pre.length ≤ 2000) (s : Nat) (dd : Int32) {tw : Nat → Nat} (htw : ∀ u, tw u = zn Z + pre.idxOf u) : ∀ (d k : Nat) (S : ns_St) (l6 l7 : Option Value), k + d = pre.length → MR S m A (rhK tw (cpL Z pre) (zn Z) k) → (∀ k u, pre[k]? = some u → aI S (A 17) u = nI (zn Z + k)) → ∃ S', MR S' m A (rhK tw (cpL Z pre) (zn Z) pre.length) ∧ sz0 S S' ∧ Ev (92, 138, [some (va_rf (some m)), some (.int (nI s)), some (.int dd), some (.int (nI pre.length)), some (.int (nI (zn Z))), some (.int (nI (zn Z + k))), l6, l7], [], S) (some (.int (nI (zn Z))), S') := by
  have hn := hZ.1
  obtain ⟨hCp, hZp⟩ := cpL_ok hZ _ pre rfl hlt hlen
  have row : ∀ k v, pre[k]? = some v → chl (cpL Z pre) (zn Z + k) = chl Z v ∧ zh (cpL Z pre) (zn Z + k) = zh Z v := fun k v hk => by
    obtain ⟨q1, q2, q3, q4, q5⟩ := hCp.2.2.2 k v hk
    exact ⟨by unfold chl; rw [q1, q2], q5⟩
  have twl : ∀ k v j x, pre[k]? = some v → j < chl Z v → zh Z v j = some x → tw x < zn (cpL Z pre) := fun k v j x hv hj hx => by
    have := List.idxOf_lt_length_of_mem (hcl v j x (List.mem_of_getElem? hv) hj hx)
    rw [htw, hCp.1]
    omega
  intro d
  induction d with
  | zero =>
    intro k S l6 l7 hk h h17
    have e : k = pre.length := by omega
    subst e
    have hW := h.1
    refine ⟨S, h, ⟨rfl, rfl⟩, ?_⟩
    have e400 : fI S 400 m = nI (zn Z + pre.length) := by rw [h.2.1, (rhK_ok ..).1, hCp.1]
    have z : nI (zn Z + pre.length) ≤ nI (zn Z + pre.length) := nI_le (Nat.le_refl _) (by omega)
    rw [e92_138]
    simp only [e92_140, e92_141, e92_144, e92_218, e92_220, mw0 hW, mr17 hW, mk17 hW, mn17 hW, Nat.zero_le, Nat.reduceAdd, Nat.reduceLeDiff, reduceIte, rf_c1, int_c1, none_c1, cat_nil, cat_int, cat_long, cat_rf, toList_s, toList_n, true_and, and_true, Option.some.injEq, exists_eq_left', exists_eq_left, reduceCtorEq, if_true, if_false, eq_self, e400, z]
  | succ d ih =>
    intro k S l6 l7 hk h h17
    have hW := h.1
    have hkl : k < pre.length := by omega
    obtain ⟨u, hu⟩ : ∃ u, pre[k]? = some u := ⟨_, List.getElem?_eq_getElem hkl⟩
    obtain ⟨r1, r2, r3, r4, r5, r6, r7⟩ := rhK_ok tw (cpL Z pre) (zn Z) k
    obtain ⟨w1, w2⟩ := row k u hu
    have hYI : ZI (rhK tw (cpL Z pre) (zn Z) k) := ZI_rhK hZp k (by rw [hCp.1]; omega) (fun c j x h1 h2 hj hx => by
      obtain ⟨k', rfl⟩ : ∃ k', c = zn Z + k' := ⟨c - zn Z, by omega⟩
      obtain ⟨v, hv⟩ : ∃ v, pre[k']? = some v := ⟨_, List.getElem?_eq_getElem (show k' < pre.length by omega)⟩
      obtain ⟨q1, q2⟩ := row k' v hv
      rw [q1] at hj
      rw [q2] at hx
      exact twl k' v j x hv hj hx)
    have hcY : zn Z + k < zn (rhK tw (cpL Z pre) (zn Z) k) := by rw [r1, hCp.1]; omega
    have e1 : chl (rhK tw (cpL Z pre) (zn Z) k) (zn Z + k) = chl Z u := by
      rw [← w1]
      unfold chl
      rw [r2, r3]
    have e2 : zh (rhK tw (cpL Z pre) (zn Z) k) (zn Z + k) = zh Z u := by rw [r7 _ (by omega), w2]
    obtain ⟨S1, l7', p1, p2, p3, p4⟩ := m_cp2in (tw := tw) hYI hcY (l1 := some (.int (nI s))) (l2 := some (.int dd)) (l3 := some (.int (nI pre.length))) (l4 := some (.int (nI (zn Z)))) (fun x j hj hx => by
      rw [e1] at hj
      rw [e2] at hx
      rw [r1]
      exact twl k u j x hu hj hx) (chl Z u) 0 S l7 (by rw [e1]; omega) (by rw [rhf_0]; exact h) (fun x j hj hx => by
      rw [e1] at hj
      rw [e2] at hx
      have hxp := hcl u j x (List.mem_of_getElem? hu) hj hx
      have hi := List.idxOf_lt_length_of_mem hxp
      have hg : pre[pre.idxOf x]? = some x := by rw [List.getElem?_eq_getElem hi, List.getElem_idxOf hi]
      rw [h17 _ x hg, htw])
    obtain ⟨S', g1, g2, g3⟩ := ih (k + 1) S1 (some (.int (nI (chl Z u)))) l7' (by omega) p1 (fun k' v hv => by rw [p2]; exact h17 k' v hv)
    refine ⟨S', g1, ⟨g2.1.trans p3.1, g2.2.trans p3.2⟩, ?_⟩
    have e400 : fI S 400 m = nI (zn Z + pre.length) := by rw [h.2.1, r1, hCp.1]
    have z : ¬ nI (zn Z + pre.length) ≤ nI (zn Z + k) := nI_ge (by omega) (by omega)
    rw [e1] at p4
    have p5 := p4 (some (.int (nI (zn Z))), S') (by
      simp only [e92_212, e92_215, Nat.zero_le, Nat.reduceAdd, Nat.reduceLeDiff, reduceIte, rf_c1, int_c1, none_c1, cat_nil, cat_int, cat_long, cat_rf, toList_s, toList_n, true_and, and_true, Option.some.injEq, exists_eq_left', exists_eq_left, reduceCtorEq, if_true, if_false, eq_self, nI_1]
      exact g3)
    have p5 : Ev (92, 150, [some (va_rf (some m)), some (.int (nI s)), some (.int dd), some (.int (nI pre.length)), some (.int (nI (zn Z))), some (.int (nI (zn Z + k))), some (.int 0), l7], [], S) (some (.int (nI (zn Z))), S') := p5
    rw [e92_138]
    simp only [e92_140, e92_141, e92_144, e92_147, e92_148, mw0 hW, mr17 hW, mk17 hW, mn17 hW, Nat.zero_le, Nat.reduceAdd, Nat.reduceLeDiff, reduceIte, rf_c1, int_c1, none_c1, cat_nil, cat_int, cat_long, cat_rf, toList_s, toList_n, true_and, and_true, Option.some.injEq, exists_eq_left', exists_eq_left, reduceCtorEq, if_true, if_false, eq_self, e400, z]
    exact p5
theorem m_copy (h : MR S m A Z) (hZ : ZI Z) (t d : Int32) : ∃ S', Ev (92, 0, [some (va_rf (some m)), some (.int t), some (.int d), none, none, none, none, none], [], S) (some (.int (o_copy Z t d).1), S') ∧ MR S' m A (o_copy Z t d).2 ∧ sz0 S S' := by
  have hn := hZ.1
  have hW := h.1
  have h400 := h.2.1
  have r400 : ∀ x, fI (pI S 407 m x) 400 m = nI (zn Z) := fun x => by rw [pI_fI, if_neg (by omega)]; exact h400
  have r407 : ∀ x, fI (pI S 407 m x) 407 m = x := fun x => by rw [pI_fI, if_pos ⟨rfl, rfl⟩]
  have r411 : ∀ x, fI (pI S 407 m x) 411 m = fI S 411 m := fun x => by rw [pI_fI, if_neg (by omega)]
  have rk : ∀ x, ns_k (pI S 407 m x) m = 5 := fun x => by rw [pI_ns_k]; exact mw0 hW
  have rk2 : ∀ x y, ns_k (pI (pI S 407 m x) 407 m y) m = 5 := fun x y => by rw [pI_ns_k, pI_ns_k]; exact mw0 hW
  have r4072 : ∀ x y, fI (pI (pI S 407 m x) 407 m y) 407 m = y := fun x y => by rw [pI_fI, if_pos ⟨rfl, rfl⟩]
  by_cases hd : d = 0
  · subst hd
    rcases zt_cases (n := zn Z) (by omega) t with ⟨e, g⟩ | ⟨s, hs, rfl, e⟩
    · have e2 : o_copy Z t 0 = (-1, wS Z 1) := by unfold o_copy; rw [e]
      rw [e2]
      refine ⟨pI S 407 m 1, ?_, MR_wS h 1, ⟨rfl, rfl⟩⟩
      rcases g with g | ⟨g, g'⟩
      · simp only [e92_0, e92_1, e92_2, e92_5, e92_6, e92_7, e92_10, e92_13, e92_14, e92_17, e92_18, e92_21, e92_22, e92_23, e92_26, e92_29, e92_30, e92_33, e92_34, e92_37, e92_38, e92_41, e92_42, e92_43, e92_46, e92_49, e92_50, e92_53, e92_54, e92_55, e92_58, e92_61, e92_62, e92_64, e92_67, e92_68, e92_71, e92_74, e92_75, e92_76, e92_77, e92_80, e92_82, e92_83, e92_86, e92_87, e92_88, e92_91, t58 hW, mw0 hW, mr17 hW, mk17 hW, mn17 hW, r400, r407, r411, rk, rk2, r4072, Nat.zero_le, Nat.reduceAdd, Nat.reduceLeDiff, reduceIte, rf_c1, int_c1, none_c1, cat_nil, cat_int, cat_long, cat_rf, toList_s, toList_n, true_and, and_true, Option.some.injEq, exists_eq_left', exists_eq_left, reduceCtorEq, if_true, if_false, eq_self, g]
        all_goals simp
      · simp only [e92_0, e92_1, e92_2, e92_5, e92_6, e92_7, e92_10, e92_13, e92_14, e92_17, e92_18, e92_21, e92_22, e92_23, e92_26, e92_29, e92_30, e92_33, e92_34, e92_37, e92_38, e92_41, e92_42, e92_43, e92_46, e92_49, e92_50, e92_53, e92_54, e92_55, e92_58, e92_61, e92_62, e92_64, e92_67, e92_68, e92_71, e92_74, e92_75, e92_76, e92_77, e92_80, e92_82, e92_83, e92_86, e92_87, e92_88, e92_91, t58 hW, mw0 hW, mr17 hW, mk17 hW, mn17 hW, r400, r407, r411, rk, rk2, r4072, Nat.zero_le, Nat.reduceAdd, Nat.reduceLeDiff, reduceIte, rf_c1, int_c1, none_c1, cat_nil, cat_int, cat_long, cat_rf, toList_s, toList_n, true_and, and_true, Option.some.injEq, exists_eq_left', exists_eq_left, reduceCtorEq, if_true, if_false, eq_self, g, g', h400]
        all_goals simp
    · have e2 : o_copy Z (nI s) 0 = (if zn Z + 1 ≤ 2000 then (nI (zn Z), wC (wS Z 0) s) else (-1, wS Z 7)) := by unfold o_copy; rw [e]; exact if_pos rfl
      rw [e2]
      obtain ⟨a1, a2, a3⟩ := there_ok hs (by omega)
      have q : (nI (zn Z) + 1 ≤ (2000 : Int32)) ↔ zn Z + 1 ≤ 2000 := by rw [nI_1]; exact nI_leI (b := 2000) (by omega) (by omega)
      by_cases y : zn Z + 1 ≤ 2000
      · rw [if_pos y]
        have hM := MR_wS h 0
        obtain ⟨S', g1, g2, g3, g4⟩ := m_cpone (Z := wS Z 0) hM hZ y (u := s) hs
        have g1 : Ev (91, 0, [some (va_rf (some m)), some (.int (nI s)), none, none], [], pI S 407 m 0) (some (.int (nI (zn Z))), S') := g1
        refine ⟨S', ?_, g2, g3⟩
        have q2 := q.mpr y
        simp only [e92_0, e92_1, e92_2, e92_5, e92_6, e92_7, e92_10, e92_13, e92_14, e92_17, e92_18, e92_21, e92_22, e92_23, e92_26, e92_29, e92_30, e92_33, e92_34, e92_37, e92_38, e92_41, e92_42, e92_43, e92_46, e92_49, e92_50, e92_53, e92_54, e92_55, e92_58, e92_61, e92_62, e92_64, e92_67, e92_68, e92_71, e92_74, e92_75, e92_76, e92_77, e92_80, e92_82, e92_83, e92_86, e92_87, e92_88, e92_91, t58 hW, Ev_is g1, mw0 hW, mr17 hW, mk17 hW, mn17 hW, r400, r407, r411, rk, rk2, r4072, Nat.zero_le, Nat.reduceAdd, Nat.reduceLeDiff, reduceIte, rf_c1, int_c1, none_c1, cat_nil, cat_int, cat_long, cat_rf, toList_s, toList_n, true_and, and_true, Option.some.injEq, exists_eq_left', exists_eq_left, reduceCtorEq, if_true, if_false, eq_self, h400, a1, a2, q2]
        all_goals simp
      · rw [if_neg y]
        refine ⟨pI (pI S 407 m 0) 407 m 7, ?_, ?_, ⟨rfl, rfl⟩⟩
        · have q2 : ¬ nI (zn Z) + 1 ≤ (2000 : Int32) := fun w => y (q.mp w)
          simp only [e92_0, e92_1, e92_2, e92_5, e92_6, e92_7, e92_10, e92_13, e92_14, e92_17, e92_18, e92_21, e92_22, e92_23, e92_26, e92_29, e92_30, e92_33, e92_34, e92_37, e92_38, e92_41, e92_42, e92_43, e92_46, e92_49, e92_50, e92_53, e92_54, e92_55, e92_58, e92_61, e92_62, e92_64, e92_67, e92_68, e92_71, e92_74, e92_75, e92_76, e92_77, e92_80, e92_82, e92_83, e92_86, e92_87, e92_88, e92_91, t58 hW, mw0 hW, mr17 hW, mk17 hW, mn17 hW, r400, r407, r411, rk, rk2, r4072, Nat.zero_le, Nat.reduceAdd, Nat.reduceLeDiff, reduceIte, rf_c1, int_c1, none_c1, cat_nil, cat_int, cat_long, cat_rf, toList_s, toList_n, true_and, and_true, Option.some.injEq, exists_eq_left', exists_eq_left, reduceCtorEq, if_true, if_false, eq_self, h400, a1, a2, q2]
          all_goals simp
        · rw [pI_pI]
          exact MR_wS h 7
  · obtain ⟨S1, g1, g2, g3, g4⟩ := m_go h hZ t
    have hW1 := g2.1
    have h400' := g2.2.1
    have r400 : ∀ x, fI (pI S1 407 m x) 400 m = nI (zn Z) := fun x => by rw [pI_fI, if_neg (by omega)]; exact h400'
    have r407 : ∀ x, fI (pI S1 407 m x) 407 m = x := fun x => by rw [pI_fI, if_pos ⟨rfl, rfl⟩]
    have r411 : ∀ x, fI (pI S1 407 m x) 411 m = fI S1 411 m := fun x => by rw [pI_fI, if_neg (by omega)]
    have rk : ∀ x, ns_k (pI S1 407 m x) m = 5 := fun x => by rw [pI_ns_k]; exact mw0 hW1
    have rk2 : ∀ x y, ns_k (pI (pI S1 407 m x) 407 m y) m = 5 := fun x y => by rw [pI_ns_k, pI_ns_k]; exact mw0 hW1
    have r4072 : ∀ x y, fI (pI (pI S1 407 m x) 407 m y) 407 m = y := fun x y => by rw [pI_fI, if_pos ⟨rfl, rfl⟩]
    rcases zt_cases (n := zn Z) (by omega) t with ⟨e, g⟩ | ⟨s, hs, rfl, e⟩
    · have e2 : o_copy Z t d = (-1, wS Z 1) := by unfold o_copy; rw [e]
      have r1 : rf Z t = 1 := by unfold rf; rw [e]
      rw [e2]
      rw [r1] at g1
      refine ⟨pI S1 407 m 1, ?_, MR_wS g2 1, g3⟩
      simp only [e92_0, e92_1, e92_2, e92_5, e92_6, e92_7, e92_10, e92_13, e92_14, e92_17, e92_18, e92_21, e92_22, e92_23, e92_26, e92_29, e92_30, e92_33, e92_34, e92_37, e92_38, e92_41, e92_42, e92_43, e92_46, e92_49, e92_50, e92_53, e92_54, e92_55, e92_58, e92_61, e92_62, e92_64, e92_67, e92_68, e92_71, e92_74, e92_75, e92_76, e92_77, e92_80, e92_82, e92_83, e92_86, e92_87, e92_88, e92_91, Ev_is g1, mw0 hW, mr17 hW, mk17 hW, mn17 hW, mw0 hW1, mr17 hW1, mk17 hW1, mn17 hW1, r400, r407, r411, rk, rk2, r4072, Nat.zero_le, Nat.reduceAdd, Nat.reduceLeDiff, reduceIte, rf_c1, int_c1, none_c1, cat_nil, cat_int, cat_long, cat_rf, toList_s, toList_n, true_and, and_true, Option.some.injEq, exists_eq_left', exists_eq_left, reduceCtorEq, if_true, if_false, eq_self, hd]
      all_goals simp
    · have e2 : o_copy Z (nI s) d = if rf Z (nI s) = 0 then (if zn Z + (prZ Z s).length ≤ 2000 then (nI (zn Z), cpD Z s) else (-1, wS Z 7)) else (-1, wS Z (rf Z (nI s))) := by unfold o_copy; rw [e]; exact if_neg hd
      rw [e2]
      by_cases y : rf Z (nI s) = 0
      · rw [if_pos y]
        have hr : (wkE Z s).2.2.2.2.1 = false := by
          cases hh : (wkE Z s).2.2.2.2.1 with
          | true =>
            unfold rf at y
            rw [e] at y
            simp only [hh, if_true] at y
            exact absurd y (by decide)
          | false => rfl
        obtain ⟨q1, q2⟩ := g4 s e hr
        obtain ⟨p1, p2, p3, p4, p5⟩ := prZ_ok hZ hs
        have e411 : fI S1 411 m = nI (prZ Z s).length := q1.2.2.1.1
        rw [y] at g1
        have q : (nI (zn Z + (prZ Z s).length) ≤ (2000 : Int32)) ↔ zn Z + (prZ Z s).length ≤ 2000 := nI_leI (b := 2000) (by omega) (by omega)
        by_cases w : zn Z + (prZ Z s).length ≤ 2000
        · rw [if_pos w]
          have hM := MR_wS g2 0
          obtain ⟨S2, l6', j1, j2, j3, j4⟩ := m_cp1 (Z := wS Z 0) hZ p1 p2 w s d (prZ Z s).length [] (prZ Z s) (pI S1 407 m 0) none rfl rfl hM q1.2.2.1.2 (fun k u hk => by simp at hk)
          obtain ⟨S', k1, k2, k3⟩ := m_cp2 (Z := wS Z 0) hZ p1 p2 p3 w s d (tw := twZ Z s) (fun _ => rfl) (prZ Z s).length 0 S2 l6' none (by omega) j1 j3
          refine ⟨S', ?_, k1, ⟨k2.1.trans (j2.1.trans g3.1), k2.2.trans (j2.2.trans g3.2)⟩⟩
          have j5 := j4 (some (.int (nI (zn Z))), S') (by
            simp only [e92_134, e92_136, Nat.zero_le, Nat.reduceAdd, Nat.reduceLeDiff, reduceIte, rf_c1, int_c1, none_c1, cat_nil, cat_int, cat_long, cat_rf, toList_s, toList_n, true_and, and_true, Option.some.injEq, exists_eq_left', exists_eq_left, reduceCtorEq, if_true, if_false, eq_self]
            exact k3)
          have j5 : Ev (92, 95, [some (va_rf (some m)), some (.int (nI s)), some (.int d), some (.int (nI (prZ Z s).length)), some (.int (nI (zn Z))), some (.int 0), none, none], [], pI S1 407 m 0) (some (.int (nI (zn Z))), S') := j5
          have q2' := q.mpr w
          simp only [e92_0, e92_1, e92_2, e92_5, e92_6, e92_7, e92_10, e92_13, e92_14, e92_17, e92_18, e92_21, e92_22, e92_23, e92_26, e92_29, e92_30, e92_33, e92_34, e92_37, e92_38, e92_41, e92_42, e92_43, e92_46, e92_49, e92_50, e92_53, e92_54, e92_55, e92_58, e92_61, e92_62, e92_64, e92_67, e92_68, e92_71, e92_74, e92_75, e92_76, e92_77, e92_80, e92_82, e92_83, e92_86, e92_87, e92_88, e92_91, e92_92, e92_93, Ev_is g1, mw0 hW, mr17 hW, mk17 hW, mn17 hW, mw0 hW1, mr17 hW1, mk17 hW1, mn17 hW1, r400, r407, r411, rk, rk2, r4072, Nat.zero_le, Nat.reduceAdd, Nat.reduceLeDiff, reduceIte, rf_c1, int_c1, none_c1, cat_nil, cat_int, cat_long, cat_rf, toList_s, toList_n, true_and, and_true, Option.some.injEq, exists_eq_left', exists_eq_left, reduceCtorEq, if_true, if_false, eq_self, hd, h400', e411, nI_add, q2']
          exact j5
        · rw [if_neg w]
          refine ⟨pI (pI S1 407 m 0) 407 m 7, ?_, ?_, g3⟩
          · have q2' : ¬ nI (zn Z + (prZ Z s).length) ≤ (2000 : Int32) := fun v => w (q.mp v)
            simp only [e92_0, e92_1, e92_2, e92_5, e92_6, e92_7, e92_10, e92_13, e92_14, e92_17, e92_18, e92_21, e92_22, e92_23, e92_26, e92_29, e92_30, e92_33, e92_34, e92_37, e92_38, e92_41, e92_42, e92_43, e92_46, e92_49, e92_50, e92_53, e92_54, e92_55, e92_58, e92_61, e92_62, e92_64, e92_67, e92_68, e92_71, e92_74, e92_75, e92_76, e92_77, e92_80, e92_82, e92_83, e92_86, e92_87, e92_88, e92_91, Ev_is g1, mw0 hW, mr17 hW, mk17 hW, mn17 hW, mw0 hW1, mr17 hW1, mk17 hW1, mn17 hW1, r400, r407, r411, rk, rk2, r4072, Nat.zero_le, Nat.reduceAdd, Nat.reduceLeDiff, reduceIte, rf_c1, int_c1, none_c1, cat_nil, cat_int, cat_long, cat_rf, toList_s, toList_n, true_and, and_true, Option.some.injEq, exists_eq_left', exists_eq_left, reduceCtorEq, if_true, if_false, eq_self, hd, h400', e411, nI_add, q2']
            all_goals simp
          · rw [pI_pI]
            exact MR_wS g2 7
      · rw [if_neg y]
        refine ⟨pI S1 407 m (rf Z (nI s)), ?_, MR_wS g2 _, g3⟩
        simp only [e92_0, e92_1, e92_2, e92_5, e92_6, e92_7, e92_10, e92_13, e92_14, e92_17, e92_18, e92_21, e92_22, e92_23, e92_26, e92_29, e92_30, e92_33, e92_34, e92_37, e92_38, e92_41, e92_42, e92_43, e92_46, e92_49, e92_50, e92_53, e92_54, e92_55, e92_58, e92_61, e92_62, e92_64, e92_67, e92_68, e92_71, e92_74, e92_75, e92_76, e92_77, e92_80, e92_82, e92_83, e92_86, e92_87, e92_88, e92_91, Ev_is g1, mw0 hW, mr17 hW, mk17 hW, mn17 hW, mw0 hW1, mr17 hW1, mk17 hW1, mn17 hW1, r400, r407, r411, rk, rk2, r4072, Nat.zero_le, Nat.reduceAdd, Nat.reduceLeDiff, reduceIte, rf_c1, int_c1, none_c1, cat_nil, cat_int, cat_long, cat_rf, toList_s, toList_n, true_and, and_true, Option.some.injEq, exists_eq_left', exists_eq_left, reduceCtorEq, if_true, if_false, eq_self, hd, y]
        all_goals simp [y]
end MCOPY
