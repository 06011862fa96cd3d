/-! ===== the reference's ring: breadth first ===== -/
section MRING
variable {m : Nat} {A : Nat → Nat} {Z : Zs} {s : Nat}
def bI (b : Bool) : Int32 := if b = true then 1 else 0
def RI (S : ns_St) (m : Nat) (A : Nat → Nat) (Z : Zs) (s : Nat) (C : List Nat) : Prop := MR S m A Z ∧ (∀ u, u < zn Z → aI S (A 8) u = if u ∈ C then 2 else 0) ∧ (fI S 411 m = nI C.length ∧ LA (aI S (A 9)) C) ∧ C.Nodup ∧ ∀ v, v ∈ C → Rch (chl Z) (zh Z) s v ∧ v < zn Z
theorem RI_push {S : ns_St} {C : List Nat} {c : Nat} (h : RI S m A Z s C) (hc : c < zn Z) (hr : Rch (chl Z) (zh Z) s c) (hn : c ∉ C) : RI (pI (qI (qI S (A 8) c 2) (A 9) C.length (nI c)) 411 m (nI (C.length + 1))) m A Z s (C ++ [c]) := by
  obtain ⟨hR, h1, ⟨h2, h2'⟩, h3, h4⟩ := h
  have hW := hR.1
  refine ⟨MR_same hR rfl rfl rfl (fun f hf => by rw [pI_fI, if_neg (by omega)]; rfl) (fun f hf => ?_) rfl, fun u hu => ?_, ⟨?_, ?_⟩, ?_, fun v hv => ?_⟩
  · have hf' : f = 1 ∨ f = 2 ∨ f = 3 ∨ f = 4 := by simpa using hf
    funext i
    rw [pI_aI, qI_aI, if_neg (fun z => absurd ((mwi hW (show f < 20 by omega) (by decide)).mp z.1) (by omega)), qI_aI, if_neg (fun z => absurd ((mwi hW (show f < 20 by omega) (by decide)).mp z.1) (by omega))]
  · rw [pI_aI, qI_aI, if_neg (fun z => absurd ((mwi hW (show 8 < 20 by decide) (by decide)).mp z.1) (by decide)), qI_aI]
    by_cases y : u = c
    · subst y
      rw [if_pos ⟨rfl, rfl⟩, if_pos (by simp)]
    · rw [if_neg (fun z => y z.2), h1 u hu]
      have : (u ∈ C ++ [c]) ↔ u ∈ C := by simp [y]
      by_cases w : u ∈ C
      · rw [if_pos w, if_pos (this.mpr w)]
      · rw [if_neg w, if_neg (fun z => w (this.mp z))]
  · rw [pI_fI, if_pos ⟨rfl, rfl⟩, List.length_append]
    rfl
  · refine LA_push h2' (fun i hi => ?_) ?_
    · rw [pI_aI, qI_aI, if_neg (fun z => hi z.2), qI_aI, if_neg (fun z => absurd ((mwi hW (show 9 < 20 by decide) (by decide)).mp z.1) (by decide))]
    · rw [pI_aI, qI_aI, if_pos ⟨rfl, rfl⟩]
  · rw [List.nodup_append]
    exact ⟨h3, by simp, fun a ha b hb => by
      simp at hb
      subst hb
      intro q
      subst q
      exact hn ha⟩
  · rcases List.mem_append.mp hv with z | z
    · exact h4 v z
    · simp at z
      subst z
      exact ⟨hr, hc⟩
theorem m_ringin (hZ : ZI Z) (hs : s < zn Z) {u : Nat} (hu : u < zn Z) (hru : Rch (chl Z) (zh Z) s u) (nx : Int32) : ∀ (d i : Nat) (S : ns_St) (C : List Nat) (fd : Bool) (l7 : Option Value), i + d = chl Z u → RI S m A Z s C → ∃ S' C' fd' l7', sz0 S S' ∧ RI S' m A Z s C' ∧ (∃ E, C' = C ++ E) ∧ (∀ c, c ∈ C' → c ∈ C ∨ ∃ j, i ≤ j ∧ j < chl Z u ∧ zh Z u j = some c) ∧ (∀ j c, i ≤ j → j < chl Z u → zh Z u j = some c → c ∈ C') ∧ (fd' = true ↔ fd = true ∨ ∃ j, i ≤ j ∧ j < chl Z u ∧ zh Z u j = some s) ∧ ∀ r, Ev (84, 118, [some (va_rf (some m)), some (.int (nI s)), some (.int (bI fd')), some (.int (nI u)), some (.int nx), some (.int 1), some (.int (nI (chl Z u))), l7'], [], S') r → Ev (84, 32, [some (va_rf (some m)), some (.int (nI s)), some (.int (bI fd)), some (.int (nI u)), some (.int nx), some (.int 1), some (.int (nI i)), l7], [], S) r := by
  have hn := hZ.1
  have hcl : chl Z u ≤ 500 := by
    unfold chl
    have := (hZ.2.1 u hu).2.1
    split <;> omega
  intro d
  induction d with
  | zero =>
    intro i S C fd l7 hi h
    have e : i = chl Z u := by omega
    subst e
    have hR := h.1
    have hW := hR.1
    refine ⟨S, C, fd, l7, ⟨rfl, rfl⟩, h, ⟨[], by simp⟩, fun c hc => Or.inl hc, fun j c h1 h2 => absurd h1 (by omega), ⟨fun z => Or.inl z, fun z => z.elim id (fun ⟨j, j1, j2, _⟩ => absurd j1 (by omega))⟩, fun r hr => ?_⟩
    have z : nI (chl Z u) ≤ nI (chl Z u) := nI_le (Nat.le_refl _) (by omega)
    rw [e84_32]
    simp only [e84_34, e84_35, e84_36, e84_39, t62z hR hZ hu, mw0 hW, mr8 hW, mk8 hW, mn8 hW, mr9 hW, mk9 hW, mn9 hW, Nat.zero_le, Nat.reduceAdd, Nat.reduceLeDiff, reduceIte, rf_c1, int_c1, none_c1, cat_nil, cat_int, cat_long, cat_rf, toList_s, toList_n, true_and, and_true, Option.some.injEq, exists_eq_left', exists_eq_left, reduceCtorEq, if_true, if_false, eq_self, z]
    exact hr
  | succ d ih =>
    intro i S C fd l7 hi h
    have hlt : i < chl Z u := by omega
    have z : ¬ nI (chl Z u) ≤ nI i := nI_ge hlt (by omega)
    have hR := h.1
    have hW := hR.1
    have b0 : (bI fd = 0) ↔ ¬ fd = true := by cases fd <;> simp [bI]
    cases hz : zh Z u i with
    | none =>
      obtain ⟨S', C', fd', l7', g1, g2, g3, g9, g4, g5, g6⟩ := ih (i + 1) S C fd (some (.int (-1))) (by omega) h
      refine ⟨S', C', fd', l7', g1, g2, g3, fun c hc => (g9 c hc).imp id (fun ⟨j, j1, j2, j3⟩ => ⟨j, by omega, j2, j3⟩), fun j c h1 h2 h3 => ?_, ?_, fun r hr => ?_⟩
      · by_cases y : j = i
        · subst y; rw [hz] at h3; cases h3
        · exact g4 j c (by omega) h2 h3
      · rw [g5]
        constructor
        · rintro (z | ⟨j, j1, j2, j3⟩)
          · exact Or.inl z
          · exact Or.inr ⟨j, by omega, j2, j3⟩
        · rintro (z | ⟨j, j1, j2, j3⟩)
          · exact Or.inl z
          · by_cases y : j = i
            · subst y; rw [hz] at j3; cases j3
            · exact Or.inr ⟨j, by omega, j2, j3⟩
      · have g7 := g6 r hr
        have k1 : chI none = -1 := rfl
        have k2 : ¬ (-1 : Int32) = nI s := fun w => (nI_pos (n := s) (by omega)) (by rw [← w]; decide)
        rw [e84_32]
        cases fd with
        | true =>
          have b1 : bI true = 1 := rfl
          rw [b1] at g7 ⊢
          simp only [e84_0, e84_1, e84_2, e84_5, e84_8, e84_9, e84_10, e84_11, e84_14, e84_15, e84_16, e84_17, e84_18, e84_19, e84_21, e84_22, e84_24, e84_26, e84_29, e84_30, e84_34, e84_35, e84_36, e84_39, e84_42, e84_43, e84_44, e84_46, e84_49, e84_51, e84_52, e84_55, e84_57, e84_58, e84_61, e84_62, e84_65, e84_66, e84_67, e84_69, e84_70, e84_73, e84_74, e84_77, e84_79, e84_80, e84_83, e84_84, e84_87, e84_89, e84_90, e84_91, e84_92, e84_95, e84_96, e84_99, e84_101, e84_102, e84_103, e84_104, e84_107, e84_108, e84_109, e84_112, e84_115, e84_118, e84_119, e84_122, e84_124, e84_125, e84_128, e84_131, e84_132, e84_135, e84_136, e84_138, e84_140, e84_143, e84_144, e84_147, e84_149, e84_150, e84_153, e84_154, e84_155, e84_158, e84_161, e84_162, e84_165, e84_166, e84_169, e84_170, t62z hR hZ hu, t61z hR hZ hu hlt, hz, k1, mw0 hW, mr8 hW, mk8 hW, mn8 hW, mr9 hW, mk9 hW, mn9 hW, Nat.zero_le, Nat.reduceAdd, Nat.reduceLeDiff, reduceIte, rf_c1, int_c1, none_c1, cat_nil, cat_int, cat_long, cat_rf, toList_s, toList_n, true_and, and_true, Option.some.injEq, exists_eq_left', exists_eq_left, reduceCtorEq, if_true, if_false, eq_self, z, nI_1]
          simpa using g7
        | false =>
          have b1 : bI false = 0 := rfl
          rw [b1] at g7 ⊢
          simp only [e84_0, e84_1, e84_2, e84_5, e84_8, e84_9, e84_10, e84_11, e84_14, e84_15, e84_16, e84_17, e84_18, e84_19, e84_21, e84_22, e84_24, e84_26, e84_29, e84_30, e84_34, e84_35, e84_36, e84_39, e84_42, e84_43, e84_44, e84_46, e84_49, e84_51, e84_52, e84_55, e84_57, e84_58, e84_61, e84_62, e84_65, e84_66, e84_67, e84_69, e84_70, e84_73, e84_74, e84_77, e84_79, e84_80, e84_83, e84_84, e84_87, e84_89, e84_90, e84_91, e84_92, e84_95, e84_96, e84_99, e84_101, e84_102, e84_103, e84_104, e84_107, e84_108, e84_109, e84_112, e84_115, e84_118, e84_119, e84_122, e84_124, e84_125, e84_128, e84_131, e84_132, e84_135, e84_136, e84_138, e84_140, e84_143, e84_144, e84_147, e84_149, e84_150, e84_153, e84_154, e84_155, e84_158, e84_161, e84_162, e84_165, e84_166, e84_169, e84_170, t62z hR hZ hu, t61z hR hZ hu hlt, hz, k1, k2, mw0 hW, mr8 hW, mk8 hW, mn8 hW, mr9 hW, mk9 hW, mn9 hW, Nat.zero_le, Nat.reduceAdd, Nat.reduceLeDiff, reduceIte, rf_c1, int_c1, none_c1, cat_nil, cat_int, cat_long, cat_rf, toList_s, toList_n, true_and, and_true, Option.some.injEq, exists_eq_left', exists_eq_left, reduceCtorEq, if_true, if_false, eq_self, z, nI_1]
          simpa using g7
    | some c =>
      have hcn := zch hZ u i c hu hlt hz
      have hrc : Rch (chl Z) (zh Z) s c := Rch_step hru hlt hz
      have k1 : chI (some c) = nI c := rfl
      have c2 : ¬ nI c = -1 := fun z => (nI_pos (n := c) (by omega)) (by rw [z]; decide)
      have c3 : (nI c).toNatClampNeg = c := nI_clamp (by omega)
      have c4 := in_ok (show c < 2000 by omega) (by omega)
      have c5 := h.2.1 c hcn
      have c6 : (nI c = nI s) ↔ c = s := nI_eq (by omega) (by omega)
      have hlen : C.length ≤ zn Z := nd_len _ C h.2.2.2.1 (fun x hx => (h.2.2.2.2 x hx).2)
      obtain ⟨hb1, hb2⟩ := h.2.2.1
      -- what one place does
      have one : ∃ S1 C1, sz0 S S1 ∧ RI S1 m A Z s C1 ∧ (∃ E, C1 = C ++ E) ∧ (∀ x, x ∈ C1 → x ∈ C ∨ x = c) ∧ c ∈ C1 ∧ ∀ r, Ev (84, 32, [some (va_rf (some m)), some (.int (nI s)), some (.int (bI (fd || c == s))), some (.int (nI u)), some (.int nx), some (.int 1), some (.int (nI (i + 1))), some (.int (nI c))], [], S1) r → Ev (84, 32, [some (va_rf (some m)), some (.int (nI s)), some (.int (bI fd)), some (.int (nI u)), some (.int nx), some (.int 1), some (.int (nI i)), l7], [], S) r := by
        by_cases w : c ∈ C
        · rw [if_pos w] at c5
          refine ⟨S, C, ⟨rfl, rfl⟩, h, ⟨[], by simp⟩, fun x hx => Or.inl hx, w, fun r hr => ?_⟩
          rw [e84_32]
          cases fd with
          | true =>
            have b1 : bI true = 1 := rfl
            have b2 : bI (true || c == s) = 1 := rfl
            rw [b2] at hr
            rw [b1]
            simp only [e84_0, e84_1, e84_2, e84_5, e84_8, e84_9, e84_10, e84_11, e84_14, e84_15, e84_16, e84_17, e84_18, e84_19, e84_21, e84_22, e84_24, e84_26, e84_29, e84_30, e84_34, e84_35, e84_36, e84_39, e84_42, e84_43, e84_44, e84_46, e84_49, e84_51, e84_52, e84_55, e84_57, e84_58, e84_61, e84_62, e84_65, e84_66, e84_67, e84_69, e84_70, e84_73, e84_74, e84_77, e84_79, e84_80, e84_83, e84_84, e84_87, e84_89, e84_90, e84_91, e84_92, e84_95, e84_96, e84_99, e84_101, e84_102, e84_103, e84_104, e84_107, e84_108, e84_109, e84_112, e84_115, e84_118, e84_119, e84_122, e84_124, e84_125, e84_128, e84_131, e84_132, e84_135, e84_136, e84_138, e84_140, e84_143, e84_144, e84_147, e84_149, e84_150, e84_153, e84_154, e84_155, e84_158, e84_161, e84_162, e84_165, e84_166, e84_169, e84_170, t62z hR hZ hu, t61z hR hZ hu hlt, hz, k1, c2, c3, c4, c5, mw0 hW, mr8 hW, mk8 hW, mn8 hW, mr9 hW, mk9 hW, mn9 hW, Nat.zero_le, Nat.reduceAdd, Nat.reduceLeDiff, reduceIte, rf_c1, int_c1, none_c1, cat_nil, cat_int, cat_long, cat_rf, toList_s, toList_n, true_and, and_true, Option.some.injEq, exists_eq_left', exists_eq_left, reduceCtorEq, if_true, if_false, eq_self, z, nI_1]
            simpa using hr
          | false =>
            have b1 : bI false = 0 := rfl
            rw [b1]
            by_cases y : c = s
            · have b2 : bI (false || c == s) = 1 := by simp [bI, y]
              have c7 : (nI c = nI s) = True := eq_true (c6.mpr y)
              rw [b2] at hr
              simp only [e84_0, e84_1, e84_2, e84_5, e84_8, e84_9, e84_10, e84_11, e84_14, e84_15, e84_16, e84_17, e84_18, e84_19, e84_21, e84_22, e84_24, e84_26, e84_29, e84_30, e84_34, e84_35, e84_36, e84_39, e84_42, e84_43, e84_44, e84_46, e84_49, e84_51, e84_52, e84_55, e84_57, e84_58, e84_61, e84_62, e84_65, e84_66, e84_67, e84_69, e84_70, e84_73, e84_74, e84_77, e84_79, e84_80, e84_83, e84_84, e84_87, e84_89, e84_90, e84_91, e84_92, e84_95, e84_96, e84_99, e84_101, e84_102, e84_103, e84_104, e84_107, e84_108, e84_109, e84_112, e84_115, e84_118, e84_119, e84_122, e84_124, e84_125, e84_128, e84_131, e84_132, e84_135, e84_136, e84_138, e84_140, e84_143, e84_144, e84_147, e84_149, e84_150, e84_153, e84_154, e84_155, e84_158, e84_161, e84_162, e84_165, e84_166, e84_169, e84_170, t62z hR hZ hu, t61z hR hZ hu hlt, hz, k1, c2, c3, c4, c5, c7, mw0 hW, mr8 hW, mk8 hW, mn8 hW, mr9 hW, mk9 hW, mn9 hW, Nat.zero_le, Nat.reduceAdd, Nat.reduceLeDiff, reduceIte, rf_c1, int_c1, none_c1, cat_nil, cat_int, cat_long, cat_rf, toList_s, toList_n, true_and, and_true, Option.some.injEq, exists_eq_left', exists_eq_left, reduceCtorEq, if_true, if_false, eq_self, z, nI_1]
              simpa using hr
            · have b2 : bI (false || c == s) = 0 := by simp [bI, y]
              rw [b2] at hr
              simp only [e84_0, e84_1, e84_2, e84_5, e84_8, e84_9, e84_10, e84_11, e84_14, e84_15, e84_16, e84_17, e84_18, e84_19, e84_21, e84_22, e84_24, e84_26, e84_29, e84_30, e84_34, e84_35, e84_36, e84_39, e84_42, e84_43, e84_44, e84_46, e84_49, e84_51, e84_52, e84_55, e84_57, e84_58, e84_61, e84_62, e84_65, e84_66, e84_67, e84_69, e84_70, e84_73, e84_74, e84_77, e84_79, e84_80, e84_83, e84_84, e84_87, e84_89, e84_90, e84_91, e84_92, e84_95, e84_96, e84_99, e84_101, e84_102, e84_103, e84_104, e84_107, e84_108, e84_109, e84_112, e84_115, e84_118, e84_119, e84_122, e84_124, e84_125, e84_128, e84_131, e84_132, e84_135, e84_136, e84_138, e84_140, e84_143, e84_144, e84_147, e84_149, e84_150, e84_153, e84_154, e84_155, e84_158, e84_161, e84_162, e84_165, e84_166, e84_169, e84_170, t62z hR hZ hu, t61z hR hZ hu hlt, hz, k1, c2, c3, c4, c5, c6, y, mw0 hW, mr8 hW, mk8 hW, mn8 hW, mr9 hW, mk9 hW, mn9 hW, Nat.zero_le, Nat.reduceAdd, Nat.reduceLeDiff, reduceIte, rf_c1, int_c1, none_c1, cat_nil, cat_int, cat_long, cat_rf, toList_s, toList_n, true_and, and_true, Option.some.injEq, exists_eq_left', exists_eq_left, reduceCtorEq, if_true, if_false, eq_self, z, nI_1]
              simpa using hr
        · rw [if_neg w] at c5
          have hP := RI_push h hcn hrc w
          have hlen2 := nd_len _ (C ++ [c]) hP.2.2.2.1 (fun x hx => (hP.2.2.2.2 x hx).2)
          rw [List.length_append] at hlen2
          simp only [List.length_cons, List.length_nil] at hlen2
          have d3 : (nI C.length).toNatClampNeg = C.length := nI_clamp (by omega)
          have d4 := in_ok (show C.length < 2000 by omega) (by omega)
          refine ⟨pI (qI (qI S (A 8) c 2) (A 9) C.length (nI c)) 411 m (nI (C.length + 1)), C ++ [c], ⟨rfl, rfl⟩, hP, ⟨[c], rfl⟩, fun x hx => by simpa using hx, by simp, fun r hr => ?_⟩
          rw [e84_32]
          cases fd with
          | true =>
            have b1 : bI true = 1 := rfl
            have b2 : bI (true || c == s) = 1 := rfl
            rw [b2] at hr
            rw [b1]
            simp only [e84_0, e84_1, e84_2, e84_5, e84_8, e84_9, e84_10, e84_11, e84_14, e84_15, e84_16, e84_17, e84_18, e84_19, e84_21, e84_22, e84_24, e84_26, e84_29, e84_30, e84_34, e84_35, e84_36, e84_39, e84_42, e84_43, e84_44, e84_46, e84_49, e84_51, e84_52, e84_55, e84_57, e84_58, e84_61, e84_62, e84_65, e84_66, e84_67, e84_69, e84_70, e84_73, e84_74, e84_77, e84_79, e84_80, e84_83, e84_84, e84_87, e84_89, e84_90, e84_91, e84_92, e84_95, e84_96, e84_99, e84_101, e84_102, e84_103, e84_104, e84_107, e84_108, e84_109, e84_112, e84_115, e84_118, e84_119, e84_122, e84_124, e84_125, e84_128, e84_131, e84_132, e84_135, e84_136, e84_138, e84_140, e84_143, e84_144, e84_147, e84_149, e84_150, e84_153, e84_154, e84_155, e84_158, e84_161, e84_162, e84_165, e84_166, e84_169, e84_170, t62z hR hZ hu, t61z hR hZ hu hlt, hz, k1, c2, c3, c4, c5, hb1, d3, d4, mw0 hW, mr8 hW, mk8 hW, mn8 hW, mr9 hW, mk9 hW, mn9 hW, pI_ns_z, pI_ns_s, pI_ns_k, pI_ns_n, pI_fI, pI_fJ, pI_fR, pI_aI, pI_aJ, pI_aR, pJ_ns_z, pJ_ns_s, pJ_ns_k, pJ_ns_n, pJ_fI, pJ_fJ, pJ_fR, pJ_aI, pJ_aJ, pJ_aR, pR_ns_z, pR_ns_s, pR_ns_k, pR_ns_n, pR_fI, pR_fJ, pR_fR, pR_aI, pR_aJ, pR_aR, qI_ns_z, qI_ns_s, qI_ns_k, qI_ns_n, qI_fI, qI_fJ, qI_fR, qI_aI, qI_aJ, qI_aR, qJ_ns_z, qJ_ns_s, qJ_ns_k, qJ_ns_n, qJ_fI, qJ_fJ, qJ_fR, qJ_aI, qJ_aJ, qJ_aR, qR_ns_z, qR_ns_s, qR_ns_k, qR_ns_n, qR_fI, qR_fJ, qR_fR, qR_aI, qR_aJ, qR_aR, nO_ns_z, nO_ns_s, nO_ns_k, nO_ns_n, nO_fI, nO_fJ, nO_fR, nO_aI, nO_aJ, nO_aR, nA_ns_z, nA_ns_s, nA_ns_k, nA_ns_n, nA_fI, nA_fJ, nA_fR, nA_aI, nA_aJ, nA_aR, nC_ns_z, nC_ns_s, nC_ns_k, nC_ns_n, nC_fI, nC_fJ, nC_fR, nC_aI, nC_aJ, nC_aR, Nat.zero_le, Nat.reduceAdd, Nat.reduceLeDiff, reduceIte, rf_c1, int_c1, none_c1, cat_nil, cat_int, cat_long, cat_rf, toList_s, toList_n, true_and, and_true, Option.some.injEq, exists_eq_left', exists_eq_left, reduceCtorEq, if_true, if_false, eq_self, z, nI_1]
            simpa using hr
          | false =>
            have b1 : bI false = 0 := rfl
            rw [b1]
            by_cases y : c = s
            · have b2 : bI (false || c == s) = 1 := by simp [bI, y]
              have c7 : (nI c = nI s) = True := eq_true (c6.mpr y)
              rw [b2] at hr
              simp only [e84_0, e84_1, e84_2, e84_5, e84_8, e84_9, e84_10, e84_11, e84_14, e84_15, e84_16, e84_17, e84_18, e84_19, e84_21, e84_22, e84_24, e84_26, e84_29, e84_30, e84_34, e84_35, e84_36, e84_39, e84_42, e84_43, e84_44, e84_46, e84_49, e84_51, e84_52, e84_55, e84_57, e84_58, e84_61, e84_62, e84_65, e84_66, e84_67, e84_69, e84_70, e84_73, e84_74, e84_77, e84_79, e84_80, e84_83, e84_84, e84_87, e84_89, e84_90, e84_91, e84_92, e84_95, e84_96, e84_99, e84_101, e84_102, e84_103, e84_104, e84_107, e84_108, e84_109, e84_112, e84_115, e84_118, e84_119, e84_122, e84_124, e84_125, e84_128, e84_131, e84_132, e84_135, e84_136, e84_138, e84_140, e84_143, e84_144, e84_147, e84_149, e84_150, e84_153, e84_154, e84_155, e84_158, e84_161, e84_162, e84_165, e84_166, e84_169, e84_170, t62z hR hZ hu, t61z hR hZ hu hlt, hz, k1, c2, c3, c4, c5, c7, hb1, d3, d4, mw0 hW, mr8 hW, mk8 hW, mn8 hW, mr9 hW, mk9 hW, mn9 hW, pI_ns_z, pI_ns_s, pI_ns_k, pI_ns_n, pI_fI, pI_fJ, pI_fR, pI_aI, pI_aJ, pI_aR, pJ_ns_z, pJ_ns_s, pJ_ns_k, pJ_ns_n, pJ_fI, pJ_fJ, pJ_fR, pJ_aI, pJ_aJ, pJ_aR, pR_ns_z, pR_ns_s, pR_ns_k, pR_ns_n, pR_fI, pR_fJ, pR_fR, pR_aI, pR_aJ, pR_aR, qI_ns_z, qI_ns_s, qI_ns_k, qI_ns_n, qI_fI, qI_fJ, qI_fR, qI_aI, qI_aJ, qI_aR, qJ_ns_z, qJ_ns_s, qJ_ns_k, qJ_ns_n, qJ_fI, qJ_fJ, qJ_fR, qJ_aI, qJ_aJ, qJ_aR, qR_ns_z, qR_ns_s, qR_ns_k, qR_ns_n, qR_fI, qR_fJ, qR_fR, qR_aI, qR_aJ, qR_aR, nO_ns_z, nO_ns_s, nO_ns_k, nO_ns_n, nO_fI, nO_fJ, nO_fR, nO_aI, nO_aJ, nO_aR, nA_ns_z, nA_ns_s, nA_ns_k, nA_ns_n, nA_fI, nA_fJ, nA_fR, nA_aI, nA_aJ, nA_aR, nC_ns_z, nC_ns_s, nC_ns_k, nC_ns_n, nC_fI, nC_fJ, nC_fR, nC_aI, nC_aJ, nC_aR, Nat.zero_le, Nat.reduceAdd, Nat.reduceLeDiff, reduceIte, rf_c1, int_c1, none_c1, cat_nil, cat_int, cat_long, cat_rf, toList_s, toList_n, true_and, and_true, Option.some.injEq, exists_eq_left', exists_eq_left, reduceCtorEq, if_true, if_false, eq_self, z, nI_1]
              simpa using hr
            · have b2 : bI (false || c == s) = 0 := by simp [bI, y]
              rw [b2] at hr
              simp only [e84_0, e84_1, e84_2, e84_5, e84_8, e84_9, e84_10, e84_11, e84_14, e84_15, e84_16, e84_17, e84_18, e84_19, e84_21, e84_22, e84_24, e84_26, e84_29, e84_30, e84_34, e84_35, e84_36, e84_39, e84_42, e84_43, e84_44, e84_46, e84_49, e84_51, e84_52, e84_55, e84_57, e84_58, e84_61, e84_62, e84_65, e84_66, e84_67, e84_69, e84_70, e84_73, e84_74, e84_77, e84_79, e84_80, e84_83, e84_84, e84_87, e84_89, e84_90, e84_91, e84_92, e84_95, e84_96, e84_99, e84_101, e84_102, e84_103, e84_104, e84_107, e84_108, e84_109, e84_112, e84_115, e84_118, e84_119, e84_122, e84_124, e84_125, e84_128, e84_131, e84_132, e84_135, e84_136, e84_138, e84_140, e84_143, e84_144, e84_147, e84_149, e84_150, e84_153, e84_154, e84_155, e84_158, e84_161, e84_162, e84_165, e84_166, e84_169, e84_170, t62z hR hZ hu, t61z hR hZ hu hlt, hz, k1, c2, c3, c4, c5, c6, y, hb1, d3, d4, mw0 hW, mr8 hW, mk8 hW, mn8 hW, mr9 hW, mk9 hW, mn9 hW, pI_ns_z, pI_ns_s, pI_ns_k, pI_ns_n, pI_fI, pI_fJ, pI_fR, pI_aI, pI_aJ, pI_aR, pJ_ns_z, pJ_ns_s, pJ_ns_k, pJ_ns_n, pJ_fI, pJ_fJ, pJ_fR, pJ_aI, pJ_aJ, pJ_aR, pR_ns_z, pR_ns_s, pR_ns_k, pR_ns_n, pR_fI, pR_fJ, pR_fR, pR_aI, pR_aJ, pR_aR, qI_ns_z, qI_ns_s, qI_ns_k, qI_ns_n, qI_fI, qI_fJ, qI_fR, qI_aI, qI_aJ, qI_aR, qJ_ns_z, qJ_ns_s, qJ_ns_k, qJ_ns_n, qJ_fI, qJ_fJ, qJ_fR, qJ_aI, qJ_aJ, qJ_aR, qR_ns_z, qR_ns_s, qR_ns_k, qR_ns_n, qR_fI, qR_fJ, qR_fR, qR_aI, qR_aJ, qR_aR, nO_ns_z, nO_ns_s, nO_ns_k, nO_ns_n, nO_fI, nO_fJ, nO_fR, nO_aI, nO_aJ, nO_aR, nA_ns_z, nA_ns_s, nA_ns_k, nA_ns_n, nA_fI, nA_fJ, nA_fR, nA_aI, nA_aJ, nA_aR, nC_ns_z, nC_ns_s, nC_ns_k, nC_ns_n, nC_fI, nC_fJ, nC_fR, nC_aI, nC_aJ, nC_aR, Nat.zero_le, Nat.reduceAdd, Nat.reduceLeDiff, reduceIte, rf_c1, int_c1, none_c1, cat_nil, cat_int, cat_long, cat_rf, toList_s, toList_n, true_and, and_true, Option.some.injEq, exists_eq_left', exists_eq_left, reduceCtorEq, if_true, if_false, eq_self, z, nI_1]
              simpa using hr
      obtain ⟨S1, C1, o1, o2, ⟨E1, o3⟩, o9, o4, o5⟩ := one
      obtain ⟨S', C', fd', l7', g1, g2, ⟨E2, g3⟩, g9, g4, g5, g6⟩ := ih (i + 1) S1 C1 (fd || c == s) (some (.int (nI c))) (by omega) o2
      refine ⟨S', C', fd', l7', ⟨g1.1.trans o1.1, g1.2.trans o1.2⟩, g2, ⟨E1 ++ E2, by rw [g3, o3]; simp⟩, fun x hx => ?_, fun j c' h1 h2 h3 => ?_, ?_, fun r hr => o5 r (g6 r hr)⟩
      · rcases g9 x hx with z | ⟨j, j1, j2, j3⟩
        · rcases o9 x z with w | w
          · exact Or.inl w
          · subst w; exact Or.inr ⟨i, by omega, hlt, hz⟩
        · exact Or.inr ⟨j, by omega, j2, j3⟩
      · by_cases y : j = i
        · subst y
          rw [hz] at h3
          cases h3
          rw [g3]
          exact List.mem_append.mpr (Or.inl o4)
        · exact g4 j c' (by omega) h2 h3
      · rw [g5]
        simp only [Bool.or_eq_true, beq_iff_eq]
        constructor
        · rintro ((z | z) | ⟨j, j1, j2, j3⟩)
          · exact Or.inl z
          · exact Or.inr ⟨i, by omega, hlt, by rw [hz, z]⟩
          · exact Or.inr ⟨j, by omega, j2, j3⟩
        · rintro (z | ⟨j, j1, j2, j3⟩)
          · exact Or.inl (Or.inl z)
          · by_cases y : j = i
            · subst y
              rw [hz] at j3
              cases j3
              exact Or.inl (Or.inr rfl)
            · exact Or.inr ⟨j, by omega, j2, j3⟩
/-- Q is done, u is next -/
theorem m_ringout (hZ : ZI Z) (hs : s < zn Z) : ∀ (k : Nat) (Q : List Nat) (u : Nat) (R C : List Nat) (S : ns_St) (l6 l7 : Option Value), Q.length + k = zn Z → s :: C = Q ++ u :: R → s ∉ C → RI S m A Z s C → (∀ v, v ∈ Q → ∀ p c, p < chl Z v → zh Z v p = some c → c ∈ C ∧ c ≠ s) → ns_c1 l6 = true → ∃ S', sz0 S S' ∧ MR S' m A Z ∧ Ev (84, 24, [some (va_rf (some m)), some (.int (nI s)), some (.int 0), some (.int (nI u)), some (.int (nI Q.length)), some (.int 1), l6, l7], [], S) (some (.int (if (wkE Z s).2.2.2.2.2 = true then 1 else 0)), S') := by
  have hn := hZ.1
  intro k
  induction k with
  | zero =>
    intro Q u R C S l6 l7 hk hC hsC h hQ _
    exfalso
    have hnd : (s :: C).Nodup := List.nodup_cons.mpr ⟨hsC, h.2.2.2.1⟩
    have := nd_len (zn Z) (s :: C) hnd (fun x hx => by
      rcases List.mem_cons.mp hx with z | z
      · subst z; exact hs
      · exact (h.2.2.2.2 x z).2)
    rw [hC] at this
    simp at this
    omega
  | succ k ih =>
    intro Q u R C S l6 l7 hk hC hsC h hQ hl6
    have hmem : ∀ x, x ∈ Q ++ u :: R → Rch (chl Z) (zh Z) s x ∧ x < zn Z := fun x hx => by
      rw [← hC] at hx
      rcases List.mem_cons.mp hx with z | z
      · subst z; exact ⟨Rch_refl, hs⟩
      · exact h.2.2.2.2 x z
    obtain ⟨hru, hu⟩ := hmem u (by simp)
    have hR := h.1
    have hW := hR.1
    obtain ⟨S1, C1, fd, l7', g1, g2, ⟨E1, g3⟩, g9, g4, g5, g6⟩ := m_ringin hZ hs hu hru (nI Q.length) (chl Z u) 0 S C false l7 (by omega) h
    have hW1 := g2.1.1
    have b0 : bI false = 0 := rfl
    have hQl : Q.length < zn Z := by omega
    have lenE : C.length + 1 = Q.length + R.length + 1 := by
      have := congrArg List.length hC
      simp at this
      omega
    have start : ∀ r, Ev (84, 118, [some (va_rf (some m)), some (.int (nI s)), some (.int (bI fd)), some (.int (nI u)), some (.int (nI Q.length)), some (.int 1), some (.int (nI (chl Z u))), l7'], [], S1) r → Ev (84, 24, [some (va_rf (some m)), some (.int (nI s)), some (.int 0), some (.int (nI u)), some (.int (nI Q.length)), some (.int 1), l6, l7], [], S) r := fun r hr => by
      have g7 := g6 r hr
      rw [b0] at g7
      have g7 : Ev (84, 32, [some (va_rf (some m)), some (.int (nI s)), some (.int 0), some (.int (nI u)), some (.int (nI Q.length)), some (.int 1), some (.int 0), l7], [], S) r := g7
      simp only [e84_24, e84_26, e84_29, e84_30, Nat.zero_le, Nat.reduceAdd, Nat.reduceLeDiff, reduceIte, rf_c1, int_c1, none_c1, cat_nil, cat_int, cat_long, cat_rf, toList_s, toList_n, true_and, and_true, Option.some.injEq, exists_eq_left', exists_eq_left, reduceCtorEq, if_true, if_false, eq_self]
      simpa using g7
    have fin : ∀ (x : Int32) (l3 : Int32) (S2 : ns_St), (x = 0 ∨ x = 1) → Ev (84, 24, [some (va_rf (some m)), some (.int (nI s)), some (.int x), some (.int l3), some (.int (nI Q.length + 1)), some (.int 0), some (.int (nI (chl Z u))), l7'], [], S2) (some (.int x), S2) := fun x l3 S2 hx => by
      rcases hx with rfl | rfl
      · simp only [e84_24, e84_26, e84_161, e84_162, e84_165, e84_166, e84_169, e84_170, Nat.zero_le, Nat.reduceAdd, Nat.reduceLeDiff, reduceIte, rf_c1, int_c1, none_c1, cat_nil, cat_int, cat_long, cat_rf, toList_s, toList_n, true_and, and_true, Option.some.injEq, exists_eq_left', exists_eq_left, reduceCtorEq, if_true, if_false, eq_self]
      · simp only [e84_24, e84_26, e84_161, e84_162, e84_165, e84_166, e84_169, e84_170, Nat.zero_le, Nat.reduceAdd, Nat.reduceLeDiff, reduceIte, rf_c1, int_c1, none_c1, cat_nil, cat_int, cat_long, cat_rf, toList_s, toList_n, true_and, and_true, Option.some.injEq, exists_eq_left', exists_eq_left, reduceCtorEq, if_true, if_false, eq_self]
        simp
    cases fd with
    | true =>
      obtain ⟨j, -, j2, j3⟩ := (g5.mp rfl).resolve_left (by decide)
      have hrg : (wkE Z s).2.2.2.2.2 = true := (rg_iff hZ hs).mpr ⟨u, j, hru, j2, j3⟩
      refine ⟨S1, g1, g2.1, start _ ?_⟩
      rw [if_pos hrg]
      have b1 : bI true = 1 := rfl
      rw [b1]
      have f := fin 1 (nI u) S1 (Or.inr rfl)
      simp only [e84_0, e84_1, e84_2, e84_5, e84_8, e84_9, e84_10, e84_11, e84_14, e84_15, e84_16, e84_17, e84_18, e84_19, e84_21, e84_22, e84_26, e84_29, e84_30, e84_34, e84_35, e84_36, e84_39, e84_42, e84_43, e84_44, e84_46, e84_49, e84_51, e84_52, e84_55, e84_57, e84_58, e84_61, e84_62, e84_65, e84_66, e84_67, e84_69, e84_70, e84_73, e84_74, e84_77, e84_79, e84_80, e84_83, e84_84, e84_87, e84_89, e84_90, e84_91, e84_92, e84_95, e84_96, e84_99, e84_101, e84_102, e84_103, e84_104, e84_107, e84_108, e84_109, e84_112, e84_115, e84_118, e84_119, e84_122, e84_124, e84_125, e84_128, e84_131, e84_132, e84_135, e84_136, e84_138, e84_140, e84_143, e84_144, e84_147, e84_149, e84_150, e84_153, e84_154, e84_155, e84_158, e84_161, e84_162, e84_165, e84_166, e84_169, e84_170, mw0 hW1, mr8 hW1, mk8 hW1, mn8 hW1, mr9 hW1, mk9 hW1, mn9 hW1, Nat.zero_le, Nat.reduceAdd, Nat.reduceLeDiff, reduceIte, rf_c1, int_c1, none_c1, cat_nil, cat_int, cat_long, cat_rf, toList_s, toList_n, true_and, and_true, Option.some.injEq, exists_eq_left', exists_eq_left, reduceCtorEq, if_true, if_false, eq_self]
      simpa using f
    | false =>
      have hnf : ∀ j, j < chl Z u → zh Z u j ≠ some s := fun j hj z => by
        have := g5.mpr (Or.inr ⟨j, by omega, hj, z⟩)
        cases this
      have hnew : ∀ v, v ∈ Q ++ [u] → ∀ p c, p < chl Z v → zh Z v p = some c → c ∈ C1 ∧ c ≠ s := fun v hv p c hp hc => by
        rcases List.mem_append.mp hv with z | z
        · obtain ⟨w1, w2⟩ := hQ v z p c hp hc
          exact ⟨by rw [g3]; exact List.mem_append.mpr (Or.inl w1), w2⟩
        · simp at z
          subst z
          exact ⟨g4 p c (by omega) hp hc, fun w => hnf p hp (by rw [hc, w])⟩
      have hC1 : s :: C1 = (Q ++ [u]) ++ (R ++ E1) := by
        rw [g3, ← List.cons_append, hC]
        simp
      have hsC1 : s ∉ C1 := fun z => by
        rcases g9 s z with w | ⟨j, _, j2, j3⟩
        · exact hsC w
        · exact hnf j j2 j3
      have b1 : bI false = 0 := rfl
      have h411 := g2.2.2.1.1
      have lenE1 : C1.length = Q.length + (R ++ E1).length := by
        have := congrArg List.length hC1
        rw [List.length_cons, List.length_append, List.length_append] at this
        simp only [List.length_cons, List.length_nil] at this
        omega
      have lenC1 : C1.length ≤ zn Z := nd_len _ C1 g2.2.2.2.1 (fun x hx => (g2.2.2.2.2 x hx).2)
      cases hE : R ++ E1 with
      | nil =>
        rw [hE] at hC1 lenE1
        rw [List.append_nil] at hC1
        have lenE2 : C1.length = Q.length := lenE1
        have hrg : ¬ (wkE Z s).2.2.2.2.2 = true := fun w => by
          obtain ⟨v, p, v1, v2, v3⟩ := (rg_iff hZ hs).mp w
          have hv : v ∈ s :: C1 := v1 (fun x => x ∈ s :: C1) (by simp) (fun x q c hx hq hc => by
            rw [hC1] at hx
            exact List.mem_cons.mpr (Or.inr (hnew x hx q c hq hc).1))
          rw [hC1] at hv
          exact (hnew v hv p s v2 v3).2 rfl
        refine ⟨S1, g1, g2.1, start _ ?_⟩
        rw [if_neg hrg, b1]
        have f := fin 0 (nI u) S1 (Or.inl rfl)
        have q1 : nI C1.length ≤ nI Q.length := nI_le (by omega) (by omega)
        simp only [e84_0, e84_1, e84_2, e84_5, e84_8, e84_9, e84_10, e84_11, e84_14, e84_15, e84_16, e84_17, e84_18, e84_19, e84_21, e84_22, e84_26, e84_29, e84_30, e84_34, e84_35, e84_36, e84_39, e84_42, e84_43, e84_44, e84_46, e84_49, e84_51, e84_52, e84_55, e84_57, e84_58, e84_61, e84_62, e84_65, e84_66, e84_67, e84_69, e84_70, e84_73, e84_74, e84_77, e84_79, e84_80, e84_83, e84_84, e84_87, e84_89, e84_90, e84_91, e84_92, e84_95, e84_96, e84_99, e84_101, e84_102, e84_103, e84_104, e84_107, e84_108, e84_109, e84_112, e84_115, e84_118, e84_119, e84_122, e84_124, e84_125, e84_128, e84_131, e84_132, e84_135, e84_136, e84_138, e84_140, e84_143, e84_144, e84_147, e84_149, e84_150, e84_153, e84_154, e84_155, e84_158, e84_161, e84_162, e84_165, e84_166, e84_169, e84_170, mw0 hW1, mr8 hW1, mk8 hW1, mn8 hW1, mr9 hW1, mk9 hW1, mn9 hW1, Nat.zero_le, Nat.reduceAdd, Nat.reduceLeDiff, reduceIte, rf_c1, int_c1, none_c1, cat_nil, cat_int, cat_long, cat_rf, toList_s, toList_n, true_and, and_true, Option.some.injEq, exists_eq_left', exists_eq_left, reduceCtorEq, if_true, if_false, eq_self, h411, q1]
        simpa using f
      | cons u' R' =>
        rw [hE] at hC1 lenE1
        have q1 : ¬ nI C1.length ≤ nI Q.length := nI_ge (by rw [lenE1]; simp) (by omega)
        have hlt : Q.length < C1.length := by rw [lenE1]; simp
        have q2 : aI S1 (A 9) Q.length = nI u' := by
          rw [g2.2.2.1.2 Q.length hlt]
          have e1 : (s :: C1)[Q.length + 1]? = some u' := by
            rw [hC1, List.getElem?_append_right (by simp)]
            simp
          rw [List.getElem?_cons_succ] at e1
          rw [List.getD_eq_getElem?_getD, e1]
          rfl
        obtain ⟨S', p1, p2, p3⟩ := ih (Q ++ [u]) u' R' C1 S1 (some (.int (nI (chl Z u)))) l7' (by simp; omega) hC1 hsC1 g2 hnew rfl
        refine ⟨S', ⟨p1.1.trans g1.1, p1.2.trans g1.2⟩, p2, start _ ?_⟩
        have a3 : (nI Q.length).toNatClampNeg = Q.length := nI_clamp (by omega)
        have a4 := in_ok (show Q.length < 2000 by omega) (by omega)
        rw [List.length_append] at p3
        simp only [List.length_cons, List.length_nil] at p3
        rw [b1]
        simp only [e84_0, e84_1, e84_2, e84_5, e84_8, e84_9, e84_10, e84_11, e84_14, e84_15, e84_16, e84_17, e84_18, e84_19, e84_21, e84_22, e84_26, e84_29, e84_30, e84_34, e84_35, e84_36, e84_39, e84_42, e84_43, e84_44, e84_46, e84_49, e84_51, e84_52, e84_55, e84_57, e84_58, e84_61, e84_62, e84_65, e84_66, e84_67, e84_69, e84_70, e84_73, e84_74, e84_77, e84_79, e84_80, e84_83, e84_84, e84_87, e84_89, e84_90, e84_91, e84_92, e84_95, e84_96, e84_99, e84_101, e84_102, e84_103, e84_104, e84_107, e84_108, e84_109, e84_112, e84_115, e84_118, e84_119, e84_122, e84_124, e84_125, e84_128, e84_131, e84_132, e84_135, e84_136, e84_138, e84_140, e84_143, e84_144, e84_147, e84_149, e84_150, e84_153, e84_154, e84_155, e84_158, e84_161, e84_162, e84_165, e84_166, e84_169, e84_170, mw0 hW1, mr8 hW1, mk8 hW1, mn8 hW1, mr9 hW1, mk9 hW1, mn9 hW1, Nat.zero_le, Nat.reduceAdd, Nat.reduceLeDiff, reduceIte, rf_c1, int_c1, none_c1, cat_nil, cat_int, cat_long, cat_rf, toList_s, toList_n, true_and, and_true, Option.some.injEq, exists_eq_left', exists_eq_left, reduceCtorEq, if_true, if_false, eq_self, h411, q1, q2, a3, a4, nI_1]
        simpa using p3
theorem m_ring {S : ns_St} (h : MR S m A Z) (hZ : ZI Z) (t : Int32) : ∃ S', Ev (84, 0, [some (va_rf (some m)), some (.int t), none, none, none, none, none, none], [], S) (some (.int (o_ring Z t)), S') ∧ MR S' m A Z ∧ sz0 S S' := by
  have hn := hZ.1
  have hW := h.1
  rcases zt_cases (n := zn Z) (by omega) t with ⟨e, g⟩ | ⟨s, hs, rfl, e⟩
  · refine ⟨S, ?_, h, ⟨rfl, rfl⟩⟩
    have e2 : o_ring Z t = -1 := by unfold o_ring; rw [e]
    rw [e2]
    rcases g with g | ⟨g, g'⟩
    · simp only [e84_0, e84_1, e84_2, e84_5, e84_8, e84_9, e84_10, e84_11, e84_14, e84_15, e84_16, e84_17, e84_18, e84_19, e84_21, e84_22, e84_26, e84_29, e84_30, e84_34, e84_35, e84_36, e84_39, e84_42, e84_43, e84_44, e84_46, e84_49, e84_51, e84_52, e84_55, e84_57, e84_58, e84_61, e84_62, e84_65, e84_66, e84_67, e84_69, e84_70, e84_73, e84_74, e84_77, e84_79, e84_80, e84_83, e84_84, e84_87, e84_89, e84_90, e84_91, e84_92, e84_95, e84_96, e84_99, e84_101, e84_102, e84_103, e84_104, e84_107, e84_108, e84_109, e84_112, e84_115, e84_118, e84_119, e84_122, e84_124, e84_125, e84_128, e84_131, e84_132, e84_135, e84_136, e84_138, e84_140, e84_143, e84_144, e84_147, e84_149, e84_150, e84_153, e84_154, e84_155, e84_158, e84_161, e84_162, e84_165, e84_166, e84_169, e84_170, t58 hW, mw0 hW, mr8 hW, mk8 hW, mn8 hW, mr9 hW, mk9 hW, mn9 hW, Nat.zero_le, Nat.reduceAdd, Nat.reduceLeDiff, reduceIte, rf_c1, int_c1, none_c1, cat_nil, cat_int, cat_long, cat_rf, toList_s, toList_n, true_and, and_true, Option.some.injEq, exists_eq_left', exists_eq_left, reduceCtorEq, if_true, if_false, eq_self, g]
    · simp only [e84_0, e84_1, e84_2, e84_5, e84_8, e84_9, e84_10, e84_11, e84_14, e84_15, e84_16, e84_17, e84_18, e84_19, e84_21, e84_22, e84_26, e84_29, e84_30, e84_34, e84_35, e84_36, e84_39, e84_42, e84_43, e84_44, e84_46, e84_49, e84_51, e84_52, e84_55, e84_57, e84_58, e84_61, e84_62, e84_65, e84_66, e84_67, e84_69, e84_70, e84_73, e84_74, e84_77, e84_79, e84_80, e84_83, e84_84, e84_87, e84_89, e84_90, e84_91, e84_92, e84_95, e84_96, e84_99, e84_101, e84_102, e84_103, e84_104, e84_107, e84_108, e84_109, e84_112, e84_115, e84_118, e84_119, e84_122, e84_124, e84_125, e84_128, e84_131, e84_132, e84_135, e84_136, e84_138, e84_140, e84_143, e84_144, e84_147, e84_149, e84_150, e84_153, e84_154, e84_155, e84_158, e84_161, e84_162, e84_165, e84_166, e84_169, e84_170, t58 hW, mw0 hW, mr8 hW, mk8 hW, mn8 hW, mr9 hW, mk9 hW, mn9 hW, Nat.zero_le, Nat.reduceAdd, Nat.reduceLeDiff, reduceIte, rf_c1, int_c1, none_c1, cat_nil, cat_int, cat_long, cat_rf, toList_s, toList_n, true_and, and_true, Option.some.injEq, exists_eq_left', exists_eq_left, reduceCtorEq, if_true, if_false, eq_self, g, g', h.2.1]
  · obtain ⟨a1, a2, a3⟩ := there_ok hs (by omega)
    obtain ⟨S1, g1, g2, g3⟩ := m_begin h hZ
    have hI : RI S1 m A Z s [] := ⟨g2.1, fun u hu => by rw [g2.2.1 u hu, if_neg (by simp)]; rfl, g2.2.2.1, List.nodup_nil, fun v hv => by cases hv⟩
    obtain ⟨S', p1, p2, p3⟩ := m_ringout hZ hs (zn Z) [] s [] [] S1 none none (by simp) rfl (by simp) hI (fun v hv => by cases hv) rfl
    refine ⟨S', ?_, p2, ⟨p1.1.trans g3.1, p1.2.trans g3.2⟩⟩
    have e2 : o_ring Z (nI s) = if (wkE Z s).2.2.2.2.2 = true then 1 else 0 := by unfold o_ring; rw [e]
    rw [e2]
    have p4 : Ev (84, 24, [some (va_rf (some m)), some (.int (nI s)), some (.int 0), some (.int (nI s)), some (.int 0), some (.int 1), none, none], [], S1) (some (.int (if (wkE Z s).2.2.2.2.2 = true then 1 else 0)), S') := p3
    simp only [e84_0, e84_1, e84_2, e84_5, e84_8, e84_9, e84_10, e84_11, e84_14, e84_15, e84_16, e84_17, e84_18, e84_19, e84_21, e84_22, e84_26, e84_29, e84_30, e84_34, e84_35, e84_36, e84_39, e84_42, e84_43, e84_44, e84_46, e84_49, e84_51, e84_52, e84_55, e84_57, e84_58, e84_61, e84_62, e84_65, e84_66, e84_67, e84_69, e84_70, e84_73, e84_74, e84_77, e84_79, e84_80, e84_83, e84_84, e84_87, e84_89, e84_90, e84_91, e84_92, e84_95, e84_96, e84_99, e84_101, e84_102, e84_103, e84_104, e84_107, e84_108, e84_109, e84_112, e84_115, e84_118, e84_119, e84_122, e84_124, e84_125, e84_128, e84_131, e84_132, e84_135, e84_136, e84_138, e84_140, e84_143, e84_144, e84_147, e84_149, e84_150, e84_153, e84_154, e84_155, e84_158, e84_161, e84_162, e84_165, e84_166, e84_169, e84_170, t58 hW, Ev_is g1, mw0 hW, mr8 hW, mk8 hW, mn8 hW, mr9 hW, mk9 hW, mn9 hW, Nat.zero_le, Nat.reduceAdd, Nat.reduceLeDiff, reduceIte, rf_c1, int_c1, none_c1, cat_nil, cat_int, cat_long, cat_rf, toList_s, toList_n, true_and, and_true, Option.some.injEq, exists_eq_left', exists_eq_left, reduceCtorEq, if_true, if_false, eq_self, h.2.1, a1, a2]
    simpa using p4
end MRING
