/-! ===== the reference's walk ===== -/
section MWALK2
variable {S : ns_St} {m : Nat} {A : Nat → Nat} {Z : Zs}
theorem t62z (h : MR S m A Z) (hZ : ZI Z) {u : Nat} (hu : u < zn Z) {r : ns_Rs} : Ev (62, 0, [some (va_rf (some m)), some (.int (nI u))], [], S) r ↔ r = (some (.int (nI (chl Z u))), S) := by
  have hn := hZ.1
  have a3 : (nI u).toNatClampNeg = u := nI_clamp (by omega)
  have a4 := in_ok (show u < 2000 by omega) (by omega)
  obtain ⟨b1, b2, -, -⟩ := h.2.2.1 u hu
  have c1 := (hZ.2.1 u hu).1
  rw [t62 h.1]
  simp only [a3, a4, b1, b2, true_and, kf_lt3 c1, kf_7lt c1]
  unfold chl
  by_cases y1 : zk Z u < 3
  · rw [if_pos y1, if_neg (show ¬ hook (zk Z u) by omega)]; rfl
  · rw [if_neg y1]
    by_cases y2 : 7 < zk Z u
    · rw [if_pos y2, if_neg (show ¬ hook (zk Z u) by omega)]; rfl
    · rw [if_neg y2, if_pos (show hook (zk Z u) by omega)]
theorem chl_lt {u p : Nat} (h : p < chl Z u) : hook (zk Z u) ∧ p < zl Z u := by
  unfold chl at h
  by_cases y : hook (zk Z u)
  · rw [if_pos y] at h; exact ⟨y, h⟩
  · rw [if_neg y] at h; exact absurd h (Nat.not_lt_zero p)
theorem t61z (h : MR S m A Z) (hZ : ZI Z) {u p : Nat} (hu : u < zn Z) (hp : p < chl Z u) {r : ns_Rs} : Ev (61, 0, [some (va_rf (some m)), some (.int (nI u)), some (.int (nI p))], [], S) r ↔ r = (some (.int (chI (zh Z u p))), S) := by
  have hn := hZ.1
  obtain ⟨q, hx⟩ := chl_lt hp
  have a3 : (nI u).toNatClampNeg = u := nI_clamp (by omega)
  have a4 := in_ok (show u < 2000 by omega) (by omega)
  obtain ⟨b1, b2, b3, b4⟩ := h.2.2.1 u hu
  have hb := bg_in hZ hu hx
  have x4 : ns_inb (nI (bg (zl Z) u + p)) 1000000 = true := in_ok hb (by omega)
  have x5 : (nI (bg (zl Z) u + p)).toNatClampNeg = bg (zl Z) u + p := nI_clamp (by omega)
  have x6 : (aJ S (A 5) (bg (zl Z) u + p)).toInt32 = chI (zh Z u p) := by rw [h.2.2.2.2.1 u p hu hx]; unfold pl; rw [if_pos q]; exact chL_i
  rw [t61 h.1]
  simp only [a3, a4, b4, nI_add, x4, x5, x6, true_and]
theorem zch (hZ : ZI Z) : ∀ u p c, u < zn Z → p < chl Z u → zh Z u p = some c → c < zn Z := fun u p c hu hp hc => hZ.2.2 u p c hu (chl_lt hp).2 hc
/-- at: where the stack's top lies -/
def atI (X : Dx) : Int32 := match X.1 with
  | [] => -1
  | _ :: t => nI t.length
theorem stk_len (hZ : ZI Z) {X : Dx} (h : dInv (chl Z) (zh Z) (zn Z) X) : X.1.length ≤ zn Z ∧ X.2.2.1.length ≤ zn Z ∧ X.2.2.2.1.length ≤ zn Z := by
  obtain ⟨h1, h2, h3, h4, ⟨h5, h5'⟩, ⟨h6, h6'⟩, h7, h8⟩ := h
  refine ⟨?_, nd_len _ _ h5 (fun x hx => h7 x ((h5' x).mp hx)), nd_len _ _ h6 (fun x hx => h7 x (by rw [(h6' x).mp hx]; decide))⟩
  have := nd_len (zn Z) _ h1 (fun x hx => h7 x (by rw [(h2 x).mpr hx]; decide))
  rwa [List.length_map] at this
/-- one place on in the stack's top -/
theorem MX_place {u p : Nat} {t : List (Nat × Nat)} {X2 : (Nat → Nat) × List Nat × List Nat × Bool × Bool} (h : MX S m A Z ((u, p) :: t, X2)) : MX (qI S (A 14) t.length (nI (p + 1))) m A Z ((u, p + 1) :: t, X2) := by
  obtain ⟨hR, h1, ⟨h2, h2'⟩, ⟨h3, h3'⟩, h4⟩ := h
  have hW := hR.1
  have row : ∀ f i, f < 20 → f ≠ 14 → aI (qI S (A 14) t.length (nI (p + 1))) (A f) i = aI S (A f) i := fun f i hf hne => by
    rw [qI_aI, if_neg (fun z => hne ((mwi hW hf (by decide)).mp z.1))]
  refine ⟨MR_same hR rfl rfl rfl (fun f _ => rfl) (fun f hf => ?_) rfl, fun u' hu' => by rw [row 8 u' (by decide) (by decide)]; exact h1 u' hu', ⟨h2, fun i hi => by rw [row 9 i (by decide) (by decide)]; exact h2' i hi⟩, ⟨h3, fun i hi => by rw [row 10 i (by decide) (by decide)]; exact h3' i hi⟩, ?_, ?_, WY_congr t (fun i hi => ⟨?_, ?_⟩) h4.2.2⟩
  · funext i
    have hf' : f = 1 ∨ f = 2 ∨ f = 3 ∨ f = 4 := by simpa using hf
    exact row f i (by omega) (by omega)
  · rw [row 13 _ (by decide) (by decide)]; exact h4.1
  · rw [qI_aI, if_pos ⟨rfl, rfl⟩]
  · exact row 13 i (by decide) (by decide)
  · rw [qI_aI, if_neg (fun z => absurd z.2 (by omega))]
theorem MX_leave {u p : Nat} {t : List (Nat × Nat)} {mk : Nat → Nat} {pre post : List Nat} {ring met : Bool} (h : MX S m A Z ((u, p) :: t, mk, pre, post, ring, met)) : MX (pI (qI (qI S (A 8) u 2) (A 10) post.length (nI u)) 412 m (nI (post.length + 1))) m A Z (t, va_up mk u 2, pre, post ++ [u], ring, met) := by
  obtain ⟨hR, h1, ⟨h2, h2'⟩, ⟨h3, h3'⟩, h4⟩ := h
  dsimp only at h1 h2 h2' h3 h3'
  have hW := hR.1
  have row : ∀ f i, f < 20 → aI (pI (qI (qI S (A 8) u 2) (A 10) post.length (nI u)) 412 m (nI (post.length + 1))) (A f) i = if f = 10 ∧ i = post.length then nI u else if f = 8 ∧ i = u then 2 else aI S (A f) i := fun f i hf => by
    simp only [pI_aI, qI_aI, mwi hW hf (show 10 < 20 by decide), mwi hW hf (show 8 < 20 by decide)]
  refine ⟨MR_same hR rfl rfl rfl (fun f hf => ?_) (fun f hf => ?_) rfl, fun v hv => ?_, ⟨?_, fun i hi => ?_⟩, ⟨?_, ?_⟩, WY_congr t (fun i hi => ⟨?_, ?_⟩) h4.2.2⟩
  · rw [pI_fI, if_neg (by omega), qI_fI, qI_fI]
  · funext i
    have hf' : f = 1 ∨ f = 2 ∨ f = 3 ∨ f = 4 := by simpa using hf
    rw [row f i (by omega), if_neg (by omega), if_neg (by omega)]
  · rw [row 8 v (by decide), if_neg (by omega)]
    show _ = nI (va_up mk u 2 v)
    by_cases y : v = u
    · subst y
      rw [if_pos ⟨rfl, rfl⟩, va_up_self]; rfl
    · rw [if_neg (fun z => y z.2), va_up_ne _ _ y]
      exact h1 v hv
  · rw [pI_fI, if_neg (by omega), qI_fI, qI_fI]
    exact h2
  · rw [row 9 i (by decide), if_neg (by omega), if_neg (by omega)]
    exact h2' i hi
  · rw [pI_fI, if_pos ⟨rfl, rfl⟩]
    simp
  · refine LA_push h3' (fun i hi => ?_) ?_
    · rw [row 10 i (by decide), if_neg (fun z => hi z.2), if_neg (by omega)]
    · rw [row 10 _ (by decide), if_pos ⟨rfl, rfl⟩]
  · rw [row 13 i (by decide), if_neg (by omega), if_neg (by omega)]
  · rw [row 14 i (by decide), if_neg (by omega), if_neg (by omega)]
/-- what the walk comes to -/
def wAns (m : Nat) (A : Nat → Nat) (Z : Zs) (S : ns_St) (Y : Dx) (x : ns_Cf) : Prop := if Y.2.2.2.2.1 = true then ∃ S', sz0 S S' ∧ MR S' m A Z ∧ Ev x (some (.int 0), S') else ∃ S', sz0 S S' ∧ MX S' m A Z Y ∧ Ev x (some (.int 1), S')
theorem wAns_go {S1 : ns_St} {Y : Dx} {x y : ns_Cf} (hz : sz0 S S1) (he : ∀ r, Ev y r → Ev x r) (h : wAns m A Z S1 Y y) : wAns m A Z S Y x := by
  unfold wAns at h ⊢
  by_cases e : Y.2.2.2.2.1 = true
  · rw [if_pos e] at h ⊢
    obtain ⟨S', h1, h2, h3⟩ := h
    exact ⟨S', ⟨h1.1.trans hz.1, h1.2.trans hz.2⟩, h2, he _ h3⟩
  · rw [if_neg e] at h ⊢
    obtain ⟨S', h1, h2, h3⟩ := h
    exact ⟨S', ⟨h1.1.trans hz.1, h1.2.trans hz.2⟩, h2, he _ h3⟩
theorem m_walkloop (hZ : ZI Z) (s0 : Nat) (fr : Int32) : ∀ (k : Nat) (X : Dx) (S : ns_St) (l3 l4 : Option Value), dmu (chl Z) (zn Z) X = k → dInv (chl Z) (zh Z) (zn Z) X → MX S m A Z X → X.2.2.2.2.1 = false → wAns m A Z S (dend (chl Z) (zh Z) s0 (zn Z) X) (77, 20, [some (va_rf (some m)), some (.int fr), some (.int (atI X)), l3, l4], [], S) := by
  intro k
  induction k with
  | zero =>
    intro X S l3 l4 hk hI hX hr
    have e := dmu_0 (chl Z) (zn Z) hk
    rw [dend_nil (chl Z) (zh Z) s0 (zn Z) e]
    unfold wAns
    rw [if_neg (by rw [hr]; decide)]
    refine ⟨S, ⟨rfl, rfl⟩, hX, ?_⟩
    have a1 : atI X = -1 := by unfold atI; rw [e]
    have a2 : (-1 : Int32) < 0 := by decide
    have a3 : ¬ (0 : Int32) ≤ -1 := by decide
    simp only [e77_0, e77_1, e77_4, e77_5, e77_6, e77_7, e77_10, e77_11, e77_12, e77_13, e77_14, e77_15, e77_16, e77_17, e77_20, e77_21, e77_24, e77_25, e77_28, e77_29, e77_30, e77_31, e77_32, e77_35, e77_36, e77_37, e77_38, e77_39, e77_42, e77_45, e77_46, e77_49, e77_50, e77_51, e77_52, e77_53, e77_56, e77_57, e77_60, e77_61, e77_62, e77_63, e77_64, e77_67, e77_68, e77_69, e77_72, e77_75, e77_78, e77_79, e77_80, e77_81, e77_84, e77_85, e77_86, e77_89, e77_91, e77_92, e77_95, e77_96, e77_97, e77_98, e77_99, e77_100, e77_101, e77_103, e77_104, e77_107, e77_108, e77_111, e77_113, e77_114, e77_115, e77_118, e77_119, e77_120, e77_122, e77_123, e77_126, e77_127, e77_130, e77_132, e77_133, e77_136, e77_139, e77_140, e77_142, e77_143, e77_146, e77_149, e77_150, Nat.zero_le, Nat.reduceAdd, Nat.reduceLeDiff, reduceIte, rf_c1, int_c1, none_c1, cat_nil, cat_int, cat_long, cat_rf, toList_s, toList_n, true_and, and_true, Option.some.injEq, exists_eq_left', exists_eq_left, reduceCtorEq, if_true, if_false, eq_self, a1, a2, a3]
    simp
  | succ k ih =>
    intro X S l3 l4 hk hI hX hr
    have hn := hZ.1
    obtain ⟨ls1, ls2, ls3⟩ := stk_len hZ hI
    obtain ⟨stk, mk, pre, post, ring, met⟩ := X
    match stk, hk, hI, hX, ls1 with
    | [], hk, hI, hX, ls1 =>
      rw [dend_nil (chl Z) (zh Z) s0 (zn Z) rfl]
      unfold wAns
      rw [if_neg (by rw [hr]; decide)]
      refine ⟨S, ⟨rfl, rfl⟩, hX, ?_⟩
      have a1 : atI ([], mk, pre, post, ring, met) = -1 := rfl
      have a2 : (-1 : Int32) < 0 := by decide
      have a3 : ¬ (0 : Int32) ≤ -1 := by decide
      simp only [e77_0, e77_1, e77_4, e77_5, e77_6, e77_7, e77_10, e77_11, e77_12, e77_13, e77_14, e77_15, e77_16, e77_17, e77_20, e77_21, e77_24, e77_25, e77_28, e77_29, e77_30, e77_31, e77_32, e77_35, e77_36, e77_37, e77_38, e77_39, e77_42, e77_45, e77_46, e77_49, e77_50, e77_51, e77_52, e77_53, e77_56, e77_57, e77_60, e77_61, e77_62, e77_63, e77_64, e77_67, e77_68, e77_69, e77_72, e77_75, e77_78, e77_79, e77_80, e77_81, e77_84, e77_85, e77_86, e77_89, e77_91, e77_92, e77_95, e77_96, e77_97, e77_98, e77_99, e77_100, e77_101, e77_103, e77_104, e77_107, e77_108, e77_111, e77_113, e77_114, e77_115, e77_118, e77_119, e77_120, e77_122, e77_123, e77_126, e77_127, e77_130, e77_132, e77_133, e77_136, e77_139, e77_140, e77_142, e77_143, e77_146, e77_149, e77_150, Nat.zero_le, Nat.reduceAdd, Nat.reduceLeDiff, reduceIte, rf_c1, int_c1, none_c1, cat_nil, cat_int, cat_long, cat_rf, toList_s, toList_n, true_and, and_true, Option.some.injEq, exists_eq_left', exists_eq_left, reduceCtorEq, if_true, if_false, eq_self, a1, a2, a3]
      simp
    | (u, p) :: t, hk, hI, hX, ls1 =>
      have hst := dmu_step (chl Z) (zh Z) s0 (zn Z) (zch hZ) hI (by simp)
      have hI' := dInv_step (chl Z) (zh Z) s0 (zn Z) (zch hZ) hI
      rw [dend_step (chl Z) (zh Z) s0 (zn Z) (zch hZ) hI (by simp)]
      have hR := hX.1
      have hW := hR.1
      obtain ⟨-, m1, ⟨m2, m2'⟩, ⟨m3, m3'⟩, m4⟩ := id hX
      dsimp only at m1 m2 m2' m3 m3' m4 ls1 ls2 ls3 hr
      simp only [List.length_cons] at ls1
      have hu1 : mk u = 1 := (hI.2.1 u).mpr (by simp)
      have hun : u < zn Z := hI.2.2.2.2.2.2.1 u (by show mk u ≠ 0; omega)
      have hpu : p ≤ chl Z u := hI.2.2.2.1 (u, p) (by simp)
      have hcl : chl Z u ≤ 500 := by
        unfold chl
        have := (hZ.2.1 u hun).2.1
        split <;> omega
      have a1 : atI ((u, p) :: t, mk, pre, post, ring, met) = nI t.length := rfl
      have a2 : ¬ nI t.length < 0 := nI_pos (by omega)
      have a2' : 0 ≤ nI t.length := nI_pos' (by omega)
      have a3 : (nI t.length).toNatClampNeg = t.length := nI_clamp (by omega)
      have a4 := in_ok (show t.length < 2000 by omega) (by omega)
      have u3 : (nI u).toNatClampNeg = u := nI_clamp (by omega)
      have u4 := in_ok (show u < 2000 by omega) (by omega)
      have w1 : aI S (A 13) t.length = nI u := m4.1
      have w2 : aI S (A 14) t.length = nI p := m4.2.1
      have w3 : (nI p = nI (chl Z u)) ↔ p = chl Z u := nI_eq (by omega) (by omega)
      by_cases e : chl Z u ≤ p
      · have e' : p = chl Z u := by omega
        rw [dst_leave (chl Z) (zh Z) s0 e] at hst hI' ⊢
        have hq := ih _ _ (some (.int (nI u))) l4 (by omega) hI' (MX_leave hX) hr
        have p3 : (nI post.length).toNatClampNeg = post.length := nI_clamp (by omega)
        have p4 := in_ok (show post.length < 2000 by
          have := nd_len (zn Z) (post ++ [u]) hI'.2.2.2.2.2.1.1 (fun x hx => hI'.2.2.2.2.2.2.1 x (by rw [(hI'.2.2.2.2.2.1.2 x).mp hx]; decide))
          simp only [List.length_append, List.length_cons, List.length_nil] at this
          omega) (by omega)
        refine wAns_go ⟨rfl, rfl⟩ (fun r hr' => ?_) hq
        have a5 : atI (t, va_up mk u 2, pre, post ++ [u], ring, met) = nI t.length + (-1) := by
          unfold atI
          cases t with
          | nil => rfl
          | cons y t2 => exact (pk_m1 t2.length).symm
        rw [a5] at hr'
        rw [a1, e77_20]
        simp only [e77_0, e77_1, e77_4, e77_5, e77_6, e77_7, e77_10, e77_11, e77_12, e77_13, e77_14, e77_15, e77_16, e77_17, e77_21, e77_24, e77_25, e77_28, e77_29, e77_30, e77_31, e77_32, e77_35, e77_36, e77_37, e77_38, e77_39, e77_42, e77_45, e77_46, e77_49, e77_50, e77_51, e77_52, e77_53, e77_56, e77_57, e77_60, e77_61, e77_62, e77_63, e77_64, e77_67, e77_68, e77_69, e77_72, e77_75, e77_78, e77_79, e77_80, e77_81, e77_84, e77_85, e77_86, e77_89, e77_91, e77_92, e77_95, e77_96, e77_97, e77_98, e77_99, e77_100, e77_101, e77_103, e77_104, e77_107, e77_108, e77_111, e77_113, e77_114, e77_115, e77_118, e77_119, e77_120, e77_122, e77_123, e77_126, e77_127, e77_130, e77_132, e77_133, e77_136, e77_139, e77_140, e77_142, e77_143, e77_146, e77_149, e77_150, t62z hR hZ hun, mw0 hW, mr8 hW, mk8 hW, mn8 hW, mr10 hW, mk10 hW, mn10 hW, mr13 hW, mk13 hW, mn13 hW, mr14 hW, mk14 hW, mn14 hW, pI_ns_z, pI_ns_s, pI_ns_k, pI_ns_n, pI_fI, pI_fJ, pI_fR, pI_aI, pI_aJ, pI_aR, pJ_ns_z, pJ_ns_s, pJ_ns_k, pJ_ns_n, pJ_fI, pJ_fJ, pJ_fR, pJ_aI, pJ_aJ, pJ_aR, pR_ns_z, pR_ns_s, pR_ns_k, pR_ns_n, pR_fI, pR_fJ, pR_fR, pR_aI, pR_aJ, pR_aR, qI_ns_z, qI_ns_s, qI_ns_k, qI_ns_n, qI_fI, qI_fJ, qI_fR, qI_aI, qI_aJ, qI_aR, qJ_ns_z, qJ_ns_s, qJ_ns_k, qJ_ns_n, qJ_fI, qJ_fJ, qJ_fR, qJ_aI, qJ_aJ, qJ_aR, qR_ns_z, qR_ns_s, qR_ns_k, qR_ns_n, qR_fI, qR_fJ, qR_fR, qR_aI, qR_aJ, qR_aR, nO_ns_z, nO_ns_s, nO_ns_k, nO_ns_n, nO_fI, nO_fJ, nO_fR, nO_aI, nO_aJ, nO_aR, nA_ns_z, nA_ns_s, nA_ns_k, nA_ns_n, nA_fI, nA_fJ, nA_fR, nA_aI, nA_aJ, nA_aR, nC_ns_z, nC_ns_s, nC_ns_k, nC_ns_n, nC_fI, nC_fJ, nC_fR, nC_aI, nC_aJ, nC_aR, Nat.zero_le, Nat.reduceAdd, Nat.reduceLeDiff, reduceIte, rf_c1, int_c1, none_c1, cat_nil, cat_int, cat_long, cat_rf, toList_s, toList_n, true_and, and_true, Option.some.injEq, exists_eq_left', exists_eq_left, reduceCtorEq, if_true, if_false, eq_self, a2, a2', a3, a4, u3, u4, w1, w2, w3, e', m3, p3, p4, nI_1]
        exact hr'
      · have hlt : p < chl Z u := Nat.not_le.mp e
        have e' : ¬ p = chl Z u := by omega
        have hP := MX_place hX
        have hR1 := hP.1
        have hW1 := hR1.1
        obtain ⟨-, n1, ⟨n2, n2'⟩, ⟨n3, n3'⟩, n4⟩ := id hP
        dsimp only at n1 n2 n2' n3 n3' n4
        cases hc : zh Z u p with
        | none =>
          rw [dst_none (chl Z) (zh Z) s0 e hc] at hst hI' ⊢
          have hq := ih _ _ (some (.int (nI u))) (some (.int (-1))) (by omega) hI' hP hr
          refine wAns_go ⟨rfl, rfl⟩ (fun r hr' => ?_) hq
          have a5 : atI ((u, p + 1) :: t, mk, pre, post, ring, met) = nI t.length := rfl
          rw [a5] at hr'
          have k1 : chI none = -1 := rfl
          rw [a1, e77_20]
          simp only [e77_0, e77_1, e77_4, e77_5, e77_6, e77_7, e77_10, e77_11, e77_12, e77_13, e77_14, e77_15, e77_16, e77_17, e77_21, e77_24, e77_25, e77_28, e77_29, e77_30, e77_31, e77_32, e77_35, e77_36, e77_37, e77_38, e77_39, e77_42, e77_45, e77_46, e77_49, e77_50, e77_51, e77_52, e77_53, e77_56, e77_57, e77_60, e77_61, e77_62, e77_63, e77_64, e77_67, e77_68, e77_69, e77_72, e77_75, e77_78, e77_79, e77_80, e77_81, e77_84, e77_85, e77_86, e77_89, e77_91, e77_92, e77_95, e77_96, e77_97, e77_98, e77_99, e77_100, e77_101, e77_103, e77_104, e77_107, e77_108, e77_111, e77_113, e77_114, e77_115, e77_118, e77_119, e77_120, e77_122, e77_123, e77_126, e77_127, e77_130, e77_132, e77_133, e77_136, e77_139, e77_140, e77_142, e77_143, e77_146, e77_149, e77_150, t62z hR hZ hun, t61z hR hZ hun hlt, hc, k1, mw0 hW, mr8 hW, mk8 hW, mn8 hW, mr10 hW, mk10 hW, mn10 hW, mr13 hW, mk13 hW, mn13 hW, mr14 hW, mk14 hW, mn14 hW, pI_ns_z, pI_ns_s, pI_ns_k, pI_ns_n, pI_fI, pI_fJ, pI_fR, pI_aI, pI_aJ, pI_aR, pJ_ns_z, pJ_ns_s, pJ_ns_k, pJ_ns_n, pJ_fI, pJ_fJ, pJ_fR, pJ_aI, pJ_aJ, pJ_aR, pR_ns_z, pR_ns_s, pR_ns_k, pR_ns_n, pR_fI, pR_fJ, pR_fR, pR_aI, pR_aJ, pR_aR, qI_ns_z, qI_ns_s, qI_ns_k, qI_ns_n, qI_fI, qI_fJ, qI_fR, qI_aI, qI_aJ, qI_aR, qJ_ns_z, qJ_ns_s, qJ_ns_k, qJ_ns_n, qJ_fI, qJ_fJ, qJ_fR, qJ_aI, qJ_aJ, qJ_aR, qR_ns_z, qR_ns_s, qR_ns_k, qR_ns_n, qR_fI, qR_fJ, qR_fR, qR_aI, qR_aJ, qR_aR, nO_ns_z, nO_ns_s, nO_ns_k, nO_ns_n, nO_fI, nO_fJ, nO_fR, nO_aI, nO_aJ, nO_aR, nA_ns_z, nA_ns_s, nA_ns_k, nA_ns_n, nA_fI, nA_fJ, nA_fR, nA_aI, nA_aJ, nA_aR, nC_ns_z, nC_ns_s, nC_ns_k, nC_ns_n, nC_fI, nC_fJ, nC_fR, nC_aI, nC_aJ, nC_aR, Nat.zero_le, Nat.reduceAdd, Nat.reduceLeDiff, reduceIte, rf_c1, int_c1, none_c1, cat_nil, cat_int, cat_long, cat_rf, toList_s, toList_n, true_and, and_true, Option.some.injEq, exists_eq_left', exists_eq_left, reduceCtorEq, if_true, if_false, eq_self, a2, a2', a3, a4, u3, u4, w1, w2, w3, e', nI_1]
          exact hr'
        | some c =>
          have hcn := zch hZ u p c hun hlt hc
          have c1 : chI (some c) = nI c := rfl
          have c2 : ¬ nI c = -1 := fun z => (nI_pos (n := c) (by omega)) (by rw [z]; decide)
          have c3 : (nI c).toNatClampNeg = c := nI_clamp (by omega)
          have c4 := in_ok (show c < 2000 by omega) (by omega)
          have c5 : aI (qI S (A 14) t.length (nI (p + 1))) (A 8) c = nI (mk c) := n1 c hcn
          have c5' : aI S (A 8) c = nI (mk c) := m1 c hcn
          have h3c : mk c ≤ 2 := hI.2.2.1 c
          have d14 : ¬ (A 8 = A 14) := fun z => absurd ((mwi hW (by decide) (by decide)).mp z) (by decide)
          rcases (show mk c = 0 ∨ mk c = 1 ∨ mk c = 2 by omega) with y | y | y
          · rw [dst_new (chl Z) (zh Z) s0 e hc y] at hst hI' ⊢
            obtain ⟨ks1, ks2, ks3⟩ := stk_len hZ hI'
            simp only [List.length_cons, List.length_append, List.length_nil] at ks1 ks2
            have hM := MX_come (c := c) (ring := ring) (met := met) hR1 n1 n2 n2' n3 n3' n4
            simp only [List.length_cons] at hM
            have hq := ih _ _ (some (.int (nI u))) (some (.int (nI c))) (by omega) hI' hM hr
            refine wAns_go ⟨rfl, rfl⟩ (fun r hr' => ?_) hq
            have a5 : atI ((c, 0) :: (u, p + 1) :: t, va_up mk c 1, pre ++ [c], post, ring, met) = nI (t.length + 1) := rfl
            rw [a5] at hr'
            have y0 : nI 0 = (0 : Int32) := rfl
            have y1 : ¬ (0 : Int32) = 1 := by decide
            have cm := fun r => m_come (r := r) hR1 hZ (c := c) (d := t.length + 1) (pl := pre.length) hcn (by omega) (by omega) n2
            rw [a1, e77_20]
            simp only [e77_0, e77_1, e77_4, e77_5, e77_6, e77_7, e77_10, e77_11, e77_12, e77_13, e77_14, e77_15, e77_16, e77_17, e77_21, e77_24, e77_25, e77_28, e77_29, e77_30, e77_31, e77_32, e77_35, e77_36, e77_37, e77_38, e77_39, e77_42, e77_45, e77_46, e77_49, e77_50, e77_51, e77_52, e77_53, e77_56, e77_57, e77_60, e77_61, e77_62, e77_63, e77_64, e77_67, e77_68, e77_69, e77_72, e77_75, e77_78, e77_79, e77_80, e77_81, e77_84, e77_85, e77_86, e77_89, e77_91, e77_92, e77_95, e77_96, e77_97, e77_98, e77_99, e77_100, e77_101, e77_103, e77_104, e77_107, e77_108, e77_111, e77_113, e77_114, e77_115, e77_118, e77_119, e77_120, e77_122, e77_123, e77_126, e77_127, e77_130, e77_132, e77_133, e77_136, e77_139, e77_140, e77_142, e77_143, e77_146, e77_149, e77_150, t62z hR hZ hun, t61z hR hZ hun hlt, hc, c1, mw0 hW, mr8 hW, mk8 hW, mn8 hW, mr10 hW, mk10 hW, mn10 hW, mr13 hW, mk13 hW, mn13 hW, mr14 hW, mk14 hW, mn14 hW, pI_ns_z, pI_ns_s, pI_ns_k, pI_ns_n, pI_fI, pI_fJ, pI_fR, pI_aI, pI_aJ, pI_aR, pJ_ns_z, pJ_ns_s, pJ_ns_k, pJ_ns_n, pJ_fI, pJ_fJ, pJ_fR, pJ_aI, pJ_aJ, pJ_aR, pR_ns_z, pR_ns_s, pR_ns_k, pR_ns_n, pR_fI, pR_fJ, pR_fR, pR_aI, pR_aJ, pR_aR, qI_ns_z, qI_ns_s, qI_ns_k, qI_ns_n, qI_fI, qI_fJ, qI_fR, qI_aI, qI_aJ, qI_aR, qJ_ns_z, qJ_ns_s, qJ_ns_k, qJ_ns_n, qJ_fI, qJ_fJ, qJ_fR, qJ_aI, qJ_aJ, qJ_aR, qR_ns_z, qR_ns_s, qR_ns_k, qR_ns_n, qR_fI, qR_fJ, qR_fR, qR_aI, qR_aJ, qR_aR, nO_ns_z, nO_ns_s, nO_ns_k, nO_ns_n, nO_fI, nO_fJ, nO_fR, nO_aI, nO_aJ, nO_aR, nA_ns_z, nA_ns_s, nA_ns_k, nA_ns_n, nA_fI, nA_fJ, nA_fR, nA_aI, nA_aJ, nA_aR, nC_ns_z, nC_ns_s, nC_ns_k, nC_ns_n, nC_fI, nC_fJ, nC_fR, nC_aI, nC_aJ, nC_aR, Nat.zero_le, Nat.reduceAdd, Nat.reduceLeDiff, reduceIte, rf_c1, int_c1, none_c1, cat_nil, cat_int, cat_long, cat_rf, toList_s, toList_n, true_and, and_true, Option.some.injEq, exists_eq_left', exists_eq_left, reduceCtorEq, if_true, if_false, eq_self, a2, a2', a3, a4, u3, u4, w1, w2, w3, e', nI_1, c2, c3, c4, c5', d14, false_and, y, y0, y1, cm]
            exact hr'
          · rw [dst_open (chl Z) (zh Z) s0 e hc y]
            unfold wAns
            have hring : (dend (chl Z) (zh Z) s0 (zn Z) ((u, p + 1) :: t, mk, pre, post, true, met || c == s0)).2.2.2.2.1 = true := dring_run (chl Z) (zh Z) s0 _ ((u, p + 1) :: t, mk, pre, post, true, met || c == s0) rfl
            rw [if_pos hring]
            refine ⟨qI S (A 14) t.length (nI (p + 1)), ⟨rfl, rfl⟩, hR1, ?_⟩
            have y0 : nI 1 = (1 : Int32) := rfl
            rw [a1, e77_20]
            simp only [e77_0, e77_1, e77_4, e77_5, e77_6, e77_7, e77_10, e77_11, e77_12, e77_13, e77_14, e77_15, e77_16, e77_17, e77_21, e77_24, e77_25, e77_28, e77_29, e77_30, e77_31, e77_32, e77_35, e77_36, e77_37, e77_38, e77_39, e77_42, e77_45, e77_46, e77_49, e77_50, e77_51, e77_52, e77_53, e77_56, e77_57, e77_60, e77_61, e77_62, e77_63, e77_64, e77_67, e77_68, e77_69, e77_72, e77_75, e77_78, e77_79, e77_80, e77_81, e77_84, e77_85, e77_86, e77_89, e77_91, e77_92, e77_95, e77_96, e77_97, e77_98, e77_99, e77_100, e77_101, e77_103, e77_104, e77_107, e77_108, e77_111, e77_113, e77_114, e77_115, e77_118, e77_119, e77_120, e77_122, e77_123, e77_126, e77_127, e77_130, e77_132, e77_133, e77_136, e77_139, e77_140, e77_142, e77_143, e77_146, e77_149, e77_150, t62z hR hZ hun, t61z hR hZ hun hlt, hc, c1, mw0 hW, mr8 hW, mk8 hW, mn8 hW, mr10 hW, mk10 hW, mn10 hW, mr13 hW, mk13 hW, mn13 hW, mr14 hW, mk14 hW, mn14 hW, pI_ns_z, pI_ns_s, pI_ns_k, pI_ns_n, pI_fI, pI_fJ, pI_fR, pI_aI, pI_aJ, pI_aR, pJ_ns_z, pJ_ns_s, pJ_ns_k, pJ_ns_n, pJ_fI, pJ_fJ, pJ_fR, pJ_aI, pJ_aJ, pJ_aR, pR_ns_z, pR_ns_s, pR_ns_k, pR_ns_n, pR_fI, pR_fJ, pR_fR, pR_aI, pR_aJ, pR_aR, qI_ns_z, qI_ns_s, qI_ns_k, qI_ns_n, qI_fI, qI_fJ, qI_fR, qI_aI, qI_aJ, qI_aR, qJ_ns_z, qJ_ns_s, qJ_ns_k, qJ_ns_n, qJ_fI, qJ_fJ, qJ_fR, qJ_aI, qJ_aJ, qJ_aR, qR_ns_z, qR_ns_s, qR_ns_k, qR_ns_n, qR_fI, qR_fJ, qR_fR, qR_aI, qR_aJ, qR_aR, nO_ns_z, nO_ns_s, nO_ns_k, nO_ns_n, nO_fI, nO_fJ, nO_fR, nO_aI, nO_aJ, nO_aR, nA_ns_z, nA_ns_s, nA_ns_k, nA_ns_n, nA_fI, nA_fJ, nA_fR, nA_aI, nA_aJ, nA_aR, nC_ns_z, nC_ns_s, nC_ns_k, nC_ns_n, nC_fI, nC_fJ, nC_fR, nC_aI, nC_aJ, nC_aR, Nat.zero_le, Nat.reduceAdd, Nat.reduceLeDiff, reduceIte, rf_c1, int_c1, none_c1, cat_nil, cat_int, cat_long, cat_rf, toList_s, toList_n, true_and, and_true, Option.some.injEq, exists_eq_left', exists_eq_left, reduceCtorEq, if_true, if_false, eq_self, a2, a2', a3, a4, u3, u4, w1, w2, w3, e', nI_1, c2, c3, c4, c5', d14, false_and, y, y0]
            simp
          · rw [dst_left (chl Z) (zh Z) s0 e hc y] at hst hI' ⊢
            have hq := ih _ _ (some (.int (nI u))) (some (.int (nI c))) (by omega) hI' hP hr
            refine wAns_go ⟨rfl, rfl⟩ (fun r hr' => ?_) hq
            have a5 : atI ((u, p + 1) :: t, mk, pre, post, ring, met) = nI t.length := rfl
            rw [a5] at hr'
            have y0 : ¬ nI 2 = (1 : Int32) := by decide
            have y1 : ¬ nI 2 = (0 : Int32) := by decide
            rw [a1, e77_20]
            simp only [e77_0, e77_1, e77_4, e77_5, e77_6, e77_7, e77_10, e77_11, e77_12, e77_13, e77_14, e77_15, e77_16, e77_17, e77_21, e77_24, e77_25, e77_28, e77_29, e77_30, e77_31, e77_32, e77_35, e77_36, e77_37, e77_38, e77_39, e77_42, e77_45, e77_46, e77_49, e77_50, e77_51, e77_52, e77_53, e77_56, e77_57, e77_60, e77_61, e77_62, e77_63, e77_64, e77_67, e77_68, e77_69, e77_72, e77_75, e77_78, e77_79, e77_80, e77_81, e77_84, e77_85, e77_86, e77_89, e77_91, e77_92, e77_95, e77_96, e77_97, e77_98, e77_99, e77_100, e77_101, e77_103, e77_104, e77_107, e77_108, e77_111, e77_113, e77_114, e77_115, e77_118, e77_119, e77_120, e77_122, e77_123, e77_126, e77_127, e77_130, e77_132, e77_133, e77_136, e77_139, e77_140, e77_142, e77_143, e77_146, e77_149, e77_150, t62z hR hZ hun, t61z hR hZ hun hlt, hc, c1, mw0 hW, mr8 hW, mk8 hW, mn8 hW, mr10 hW, mk10 hW, mn10 hW, mr13 hW, mk13 hW, mn13 hW, mr14 hW, mk14 hW, mn14 hW, pI_ns_z, pI_ns_s, pI_ns_k, pI_ns_n, pI_fI, pI_fJ, pI_fR, pI_aI, pI_aJ, pI_aR, pJ_ns_z, pJ_ns_s, pJ_ns_k, pJ_ns_n, pJ_fI, pJ_fJ, pJ_fR, pJ_aI, pJ_aJ, pJ_aR, pR_ns_z, pR_ns_s, pR_ns_k, pR_ns_n, pR_fI, pR_fJ, pR_fR, pR_aI, pR_aJ, pR_aR, qI_ns_z, qI_ns_s, qI_ns_k, qI_ns_n, qI_fI, qI_fJ, qI_fR, qI_aI, qI_aJ, qI_aR, qJ_ns_z, qJ_ns_s, qJ_ns_k, qJ_ns_n, qJ_fI, qJ_fJ, qJ_fR, qJ_aI, qJ_aJ, qJ_aR, qR_ns_z, qR_ns_s, qR_ns_k, qR_ns_n, qR_fI, qR_fJ, qR_fR, qR_aI, qR_aJ, qR_aR, nO_ns_z, nO_ns_s, nO_ns_k, nO_ns_n, nO_fI, nO_fJ, nO_fR, nO_aI, nO_aJ, nO_aR, nA_ns_z, nA_ns_s, nA_ns_k, nA_ns_n, nA_fI, nA_fJ, nA_fR, nA_aI, nA_aJ, nA_aR, nC_ns_z, nC_ns_s, nC_ns_k, nC_ns_n, nC_fI, nC_fJ, nC_fR, nC_aI, nC_aJ, nC_aR, Nat.zero_le, Nat.reduceAdd, Nat.reduceLeDiff, reduceIte, rf_c1, int_c1, none_c1, cat_nil, cat_int, cat_long, cat_rf, toList_s, toList_n, true_and, and_true, Option.some.injEq, exists_eq_left', exists_eq_left, reduceCtorEq, if_true, if_false, eq_self, a2, a2', a3, a4, u3, u4, w1, w2, w3, e', nI_1, c2, c3, c4, c5', d14, false_and, y, y0, y1]
            exact hr'
end MWALK2
