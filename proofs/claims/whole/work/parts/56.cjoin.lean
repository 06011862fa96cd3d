/-! ===== equal: the class joins groups ===== -/
theorem nxJ {J : List Nat} {f u : Nat} (hn : J.Nodup) (hf : f ∉ J) : (J ++ [f])[(J ++ [f]).idxOf u + 1]? = if J.getLast? = some u then some f else J[J.idxOf u + 1]? := by
  by_cases y : u ∈ J
  · have hi := List.idxOf_lt_length_of_mem y
    have hg : J[J.idxOf u]? = some u := by rw [List.getElem?_eq_getElem hi, List.getElem_idxOf hi]
    rw [List.idxOf_append, if_pos y]
    by_cases w : J.idxOf u + 1 < J.length
    · have hl : ¬ J.getLast? = some u := fun z => by
        rw [List.getLast?_eq_getElem?] at z
        have := (List.getElem?_inj hi hn).mp (hg.trans z.symm)
        omega
      rw [if_neg hl, List.getElem?_append_left w]
    · have e : J.idxOf u + 1 = J.length := by omega
      have hl : J.getLast? = some u := by
        rw [List.getLast?_eq_getElem?, ← hg]
        congr 1
        omega
      rw [if_pos hl, e, List.getElem?_append_right (Nat.le_refl _), Nat.sub_self]
      rfl
  · have hl : ¬ J.getLast? = some u := fun z => y (List.mem_of_getLast? z)
    rw [if_neg hl, List.idxOf_append, if_neg y, List.idxOf_eq_length y]
    rw [List.getElem?_eq_none (by simp), List.getElem?_eq_none (by omega)]
def jN1 (S : ns_St) (af al : Nat) : ns_St := pI (pR S 114 af (some al)) 115 al (fI S 115 al + (fI S 115 af + 1))
section CJOIN
variable {S : ns_St} {sh T wk cur : Nat} {ad na ha : Nat → Nat} {Z : Zs} {W : Nat → Prop} {ld : Nat → Option Nat} {J : List Nat} {mt : Nat}
theorem UM_join (h : UM S sh T wk ad na ha cur Z mt W ld J) (hU : Uf (zn Z) W ld J) {f l : Nat} (hWf : W f) (hWl : W l) (hfJ : f ∉ J) {S' : ns_St} (h1 : ns_k S' = ns_k S) (h2 : ns_n S' = ns_n S) (h3 : aJ S' = aJ S) (h4 : aR S' = aR S) (h5 : ∀ g a, g ≠ 115 → fI S' g a = fI S g a) (h6 : fJ S' = fJ S) (h7 : ∀ g a, g ≠ 114 → g ≠ 116 → g ≠ 0 → fR S' g a = fR S g a) (h8 : ∀ a, fR S' 114 a = if a = ad f then some (ad l) else fR S 114 a) (h9 : ∀ a, fR S' 116 a = if J.getLast?.map ad = some a then some (ad f) else fR S 116 a) (h10 : fR S' 0 mt = some (ad f)) : UM S' sh T wk ad na ha cur Z mt W (va_up ld f (some l)) (J ++ [f]) := by
  obtain ⟨u1, u2, u3, u4⟩ := h
  have inj : ∀ a b, W a → W b → ad a = ad b → a = b := fun a b ha hb e => (CR_inj u1 (hU.2.2.2.1 a ha) (hU.2.2.2.1 b hb)).mp e
  have jW : ∀ q, q ∈ J → W q := fun q hq => by
    cases e : ld q with
    | none => exact absurd e ((hU.2.1 q).mpr hq)
    | some v => exact (hU.1 q v e).2.1
  refine ⟨CR_same u1 h1 h2 h3 h4 (fun g a hg => h5 g a (by omega)) (fun g a hg => h7 g a (by omega) (by omega) (by omega)) (fun a => by rw [h6]) (fun v hv => by rw [h5 _ _ (by omega)]; exact CR_w u1 hv) (by rw [h5 _ _ (by omega)]; exact CR_200 u1), by rw [h1]; exact u2, fun u hu => ⟨?_, ?_⟩, ?_⟩
  · rw [h8]
    by_cases y : u = f
    · subst y
      rw [if_pos rfl, va_up_self]
      rfl
    · rw [if_neg (fun z => y (inj u f hu hWf z)), va_up_ne _ _ y]
      exact (u3 u hu).1
  · rw [h9, nxJ hU.2.2.1 hfJ]
    by_cases y : J.getLast? = some u
    · rw [if_pos y, if_pos (by rw [y]; rfl)]
      rfl
    · have hy : ¬ J.getLast?.map ad = some (ad u) := fun z => by
        cases e : J.getLast? with
        | none => rw [e] at z; cases z
        | some q =>
          rw [e] at z
          have z : some (ad q) = some (ad u) := z
          have z : ad q = ad u := by simpa using z
          have hq := inj q u (jW q (List.mem_of_getLast? e)) hu z
          rw [hq] at e
          exact y e
      rw [if_neg y, if_neg hy]
      exact (u3 u hu).2
  · rw [h10]
    simp
theorem c3 (h : UM S sh T wk ad na ha cur Z mt W ld J) (hZ : ZI Z) (hU : Uf (zn Z) W ld J) {u v ru rv : Nat} (hu : W u) (hv : W v) (hru : Rt ld u ru) (hrv : Rt ld v rv) : (ru = rv → Ev (3, 0, [some (va_rf (some mt)), some (va_rf (some (ad u))), some (va_rf (some (ad v))), none, none, none, none, none], [], S) (some (va_rf none), S)) ∧ (ru ≠ rv → ∃ f l S', ((f = ru ∧ l = rv) ∨ (f = rv ∧ l = ru)) ∧ Ev (3, 0, [some (va_rf (some mt)), some (va_rf (some (ad u))), some (va_rf (some (ad v))), none, none, none, none, none], [], S) (some (va_rf (some (ad f))), S') ∧ UM S' sh T wk ad na ha cur Z mt W (va_up ld f (some l)) (J ++ [f]) ∧ sz0 S S') := by
  have t1 := c4 h hZ hU hu hru
  have t2 := c4 h hZ hU hv hrv
  obtain ⟨u1, u2, u3, u4⟩ := id h
  have hWu := Rt_W hU hu hru
  have hWv := Rt_W hU hv hrv
  have ku := CR_k u1 (hU.2.2.2.1 ru hWu)
  have kv := CR_k u1 (hU.2.2.2.1 rv hWv)
  refine ⟨fun e => ?_, fun e => ?_⟩
  · subst e
    simp only [e3_0, e3_1, e3_4, e3_5, e3_6, e3_9, e3_11, e3_12, e3_14, e3_17, e3_18, e3_19, e3_20, e3_23, e3_25, e3_28, e3_31, e3_32, e3_35, e3_36, e3_38, e3_40, e3_43, e3_44, e3_47, e3_49, e3_51, e3_53, e3_56, e3_58, e3_61, e3_62, e3_64, e3_66, e3_68, e3_71, e3_73, e3_74, e3_77, e3_79, e3_82, e3_83, e3_84, e3_85, e3_88, e3_89, e3_92, e3_95, e3_96, e3_99, e3_101, e3_104, e3_105, e3_107, e3_110, e3_112, Ev_is t1, Ev_is t2, Nat.zero_le, Nat.reduceAdd, Nat.reduceLeDiff, reduceIte, rf_c1, int_c1, none_c1, cat_nil, cat_int, cat_long, cat_rf, toList_s, toList_n, true_and, and_true, Option.some.injEq, exists_eq_left', exists_eq_left, reduceCtorEq, if_true, if_false, eq_self]
  · have hne : ¬ ad ru = ad rv := fun z => e ((CR_inj u1 (hU.2.2.2.1 ru hWu) (hU.2.2.2.1 rv hWv)).mp z)
    -- f follows l: what the rest does
    have rest : ∀ f l, W f → W l → f ≠ l → ld f = none → ∀ (l3 l4 : Option Value) (b5 : Int32), ∃ S', UM S' sh T wk ad na ha cur Z mt W (va_up ld f (some l)) (J ++ [f]) ∧ sz0 S S' ∧ Ev (3, 64, [some (va_rf (some mt)), some (va_rf (some (ad u))), some (va_rf (some (ad v))), l3, l4, some (.int b5), some (va_rf (some (ad f))), some (va_rf (some (ad l)))], [], S) (some (va_rf (some (ad f))), S') := by
      intro f l hWf hWl hfl hf l3 l4 b5
      have hfJ : f ∉ J := fun z => (hU.2.1 f).mpr z hf
      have kf := CR_k u1 (hU.2.2.2.1 f hWf)
      have kl := CR_k u1 (hU.2.2.2.1 l hWl)
      have k1 : ∀ x, ns_k (jN1 S (ad f) (ad l)) x = ns_k S x := fun x => by unfold jN1; rw [pI_ns_k, pR_ns_k]
      have k0 : fR (jN1 S (ad f) (ad l)) 0 mt = fR S 0 mt := by unfold jN1; rw [pI_fR, pR_fR, if_neg (by omega)]
      have k2 : ∀ x, ns_k (pR S 114 (ad f) (some (ad l))) x = ns_k S x := fun x => by rw [pR_ns_k]
      have k3 : ∀ x, fI (pR S 114 (ad f) (some (ad l))) 115 x = fI S 115 x := fun x => by rw [pR_fI]
      have ej : pI (pR S 114 (ad f) (some (ad l))) 115 (ad l) (fI S 115 (ad l) + (fI S 115 (ad f) + 1)) = jN1 S (ad f) (ad l) := rfl
      cases hl : J.getLast? with
      | none =>
        rw [hl] at u4
        rw [show Option.map ad none = none from rfl] at u4
        rw [u4] at k0
        refine ⟨pR (jN1 S (ad f) (ad l)) 0 mt (some (ad f)), UM_join h hU hWf hWl hfJ (by rw [pR_ns_k]; funext x; exact k1 x) (by rw [pR_ns_n]; unfold jN1; rw [pI_ns_n, pR_ns_n]) (by rw [pR_aJ]; unfold jN1; rw [pI_aJ, pR_aJ]) (by rw [pR_aR]; unfold jN1; rw [pI_aR, pR_aR]) (fun g a hg => ?_) (by rw [pR_fJ]; unfold jN1; rw [pI_fJ, pR_fJ]) (fun g a g1 g2 g3 => ?_) (fun a => ?_) (fun a => ?_) ?_, ⟨?_, ?_⟩, ?_⟩
        · rw [pR_fI]; unfold jN1; rw [pI_fI, if_neg (fun z => hg z.1), pR_fI]
        · rw [pR_fR, if_neg (fun z => g3 z.1)]; unfold jN1; rw [pI_fR, pR_fR, if_neg (fun z => g1 z.1)]
        · rw [pR_fR, if_neg (by omega)]; unfold jN1; rw [pI_fR, pR_fR]
          by_cases y : a = ad f
          · rw [if_pos y, if_pos ⟨rfl, y⟩]
          · rw [if_neg y, if_neg (fun z => y z.2)]
        · rw [hl, if_neg (by simp), pR_fR, if_neg (by omega)]; unfold jN1; rw [pI_fR, pR_fR, if_neg (by omega)]
        · rw [pR_fR, if_pos ⟨rfl, rfl⟩]
        · rw [pR_ns_z]; unfold jN1; rw [pI_ns_z, pR_ns_z]
        · rw [pR_ns_s]; unfold jN1; rw [pI_ns_s, pR_ns_s]
        · simp only [e3_64, e3_66, e3_68, e3_71, e3_73, e3_74, e3_77, e3_79, e3_82, e3_83, e3_84, e3_85, e3_88, e3_89, e3_92, e3_95, e3_96, e3_99, e3_101, e3_104, e3_105, e3_107, e3_110, e3_112, Nat.zero_le, Nat.reduceAdd, Nat.reduceLeDiff, reduceIte, rf_c1, int_c1, none_c1, cat_nil, cat_int, cat_long, cat_rf, toList_s, toList_n, true_and, and_true, Option.some.injEq, exists_eq_left', exists_eq_left, reduceCtorEq, if_true, if_false, eq_self, kf, kl, u2, k1, k2, k3, ej, k0]
      | some q =>
        rw [hl] at u4
        rw [show Option.map ad (some q) = some (ad q) from rfl] at u4
        rw [u4] at k0
        have hqW : W q := by
          cases e : ld q with
          | none => exact absurd e ((hU.2.1 q).mpr (List.mem_of_getLast? hl))
          | some v => exact (hU.1 q v e).2.1
        have kq := CR_k u1 (hU.2.2.2.1 q hqW)
        have k5 : ∀ x, ns_k (pR (jN1 S (ad f) (ad l)) 116 (ad q) (some (ad f))) x = ns_k S x := fun x => by rw [pR_ns_k]; exact k1 x
        refine ⟨pR (pR (jN1 S (ad f) (ad l)) 116 (ad q) (some (ad f))) 0 mt (some (ad f)), UM_join h hU hWf hWl hfJ (by rw [pR_ns_k]; funext x; exact k5 x) (by rw [pR_ns_n, pR_ns_n]; unfold jN1; rw [pI_ns_n, pR_ns_n]) (by rw [pR_aJ, pR_aJ]; unfold jN1; rw [pI_aJ, pR_aJ]) (by rw [pR_aR, pR_aR]; unfold jN1; rw [pI_aR, pR_aR]) (fun g a hg => ?_) (by rw [pR_fJ, pR_fJ]; unfold jN1; rw [pI_fJ, pR_fJ]) (fun g a g1 g2 g3 => ?_) (fun a => ?_) (fun a => ?_) ?_, ⟨?_, ?_⟩, ?_⟩
        · rw [pR_fI, pR_fI]; unfold jN1; rw [pI_fI, if_neg (fun z => hg z.1), pR_fI]
        · rw [pR_fR, if_neg (fun z => g3 z.1), pR_fR, if_neg (fun z => g2 z.1)]; unfold jN1; rw [pI_fR, pR_fR, if_neg (fun z => g1 z.1)]
        · rw [pR_fR, if_neg (by omega), pR_fR, if_neg (by omega)]; unfold jN1; rw [pI_fR, pR_fR]
          by_cases y : a = ad f
          · rw [if_pos y, if_pos ⟨rfl, y⟩]
          · rw [if_neg y, if_neg (fun z => y z.2)]
        · rw [hl, pR_fR, if_neg (by omega), pR_fR]
          by_cases y : a = ad q
          · rw [if_pos ⟨rfl, y⟩, if_pos (by rw [y]; rfl)]
          · rw [if_neg (fun z => y z.2), if_neg (fun z => y (by
              have z : some (ad q) = some a := z
              cases z
              rfl))]
            unfold jN1
            rw [pI_fR, pR_fR, if_neg (by omega)]
        · rw [pR_fR, if_pos ⟨rfl, rfl⟩]
        · rw [pR_ns_z, pR_ns_z]; unfold jN1; rw [pI_ns_z, pR_ns_z]
        · rw [pR_ns_s, pR_ns_s]; unfold jN1; rw [pI_ns_s, pR_ns_s]
        · simp only [e3_64, e3_66, e3_68, e3_71, e3_73, e3_74, e3_77, e3_79, e3_82, e3_83, e3_84, e3_85, e3_88, e3_89, e3_92, e3_95, e3_96, e3_99, e3_101, e3_104, e3_105, e3_107, e3_110, e3_112, Nat.zero_le, Nat.reduceAdd, Nat.reduceLeDiff, reduceIte, rf_c1, int_c1, none_c1, cat_nil, cat_int, cat_long, cat_rf, toList_s, toList_n, true_and, and_true, Option.some.injEq, exists_eq_left', exists_eq_left, reduceCtorEq, if_true, if_false, eq_self, kf, kl, kq, u2, k1, k2, k3, k5, ej, k0]
    by_cases y : fI S 115 (ad rv) < fI S 115 (ad ru)
    · obtain ⟨S', g1, g2, g3⟩ := rest rv ru hWv hWu (fun z => e z.symm) (Rt_root hrv) (some (va_rf (some (ad ru)))) (some (va_rf (some (ad rv)))) 0
      refine ⟨rv, ru, S', Or.inr ⟨rfl, rfl⟩, ?_, g1, g2⟩
      simp only [e3_0, e3_1, e3_4, e3_5, e3_6, e3_9, e3_11, e3_12, e3_14, e3_17, e3_18, e3_19, e3_20, e3_23, e3_25, e3_28, e3_31, e3_32, e3_35, e3_36, e3_38, e3_40, e3_43, e3_44, e3_47, e3_49, e3_51, e3_53, e3_56, e3_58, e3_61, e3_62, Ev_is t1, Ev_is t2, Nat.zero_le, Nat.reduceAdd, Nat.reduceLeDiff, reduceIte, rf_c1, int_c1, none_c1, cat_nil, cat_int, cat_long, cat_rf, toList_s, toList_n, true_and, and_true, Option.some.injEq, exists_eq_left', exists_eq_left, reduceCtorEq, if_true, if_false, eq_self, hne, ku, kv, y]
      simpa using g3
    · obtain ⟨S', g1, g2, g3⟩ := rest ru rv hWu hWv e (Rt_root hru) (some (va_rf (some (ad ru)))) (some (va_rf (some (ad rv)))) 1
      refine ⟨ru, rv, S', Or.inl ⟨rfl, rfl⟩, ?_, g1, g2⟩
      simp only [e3_0, e3_1, e3_4, e3_5, e3_6, e3_9, e3_11, e3_12, e3_14, e3_17, e3_18, e3_19, e3_20, e3_23, e3_25, e3_28, e3_31, e3_32, e3_35, e3_36, e3_38, e3_40, e3_43, e3_44, e3_47, e3_49, e3_51, e3_53, e3_56, e3_58, e3_61, e3_62, Ev_is t1, Ev_is t2, Nat.zero_le, Nat.reduceAdd, Nat.reduceLeDiff, reduceIte, rf_c1, int_c1, none_c1, cat_nil, cat_int, cat_long, cat_rf, toList_s, toList_n, true_and, and_true, Option.some.injEq, exists_eq_left', exists_eq_left, reduceCtorEq, if_true, if_false, eq_self, hne, ku, kv, y]
      simpa using g3
def Snd (Z : Zs) (ld : Nat → Option Nat) : Prop := ∀ w z, ld w = some z → EqZ Z w z
/-- one join, whatever the tops are -/
theorem c3j (h : UM S sh T wk ad na ha cur Z mt W ld J) (hZ : ZI Z) (hU : Uf (zn Z) W ld J) {u v : Nat} (hu : W u) (hv : W v) : ∃ S' ld' E o, Ev (3, 0, [some (va_rf (some mt)), some (va_rf (some (ad u))), some (va_rf (some (ad v))), none, none, none, none, none], [], S) (some (va_rf o), S') ∧ UM S' sh T wk ad na ha cur Z mt W ld' (J ++ E) ∧ Uf (zn Z) W ld' (J ++ E) ∧ sz0 S S' ∧ o = E.head?.map ad ∧ (∀ w z, ld w = some z → ld' w = some z) ∧ (∀ a b, St ld a b → St ld' a b) ∧ St ld' u v ∧ (EqZ Z u v → Snd Z ld → Snd Z ld') := by
  obtain ⟨ru, hru⟩ := Rt_ex hU J.length u (by omega)
  obtain ⟨rv, hrv⟩ := Rt_ex hU J.length v (by omega)
  obtain ⟨g1, g2⟩ := c3 h hZ hU hu hv hru hrv
  have hl := Lks_Z Z
  by_cases e : ru = rv
  · refine ⟨S, ld, [], none, g1 e, by rw [List.append_nil]; exact h, by rw [List.append_nil]; exact hU, ⟨rfl, rfl⟩, rfl, fun _ _ z => z, fun _ _ z => z, ⟨ru, hru, by rw [e]; exact hrv⟩, fun _ z => z⟩
  · obtain ⟨f, l, S', hfl, p1, p2, p3⟩ := g2 e
    have hWu := Rt_W hU hu hru
    have hWv := Rt_W hU hv hrv
    have key : W f ∧ W l ∧ f ≠ l ∧ ld f = none ∧ ld l = none := by
      rcases hfl with ⟨rfl, rfl⟩ | ⟨rfl, rfl⟩
      · exact ⟨hWu, hWv, e, Rt_root hru, Rt_root hrv⟩
      · exact ⟨hWv, hWu, fun z => e z.symm, Rt_root hrv, Rt_root hru⟩
    obtain ⟨k1, k2, k3, k4, k5⟩ := key
    refine ⟨S', va_up ld f (some l), [f], some (ad f), p1, p2, Uf_join hU k4 k5 k3 k1 k2, p3, rfl, fun w z hw => ?_, fun a b => St_join k4 k5 k3, ?_, fun hE hS w z hw => ?_⟩
    · rw [va_up_ne _ _ (fun y => by rw [y, k4] at hw; cases hw)]
      exact hw
    · have a1 := Rt_join k4 k5 k3 hru
      have a2 := Rt_join k4 k5 k3 hrv
      rcases hfl with ⟨rfl, rfl⟩ | ⟨rfl, rfl⟩
      · rw [if_pos rfl] at a1
        rw [if_neg (fun z => e z.symm)] at a2
        exact ⟨l, a1, a2⟩
      · rw [if_neg e] at a1
        rw [if_pos rfl] at a2
        exact ⟨l, a1, a2⟩
    · by_cases y : w = f
      · subst y
        rw [va_up_self] at hw
        cases hw
        have b1 : EqZ Z u ru := Rt_eqv hl hS hru
        have b2 : EqZ Z v rv := Rt_eqv hl hS hrv
        have b3 : EqZ Z ru rv := Eqv_trans hl (Eqv_symm hl b1) (Eqv_trans hl hE b2)
        rcases hfl with ⟨rfl, rfl⟩ | ⟨rfl, rfl⟩
        · exact b3
        · exact Eqv_symm hl b3
      · rw [va_up_ne _ _ y] at hw
        exact hS w z hw
end CJOIN
