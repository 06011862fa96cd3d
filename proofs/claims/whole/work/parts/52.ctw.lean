/-! ===== copy: the class's twins ===== -/
section CTW
variable {sh T wk cur : Nat} {ad : Nat → Nat} {Z : Zs} {pre : List Nat}
def TW (S : ns_St) (sh T wk cur : Nat) (ad : Nat → Nat) (Z Z' : Zs) (pre a : List Nat) (ad' na' ha' : Nat → Nat) : Prop := CR S sh T wk ad' na' ha' cur Z' ∧ (∀ i, i < zn Z → ad' i = ad i) ∧ NX S ad pre ∧ ∀ k u, a[k]? = some u → fR S 113 (ad u) = some (ad' (zn Z + k))
theorem c_tw1 (hZ : ZI Z) (hnd : pre.Nodup) (hlt : ∀ u, u ∈ pre → u < zn Z) (hlen : zn Z + pre.length ≤ 2000) (o1 : Nat) (f1 : Int32) : ∀ (d : Nat) (a b : List Nat) (S : ns_St) (ad' na' ha' : Nat → Nat), b.length = d → pre = a ++ b → TW S sh T wk cur ad Z (cpL Z a) pre a ad' na' ha' → ∃ S' ad'' na'' ha'' l3 l4, TW S' sh T wk cur ad Z (cpL Z pre) pre pre ad'' na'' ha'' ∧ ns_z S' ≤ ns_z S + 3 * d ∧ ns_s S' ≤ ns_s S + 600 * d ∧ ∀ r, Ev (51, 54, [some (va_rf (some sh)), some (va_rf (some o1)), some (.int f1), some (va_rf l3), some (.int l4)], [], S') r → Ev (51, 10, [some (va_rf (some sh)), some (va_rf (some o1)), some (.int f1), some (va_rf (b.head?.map ad)), some (.int (nI a.length))], [], S) r := by
  have hn := hZ.1
  intro d
  induction d with
  | zero =>
    intro a b S ad' na' ha' hb hab h
    have e : b = [] := List.length_eq_zero_iff.mp hb
    subst e
    rw [List.append_nil] at hab
    subst hab
    refine ⟨S, ad', na', ha', none, nI pre.length, h, by omega, by omega, fun r hr => ?_⟩
    rw [e51_10]
    simp only [e51_12, e51_15, e51_18, e51_19, Nat.zero_le, Nat.reduceAdd, Nat.reduceLeDiff, reduceIte, rf_c1, int_c1, none_c1, cat_nil, cat_int, cat_long, cat_rf, toList_s, toList_n, true_and, and_true, Option.some.injEq, exists_eq_left', exists_eq_left, reduceCtorEq, if_true, if_false, eq_self, List.head?_nil, Option.map_none, ite_self]
    exact hr
  | succ d ih =>
    intro a b S ad' na' ha' hb hab h
    match b, hb, hab with
    | u :: b, hb, hab =>
      obtain ⟨hR, had, hnx, htw⟩ := h
      have hup : u ∈ pre := by rw [hab]; simp
      have hun := hlt u hup
      have hal : a.length < pre.length := by rw [hab]; simp
      have hua : u ∉ a := by
        rw [hab, List.nodup_append] at hnd
        exact fun z => hnd.2.2 u z u (by simp) rfl
      obtain ⟨hCp, hZa⟩ := cpL_ok hZ _ a rfl (fun v hv => hlt v (by rw [hab]; simp [hv])) (by omega)
      have hza : zn (cpL Z a) = zn Z + a.length := hCp.1
      have hun' : u < zn (cpL Z a) := by omega
      have hlt' : zn (cpL Z a) < 2000 := by omega
      have h1 : ns_k S sh = 4 := hR.1.1
      have h2 : fI S 302 sh = nI (zn (cpL Z a)) := hR.1.2.2.2.1
      have ku := CR_k hR hun'
      rw [had u hun] at ku
      have c := fun (r : ns_Rs) => c6 (S := S) (u := u) (id := nI (zn (cpL Z a))) (r := r) hR hun'
      rw [had u hun] at c
      obtain ⟨x1, x2, x3, x4, x5, x6⟩ := dup_ok hR hZa hun' rfl
      revert c x1 x2 x3 x4 x5 x6
      generalize dN S (na' u) (ha' u) (nI (zn (cpL Z a))) (nI (zk (cpL Z a) u)) (zv (cpL Z a) u) (own (cpL Z a) u) = S5
      intro c x1 x2 x3 x4 x5 x6
      have yw : ∀ f x, f ≠ 113 → fR (pR S5 113 (ad u) (some (ns_z S))) f x = fR S5 f x := fun f x hf => by rw [pR_fR, if_neg (fun z => hf z.1)]
      obtain ⟨y1, y2⟩ := x6 (pR S5 113 (ad u) (some (ns_z S))) (pR_ns_k ..) (pR_ns_n ..) (pR_aJ ..) (pR_aR ..) (pR_fI ..) (pR_fJ ..) yw
      have adlt : ∀ v, v < zn Z → ad v < ns_z S := fun v hv => by
        have := (CR_new2 hR (show v < zn (cpL Z a) by omega)).2.2
        rw [had v hv] at this
        exact this
      have adinj : ∀ v w, v < zn Z → w < zn Z → ad v = ad w → v = w := fun v w hv hw e => by
        rw [← had v hv, ← had w hw] at e
        exact (CR_inj hR (by omega) (by omega)).mp e
      have ku5 : ns_k S5 (ad u) = 2 := by rw [(x1.2 _ (adlt u hun)).1]; exact ku
      have k15 : ns_k S5 sh = 4 := by rw [← pR_ns_k S5 113 (ad u) (some (ns_z S))]; exact y1.1.1
      have k16 : ns_k (pR S5 113 (ad u) (some (ns_z S))) sh = 4 := y1.1.1
      have c' := fun (r : ns_Rs) => c38 (S := pR S5 113 (ad u) (some (ns_z S))) (a := ns_z S) (r := r) y1 hZa hlt' (by rw [pR_ns_k]; exact x4)
      have rd : ∀ f v, v < zn Z → fR (shv (pR S5 113 (ad u) (some (ns_z S))) sh T (zn (cpL Z a)) (ns_z S)) f (ad v) = if f = 113 ∧ v = u then some (ns_z S) else fR S f (ad v) := fun f v hv => by
        rw [pI_fR, qR_fR, pR_fR]
        by_cases w : f = 113 ∧ v = u
        · rw [if_pos w, if_pos ⟨w.1, by rw [w.2]⟩]
        · rw [if_neg w, if_neg (fun z => w ⟨z.1, adinj v u hv hun z.2⟩)]
          exact (x1.2 _ (adlt v hv)).2.2.2.2.1 f
      have hTW : TW (shv (pR S5 113 (ad u) (some (ns_z S))) sh T (zn (cpL Z a)) (ns_z S)) sh T wk cur ad Z (cpL Z (a ++ [u])) pre (a ++ [u]) (va_up ad' (zn (cpL Z a)) (ns_z S)) (va_up na' (zn (cpL Z a)) (ns_z S + 1)) (va_up ha' (zn (cpL Z a)) (ns_z S + 2)) := by
        refine ⟨by rw [cpL_snoc]; exact y2, fun i hi => by rw [va_up_ne _ _ (by omega)]; exact had i hi, fun i x hi => ?_, fun k v hk => ?_⟩
        · rw [rd 110 x (hlt x (List.mem_of_getElem? hi)), if_neg (by omega)]
          exact hnx i x hi
        · by_cases w : k < a.length
          · rw [List.getElem?_append_left w] at hk
            have hva : v ∈ a := List.mem_of_getElem? hk
            have hvn : v < zn Z := hlt v (by rw [hab]; simp [hva])
            rw [rd 113 v hvn, if_neg (fun z : 113 = 113 ∧ v = u => hua (z.2 ▸ hva)), va_up_ne _ _ (by omega)]
            exact htw k v hk
          · have hl2 : k < (a ++ [u]).length := (List.getElem?_eq_some_iff.mp hk).1
            have e : k = a.length := by simp at hl2; omega
            subst e
            rw [List.getElem?_append_right (Nat.le_refl _), Nat.sub_self] at hk
            have : u = v := by simpa using hk
            subst this
            rw [rd 113 u hun, if_pos ⟨rfl, rfl⟩, hza, va_up_self]
      obtain ⟨S', ad'', na'', ha'', l3, l4, g1, g2, g3, g4⟩ := ih (a ++ [u]) b _ _ _ _ (by simpa using hb) (by rw [hab]; simp) hTW
      have z7 : ns_z (shv (pR S5 113 (ad u) (some (ns_z S))) sh T (zn (cpL Z a)) (ns_z S)) = ns_z S + 3 := by rw [pI_ns_z, qR_ns_z, pR_ns_z]; exact x2
      have s7 : ns_s (shv (pR S5 113 (ad u) (some (ns_z S))) sh T (zn (cpL Z a)) (ns_z S)) ≤ ns_s S + 600 := by rw [pI_ns_s, qR_ns_s, pR_ns_s]; exact x3
      refine ⟨S', ad'', na'', ha'', l3, l4, g1, by omega, by omega, fun r hr => ?_⟩
      have g5 := g4 r hr
      have z : ¬ (2000 : Int32) ≤ nI a.length := nI_ge (b := 2000) (by omega) (by omega)
      have enx : fR (shv (pR S5 113 (ad u) (some (ns_z S))) sh T (zn (cpL Z a)) (ns_z S)) 110 (ad u) = b.head?.map ad := by
        rw [rd 110 u hun, if_neg (by omega), hnx a.length u (by rw [hab]; simp)]
        rw [hab, List.getElem?_append_right (by omega)]
        have e : a.length + 1 - a.length = 1 := by omega
        rw [e]
        cases b with
        | nil => rfl
        | cons y b => rfl
      have k7 : ns_k (shv (pR S5 113 (ad u) (some (ns_z S))) sh T (zn (cpL Z a)) (ns_z S)) (ad u) = 2 := by rw [pI_ns_k, qR_ns_k, pR_ns_k]; exact ku5
      have e113 : fR (pR S5 113 (ad u) (some (ns_z S))) 113 (ad u) = some (ns_z S) := by rw [pR_fR, if_pos ⟨rfl, rfl⟩]
      have k6 : ns_k (pR S5 113 (ad u) (some (ns_z S))) (ad u) = 2 := by rw [pR_ns_k]; exact ku5
      rw [List.length_append] at g5
      simp only [List.length_cons, List.length_nil] at g5
      rw [e51_10]
      simp only [e51_12, e51_15, e51_18, e51_19, e51_22, e51_23, e51_24, e51_25, e51_28, e51_31, e51_34, e51_35, e51_36, e51_39, e51_42, e51_42i, e51_43, e51_44, e51_47, e51_48, e51_51, c, c', Nat.zero_le, Nat.reduceAdd, Nat.reduceLeDiff, reduceIte, rf_c1, int_c1, none_c1, cat_nil, cat_int, cat_long, cat_rf, toList_s, toList_n, true_and, and_true, Option.some.injEq, exists_eq_left', exists_eq_left, reduceCtorEq, if_true, if_false, eq_self, List.head?_cons, Option.map_some, z, h1, h2, ku, ku5, k6, k7, k15, k16, e113, enx, nI_1, cat_nil, cat_rf, cat_int]
      simpa using g5
theorem rhf_n (tw : Nat → Nat) (Z : Zs) (c i : Nat) (h : zh Z c i = none) : rhf tw Z c (i + 1) = rhf tw Z c i := by
  rw [← rhf_s, h]
  funext j
  by_cases y : j = i
  · subst y
    rw [Option.map_none, va_up_self]
    unfold rhf
    rw [if_neg (Nat.lt_irrefl _), h]
  · rw [va_up_ne _ _ y]
theorem c_hang1 {tw : Nat → Nat} {ad' na' ha' : Nat → Nat} {Y : Zs} (hY : ZI Y) {c a0 : Nat} (hc : c < zn Y) (hcc : ad' c = a0) {al : Option Value} : ∀ (d i : Nat) (S : ns_St) (l3 : Option Value), i + d = chl Y c → CR S sh T wk ad' na' ha' cur (wF Y c (rhf tw Y c i)) → (∀ x j, j < chl Y c → zh Y c j = some x → ns_k S (ad' x) = 2 ∧ fR S 113 (ad' x) = some (ad' (tw x)) ∧ tw x < zn Y) → ∃ S', CR S' sh T wk ad' na' ha' cur (rhg tw Y c) ∧ fR S' = fR S ∧ sz0 S S' ∧ Ev (52, 12, [al, some (va_rf (some a0)), some (.int (nI i)), l3], [], S) (none, S') := by
  subst hcc
  have hn := hY.1
  have hcl : chl Y c ≤ 500 := by
    unfold chl
    have := (hY.2.1 c hc).2.1
    split <;> omega
  intro d
  induction d with
  | zero =>
    intro i S l3 hi h hx
    have e : i = chl Y c := by omega
    subst e
    obtain ⟨q1, q2, q3, q4⟩ := CR_h h (u := c) hc
    have q3 : ns_n S (ha' c) = chl Y c := q3
    have kc := CR_k h (u := c) hc
    refine ⟨S, h, rfl, ⟨rfl, rfl⟩, ?_⟩
    have z : nI (chl Y c) ≤ nI (chl Y c) := nI_le (Nat.le_refl _) (by omega)
    rw [e52_12]
    simp only [e52_13, e52_14, e52_17, e52_18, e52_48, Nat.zero_le, Nat.reduceAdd, Nat.reduceLeDiff, reduceIte, rf_c1, int_c1, none_c1, cat_nil, cat_int, cat_long, cat_rf, toList_s, toList_n, true_and, and_true, Option.some.injEq, exists_eq_left', exists_eq_left, reduceCtorEq, if_true, if_false, eq_self, kc, q1, q2, q3, z]
    all_goals simp
  | succ d ih =>
    intro i S l3 hi h hx
    have hlt : i < chl Y c := by omega
    obtain ⟨q1, q2, q3, q4⟩ := CR_h h (u := c) hc
    have q3 : ns_n S (ha' c) = chl Y c := q3
    have kc := CR_k h (u := c) hc
    have q5 := q4 i hlt
    rw [wF_zh] at q5
    have q6 : rhf tw Y c i i = zh Y c i := by unfold rhf; rw [if_neg (Nat.lt_irrefl _)]
    rw [q6] at q5
    have z : ¬ nI (chl Y c) ≤ nI i := nI_ge hlt (by omega)
    have a3 : (nI i).toNatClampNeg = i := nI_clamp (by omega)
    have a4 := in_ok hlt (by omega)
    cases hz : zh Y c i with
    | none =>
      rw [hz] at q5
      obtain ⟨S', g1, g2, g3, g4⟩ := ih (i + 1) S (some (va_rf none)) (by omega) (by rw [rhf_n tw Y c i hz]; exact h) hx
      refine ⟨S', g1, g2, g3, ?_⟩
      rw [e52_12]
      simp only [e52_13, e52_14, e52_17, e52_18, e52_21, e52_22, e52_25, e52_26, e52_27, e52_28, e52_29, e52_32, e52_33, e52_36, e52_37, e52_38, e52_41, e52_42, e52_45, Nat.zero_le, Nat.reduceAdd, Nat.reduceLeDiff, reduceIte, rf_c1, int_c1, none_c1, cat_nil, cat_int, cat_long, cat_rf, toList_s, toList_n, true_and, and_true, Option.some.injEq, exists_eq_left', exists_eq_left, reduceCtorEq, if_true, if_false, eq_self, kc, q1, q2, q3, q5, z, a3, a4, Option.map_none, nI_1]
      simpa using g4
    | some x =>
      rw [hz] at q5
      obtain ⟨w1, w2, w3⟩ := hx x i hlt hz
      have h1 : CR (qR S (ha' c) i (some (ad' (tw x)))) sh T wk ad' na' ha' cur (wF Y c (rhf tw Y c (i + 1))) := by
        have := CR_hang h (j := c) (x := i) hc (some (tw x))
        rw [wF_wH] at this
        rw [← rhf_s, hz]
        exact this
      obtain ⟨S', g1, g2, g3, g4⟩ := ih (i + 1) (qR S (ha' c) i (some (ad' (tw x)))) (some (va_rf (some (ad' x)))) (by omega) h1 hx
      refine ⟨S', g1, g2, g3, ?_⟩
      have ok : ns_okT S (some (ad' (tw x))) = true := okT_ad h (x := some (tw x)) (fun y hy => by cases hy; exact w3)
      rw [e52_12]
      simp only [e52_13, e52_14, e52_17, e52_18, e52_21, e52_22, e52_25, e52_26, e52_27, e52_28, e52_29, e52_32, e52_33, e52_36, e52_37, e52_38, e52_41, e52_42, e52_45, Nat.zero_le, Nat.reduceAdd, Nat.reduceLeDiff, reduceIte, rf_c1, int_c1, none_c1, cat_nil, cat_int, cat_long, cat_rf, toList_s, toList_n, true_and, and_true, Option.some.injEq, exists_eq_left', exists_eq_left, reduceCtorEq, if_true, if_false, eq_self, kc, q1, q2, q3, q5, z, a3, a4, Option.map_some, nI_1, w1, w2, ok]
      simpa using g4
theorem c_tw2 (hZ : ZI Z) (hnd : pre.Nodup) (hlt : ∀ u, u ∈ pre → u < zn Z) (hcl : ∀ u p c, u ∈ pre → p < chl Z u → zh Z u p = some c → c ∈ pre) (hlen : zn Z + pre.length ≤ 2000) (o1 : Nat) (f1 : Int32) {tw : Nat → Nat} (htw : ∀ u, tw u = zn Z + pre.idxOf u) {ad' na' ha' : Nat → Nat} : ∀ (d : Nat) (a b : List Nat) (S : ns_St), b.length = d → pre = a ++ b → TW S sh T wk cur ad Z (rhK tw (cpL Z pre) (zn Z) a.length) pre pre ad' na' ha' → ∃ S', CR S' sh T wk ad' na' ha' cur (rhK tw (cpL Z pre) (zn Z) pre.length) ∧ sz0 S S' ∧ Ev (51, 59, [some (va_rf (some sh)), some (va_rf (some o1)), some (.int f1), some (va_rf (b.head?.map ad)), some (.int (nI a.length))], [], S) (some (.int f1), S') := by
  have hn := hZ.1
  intro d
  induction d with
  | zero =>
    intro a b S hb hab h
    have e : b = [] := List.length_eq_zero_iff.mp hb
    subst e
    rw [List.append_nil] at hab
    subst hab
    refine ⟨S, h.1, ⟨rfl, rfl⟩, ?_⟩
    rw [e51_59]
    simp only [e51_61, e51_64, e51_67, e51_68, e51_86, e51_87, Nat.zero_le, Nat.reduceAdd, Nat.reduceLeDiff, reduceIte, rf_c1, int_c1, none_c1, cat_nil, cat_int, cat_long, cat_rf, toList_s, toList_n, true_and, and_true, Option.some.injEq, exists_eq_left', exists_eq_left, reduceCtorEq, if_true, if_false, eq_self, List.head?_nil, Option.map_none, ite_self]
  | succ d ih =>
    intro a b S hb hab h
    match b, hb, hab with
    | u :: b, hb, hab =>
      obtain ⟨hR, had, hnx, h113⟩ := h
      have hup : u ∈ pre := by rw [hab]; simp
      have hun := hlt u hup
      have hal : a.length < pre.length := by rw [hab]; simp
      have hget : pre[a.length]? = some u := by rw [hab]; simp
      obtain ⟨hCp, hZp⟩ := cpL_ok hZ _ pre rfl hlt hlen
      obtain ⟨r1, r2, r3, r4, r5, r6, r7⟩ := rhK_ok tw (cpL Z pre) (zn Z) a.length
      have idx : ∀ k v, pre[k]? = some v → pre.idxOf v = k := fun k v hk => by
        have hv : v ∈ pre := List.mem_of_getElem? hk
        have hi := List.idxOf_lt_length_of_mem hv
        have hg : pre[pre.idxOf v]? = some v := by rw [List.getElem?_eq_getElem hi, List.getElem_idxOf hi]
        exact (List.getElem?_inj hi hnd).mp (hg.trans hk.symm)
      -- a twin's row is its thing's
      have row : ∀ k v, pre[k]? = some v → chl (cpL Z pre) (zn Z + k) = chl Z v ∧ zh (cpL Z pre) (zn Z + k) = zh Z v := fun k v hk => by
        obtain ⟨q1, q2, q3, q4, q5⟩ := hCp.2.2.2 k v hk
        exact ⟨by unfold chl; rw [q1, q2], q5⟩
      have hYI : ZI (rhK tw (cpL Z pre) (zn Z) a.length) := ZI_rhK hZp a.length (by rw [hCp.1]; omega) (fun c j x h1 h2 hj hx => by
        obtain ⟨k, rfl⟩ : ∃ k, c = zn Z + k := ⟨c - zn Z, by omega⟩
        obtain ⟨v, hv⟩ : ∃ v, pre[k]? = some v := ⟨_, List.getElem?_eq_getElem (show k < pre.length by omega)⟩
        obtain ⟨w1, w2⟩ := row k v hv
        rw [w1] at hj
        rw [w2] at hx
        have := List.idxOf_lt_length_of_mem (hcl v j x (List.mem_of_getElem? hv) hj hx)
        rw [htw, hCp.1]
        omega)
      obtain ⟨w1, w2⟩ := row a.length u hget
      have hcY : zn Z + a.length < zn (rhK tw (cpL Z pre) (zn Z) a.length) := by rw [r1, hCp.1]; omega
      have e1 : chl (rhK tw (cpL Z pre) (zn Z) a.length) (zn Z + a.length) = chl Z u := by
        rw [← w1]
        unfold chl
        rw [r2, r3]
      have e2 : zh (rhK tw (cpL Z pre) (zn Z) a.length) (zn Z + a.length) = zh Z u := by rw [r7 _ (by omega), w2]
      have ku : ns_k S (ad u) = 2 := by
        have := CR_k hR (show u < zn (rhK tw (cpL Z pre) (zn Z) a.length) by rw [r1, hCp.1]; omega)
        rw [had u hun] at this
        exact this
      have f113 := h113 a.length u hget
      obtain ⟨S1, p1, p2, p3, p4⟩ := c_hang1 (sh := sh) (T := T) (wk := wk) (cur := cur) (al := some (va_rf (some (ad u)))) (na' := na') (ha' := ha') (tw := tw) hYI hcY (ad' := ad') rfl (chl Z u) 0 S none (by rw [e1]; omega) (by rw [rhf_0]; exact hR) (fun x j hj hx => by
        rw [e1] at hj
        rw [e2] at hx
        have hxp := hcl u j x hup hj hx
        have hxn := hlt x hxp
        have hi := List.idxOf_lt_length_of_mem hxp
        have hg : pre[pre.idxOf x]? = some x := by rw [List.getElem?_eq_getElem hi, List.getElem_idxOf hi]
        refine ⟨CR_k hR (by rw [r1, hCp.1]; omega), ?_, by rw [htw, r1, hCp.1]; omega⟩
        rw [had x hxn, h113 _ x hg, htw])
      have e3 : rhg tw (rhK tw (cpL Z pre) (zn Z) a.length) (zn Z + a.length) = rhK tw (cpL Z pre) (zn Z) (a ++ [u]).length := by
        rw [List.length_append]
        rfl
      rw [e3] at p1
      obtain ⟨S', g1, g2, g3⟩ := ih (a ++ [u]) b S1 (by simpa using hb) (by rw [hab]; simp) ⟨p1, had, fun i x hi => by rw [p2]; exact hnx i x hi, fun k v hk => by rw [p2]; exact h113 k v hk⟩
      refine ⟨S', g1, ⟨g2.1.trans p3.1, g2.2.trans p3.2⟩, ?_⟩
      have z : ¬ (2000 : Int32) ≤ nI a.length := nI_ge (b := 2000) (by omega) (by omega)
      have enx : fR S1 110 (ad u) = b.head?.map ad := by
        rw [p2, hnx a.length u hget]
        rw [hab, List.getElem?_append_right (by omega)]
        have e : a.length + 1 - a.length = 1 := by omega
        rw [e]
        cases b with
        | nil => rfl
        | cons y b => rfl
      have k1 : ns_k S1 (ad u) = 2 := by
        have := CR_k p1 (show u < zn (rhK tw (cpL Z pre) (zn Z) (a ++ [u]).length) by rw [(rhK_ok ..).1, hCp.1]; omega)
        rw [had u hun] at this
        exact this
      have p5 : Ev (52, 0, [some (va_rf (some (ad u))), none, none, none], [], S) (none, S1) := by
        have p4 : Ev (52, 12, [some (va_rf (some (ad u))), some (va_rf (some (ad' (zn Z + a.length)))), some (.int 0), none], [], S) (none, S1) := p4
        simp only [e52_0, e52_1, e52_4, e52_5, e52_6, e52_10, e52_11, Nat.zero_le, Nat.reduceAdd, Nat.reduceLeDiff, reduceIte, rf_c1, int_c1, none_c1, cat_nil, cat_int, cat_long, cat_rf, toList_s, toList_n, true_and, and_true, Option.some.injEq, exists_eq_left', exists_eq_left, reduceCtorEq, if_true, if_false, eq_self, ku, f113]
        simpa using p4
      rw [List.length_append] at g3
      simp only [List.length_cons, List.length_nil] at g3
      rw [e51_59]
      simp only [e51_61, e51_64, e51_67, e51_68, e51_71, e51_72, e51_75, e51_76, e51_79, e51_80, e51_83, Ev_is p5, Nat.zero_le, Nat.reduceAdd, Nat.reduceLeDiff, reduceIte, rf_c1, int_c1, none_c1, cat_nil, cat_int, cat_long, cat_rf, toList_s, toList_n, true_and, and_true, Option.some.injEq, exists_eq_left', exists_eq_left, reduceCtorEq, if_true, if_false, eq_self, List.head?_cons, Option.map_some, z, k1, enx, nI_1]
      simpa using g3
end CTW
