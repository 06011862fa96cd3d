/-! ===== the machine's steps are the JVM's: calls; and the whole ===== -/
section NSS
variable {p : Program} {l : Launch} {e : Env} {s : State} {m : MethodId} {args : Array Value} {below : List Frame} {meth : Method} {c : Code} {D : va_G} {cI cJ cT : ClassId} {k : Nat} {S0 : ns_St} {r : ns_Rs} {pc : Nat} {L : List (Option Value)} {st : List Value} {S : ns_St} {a : ns_Act}
theorem ns_AA {b : Nat} {H : Heap} {locs : List Loc} (hJ : ns_J s D cI cJ cT S0 S H locs) (h : ns_A S b) : ns_A S0 b := h.elim (fun g => hJ.2.2.1 b g) (fun g => Or.inr (Nat.le_trans hJ.2.2.2.2.1 g))
theorem ns_after {ls : Array Slot} {H : Heap} {locs : List Loc} {r1 : ns_Rs} {rest st0 : List Value} {a' : Array Value} (hL : ns_L ls (ns_m k) L) (hJ : ns_J s D cI cJ cT S0 S H locs) (h1 : ∀ b, ns_k r1.2 b ≠ 0 → ns_A S b) (h2 : ns_z S ≤ ns_z r1.2) (h3 : ns_s S ≤ ns_s r1.2)
    (hr : va_Run p l e (ns_rm k (ns_z r.2 - ns_z S0) (ns_s r.2 - ns_s S0)) s m args below meth c H locs (ns_z S - ns_z S0) (ns_s S - ns_s S0) (ns_z r1.2 - ns_z S) (ns_s r1.2 - ns_s S) (F0 m pc ls st0) rest (ns_Q D cI cJ cT S r1 a') (ns_A S)) (hg : ns_G p l e s m args below meth c D cI cJ cT k S0 r (pc + 3) L (r1.1.toList ++ rest) r1.2) : W p l e (ns_rm k (ns_z r.2 - ns_z S0) (ns_s r.2 - ns_s S0)) s m args below meth c H locs (ns_z S - ns_z S0) (ns_s S - ns_s S0) (MQ below (ns_Q D cI cJ cT S0 r) args s (ns_z r.2 - ns_z S0) (ns_s r.2 - ns_s S0) (ns_A S0)) (F0 m pc ls st0) := by
  intro T hT X
  obtain ⟨v, st₀, t, T', L', h0, X', hL', e1, e2, ⟨⟨hv, hH⟩, hF⟩, stp⟩ := hr T hT X
  cases hv
  have z5 := hJ.2.2.2.2.1
  have z6 := hJ.2.2.2.2.2
  have hJ' : ns_J s D cI cJ cT S0 r1.2 T'.heap (locs ++ L') := by
    refine ⟨by rw [e1]; exact hH.1, by rw [e1]; exact hH.2.1, fun b hb => ns_AA hJ (h1 b hb), ⟨?_, fun q g1 g2 => ?_, fun q hq => ?_⟩, by omega, by omega⟩
    · rw [e1]
      exact Nat.le_trans hJ.2.2.2.1.1 (by rw [← h0]; exact hF.1)
    · rw [e1, hF.2 q (by rw [h0]; exact Nat.lt_of_lt_of_le g1 hJ.2.2.2.1.1) (fun g => g2 (ns_AA hJ g)), h0]
      exact hJ.2.2.2.1.2.1 q g1 g2
    · rcases List.mem_append.mp hq with g | g
      · exact hJ.2.2.2.1.2.2 q g
      · exact ns_AA hJ (hL' q g)
  have hw := hg ls T'.heap (locs ++ L') hL hJ' T' rfl
  rw [show ns_z r1.2 - ns_z S0 = ns_z S - ns_z S0 + (ns_z r1.2 - ns_z S) by omega, show ns_s r1.2 - ns_s S0 = ns_s S - ns_s S0 + (ns_s r1.2 - ns_s S) by omega] at hw
  obtain ⟨t2, a1, b1⟩ := hw X'
  exact ⟨t2, stp t2 a1, b1⟩
theorem ns_pre {H : Heap} {locs : List Loc} (hK : va_K D vwCl (ns_tys cI cJ cT) s) (hE : ns_E s) (hJ : ns_J s D cI cJ cT S0 S H locs) (vs : List Value) : PreS s H (va_Pc vs (ns_H D cI cJ cT S)) vs :=
  ⟨fun a U g mk q => by
    obtain ⟨q0, q1, q2, q3, q4⟩ := q
    exact ⟨q0, q1, q2, va_K.moved (u := U) (U := U.calling g mk a) (Vm.Alike.refl U.vm) q3, ns_E.same (u := U) (U := U.calling g mk a) rfl q4⟩, fun U hU hW => ⟨rfl, by rw [hU]; exact hJ.1, by rw [hU]; exact hJ.2.1, va_K.moved hW.alike hK, hE.warm hW⟩⟩
theorem ns_cb {k1 i cn sn : Nat} {Rm : Room} (hts : ∀ w ∈ ns_Gt, w.before args s = true) (hk1 : k1 < 95) (hl : Cond.methodLink (ns_R (ns_o k)) i (ns_y k1) ∈ ns_Gt) (hh : ns_h k1 + 1 ≤ ns_h k) (hm : ns_m k1 ≤ 16) : CallB (ns_rm k cn sn) s args (ns_R (ns_o k)) i (ns_y k1) (ns_c k1) (ns_m k1) (ns_r k1) (ns_w k1) (ns_rm k1 Rm.cells Rm.slots) Rm.cells Rm.slots (ns_pn k1) := by
  obtain ⟨w1, w2, w3, w4⟩ := ns_kind_ok k1 hk1
  exact callB_of (ns_pn k1) hts (ns_goodIn (fun _ h => h) hk1) rfl rfl rfl (hts _ w1) (hts _ hl) w3 ⟨hh, by show 8 + (ns_m k1 + 11) + 35 * ns_h k1 ≤ 35 * ns_h k; omega⟩
theorem ns_go_ok {k1 : Nat} {vs t : List Value} (h : ns_go k pc L S k1 vs t = some a) (hs : ns_Sim p l e s m args below meth c D cI cJ cT k S0 r a) : ns_h k1 + 1 ≤ ns_h k ∧ ns_m k1 ≤ 16 ∧ ns_cat t ≤ 8 ∧ ∃ r1 : ns_Rs, ns_Met l D cI cJ cT k1 vs S r1 ∧ ns_G p l e s m args below meth c D cI cJ cT k S0 r (pc + 3) L (r1.1.toList ++ t) r1.2 ∧ (∀ b, ns_k r1.2 b ≠ 0 → ns_A S b) ∧ ns_z S ≤ ns_z r1.2 ∧ ns_s S ≤ ns_s r1.2 ∧ ns_z r1.2 ≤ ns_z r.2 ∧ ns_s r1.2 ≤ ns_s r.2 := by
  unfold ns_go at h
  by_cases q : ns_h k1 + 1 ≤ ns_h k ∧ ns_m k1 ≤ 16 ∧ (ns_el vs).length ≤ ns_m k1 ∧ ns_cat t ≤ 8
  · rw [if_pos q] at h
    cases h
    obtain ⟨r1, h1, h2, h3⟩ := hs
    exact ⟨q.1, q.2.1, q.2.2.2, r1, h1 vs rfl q.2.2.1, h2, h3⟩
  · rw [if_neg q] at h
    cases h
theorem ns_st_split {n : Nat} {v : Value} {t : List Value} (h : st.drop n = v :: t) : (st.take n).length = n ∧ st = st.take n ++ v :: t := by
  have hn : n < st.length := by
    rcases Nat.lt_or_ge n st.length with g | g
    · exact g
    · rw [List.drop_eq_nil_of_le g] at h
      cases h
  exact ⟨by rw [List.length_take]; omega, by rw [← h]; exact (List.take_append_drop n st).symm⟩
theorem ns_h_pos : ∀ k, k < 95 → 1 ≤ ns_h k := by decide +kernel
theorem ns_o_lt (k : Nat) : ns_o k < 5 := by
  unfold ns_o
  split
  · decide
  · split
    · decide
    · split
      · decide
      · split <;> decide
theorem so_virt {j : Nat} (C0 : ns_C p s m args meth c D cI cJ cT k S0) (hd : decode (ns_c k) pc = .ok (.invokevirtual j, 3)) (h : ns_I k pc L st S (.invokevirtual j) = some a) (hs : ns_Sim p l e s m args below meth c D cI cJ cT k S0 r a) : ns_G p l e s m args below meth c D cI cJ cT k S0 r pc L st S := by
  obtain ⟨hk, hx, hb, hml, hr, hlk, hni, hown, hts, hK, hE, hsz⟩ := C0
  have h : ns_virt k pc L st S j = some a := h
  unfold ns_virt at h
  have cl : ∀ (nm : String) (b : Nat) (t : List Value) (kd : Nat) (cA : ClassId) (v : vp_A) (ty : FieldType) (t0 : Nat), ns_o k = 1 → st = .ref b :: t → ns_cat t ≤ 8 → a = .inl (k, pc + 3, L, .ref (ns_z S) :: t, nC S b) → ns_k S b = kd → kd ≠ 0 → ns_ce cI cJ cT S b = .inl (cA, v) → v.1 = ns_n S b → (ns_ce cI cJ cT (nC S b) (ns_z S) = .inl (cA, v)) → (ns_tys cI cJ cT)[t0]? = some (cA, ty) → s.vm.findClass nm = some cA → (∀ (i : Nat) (w : Value), (vp_cell cA v).slots[i]? = some w → fits ty w = true) → Cond.methodLink RX1 j ⟨nm, "clone", "()Ljava/lang/Object;"⟩ ∈ ns_Gt → Cond.sameMethod nm "java/lang/Object" "clone" "()Ljava/lang/Object;" ∈ ns_Gt → Cond.selects nm ⟨nm, "clone", "()Ljava/lang/Object;"⟩ ⟨"java/lang/Object", "clone", "()Ljava/lang/Object;"⟩ ∈ ns_Gt → va_Nw (.castable nm "java/lang/Cloneable") s → ns_G p l e s m args below meth c D cI cJ cT k S0 r pc L st S := by
    intro nm b t kd cA v ty t0 ho hst hcat ha hkb h0 hce hv1 hce' htt hnm hfit w1 w2 w3 hcl
    subst hst
    subst ha
    obtain ⟨hg, hz, hsn⟩ := hs
    intro ls H locs hL hJ
    have e1 : ns_z (nC S b) = ns_z S + 1 := rfl
    have e2 : ns_s (nC S b) = ns_s S + ns_n S b := rfl
    dsimp only at hz hsn
    rw [e1] at hz
    rw [e2] at hsn
    have z5 := hJ.2.2.2.2.1
    have z6 := hJ.2.2.2.2.2
    have hh1 : 1 ≤ ns_h k := ns_h_pos k hk
    rw [ho] at hown
    obtain ⟨x, hx1⟩ := ns_at (cI := cI) (cJ := cJ) (cT := cT) (S := S) (a := b) (by omega)
    rw [hce] at hx1
    have hsz2 : (vp_cell cA v).slots.size = v.1 := by
      obtain ⟨n, f | f | f | f | f⟩ := v <;> exact arrV_size _ _ _
    have hvm0 : (vp_cell cA v).vm = .none := by
      obtain ⟨n, f | f | f | f | f⟩ := v <;> rfl
    have hcl0 : (vp_cell cA v).cls = cA := by
      obtain ⟨n, f | f | f | f | f⟩ := v <;> rfl
    have hcellE : ({ cls := (vp_cell cA v).cls, slots := (vp_cell cA v).slots } : Cell) = vp_cell cA v := by
      obtain ⟨n, f | f | f | f | f⟩ := v <;> rfl
    obtain ⟨c0, t0', f1, f2, f3⟩ := Cond.castable_spec (va_Nw.use (A := args) rfl hcl)
    cases hnm.symm.trans f1
    intro T hT X
    have hcellT : T.heap[b]? = some (vp_cell cA v) := by rw [hT]; exact hJ.2.1 x _ hx1
    obtain ⟨-, kA, hkA, comp, hkind⟩ := State.isArrayOf_alike X.warmed.alike ((hK.2 t0 _ htt).1 0 (fun _ => .null))
    obtain ⟨-, kS, hkS, compS, hkindS⟩ := (hK.2 t0 _ htt).1 0 (fun _ => .null)
    obtain ⟨vm', X', stp⟩ := X.cloneArray hx hown (hts _ w1) (hts _ w2) (hts _ ns_cl_ok.1.2.2.1) (hts _ ns_cl_ok.1.2.2.2.1) (hts _ w3) (a := b) (cell := vp_cell cA v) hcellT (fun k h => by rw [hvm0] at h; cases h) (by rw [hvm0]; exact fun h => by cases h) (by rw [hcl0]; exact hnm) f2 (by rw [hcl0]; exact f3)
      (fun i w hw => by
        rw [hcl0]
        have hk' : T.vm.classes[cA]? = some kA := hkA
        simpa [State.fitsSlot, State.slotType?, hk', hkind] using hfit i w hw)
      (g := F0 m pc ls (.ref b :: t)) rfl (by rw [hml]; exact hL.2.1) rfl (by rw [hb]; exact hd) (by show 1 ≤ ns_h k; exact hh1) (by show 2 * 0 + _ + 14 ≤ 35 * ns_h k; unfold ns_cat at hcat; omega) (by show _ ≤ ns_z r.2 - ns_z S0; omega) (by rw [hsz2, hv1]; show _ ≤ ns_s r.2 - ns_s S0; omega) (hloader := by rw [hcl0]; exact Vm.clonesLoader_of_array hkS hkindS)
    rw [hcellE, hsz2, hv1] at X'
    generalize hH1 : H.push (vp_cell cA v) = H1
    have y1 : H1.size = H.size + 1 := by rw [← hH1, Array.size_push]
    have y2 : H1[H.size]? = some (vp_cell cA v) := by rw [← hH1, Array.getElem?_push_size]
    have o1 : ∀ q : Nat, q < H.size → H1[q]? = H[q]? := fun q hq => by rw [← hH1, Array.getElem?_push, if_neg (Nat.ne_of_lt hq)]
    have hJ' : ns_J s D cI cJ cT S0 (nC S b) H1 locs := by
      refine ns_al (x := ns_ce cI cJ cT (nC S b) (ns_z S)) (kd := ns_k S b) hsz hJ ?_ y1 o1 rfl (by rw [e2]; omega) (fun q => nC_ns_k S b q) (by omega) (fun q => ?_)
      · rw [hce']
        show H1[ns_z S]? = some (vp_cell _ _)
        rw [← hJ.1]
        exact y2
      · by_cases g : q = ns_z S
        · subst g
          rw [va_up_self]
        · rw [va_up_ne _ _ g]
          exact ns_ce_congr (by rw [nC_ns_k, if_neg g]) (by rw [nC_ns_n, if_neg g]) (fun i => rfl) (fun i => rfl) (fun i => rfl) (by funext i; rw [nC_aI, if_neg g]) (by funext i; rw [nC_aJ, if_neg g]) (by funext i; rw [nC_aR, if_neg g])
    have hw := hg ls H1 locs hL hJ' ((T.setVm vm').pushCell (vp_cell cA v)) (by rw [← hH1, ← hT]; rfl)
    dsimp only at hw
    rw [e1, e2, show ns_z S + 1 - ns_z S0 = ns_z S - ns_z S0 + 1 by omega, show ns_s S + ns_n S b - ns_s S0 = ns_s S - ns_s S0 + ns_n S b by omega] at hw
    obtain ⟨t2, a1, b1⟩ := hw X'
    refine ⟨t2, stp t2 ?_, b1⟩
    rw [hcellE, hT, hJ.1]
    exact a1
  by_cases q1 : ns_o k = 1 ∧ j = 31
  · rw [if_pos q1] at h
    match st, h with
    | .ref b :: t, h =>
      have h : (if ns_k S b = 7 ∧ ns_cat t ≤ 8 then some (.inl (k, pc + 3, L, .ref (ns_z S) :: t, nC S b)) else none) = some a := h
      by_cases q : ns_k S b = 7 ∧ ns_cat t ≤ 8
      · rw [if_pos q] at h
        cases h
        obtain ⟨qo, rfl⟩ := q1
        refine cl "[J" b t 7 cJ (ns_n S b, .inr (.inl (aJ S b))) .long 1 qo rfl q.2 rfl q.1 (by decide) (ns_ce_J q.1) rfl ?_ rfl (hK.2 1 _ rfl).2 ?_ ns_cl_ok.1.1 ns_cl_ok.1.2.1 ns_cl_ok.1.2.2.2.2.1 hE.2.2.2.1
        · rw [ns_ce_J (by rw [nC_ns_k, if_pos rfl]; exact q.1), nC_ns_n, if_pos rfl]
          rw [show aJ (nC S b) (ns_z S) = aJ S b from by funext i; rw [nC_aJ, if_pos rfl]]
        · intro i w hw
          have : ∃ y, w = .long y := by
            rw [vp_cell_l] at hw
            have hi := (Array.getElem?_eq_some_iff.mp hw).1
            rw [arrV_size] at hi
            rw [arrV_read _ _ hi] at hw
            exact ⟨_, (Option.some.inj hw).symm⟩
          obtain ⟨y, rfl⟩ := this
          rfl
      · rw [if_neg q] at h
        cases h
  · rw [if_neg q1] at h
    by_cases q2 : ns_o k = 1 ∧ j = 36
    · rw [if_pos q2] at h
      match st, h with
      | .ref b :: t, h =>
        have h : (if ns_k S b = 8 ∧ ns_cat t ≤ 8 then some (.inl (k, pc + 3, L, .ref (ns_z S) :: t, nC S b)) else none) = some a := h
        by_cases q : ns_k S b = 8 ∧ ns_cat t ≤ 8
        · rw [if_pos q] at h
          cases h
          obtain ⟨qo, rfl⟩ := q2
          obtain ⟨kA', comp', k1, k2, k3, k4⟩ := (hK.2 2 _ rfl).2
          refine cl "[LNestShelf$Thing;" b t 8 cT (ns_n S b, .inr (.inr (.inr (.inr (aR S b))))) (.object "NestShelf$Thing") 2 qo rfl q.2 rfl q.1 (by decide) (ns_ce_R q.1) rfl ?_ rfl k4 ?_ ns_cl_ok.2.1 ns_cl_ok.2.2.1 ns_cl_ok.2.2.2.1 hE.2.2.2.2
          · rw [ns_ce_R (by rw [nC_ns_k, if_pos rfl]; exact q.1), nC_ns_n, if_pos rfl]
            rw [show aR (nC S b) (ns_z S) = aR S b from by funext i; rw [nC_aR, if_pos rfl]]
          · intro i w hw
            have : ∃ y, w = va_rf y := by
              rw [vp_cell_q] at hw
              have hi := (Array.getElem?_eq_some_iff.mp hw).1
              rw [arrV_size] at hi
              rw [arrV_read _ _ hi] at hw
              exact ⟨_, (Option.some.inj hw).symm⟩
            obtain ⟨y, rfl⟩ := this
            cases y <;> rfl
        · rw [if_neg q] at h
          cases h
    · rw [if_neg q2] at h
      split at h
      · rename_i k1 hl
        obtain ⟨w1, w2⟩ := ns_mt_ok _ (ns_lk_mem hl)
        dsimp only at w1 w2
        split at h
        · rename_i b t hdr
          by_cases q : ns_k S b = ns_o k1 + 1 ∧ ns_stt k1 = false ∧ ns_ini k1 = false
          · rw [if_pos q] at h
            obtain ⟨g1, g2, g3, r1, hM, hg, h1, h2, h3, h4, h5⟩ := ns_go_ok h hs
            intro ls H locs hL hJ
            obtain ⟨u1, u2⟩ := ns_st_split hdr
            obtain ⟨v1, v2, v3, v4⟩ := ns_sel_ok k1 w2
            have hci : ns_o k1 < 5 := ns_o_lt k1
            obtain ⟨x, hx1⟩ := ns_at (cI := cI) (cJ := cJ) (cT := cT) (S := S) (a := b) (by omega)
            rw [ns_ce_O q.1 hci] at hx1
            have hp := ns_pre hK hE hJ (.ref b :: (st.take (ns_pn k1)).reverse)
            have z5 := hJ.2.2.2.2.1
            have z6 := hJ.2.2.2.2.2
            refine ns_after hL hJ h1 h2 h3 (va_runV (As := (st.take (ns_pn k1)).reverse) (rest := t) (b := b) ⟨hx, hb, hml, hown, hts⟩ hM ⟨ns_cb (Rm := ns_rm k1 (ns_z r1.2 - ns_z S) (ns_s r1.2 - ns_s S)) hts w2 w1 g1 g2, hts _ (v2 q.2.1), hts _ (v3 q.2.1 q.2.2)⟩ ⟨hp.1, va_recv hK hJ.2.1 (ns_vw_ok (ns_o k1) hci) hx1, hp.2⟩ rfl (by rw [List.length_reverse]; exact u1) hL.2.1 (by rw [List.reverse_reverse]; exact u2) (lv_room g3) hd ⟨by show _ ≤ ns_z r.2 - ns_z S0; omega, by show _ ≤ ns_s r.2 - ns_s S0; omega⟩) hg
          · rw [if_neg q] at h
            cases h
        · cases h
      · cases h
theorem so_stat {j : Nat} (C0 : ns_C p s m args meth c D cI cJ cT k S0) (hd : decode (ns_c k) pc = .ok (.invokestatic j, 3)) (h : ns_I k pc L st S (.invokestatic j) = some a) (hs : ns_Sim p l e s m args below meth c D cI cJ cT k S0 r a) : ns_G p l e s m args below meth c D cI cJ cT k S0 r pc L st S := by
  obtain ⟨hk, hx, hb, hml, hr, hlk, hni, hown, hts, hK, hE, hsz⟩ := C0
  have h : ns_stat k pc L st S j = some a := h
  unfold ns_stat at h
  by_cases q1 : ns_o k = 3 ∧ j = 145
  · rw [if_pos q1] at h
    match st, h with
    | .int y :: .int x :: t, h =>
      have h : (if ns_cat t ≤ 8 then some (.inl (k, pc + 3, L, .int (if y < x then y else x) :: t, S)) else none) = some a := h
      by_cases q : ns_cat t ≤ 8
      · rw [if_pos q] at h
        cases h
        obtain ⟨qo, rfl⟩ := q1
        rw [qo] at hown
        obtain ⟨hg, hz, hsn⟩ := hs
        intro ls H locs hL hJ
        have z5 := hJ.2.2.2.2.1
        have z6 := hJ.2.2.2.2.2
        have hh1 : 1 ≤ ns_h k := ns_h_pos k hk
        dsimp only at hz hsn
        exact va_mmin hx hb (by rw [hml]; exact hL.2.1.symm) hown (hts _ ns_min_ok.1) (hts _ ns_min_ok.2.1) (hts _ ns_min_ok.2.2) (hts _ ns_minc_ok) (by show 1 ≤ ns_h k; exact hh1) (by show _ ≤ 35 * ns_h k; unfold ns_cat at q; omega) (by show _ ≤ ns_z r.2 - ns_z S0; omega) (by show _ ≤ ns_s r.2 - ns_s S0; omega) hd (hg ls H locs hL hJ)
      · rw [if_neg q] at h
        cases h
  · rw [if_neg q1] at h
    split at h
    · rename_i k1 hl
      obtain ⟨w1, w2⟩ := ns_mt_ok _ (ns_lk_mem hl)
      dsimp only at w1 w2
      by_cases q : ns_pn k1 ≤ st.length ∧ ns_stt k1 = true
      · rw [if_pos q] at h
        obtain ⟨g1, g2, g3, r1, hM, hg, h1, h2, h3, h4, h5⟩ := ns_go_ok h hs
        intro ls H locs hL hJ
        obtain ⟨v1, v2, v3, v4⟩ := ns_sel_ok k1 w2
        have z5 := hJ.2.2.2.2.1
        have z6 := hJ.2.2.2.2.2
        refine ns_after hL hJ h1 h2 h3 (va_runS (As := (st.take (ns_pn k1)).reverse) (rest := st.drop (ns_pn k1)) ⟨hx, hb, hml, hown, hts⟩ hM ⟨ns_cb (Rm := ns_rm k1 (ns_z r1.2 - ns_z S) (ns_s r1.2 - ns_s S)) hts w2 w1 g1 g2, hts _ (v1 q.2)⟩ (ns_pre hK hE hJ _) rfl (by rw [List.length_reverse, List.length_take]; omega) hL.2.1 (by rw [List.reverse_reverse]; exact (List.take_append_drop _ st).symm) (lv_room g3) hd ⟨by show _ ≤ ns_z r.2 - ns_z S0; omega, by show _ ≤ ns_s r.2 - ns_s S0; omega⟩) hg
      · rw [if_neg q] at h
        cases h
    · cases h
theorem so_spec {j : Nat} (C0 : ns_C p s m args meth c D cI cJ cT k S0) (hd : decode (ns_c k) pc = .ok (.invokespecial j, 3)) (h : ns_I k pc L st S (.invokespecial j) = some a) (hs : ns_Sim p l e s m args below meth c D cI cJ cT k S0 r a) : ns_G p l e s m args below meth c D cI cJ cT k S0 r pc L st S := by
  obtain ⟨hk, hx, hb, hml, hr, hlk, hni, hown, hts, hK, hE, hsz⟩ := C0
  have h : ns_spec k pc L st S j = some a := h
  unfold ns_spec at h
  split at h
  · rename_i u hl
    have w1 := ns_ot_ok _ (ns_lk_mem hl)
    match st, h with
    | .ref b :: t, h =>
      have h : (if ns_cat t ≤ 8 then some (.inl (k, pc + 3, L, t, S)) else none) = some a := h
      by_cases q : ns_cat t ≤ 8
      · rw [if_pos q] at h
        cases h
        intro ls H locs hL hJ
        have hh1 : 1 ≤ ns_h k := ns_h_pos k hk
        exact W.objInit hx hb hown (hts _ w1) (hts _ ns_oi_ok) (hts _ ns_oc_ok) rfl (by rw [hml]; exact hL.2.1) rfl hd (by show 1 ≤ ns_h k; exact hh1) (by show 2 * 0 + _ + 12 ≤ 35 * ns_h k; unfold ns_cat at q; omega) (hs.1 ls H locs hL hJ)
      · rw [if_neg q] at h
        cases h
  · split at h
    · rename_i k1 hl
      split at h
      · rename_i b t hdr
        by_cases q : ns_ini k1 = true
        · rw [if_pos q] at h
          obtain ⟨g1, g2, g3, r1, hM, hg, h1, h2, h3, h4, h5⟩ := ns_go_ok h hs
          intro ls H locs hL hJ
          obtain ⟨u1, u2⟩ := ns_st_split hdr
          have z5 := hJ.2.2.2.2.1
          have z6 := hJ.2.2.2.2.2
          have hp := ns_pre hK hE hJ (.ref b :: (st.take (ns_pn k1)).reverse)
          rcases List.mem_append.mp (ns_lk_mem hl) with hm | hm
          · obtain ⟨w1, w2⟩ := ns_mt_ok _ hm
            dsimp only at w1 w2
            obtain ⟨v1, v2, v3, v4⟩ := ns_sel_ok k1 w2
            have cb := ns_cb (k := k) (cn := ns_z r.2 - ns_z S0) (sn := ns_s r.2 - ns_s S0) (Rm := ns_rm k1 (ns_z r1.2 - ns_z S) (ns_s r1.2 - ns_s S)) hts w2 w1 g1 g2
            rw [(v4 q).2.2] at cb
            exact ns_after hL hJ h1 h2 h3 (va_runI (As := (st.take (ns_pn k1)).reverse) (rest := t) (b := b) ⟨hx, hb, hml, hown, hts⟩ hM ⟨cb, (v4 q).2.1, hts _ (v2 (v4 q).1)⟩ hp rfl (by rw [List.length_reverse]; exact u1) hL.2.1 (by rw [List.reverse_reverse]; exact u2) (lv_room g3) hd ⟨by show _ ≤ ns_z r.2 - ns_z S0; omega, by show _ ≤ ns_s r.2 - ns_s S0; omega⟩) hg
          · obtain ⟨w2, w1⟩ := ns_nt_ok hm hE
            obtain ⟨v1, v2, v3, v4⟩ := ns_sel_ok k1 w2
            obtain ⟨x1, x2, x3, x4⟩ := ns_kind_ok k1 w2
            have hw0 : ns_w k1 = Cond.code (ns_y k1) (ns_c k1) (ns_m k1) none :: ns_Gt := by
              unfold ns_w
              rw [(v4 q).2.2]
            exact ns_after hL hJ h1 h2 h3 (va_runIN (bytes := ns_c k1) (maxL := ns_m k1) (n := ns_pn k1) (As := (st.take (ns_pn k1)).reverse) (rest := t) (b := b) ⟨hx, hb, hml, hown, hts⟩ hM ⟨va_cnB (ns_pn k1) hts (ns_goodIn (fun _ h => h) w2) hw0 rfl rfl w1 (hts _ x1) x3 ⟨g1, by show 8 + (ns_m k1 + 11) + 35 * ns_h k1 ≤ 35 * ns_h k; omega⟩, (v4 q).2.1, hts _ (v2 (v4 q).1)⟩ hp rfl (by rw [List.length_reverse]; exact u1) hL.2.1 (by rw [List.reverse_reverse]; exact u2) (lv_room g3) hd ⟨by show _ ≤ ns_z r.2 - ns_z S0; omega, by show _ ≤ ns_s r.2 - ns_s S0; omega⟩) hg
        · rw [if_neg q] at h
          cases h
      · cases h
    · cases h
end NSS
