/-! ===== the machine's steps are the JVM's: references, fields, rows ===== -/
section NSS
variable {p : Program} {l : Launch} {e : Env} {s : State} {m : MethodId} {args : Array Value} {below : List Frame} {meth : Method} {c : Code} {D : va_G} {cI cJ cT : ClassId} {k : Nat} {S0 : ns_St} {r : ns_Rs} {pc : Nat} {L : List (Option Value)} {st : List Value} {S : ns_St} {a : ns_Act}
theorem ns_rf_of {v : Value} (h : ns_rfok v = true) : v = va_rf (ns_rfo v) := by
  cases v <;> first | rfl | cases h
theorem ns_to_ok2 {off : Int} {t : List Value} (h : ns_to k pc L S off t = some a) (hs : ns_Sim p l e s m args below meth c D cI cJ cT k S0 r a) : ∃ tgt : Nat, (pc : Int) + off = (tgt : Int) ∧ ns_G p l e s m args below meth c D cI cJ cT k S0 r tgt L t S := ns_to_ok h hs
theorem so_ifnull {off : Int} (C0 : ns_C p s m args meth c D cI cJ cT k S0) (hd : decode (ns_c k) pc = .ok (.ifnull off, 3)) (h : ns_I k pc L st S (.ifnull off) = some a) (hs : ns_Sim p l e s m args below meth c D cI cJ cT k S0 r a) : ns_G p l e s m args below meth c D cI cJ cT k S0 r pc L st S := by
  obtain ⟨hk, hx, hb, hml, hr, hlk, hni, hown, hts, hK, hE, hsz⟩ := C0
  have h : (if 0 ≤ (pc : Int) + off then ns_nul k pc L st S true off else none) = some a := h
  by_cases hq : 0 ≤ (pc : Int) + off
  · rw [if_pos hq] at h
    unfold ns_nul at h
    match st, h with
    | [], h => cases h
    | v :: t, h =>
      cases v with
      | ref x =>
        have h : some (.inl (k, pc + 3, L, t, S)) = some a := h
        cases h
        intro ls H locs hL hJ
        exact lv_ifnull hx hb hd (hs.1 ls H locs hL hJ)
      | null =>
        have h : ns_to k pc L S off t = some a := h
        obtain ⟨tgt, ht, hg⟩ := ns_to_ok h hs
        intro ls H locs hL hJ
        exact lv_ifnullN hx hb hd ht (hg ls H locs hL hJ)
      | _ => cases h
  · rw [if_neg hq] at h
    cases h
theorem so_ifnonnull {off : Int} (C0 : ns_C p s m args meth c D cI cJ cT k S0) (hd : decode (ns_c k) pc = .ok (.ifnonnull off, 3)) (h : ns_I k pc L st S (.ifnonnull off) = some a) (hs : ns_Sim p l e s m args below meth c D cI cJ cT k S0 r a) : ns_G p l e s m args below meth c D cI cJ cT k S0 r pc L st S := by
  obtain ⟨hk, hx, hb, hml, hr, hlk, hni, hown, hts, hK, hE, hsz⟩ := C0
  have h : (if 0 ≤ (pc : Int) + off then ns_nul k pc L st S false off else none) = some a := h
  by_cases hq : 0 ≤ (pc : Int) + off
  · rw [if_pos hq] at h
    unfold ns_nul at h
    match st, h with
    | [], h => cases h
    | v :: t, h =>
      cases v with
      | ref x =>
        have h : ns_to k pc L S off t = some a := h
        obtain ⟨tgt, ht, hg⟩ := ns_to_ok h hs
        intro ls H locs hL hJ
        exact lv_ifnonnull hx hb hd ht (hg ls H locs hL hJ)
      | null =>
        have h : some (.inl (k, pc + 3, L, t, S)) = some a := h
        cases h
        intro ls H locs hL hJ
        exact lv_ifnonnullN hx hb hd (hs.1 ls H locs hL hJ)
      | _ => cases h
  · rw [if_neg hq] at h
    cases h
theorem so_acmp_eq {off : Int} (C0 : ns_C p s m args meth c D cI cJ cT k S0) (hd : decode (ns_c k) pc = .ok (.if_acmp .eq off, 3)) (h : ns_I k pc L st S (.if_acmp .eq off) = some a) (hs : ns_Sim p l e s m args below meth c D cI cJ cT k S0 r a) : ns_G p l e s m args below meth c D cI cJ cT k S0 r pc L st S := by
  obtain ⟨hk, hx, hb, hml, hr, hlk, hni, hown, hts, hK, hE, hsz⟩ := C0
  have h : (if 0 ≤ (pc : Int) + off then ns_acmp k pc L st S .eq off else none) = some a := h
  by_cases hq : 0 ≤ (pc : Int) + off
  · rw [if_pos hq] at h
    have hoff : ∃ tgt : Nat, (pc : Int) + off = (tgt : Int) := ⟨_, (Int.toNat_of_nonneg hq).symm⟩
    unfold ns_acmp at h
    match st, h with
    | [], h => cases h
    | [_], h => cases h
    | w :: v :: t, h =>
      by_cases q : ns_rfok v = true ∧ ns_rfok w = true
      · have h : (if ns_rfok v = true ∧ ns_rfok w = true then (if ns_rfo v = ns_rfo w then ns_to k pc L S off t else some (.inl (k, pc + 3, L, t, S))) else none) = some a := h
        rw [if_pos q] at h
        rw [ns_rf_of q.1, ns_rf_of q.2]
        by_cases u : ns_rfo v = ns_rfo w
        · rw [if_pos u] at h
          obtain ⟨tgt, ht, hg⟩ := ns_to_ok h hs
          intro ls H locs hL hJ
          exact lv_acmp_eq hx hb hd ht (fun _ => hg ls H locs hL hJ) (fun z => absurd u z)
        · rw [if_neg u] at h
          cases h
          intro ls H locs hL hJ
          exact lv_acmp_eq hx hb hd hoff.choose_spec (fun z => absurd z u) (fun _ => hs.1 ls H locs hL hJ)
      · have h : (if ns_rfok v = true ∧ ns_rfok w = true then (if ns_rfo v = ns_rfo w then ns_to k pc L S off t else some (.inl (k, pc + 3, L, t, S))) else none) = some a := h
        rw [if_neg q] at h
        cases h
  · rw [if_neg hq] at h
    cases h
theorem so_acmp_ne {off : Int} (C0 : ns_C p s m args meth c D cI cJ cT k S0) (hd : decode (ns_c k) pc = .ok (.if_acmp .ne off, 3)) (h : ns_I k pc L st S (.if_acmp .ne off) = some a) (hs : ns_Sim p l e s m args below meth c D cI cJ cT k S0 r a) : ns_G p l e s m args below meth c D cI cJ cT k S0 r pc L st S := by
  obtain ⟨hk, hx, hb, hml, hr, hlk, hni, hown, hts, hK, hE, hsz⟩ := C0
  have h : (if 0 ≤ (pc : Int) + off then ns_acmp k pc L st S .ne off else none) = some a := h
  by_cases hq : 0 ≤ (pc : Int) + off
  · rw [if_pos hq] at h
    have hoff : ∃ tgt : Nat, (pc : Int) + off = (tgt : Int) := ⟨_, (Int.toNat_of_nonneg hq).symm⟩
    unfold ns_acmp at h
    match st, h with
    | [], h => cases h
    | [_], h => cases h
    | w :: v :: t, h =>
      by_cases q : ns_rfok v = true ∧ ns_rfok w = true
      · have h : (if ns_rfok v = true ∧ ns_rfok w = true then (if ns_rfo v = ns_rfo w then some (.inl (k, pc + 3, L, t, S)) else ns_to k pc L S off t) else none) = some a := h
        rw [if_pos q] at h
        rw [ns_rf_of q.1, ns_rf_of q.2]
        by_cases u : ns_rfo v = ns_rfo w
        · rw [if_pos u] at h
          cases h
          intro ls H locs hL hJ
          exact lv_acmp_ne hx hb hd hoff.choose_spec (fun z => absurd u z) (fun _ => hs.1 ls H locs hL hJ)
        · rw [if_neg u] at h
          obtain ⟨tgt, ht, hg⟩ := ns_to_ok h hs
          intro ls H locs hL hJ
          exact lv_acmp_ne hx hb hd ht (fun _ => hg ls H locs hL hJ) (fun z => absurd z u)
      · have h : (if ns_rfok v = true ∧ ns_rfok w = true then (if ns_rfo v = ns_rfo w then some (.inl (k, pc + 3, L, t, S)) else ns_to k pc L S off t) else none) = some a := h
        rw [if_neg q] at h
        cases h
  · rw [if_neg hq] at h
    cases h
theorem so_switch {n : Nat} {d lo hi : Int} {offs : Array Int} (C0 : ns_C p s m args meth c D cI cJ cT k S0) (hd : decode (ns_c k) pc = .ok (.tableswitch d lo hi offs, n)) (h : ns_I k pc L st S (.tableswitch d lo hi offs) = some a) (hs : ns_Sim p l e s m args below meth c D cI cJ cT k S0 r a) : ns_G p l e s m args below meth c D cI cJ cT k S0 r pc L st S := by
  obtain ⟨hk, hx, hb, hml, hr, hlk, hni, hown, hts, hK, hE, hsz⟩ := C0
  have h : ns_sw k pc L st S d lo hi offs = some a := h
  unfold ns_sw at h
  match st, h with
  | .int x :: t, h =>
    have h : (if x.toInt < lo ∨ hi < x.toInt then ns_to k pc L S d t else match offs[(x.toInt - lo).toNat]? with
      | some off => ns_to k pc L S off t
      | none => none) = some a := h
    by_cases q : x.toInt < lo ∨ hi < x.toInt
    · rw [if_pos q] at h
      obtain ⟨tgt, ht, hg⟩ := ns_to_ok h hs
      intro ls H locs hL hJ
      exact lv_tableOut hx hb hd q ht (hg ls H locs hL hJ)
    · rw [if_neg q] at h
      split at h
      · rename_i off ho
        obtain ⟨tgt, ht, hg⟩ := ns_to_ok h hs
        intro ls H locs hL hJ
        exact lv_tableIn hx hb hd (fun z => q (Or.inl z)) (fun z => q (Or.inr z)) ho ht (hg ls H locs hL hJ)
      · cases h
theorem so_get {j : Nat} (C0 : ns_C p s m args meth c D cI cJ cT k S0) (hd : decode (ns_c k) pc = .ok (.getfield j, 3)) (h : ns_I k pc L st S (.getfield j) = some a) (hs : ns_Sim p l e s m args below meth c D cI cJ cT k S0 r a) : ns_G p l e s m args below meth c D cI cJ cT k S0 r pc L st S := by
  obtain ⟨hk, hx, hb, hml, hr, hlk, hni, hown, hts, hK, hE, hsz⟩ := C0
  have h : ns_get k pc L st S j = some a := h
  unfold ns_get at h
  match st, h with
  | .ref b :: t, h =>
    have h : (match ns_lk (ns_o k) j ns_ft with
      | some (ci, f) => if ns_k S b = ci + 1 then some (.inl (k, pc + 3, L, ns_fv S ci f b :: t, S)) else none
      | none => none) = some a := h
    split at h
    · rename_i ci f hl
      obtain ⟨w1, w2, w3⟩ := ns_ft_ok _ (ns_lk_mem hl)
      by_cases q : ns_k S b = ci + 1
      · rw [if_pos q] at h
        cases h
        intro ls H locs hL hJ
        obtain ⟨i, hi⟩ := ns_at (cI := cI) (cJ := cJ) (cT := cT) (S := S) (a := b) (by omega)
        rw [ns_ce_O q w3] at hi
        exact va_get (D := D) (ci := ci) (C := ns_R ci) (T := ns_T ci) (N := ns_N ci) hx hb hts (ns_ws ci w3) hown hK hJ.2.1 i hi (ns_vw_ok ci w3) f w2 (hts _ w1) (fun _ z => z) (ns_fl_at S ci b w2) hd (hs.1 ls H locs hL hJ)
      · rw [if_neg q] at h
        cases h
    · cases h
def ns_isRt (t : FieldType) : Bool := match t with
  | .object _ => true
  | .array _ => true
  | _ => false
theorem ns_ref_ok : ∀ ci, ci < 5 → ∀ f, f < ns_N ci → ns_fk (ns_ty ci f) = 3 → ns_isRt (ns_ty ci f) = true := by decide +kernel
theorem ns_wr {H H1 : Heap} {locs : List Loc} {S' : ns_St} {b j : Nat} {x : va_E} (hJ : ns_J s D cI cJ cT S0 S H locs) (hb : ns_k S b ≠ 0) (he : va_at D vwCl (b, x) H1) (z : H1.size = H.size) (oq : ∀ q : Nat, q ≠ b → H1[q]? = H[q]?) (hz : ns_z S' = ns_z S) (hsn : ns_s S' = ns_s S) (hk : ∀ q, ns_k S' q = ns_k S q) (hc : ∀ q, va_up (ns_ce cI cJ cT S) b x q = ns_ce cI cJ cT S' q) : ns_J s D cI cJ cT S0 S' H1 (locs ++ [⟨b, j⟩]) := by
  obtain ⟨h1, h2, h3, h4, h5, h6⟩ := hJ
  obtain ⟨i, hi⟩ := ns_at (cI := cI) (cJ := cJ) (cT := cT) hb
  have hD : va_D (ns_A S0) (ns_pool cI cJ cT S) := ns_D h3
  have hd : ns_dom S' = ns_dom S := by
    unfold ns_dom
    rw [hz]
    exact List.filter_congr (fun q _ => by rw [hk])
  have hP := h2.set hD hi he oq
  rw [ns_pool_set hD hb hi hd hc] at hP
  exact ⟨by rw [z, hz]; exact h1, hP, fun q hq => h3 q (by rw [← hk]; exact hq), h4.put z oq (h3 b hb), by rw [hz]; exact h5, by rw [hsn]; exact h6⟩
theorem ns_putv_ok {ci f b : Nat} {v : Value} {S' : ns_St} (h : ns_putv S ci f b v = some S') (hc : ci < 5) (hf : f < ns_N ci) (hk : ns_k S b = ci + 1) : (narrow (ns_ty ci f) v = v ∧ fits (ns_ty ci f) v = true) ∧ ns_z S' = ns_z S ∧ ns_s S' = ns_s S ∧ (∀ q, ns_k S' q = ns_k S q) ∧ ∀ q, va_up (ns_ce cI cJ cT S) b (.inr (ci, (ns_fl S ci b).set f v)) q = ns_ce cI cJ cT S' q := by
  have fin : ∀ S' : ns_St, (∀ q, ns_k S' q = ns_k S q) → (∀ q, ns_n S' q = ns_n S q) → (aI S' = aI S) → (aJ S' = aJ S) → (aR S' = aR S) → (∀ i q, q ≠ b → fI S' i q = fI S i q) → (∀ i q, q ≠ b → fJ S' i q = fJ S i q) → (∀ i q, q ≠ b → fR S' i q = fR S i q) → ns_fv S' ci f b = v → (∀ i, i ≠ f → ns_fv S' ci i b = ns_fv S ci i b) → ∀ q, va_up (ns_ce cI cJ cT S) b (.inr (ci, (ns_fl S ci b).set f v)) q = ns_ce cI cJ cT S' q := by
    intro S' e1 e2 e3 e4 e5 e6 e7 e8 e9 e10 q
    by_cases g : q = b
    · subst g
      rw [va_up_self, ns_ce_O (S := S') (by rw [e1]; exact hk) hc, ns_fl_set hf e9 e10]
    · rw [va_up_ne _ _ g]
      exact ns_ce_congr (e1 q) (e2 q) (fun i => e6 i q g) (fun i => e7 i q g) (fun i => e8 i q g) (by rw [e3]) (by rw [e4]) (by rw [e5])
  unfold ns_putv at h
  split at h
  · rename_i x hkd
    cases h
    have ht : ns_ty ci f = .int := by
      revert hkd
      cases ns_ty ci f <;> simp [ns_fk]
    refine ⟨by rw [ht]; exact ⟨rfl, rfl⟩, rfl, rfl, fun _ => rfl, fin _ (fun _ => rfl) (fun _ => rfl) rfl rfl rfl (fun i q g => ?_) (fun _ _ _ => rfl) (fun _ _ _ => rfl) ?_ (fun i g => ?_)⟩
    · rw [pI_fI, if_neg (fun z => g z.2)]
    · unfold ns_fv
      rw [hkd]
      simp [pI_fI]
    · unfold ns_fv
      rw [pI_fI, if_neg (fun z => g (by omega))]
      rfl
  · rename_i x hkd
    by_cases hx : x = 0 ∨ x = 1
    · rw [if_pos hx] at h
      cases h
      have ht : ns_ty ci f = .boolean := by
        revert hkd
        cases ns_ty ci f <;> simp [ns_fk]
      refine ⟨by rw [ht]; rcases hx with rfl | rfl <;> exact ⟨rfl, rfl⟩, rfl, rfl, fun _ => rfl, fin _ (fun _ => rfl) (fun _ => rfl) rfl rfl rfl (fun i q g => ?_) (fun _ _ _ => rfl) (fun _ _ _ => rfl) ?_ (fun i g => ?_)⟩
      · rw [pI_fI, if_neg (fun z => g z.2)]
      · unfold ns_fv
        rw [hkd]
        simp [pI_fI]
      · unfold ns_fv
        rw [pI_fI, if_neg (fun z => g (by omega))]
        rfl
    · rw [if_neg hx] at h
      cases h
  · rename_i x hkd
    cases h
    have ht : ns_ty ci f = .long := by
      revert hkd
      cases ns_ty ci f <;> simp [ns_fk]
    refine ⟨by rw [ht]; exact ⟨rfl, rfl⟩, rfl, rfl, fun _ => rfl, fin _ (fun _ => rfl) (fun _ => rfl) rfl rfl rfl (fun _ _ _ => rfl) (fun i q g => ?_) (fun _ _ _ => rfl) ?_ (fun i g => ?_)⟩
    · rw [pJ_fJ, if_neg (fun z => g z.2)]
    · unfold ns_fv
      rw [hkd]
      simp [pJ_fJ]
    · unfold ns_fv
      rw [pJ_fJ, if_neg (fun z => g (by omega))]
      rfl
  · rename_i v _ w hkd
    by_cases hx : ns_rfok v = true
    · rw [if_pos hx] at h
      cases h
      have ht := ns_ref_ok ci hc f hf hkd
      refine ⟨?_, rfl, rfl, fun _ => rfl, fin _ (fun _ => rfl) (fun _ => rfl) rfl rfl rfl (fun _ _ _ => rfl) (fun _ _ _ => rfl) (fun i q g => ?_) ?_ (fun i g => ?_)⟩
      · revert ht
        cases ns_ty ci f <;> intro ht <;> first | exact absurd ht (by decide) | (cases v <;> first | exact ⟨rfl, rfl⟩ | cases hx)
      · rw [pR_fR, if_neg (fun z => g z.2)]
      · unfold ns_fv
        rw [hkd]
        simp only [pR_fR, and_self, if_true]
        exact (ns_rf_of hx).symm
      · unfold ns_fv
        rw [pR_fR, if_neg (fun z => g (by omega))]
        rfl
    · rw [if_neg hx] at h
      cases h
  · cases h
theorem so_put {j : Nat} (C0 : ns_C p s m args meth c D cI cJ cT k S0) (hd : decode (ns_c k) pc = .ok (.putfield j, 3)) (h : ns_I k pc L st S (.putfield j) = some a) (hs : ns_Sim p l e s m args below meth c D cI cJ cT k S0 r a) : ns_G p l e s m args below meth c D cI cJ cT k S0 r pc L st S := by
  obtain ⟨hk, hx, hb, hml, hr, hlk, hni, hown, hts, hK, hE, hsz⟩ := C0
  have h : ns_put k pc L st S j = some a := h
  unfold ns_put at h
  match st, h with
  | v :: .ref b :: t, h =>
    have h : (match ns_lk (ns_o k) j ns_ft with
      | some (ci, f) => if ns_k S b = ci + 1 ∧ ((ns_T ci f).2.2.2 = false ∨ (ns_ini k = true ∧ ci = ns_o k)) then (match ns_putv S ci f b v with
        | some S' => some (.inl (k, pc + 3, L, t, S'))
        | none => none) else none
      | none => none) = some a := h
    split at h
    · rename_i ci f hl
      obtain ⟨w1, w2, w3⟩ := ns_ft_ok _ (ns_lk_mem hl)
      by_cases q : ns_k S b = ci + 1 ∧ ((ns_T ci f).2.2.2 = false ∨ (ns_ini k = true ∧ ci = ns_o k))
      · rw [if_pos q] at h
        split at h
        · rename_i S' hv
          cases h
          obtain ⟨⟨n1, n2⟩, z1, z2, z3, z4⟩ := ns_putv_ok (cI := cI) (cJ := cJ) (cT := cT) hv w3 w2 q.1
          intro ls H locs hL hJ
          have hb0 : ns_k S b ≠ 0 := by omega
          obtain ⟨i, hi⟩ := ns_at (cI := cI) (cJ := cJ) (cT := cT) hb0
          rw [ns_ce_O q.1 w3] at hi
          have hap := va_apart (own := ns_R (ns_o k)) hts (ns_ws ci w3) (ns_ty ci) (ns_ty_ok ci w3) (ns_nm_ok ci w3) hK (ns_vw_ok ci w3)
          obtain ⟨rr, h1, cell, q1, q2, q3, q4⟩ := hJ.2.1 i _ hi
          have hrr : rr = (ns_R ci, ns_T ci, ns_N ci) := Option.some.inj (h1.symm.trans (ns_vw_ok ci w3))
          subst hrr
          obtain ⟨hSl, hfc, kC, hkC, hkind⟩ := hK.1 ci _ (ns_vw_ok ci w3)
          obtain ⟨cf, kf, fi, ff, hfi, hsl⟩ := hSl f w2
          have hlay := hts _ (ns_ws ci w3 _ (u_in_lay w2))
          unfold u_lay at hlay
          have hst := (u_facts hfc hkC (u_lays hts (ns_ws ci w3) w2) hfi).1
          have hl' : f < (ns_fl S ci b).length := by rw [ns_fl_len]; exact w2
          have hdd : parseFieldDescriptor (ns_T ci f).2.2.1 = some (ns_ty ci f) := ns_ty_ok ci w3 f w2
          rcases q.2 with hfin | ⟨hin, hci⟩
          · rw [if_neg (by rw [hfin]; decide)] at hlay
            have h6 := u_store hfc hkC hkind hlay hfi hdd n1 n2
            refine W.putK hx hb (f := ff) ⟨hown, hts _ w1, ⟨_, _, _, hfi⟩, hst⟩ (by rw [q2]; exact h6) q1 q3 (by rw [hsl]; exact k2_hasslot (q4 f w2)) rfl rfl hd fun H' e1 e2 e3 => ?_
            rw [hsl] at e1 ⊢
            have hg := hs.1 ls H' _ hL (ns_wr (j := D.2 ci f) (x := .inr (ci, (ns_fl S ci b).set f v)) hJ hb0 ⟨_, ns_vw_ok ci w3, t_OB.to (V := updV (vp_V (ns_fl S ci b)) f v) ⟨_, e1, q2, q3, t_set q4 hap w2 v⟩ (fun j _ => vp_updV_set hl' v j)⟩ e2 e3 z1 z2 z3 z4)
            dsimp only at hg
            rw [z1, z2] at hg
            exact hg
          · by_cases hff : (ns_T ci f).2.2.2 = true
            · rw [if_pos hff] at hlay
              have hcf : m.cls = cf := by
                obtain ⟨_, _, c', _, _, _, -, -, hf', -, -, -, hown2, -⟩ := Cond.laysFinal_spec hlay
                have e1 : c' = cf := by have := hfi.symm.trans hf'; simp at this; exact this.1.symm
                rw [ns_own_ok ci w3 f w2, hci] at hown2
                rw [← e1]; exact Option.some.inj (hown.symm.trans hown2)
              have h6 := u_fits hfc hkC hkind (Or.inr hlay) hfi hdd n1 n2
              refine W.putFinK hx hb hown (hts _ w1) hfi hst hcf (hni hin) (by rw [q2]; exact h6) q1 q3 (by rw [hsl]; exact k2_hasslot (q4 f w2)) rfl rfl hd fun H' e1 e2 e3 => ?_
              rw [hsl] at e1 ⊢
              have hg := hs.1 ls H' _ hL (ns_wr (j := D.2 ci f) (x := .inr (ci, (ns_fl S ci b).set f v)) hJ hb0 ⟨_, ns_vw_ok ci w3, t_OB.to (V := updV (vp_V (ns_fl S ci b)) f v) ⟨_, e1, q2, q3, t_set q4 hap w2 v⟩ (fun j _ => vp_updV_set hl' v j)⟩ e2 e3 z1 z2 z3 z4)
              dsimp only at hg
              rw [z1, z2] at hg
              exact hg
            · rw [if_neg hff] at hlay
              have h6 := u_store hfc hkC hkind hlay hfi hdd n1 n2
              refine W.putK hx hb (f := ff) ⟨hown, hts _ w1, ⟨_, _, _, hfi⟩, hst⟩ (by rw [q2]; exact h6) q1 q3 (by rw [hsl]; exact k2_hasslot (q4 f w2)) rfl rfl hd fun H' e1 e2 e3 => ?_
              rw [hsl] at e1 ⊢
              have hg := hs.1 ls H' _ hL (ns_wr (j := D.2 ci f) (x := .inr (ci, (ns_fl S ci b).set f v)) hJ hb0 ⟨_, ns_vw_ok ci w3, t_OB.to (V := updV (vp_V (ns_fl S ci b)) f v) ⟨_, e1, q2, q3, t_set q4 hap w2 v⟩ (fun j _ => vp_updV_set hl' v j)⟩ e2 e3 z1 z2 z3 z4)
              dsimp only at hg
              rw [z1, z2] at hg
              exact hg
        · cases h
      · rw [if_neg q] at h
        cases h
    · cases h
end NSS
