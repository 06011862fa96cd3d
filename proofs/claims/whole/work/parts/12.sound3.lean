/-! ===== the machine's steps are the JVM's: rows of numbers and things, what is made, returns ===== -/
section NSS
variable {p : Program} {l : Launch} {e : Env} {s : State} {m : MethodId} {args : Array Value} {below : List Frame} {meth : Method} {c : Code} {D : va_G} {cI cJ cT : ClassId} {k : Nat} {S0 : ns_St} {r : ns_Rs} {pc : Nat} {L : List (Option Value)} {st : List Value} {S : ns_St} {a : ns_Act}
theorem ns_ce_I {b : Nat} (h : ns_k S b = 6) : ns_ce cI cJ cT S b = .inl (cI, ns_n S b, .inl (aI S b)) := by
  unfold ns_ce
  rw [h]
  rfl
theorem so_ldI (C0 : ns_C p s m args meth c D cI cJ cT k S0) (hd : decode (ns_c k) pc = .ok (.iaload, 1)) (h : ns_I k pc L st S (.iaload) = some a) (hs : ns_Sim p l e s m args below meth c D cI cJ cT k S0 r a) : ns_G p l e s m args below meth c D cI cJ cT k S0 r pc L st S := by
  obtain ⟨hk, hx, hb, hml, hr, hlk, hni, hown, hts, hK, hE, hsz⟩ := C0
  have h : ns_ldI k pc L st S = some a := h
  unfold ns_ldI at h
  match st, h with
  | .int i :: .ref b :: t, h =>
    have h : (if ns_k S b = 6 ∧ ns_inb i (ns_n S b) = true then some (.inl (k, pc + 1, L, .int (aI S b i.toNatClampNeg) :: t, S)) else none) = some a := h
    by_cases q : ns_k S b = 6 ∧ ns_inb i (ns_n S b) = true
    · rw [if_pos q] at h
      cases h
      intro ls H locs hL hJ
      obtain ⟨x, hx1⟩ := ns_at (cI := cI) (cJ := cJ) (cT := cT) (S := S) (a := b) (by omega)
      rw [ns_ce_I q.1] at hx1
      exact va_iald hx hb hK hJ.2.1 x 0 hx1 rfl (ns_in_vp q.2) hd (hs.1 ls H locs hL hJ)
    · rw [if_neg q] at h
      cases h
theorem ns_ce_J {b : Nat} (h : ns_k S b = 7) : ns_ce cI cJ cT S b = .inl (cJ, ns_n S b, .inr (.inl (aJ S b))) := by
  unfold ns_ce
  rw [h]
  rfl
theorem so_ldJ (C0 : ns_C p s m args meth c D cI cJ cT k S0) (hd : decode (ns_c k) pc = .ok (.laload, 1)) (h : ns_I k pc L st S (.laload) = some a) (hs : ns_Sim p l e s m args below meth c D cI cJ cT k S0 r a) : ns_G p l e s m args below meth c D cI cJ cT k S0 r pc L st S := by
  obtain ⟨hk, hx, hb, hml, hr, hlk, hni, hown, hts, hK, hE, hsz⟩ := C0
  have h : ns_ldJ k pc L st S = some a := h
  unfold ns_ldJ at h
  match st, h with
  | .int i :: .ref b :: t, h =>
    have h : (if ns_k S b = 7 ∧ ns_inb i (ns_n S b) = true then some (.inl (k, pc + 1, L, .long (aJ S b i.toNatClampNeg) :: t, S)) else none) = some a := h
    by_cases q : ns_k S b = 7 ∧ ns_inb i (ns_n S b) = true
    · rw [if_pos q] at h
      cases h
      intro ls H locs hL hJ
      obtain ⟨x, hx1⟩ := ns_at (cI := cI) (cJ := cJ) (cT := cT) (S := S) (a := b) (by omega)
      rw [ns_ce_J q.1] at hx1
      exact va_lald hx hb hK hJ.2.1 x 1 hx1 rfl (ns_in_vp q.2) hd (hs.1 ls H locs hL hJ)
    · rw [if_neg q] at h
      cases h
theorem ns_ce_R {b : Nat} (h : ns_k S b = 8) : ns_ce cI cJ cT S b = .inl (cT, ns_n S b, .inr (.inr (.inr (.inr (aR S b))))) := by
  unfold ns_ce
  rw [h]
  rfl
theorem so_ldR (C0 : ns_C p s m args meth c D cI cJ cT k S0) (hd : decode (ns_c k) pc = .ok (.aaload, 1)) (h : ns_I k pc L st S (.aaload) = some a) (hs : ns_Sim p l e s m args below meth c D cI cJ cT k S0 r a) : ns_G p l e s m args below meth c D cI cJ cT k S0 r pc L st S := by
  obtain ⟨hk, hx, hb, hml, hr, hlk, hni, hown, hts, hK, hE, hsz⟩ := C0
  have h : ns_ldR k pc L st S = some a := h
  unfold ns_ldR at h
  match st, h with
  | .int i :: .ref b :: t, h =>
    have h : (if ns_k S b = 8 ∧ ns_inb i (ns_n S b) = true then some (.inl (k, pc + 1, L, va_rf (aR S b i.toNatClampNeg) :: t, S)) else none) = some a := h
    by_cases q : ns_k S b = 8 ∧ ns_inb i (ns_n S b) = true
    · rw [if_pos q] at h
      cases h
      intro ls H locs hL hJ
      obtain ⟨x, hx1⟩ := ns_at (cI := cI) (cJ := cJ) (cT := cT) (S := S) (a := b) (by omega)
      rw [ns_ce_R q.1] at hx1
      exact va_aldq hx hb hK hJ.2.1 x 2 hx1 rfl (ns_in_vp q.2) hd (hs.1 ls H locs hL hJ)
    · rw [if_neg q] at h
      cases h
theorem so_stI (C0 : ns_C p s m args meth c D cI cJ cT k S0) (hd : decode (ns_c k) pc = .ok (.iastore, 1)) (h : ns_I k pc L st S (.iastore) = some a) (hs : ns_Sim p l e s m args below meth c D cI cJ cT k S0 r a) : ns_G p l e s m args below meth c D cI cJ cT k S0 r pc L st S := by
  obtain ⟨hk, hx, hb, hml, hr, hlk, hni, hown, hts, hK, hE, hsz⟩ := C0
  have h : ns_stI k pc L st S = some a := h
  unfold ns_stI at h
  match st, h with
  | .int v :: .int i :: .ref b :: t, h =>
    have h : (if ns_k S b = 6 ∧ ns_inb i (ns_n S b) = true then some (.inl (k, pc + 1, L, t, qI S b i.toNatClampNeg v)) else none) = some a := h
    by_cases q : ns_k S b = 6 ∧ ns_inb i (ns_n S b) = true
    · rw [if_pos q] at h
      cases h
      intro ls H locs hL hJ
      have hb0 : ns_k S b ≠ 0 := by omega
      obtain ⟨x, hx1⟩ := ns_at (cI := cI) (cJ := cJ) (cT := cT) hb0
      rw [ns_ce_I q.1] at hx1
      refine W.iast hx hb (hJ.2.1 x _ hx1) ((hK.2 0 _ rfl).1 (ns_n S b) (fun j => .int (aI S b j))) (fun q => by cases q) (by show ¬ (i < 0 ∨ (arrV _ _ _).slots.size ≤ _); rw [arrV_size]; exact ns_in_vp q.2) rfl rfl hd fun H1 e z oq => ?_
      refine hs.1 ls H1 _ hL (ns_wr (x := ns_ce cI cJ cT (qI S b i.toNatClampNeg v) b) hJ hb0 ?_ z oq rfl rfl (fun _ => rfl) (fun g => ?_))
      · rw [ns_ce_I (S := qI S b i.toNatClampNeg v) q.1]
        show H1[b]? = some (vp_cell _ _)
        rw [e]
        rw [vp_cell_i, vp_cell_i, arrV_store]
        congr 2
        funext g
        by_cases hq : g = i.toNatClampNeg
        · subst hq
          simp [updV, qI_aI]
        · simp [updV, hq, qI_aI]
      · by_cases hg : g = b
        · subst hg
          rw [va_up_self]
        · rw [va_up_ne _ _ hg]
          exact ns_ce_congr rfl rfl (fun _ => rfl) (fun _ => rfl) (fun _ => rfl) (by funext z; rw [qI_aI, if_neg (fun z => hg z.1)]) rfl rfl
    · rw [if_neg q] at h
      cases h
theorem so_stJ (C0 : ns_C p s m args meth c D cI cJ cT k S0) (hd : decode (ns_c k) pc = .ok (.lastore, 1)) (h : ns_I k pc L st S (.lastore) = some a) (hs : ns_Sim p l e s m args below meth c D cI cJ cT k S0 r a) : ns_G p l e s m args below meth c D cI cJ cT k S0 r pc L st S := by
  obtain ⟨hk, hx, hb, hml, hr, hlk, hni, hown, hts, hK, hE, hsz⟩ := C0
  have h : ns_stJ k pc L st S = some a := h
  unfold ns_stJ at h
  match st, h with
  | .long v :: .int i :: .ref b :: t, h =>
    have h : (if ns_k S b = 7 ∧ ns_inb i (ns_n S b) = true then some (.inl (k, pc + 1, L, t, qJ S b i.toNatClampNeg v)) else none) = some a := h
    by_cases q : ns_k S b = 7 ∧ ns_inb i (ns_n S b) = true
    · rw [if_pos q] at h
      cases h
      intro ls H locs hL hJ
      have hb0 : ns_k S b ≠ 0 := by omega
      obtain ⟨x, hx1⟩ := ns_at (cI := cI) (cJ := cJ) (cT := cT) hb0
      rw [ns_ce_J q.1] at hx1
      refine W.last hx hb (hJ.2.1 x _ hx1) ((hK.2 1 _ rfl).1 (ns_n S b) (fun j => .long (aJ S b j))) (fun q => by cases q) (by show ¬ (i < 0 ∨ (arrV _ _ _).slots.size ≤ _); rw [arrV_size]; exact ns_in_vp q.2) rfl rfl hd fun H1 e z oq => ?_
      refine hs.1 ls H1 _ hL (ns_wr (x := ns_ce cI cJ cT (qJ S b i.toNatClampNeg v) b) hJ hb0 ?_ z oq rfl rfl (fun _ => rfl) (fun g => ?_))
      · rw [ns_ce_J (S := qJ S b i.toNatClampNeg v) q.1]
        show H1[b]? = some (vp_cell _ _)
        rw [e]
        rw [vp_cell_l, vp_cell_l, arrV_store]
        congr 2
        funext g
        by_cases hq : g = i.toNatClampNeg
        · subst hq
          simp [updV, qJ_aJ]
        · simp [updV, hq, qJ_aJ]
      · by_cases hg : g = b
        · subst hg
          rw [va_up_self]
        · rw [va_up_ne _ _ hg]
          exact ns_ce_congr rfl rfl (fun _ => rfl) (fun _ => rfl) (fun _ => rfl) rfl (by funext z; rw [qJ_aJ, if_neg (fun z => hg z.1)]) rfl
    · rw [if_neg q] at h
      cases h
theorem so_stR (C0 : ns_C p s m args meth c D cI cJ cT k S0) (hd : decode (ns_c k) pc = .ok (.aastore, 1)) (h : ns_I k pc L st S (.aastore) = some a) (hs : ns_Sim p l e s m args below meth c D cI cJ cT k S0 r a) : ns_G p l e s m args below meth c D cI cJ cT k S0 r pc L st S := by
  obtain ⟨hk, hx, hb, hml, hr, hlk, hni, hown, hts, hK, hE, hsz⟩ := C0
  have h : ns_stR k pc L st S = some a := h
  unfold ns_stR at h
  match st, h with
  | w :: .int i :: .ref b :: t, h =>
    have h : (if ns_k S b = 8 ∧ ns_inb i (ns_n S b) = true ∧ ns_rfok w = true ∧ ns_okT S (ns_rfo w) = true then some (.inl (k, pc + 1, L, t, qR S b i.toNatClampNeg (ns_rfo w))) else none) = some a := h
    by_cases q : ns_k S b = 8 ∧ ns_inb i (ns_n S b) = true ∧ ns_rfok w = true ∧ ns_okT S (ns_rfo w) = true
    · rw [if_pos q] at h
      cases h
      intro ls H locs hL hJ
      have hb0 : ns_k S b ≠ 0 := by omega
      obtain ⟨x, hx1⟩ := ns_at (cI := cI) (cJ := cJ) (cT := cT) hb0
      rw [ns_ce_R q.1] at hx1
      have fin : ∀ (o : Option Nat) (H1 : Heap), H1[b]? = some ((vp_cell cT (ns_n S b, .inr (.inr (.inr (.inr (aR S b)))))).setSlot i.toNatClampNeg (va_rf o)) → H1.size = H.size → (∀ q, q ≠ b → H1[q]? = H[q]?) → ns_J s D cI cJ cT S0 (qR S b i.toNatClampNeg o) H1 (locs ++ [⟨b, i.toNatClampNeg⟩]) := by
        intro o H1 e z oq
        refine ns_wr (x := ns_ce cI cJ cT (qR S b i.toNatClampNeg o) b) hJ hb0 ?_ z oq rfl rfl (fun _ => rfl) (fun g => ?_)
        · rw [ns_ce_R (S := qR S b i.toNatClampNeg o) q.1]
          show H1[b]? = some (vp_cell _ _)
          rw [e]
          rw [vp_cell_q, vp_cell_q, arrV_store]
          congr 2
          funext g
          by_cases hq : g = i.toNatClampNeg
          · subst hq
            simp [updV, qR_aR]
          · simp [updV, hq, qR_aR]
        · by_cases hg : g = b
          · subst hg
            rw [va_up_self]
          · rw [va_up_ne _ _ hg]
            exact ns_ce_congr rfl rfl (fun _ => rfl) (fun _ => rfl) (fun _ => rfl) rfl rfl (by funext z; rw [qR_aR, if_neg (fun z => hg z.1)])
      cases w with
      | ref v =>
        have hv : ns_k S v = 2 := by simpa [ns_okT, ns_rfo] using q.2.2.2
        obtain ⟨y, hy1⟩ := ns_at (cI := cI) (cJ := cJ) (cT := cT) (S := S) (a := v) (by omega)
        rw [ns_ce_O (ci := 1) hv (by decide)] at hy1
        obtain ⟨r', hr', cellV, g1, g2, g3, -⟩ := hJ.2.1 y _ hy1
        have hcls := (hK.1 1 _ (ns_vw_ok 1 (by decide))).2
        obtain ⟨kA, comp, k1, k2, k3, -⟩ := (hK.2 2 _ rfl).2
        have hcomp : comp = D.1 1 := Option.some.inj (k3.symm.trans hcls.1)
        subst hcomp
        obtain ⟨kC, hkC, -⟩ := id hcls.2
        exact W.aast hx hb (hJ.2.1 x _ hx1) (fun q h => by cases h) (fun h => by cases h) k1 k2 rfl hkC ⟨(ns_inb_iff.mp q.2.1).1, by show _ < (arrV _ _ _).slots.size; rw [arrV_size]; exact (ns_inb_iff.mp q.2.1).2⟩ g1 (fun q h => by rw [g3] at h; cases h) (by rw [g2]; exact hkC) (by rw [g2]; exact va_assign hcls) rfl rfl hd fun H1 e z oq => hs.1 ls H1 _ hL (fin (some v) H1 e z oq)
      | null =>
        exact va_WaastN (C := "NestShelf$Thing") hx hb (hJ.2.1 x _ hx1) ((hK.2 2 _ rfl).1 (ns_n S b) (fun j => va_rf (aR S b j))) (fun h => by cases h) (by show ¬ (i < 0 ∨ (arrV _ _ _).slots.size ≤ _); rw [arrV_size]; exact ns_in_vp q.2.1) rfl rfl hd fun H1 e z oq => hs.1 ls H1 _ hL (fin none H1 e z oq)
      | _ => cases q.2.2.1
    · rw [if_neg q] at h
      cases h
theorem so_len (C0 : ns_C p s m args meth c D cI cJ cT k S0) (hd : decode (ns_c k) pc = .ok (.arraylength, 1)) (h : ns_I k pc L st S (.arraylength) = some a) (hs : ns_Sim p l e s m args below meth c D cI cJ cT k S0 r a) : ns_G p l e s m args below meth c D cI cJ cT k S0 r pc L st S := by
  obtain ⟨hk, hx, hb, hml, hr, hlk, hni, hown, hts, hK, hE, hsz⟩ := C0
  have h : ns_len k pc L st S = some a := h
  unfold ns_len at h
  match st, h with
  | .ref b :: t, h =>
    have h : (if 6 ≤ ns_k S b ∧ ns_k S b ≤ 8 then some (.inl (k, pc + 1, L, .int (nI (ns_n S b)) :: t, S)) else none) = some a := h
    by_cases q : 6 ≤ ns_k S b ∧ ns_k S b ≤ 8
    · rw [if_pos q] at h
      cases h
      intro ls H locs hL hJ
      obtain ⟨x, hx1⟩ := ns_at (cI := cI) (cJ := cJ) (cT := cT) (S := S) (a := b) (by omega)
      rcases (show ns_k S b = 6 ∨ ns_k S b = 7 ∨ ns_k S b = 8 by omega) with g | g | g
      · rw [ns_ce_I g] at hx1
        exact va_alen hx hb hK hJ.2.1 x 0 hx1 rfl rfl hd (hs.1 ls H locs hL hJ)
      · rw [ns_ce_J g] at hx1
        exact va_alen hx hb hK hJ.2.1 x 1 hx1 rfl rfl hd (hs.1 ls H locs hL hJ)
      · rw [ns_ce_R g] at hx1
        exact va_alen hx hb hK hJ.2.1 x 2 hx1 rfl rfl hd (hs.1 ls H locs hL hJ)
    · rw [if_neg q] at h
      cases h
theorem ns_al {H H1 : Heap} {locs : List Loc} {S' : ns_St} {x : va_E} {kd : Nat} (hsz : s.heap.size = ns_z S0) (hJ : ns_J s D cI cJ cT S0 S H locs) (he : va_at D vwCl (ns_z S, x) H1) (z1 : H1.size = H.size + 1) (o1 : ∀ q : Nat, q < H.size → H1[q]? = H[q]?) (hz : ns_z S' = ns_z S + 1) (hsn : ns_s S ≤ ns_s S') (hk : ∀ q, ns_k S' q = if q = ns_z S then kd else ns_k S q) (h0 : kd ≠ 0) (hc : ∀ q, va_up (ns_ce cI cJ cT S) (ns_z S) x q = ns_ce cI cJ cT S' q) : ns_J s D cI cJ cT S0 S' H1 locs := by
  obtain ⟨h1, h2, h3, h4, h5, h6⟩ := hJ
  have hP : va_P D vwCl (ns_pool cI cJ cT S') H1 := by
    rw [← ns_pool_add (ns_dom_add hz hk h0) hc]
    refine (h2.kept (fun i y hy => o1 y.1 ((h2 i y hy).lt))).app (fun i y hy => ?_)
    have hi : i < 1 := (List.getElem?_eq_some_iff.mp hy).1
    rw [show i = 0 by omega] at hy
    cases hy
    exact he
  refine ⟨by rw [z1, hz, h1], hP, fun q hq => ?_, ⟨Nat.le_trans h4.1 (by omega), fun q g1 g2 => (o1 q (Nat.lt_of_lt_of_le g1 h4.1)).trans (h4.2.1 q g1 g2), h4.2.2⟩, by omega, by omega⟩
  rw [hk] at hq
  by_cases g : q = ns_z S
  · exact Or.inr (by omega)
  · rw [if_neg g] at hq
    exact h3 q hq
theorem ns_df : ∀ ci, ci < 5 → ∀ j, j < ns_N ci → defaultValue (ns_ty ci j) = (match ns_fk (ns_ty ci j) with
    | 0 => Value.int 0
    | 1 => Value.int 0
    | 2 => Value.long 0
    | _ => Value.null) := by decide +kernel
theorem so_new {j : Nat} (C0 : ns_C p s m args meth c D cI cJ cT k S0) (hd : decode (ns_c k) pc = .ok (.new j, 3)) (h : ns_I k pc L st S (.new j) = some a) (hs : ns_Sim p l e s m args below meth c D cI cJ cT k S0 r a) : ns_G p l e s m args below meth c D cI cJ cT k S0 r pc L st S := by
  obtain ⟨hk, hx, hb, hml, hr, hlk, hni, hown, hts, hK, hE, hsz⟩ := C0
  have h : ns_new k pc L st S j = some a := h
  unfold ns_new at h
  split at h
  · rename_i ci hl
    obtain ⟨w1, w2, w3, w4⟩ := ns_ct_ok _ (ns_lk_mem hl)
    dsimp only at w1 w2 w3 w4
    cases h
    obtain ⟨hg, hz, hsn⟩ := hs
    intro ls H locs hL hJ
    have hKn := hK.1 ci _ (ns_vw_ok ci w4)
    have e1 : ns_z (nO S ci (ns_N ci)) = ns_z S + 1 := rfl
    have e2 : ns_s (nO S ci (ns_N ci)) = ns_s S + ns_N ci := rfl
    dsimp only at hz hsn
    rw [e1] at hz
    rw [e2] at hsn
    refine W.newcK hx hb hown (hts _ w1) (hts _ w2) (hts _ w3) rfl hd (by show _ ≤ ns_z r.2 - ns_z S0; have := hJ.2.2.2.2.1; omega) (by show _ ≤ ns_s r.2 - ns_s S0; have := hJ.2.2.2.2.2; omega) hKn.2.1 (h := ns_z S) hJ.1 fun H1 kC hkC q1 q2 q3 => ?_
    have hJ' : ns_J s D cI cJ cT S0 (nO S ci (ns_N ci)) H1 locs := by
      refine ns_al (x := .inr (ci, ns_fl (nO S ci (ns_N ci)) ci (ns_z S))) (kd := ci + 1) hsz hJ ⟨_, ns_vw_ok ci w4, (u_born (ns_ty ci) hts (ns_ws ci w4) hKn hkC q1 (ns_ty_ok ci w4)).to (fun f hf => ?_)⟩ (by rw [q2, hJ.1]) (fun q hq => q3 q (by rw [← hJ.1]; exact hq)) rfl (by rw [e2]; omega) (fun q => nO_ns_k S ci _ q) (by omega) (fun q => ?_)
      · rw [ns_df ci w4 f hf]
        unfold vp_V
        rw [List.getD_eq_getElem?_getD, ns_fl_at _ _ _ hf]
        unfold ns_fv
        simp only [Option.getD_some, nO_fI, nO_fJ, nO_fR, if_true, va_rf]
        generalize ns_fk (ns_ty ci f) = y
        match y with
        | 0 => rfl
        | 1 => rfl
        | 2 => rfl
        | _ + 3 => rfl
      · by_cases g : q = ns_z S
        · subst g
          rw [va_up_self, ns_ce_O (by rw [nO_ns_k, if_pos rfl]) w4]
        · rw [va_up_ne _ _ g]
          exact ns_ce_congr (by rw [nO_ns_k, if_neg g]) rfl (fun i => by rw [nO_fI, if_neg g]) (fun i => by rw [nO_fJ, if_neg g]) (fun i => by rw [nO_fR, if_neg g]) rfl rfl rfl
    have hw := hg ls H1 locs hL hJ'
    dsimp only at hw
    rw [e1, e2] at hw
    have z5 := hJ.2.2.2.2.1
    have z6 := hJ.2.2.2.2.2
    rw [show ns_z S + 1 - ns_z S0 = ns_z S - ns_z S0 + 1 by omega, show ns_s S + ns_N ci - ns_s S0 = ns_s S - ns_s S0 + ns_N ci by omega] at hw
    exact hw
  · cases h
theorem ns_alA {H H1 : Heap} {locs : List Loc} {kd n : Nat} (hsz : s.heap.size = ns_z S0) (hJ : ns_J s D cI cJ cT S0 S H locs) (he : va_at D vwCl (ns_z S, ns_ce cI cJ cT (nA S kd n) (ns_z S)) H1) (z1 : H1.size = H.size + 1) (o1 : ∀ q : Nat, q < H.size → H1[q]? = H[q]?) (h0 : kd ≠ 0) : ns_J s D cI cJ cT S0 (nA S kd n) H1 locs := by
  refine ns_al (kd := kd) hsz hJ he z1 o1 rfl (by rw [nA_ns_s]; omega) (fun q => nA_ns_k S kd n q) h0 (fun q => ?_)
  by_cases g : q = ns_z S
  · subst g
    rw [va_up_self]
  · rw [va_up_ne _ _ g]
    exact ns_ce_congr (by rw [nA_ns_k, if_neg g]) (by rw [nA_ns_n, if_neg g]) (fun i => rfl) (fun i => rfl) (fun i => rfl) (by funext i; rw [nA_aI, if_neg g]) (by funext i; rw [nA_aJ, if_neg g]) (by funext i; rw [nA_aR, if_neg g])
theorem so_newI (C0 : ns_C p s m args meth c D cI cJ cT k S0) (hd : decode (ns_c k) pc = .ok (.newarray .int, 2)) (h : ns_I k pc L st S (.newarray .int) = some a) (hs : ns_Sim p l e s m args below meth c D cI cJ cT k S0 r a) : ns_G p l e s m args below meth c D cI cJ cT k S0 r pc L st S := by
  obtain ⟨hk, hx, hb, hml, hr, hlk, hni, hown, hts, hK, hE, hsz⟩ := C0
  have h : ns_newa k pc L st S 6 2 = some a := h
  unfold ns_newa at h
  match st, h with
  | .int x :: t, h =>
    have h : (if ¬ x < 0 ∧ x.toNatClampNeg ≤ 1000000 then some (.inl (k, pc + 2, L, .ref (ns_z S) :: t, nA S 6 x.toNatClampNeg)) else none) = some a := h
    by_cases q : ¬ x < 0 ∧ x.toNatClampNeg ≤ 1000000
    · rw [if_pos q] at h
      cases h
      obtain ⟨hg, hz, hsn⟩ := hs
      intro ls H locs hL hJ
      have e1 : ns_z (nA S 6 x.toNatClampNeg) = ns_z S + 1 := rfl
      have e2 : ns_s (nA S 6 x.toNatClampNeg) = ns_s S + x.toNatClampNeg := rfl
      dsimp only at hz hsn
      rw [e1] at hz
      rw [e2] at hsn
      have z5 := hJ.2.2.2.2.1
      have z6 := hJ.2.2.2.2.2
      refine va_newaK hx hb (atype := .int) (hts _ ns_ar_ok.1) rfl hd rfl q.1 rfl (by show _ * 4 ≤ _; omega) (by show _ ≤ ns_z r.2 - ns_z S0; omega) (by show _ ≤ ns_s r.2 - ns_s S0; omega) (h := ns_z S) hJ.1 fun H1 cA f1 f2 f3 f4 f5 => ?_
      have hcA : cA = cI := Option.some.inj (f5.symm.trans (hK.2 0 _ rfl).2)
      subst hcA
      have hJ' := ns_alA (kd := 6) (n := x.toNatClampNeg) hsz hJ (H1 := H1) (by
        rw [ns_ce_I (by rw [nA_ns_k, if_pos rfl])]
        show H1[ns_z S]? = some (vp_cell _ _)
        rw [f1, vp_cell_i, nA_ns_n, if_pos rfl]
        congr 2
        funext i
        rw [nA_aI, if_pos rfl]
        rfl) (by rw [f2, hJ.1]) (fun q hq => f3 q (by rw [← hJ.1]; exact hq)) (by decide)
      have hw := hg ls H1 locs hL hJ'
      dsimp only at hw
      rw [e1, e2, show ns_z S + 1 - ns_z S0 = ns_z S - ns_z S0 + 1 by omega, show ns_s S + x.toNatClampNeg - ns_s S0 = ns_s S - ns_s S0 + x.toNatClampNeg by omega] at hw
      exact hw
    · rw [if_neg q] at h
      cases h
theorem so_newJ (C0 : ns_C p s m args meth c D cI cJ cT k S0) (hd : decode (ns_c k) pc = .ok (.newarray .long, 2)) (h : ns_I k pc L st S (.newarray .long) = some a) (hs : ns_Sim p l e s m args below meth c D cI cJ cT k S0 r a) : ns_G p l e s m args below meth c D cI cJ cT k S0 r pc L st S := by
  obtain ⟨hk, hx, hb, hml, hr, hlk, hni, hown, hts, hK, hE, hsz⟩ := C0
  have h : ns_newa k pc L st S 7 2 = some a := h
  unfold ns_newa at h
  match st, h with
  | .int x :: t, h =>
    have h : (if ¬ x < 0 ∧ x.toNatClampNeg ≤ 1000000 then some (.inl (k, pc + 2, L, .ref (ns_z S) :: t, nA S 7 x.toNatClampNeg)) else none) = some a := h
    by_cases q : ¬ x < 0 ∧ x.toNatClampNeg ≤ 1000000
    · rw [if_pos q] at h
      cases h
      obtain ⟨hg, hz, hsn⟩ := hs
      intro ls H locs hL hJ
      have e1 : ns_z (nA S 7 x.toNatClampNeg) = ns_z S + 1 := rfl
      have e2 : ns_s (nA S 7 x.toNatClampNeg) = ns_s S + x.toNatClampNeg := rfl
      dsimp only at hz hsn
      rw [e1] at hz
      rw [e2] at hsn
      have z5 := hJ.2.2.2.2.1
      have z6 := hJ.2.2.2.2.2
      refine va_newaK hx hb (atype := .long) (hts _ ns_ar_ok.2.1) rfl hd rfl q.1 rfl (by show _ * 8 ≤ _; omega) (by show _ ≤ ns_z r.2 - ns_z S0; omega) (by show _ ≤ ns_s r.2 - ns_s S0; omega) (h := ns_z S) hJ.1 fun H1 cA f1 f2 f3 f4 f5 => ?_
      have hcA : cA = cJ := Option.some.inj (f5.symm.trans (hK.2 1 _ rfl).2)
      subst hcA
      have hJ' := ns_alA (kd := 7) (n := x.toNatClampNeg) hsz hJ (H1 := H1) (by
        rw [ns_ce_J (by rw [nA_ns_k, if_pos rfl])]
        show H1[ns_z S]? = some (vp_cell _ _)
        rw [f1, vp_cell_l, nA_ns_n, if_pos rfl]
        congr 2
        funext i
        rw [nA_aJ, if_pos rfl]
        rfl) (by rw [f2, hJ.1]) (fun q hq => f3 q (by rw [← hJ.1]; exact hq)) (by decide)
      have hw := hg ls H1 locs hL hJ'
      dsimp only at hw
      rw [e1, e2, show ns_z S + 1 - ns_z S0 = ns_z S - ns_z S0 + 1 by omega, show ns_s S + x.toNatClampNeg - ns_s S0 = ns_s S - ns_s S0 + x.toNatClampNeg by omega] at hw
      exact hw
    · rw [if_neg q] at h
      cases h
theorem so_newR {j : Nat} (C0 : ns_C p s m args meth c D cI cJ cT k S0) (hd : decode (ns_c k) pc = .ok (.anewarray j, 3)) (h : ns_I k pc L st S (.anewarray j) = some a) (hs : ns_Sim p l e s m args below meth c D cI cJ cT k S0 r a) : ns_G p l e s m args below meth c D cI cJ cT k S0 r pc L st S := by
  obtain ⟨hk, hx, hb, hml, hr, hlk, hni, hown, hts, hK, hE, hsz⟩ := C0
  have h : (if ns_o k = 3 ∧ j = 9 then ns_newa k pc L st S 8 3 else none) = some a := h
  by_cases hj : ns_o k = 3 ∧ j = 9
  · rw [if_pos hj] at h
    unfold ns_newa at h
    match st, h with
    | .int x :: t, h =>
      have h : (if ¬ x < 0 ∧ x.toNatClampNeg ≤ 1000000 then some (.inl (k, pc + 3, L, .ref (ns_z S) :: t, nA S 8 x.toNatClampNeg)) else none) = some a := h
      by_cases q : ¬ x < 0 ∧ x.toNatClampNeg ≤ 1000000
      · rw [if_pos q] at h
        cases h
        obtain ⟨hg, hz, hsn⟩ := hs
        intro ls H locs hL hJ
        have e1 : ns_z (nA S 8 x.toNatClampNeg) = ns_z S + 1 := rfl
        have e2 : ns_s (nA S 8 x.toNatClampNeg) = ns_s S + x.toNatClampNeg := rfl
        dsimp only at hz hsn
        rw [e1] at hz
        rw [e2] at hsn
        have z5 := hJ.2.2.2.2.1
        have z6 := hJ.2.2.2.2.2
        rw [hj.1] at hown
        rw [hj.2] at hd
        refine W.anew hx hb hown (C := RX1) (hts _ ns_ar_ok.2.2) (va_AO.use hE.1) rfl hd rfl q.1 (by omega) (by show _ ≤ ns_z r.2 - ns_z S0; omega) (by show _ ≤ ns_s r.2 - ns_s S0; omega) fun cA kA comp f1 f2 f3 f4 => ?_
        obtain ⟨kA', comp', k1, k2, k3, k4⟩ := (hK.2 2 _ rfl).2
        have hcA : cA = cT := Option.some.inj (f1.symm.trans k4)
        subst hcA
        generalize hH1 : H.push ({ cls := cA, slots := Array.replicate x.toNatClampNeg .null, vm := .none } : Cell) = H1
        have z1 : H1.size = H.size + 1 := by rw [← hH1, Array.size_push]
        have g1 : H1[H.size]? = some (arrV cA x.toNatClampNeg (fun _ => .null)) := by rw [← hH1, Array.getElem?_push_size, ← arrV_new]
        have o1 : ∀ q : Nat, q < H.size → H1[q]? = H[q]? := fun q hq => by rw [← hH1, Array.getElem?_push, if_neg (Nat.ne_of_lt hq)]
        have hJ' := ns_alA (kd := 8) (n := x.toNatClampNeg) hsz hJ (H1 := H1) (by
          rw [ns_ce_R (by rw [nA_ns_k, if_pos rfl])]
          show H1[ns_z S]? = some (vp_cell _ _)
          rw [← hJ.1, g1, vp_cell_q, nA_ns_n, hJ.1, if_pos rfl]
          congr 2
          funext i
          rw [nA_aR, if_pos rfl]
          rfl) z1 o1 (by decide)
        have hw := hg ls H1 locs hL hJ'
        dsimp only at hw
        rw [e1, e2, show ns_z S + 1 - ns_z S0 = ns_z S - ns_z S0 + 1 by omega, show ns_s S + x.toNatClampNeg - ns_s S0 = ns_s S - ns_s S0 + x.toNatClampNeg by omega] at hw
        rw [← hJ.1] at hw
        rw [hJ.1] at hw ⊢
        exact hw
      · rw [if_neg q] at h
        cases h
  · rw [if_neg hj] at h
    cases h
theorem so_cast {j : Nat} (C0 : ns_C p s m args meth c D cI cJ cT k S0) (hd : decode (ns_c k) pc = .ok (.checkcast j, 3)) (h : ns_I k pc L st S (.checkcast j) = some a) (hs : ns_Sim p l e s m args below meth c D cI cJ cT k S0 r a) : ns_G p l e s m args below meth c D cI cJ cT k S0 r pc L st S := by
  obtain ⟨hk, hx, hb, hml, hr, hlk, hni, hown, hts, hK, hE, hsz⟩ := C0
  have h : ns_cast k pc L st S j = some a := h
  unfold ns_cast at h
  match st, h with
  | .ref b :: t, h =>
    have h : (if ns_o k = 1 ∧ ((j = 32 ∧ ns_k S b = 7) ∨ (j = 37 ∧ ns_k S b = 8)) then some (.inl (k, pc + 3, L, .ref b :: t, S)) else none) = some a := h
    by_cases q : ns_o k = 1 ∧ ((j = 32 ∧ ns_k S b = 7) ∨ (j = 37 ∧ ns_k S b = 8))
    · rw [if_pos q] at h
      cases h
      intro ls H locs hL hJ
      obtain ⟨x, hx1⟩ := ns_at (cI := cI) (cJ := cJ) (cT := cT) (S := S) (a := b) (by omega)
      rw [q.1] at hown
      rcases q.2 with ⟨rfl, g⟩ | ⟨rfl, g⟩
      · rw [ns_ce_J g] at hx1
        exact va_castA hx hb hown (hts _ ns_cl_ok.1.2.2.2.2.2) hJ.2.1 x hx1 (hK.2 1 _ rfl).2 hd (hs.1 ls H locs hL hJ)
      · rw [ns_ce_R g] at hx1
        obtain ⟨kA', comp', k1, k2, k3, k4⟩ := (hK.2 2 _ rfl).2
        exact va_castA hx hb hown (hts _ ns_cl_ok.2.2.2.2) hJ.2.1 x hx1 k4 hd (hs.1 ls H locs hL hJ)
    · rw [if_neg q] at h
      cases h
theorem ns_qok {H : Heap} {locs : List Loc} (hK : va_K D vwCl (ns_tys cI cJ cT) s) (hE : ns_E s) (hJ : ns_J s D cI cJ cT S0 S H locs) (v : Option Value) : ∀ t : State, t.heap = H → s.WarmedH t.vm → ns_Q D cI cJ cT S0 (v, S) args s (.returned v) t := fun t ht hW => ⟨⟨rfl, by rw [ht]; exact hJ.1, by rw [ht]; exact hJ.2.1, va_K.moved hW.alike hK, hE.warm hW⟩, hJ.2.2.2.1.F ht⟩
theorem ns_nar {x : Int32} (h : x = 0 ∨ x = 1) : narrow .boolean (.int x) = .int x := by rcases h with rfl | rfl <;> rfl
theorem ns_rok0 {t : Option FieldType} {v : Value} (h : ns_retok t v 0 = true) : (t = some .int ∧ ∃ x, v = .int x) ∨ (t = some .boolean ∧ ∃ x : Int32, v = .int x ∧ (x = 0 ∨ x = 1)) := by
  cases t with
  | none => cases h
  | some t => cases t <;> cases v <;> first | exact Or.inl ⟨rfl, _, rfl⟩ | (refine Or.inr ⟨rfl, _, rfl, ?_⟩; simpa [ns_retok] using h) | cases h
theorem ns_rok1 {t : Option FieldType} {v : Value} (h : ns_retok t v 1 = true) : t = some .long ∧ ∃ x, v = .long x := by
  cases t with
  | none => cases h
  | some t => cases t <;> cases v <;> first | exact ⟨rfl, _, rfl⟩ | cases h
theorem ns_rok2 {t : Option FieldType} {v : Value} (h : ns_retok t v 2 = true) : (∃ C, t = some (.object C)) ∧ (v = .null ∨ ∃ x, v = .ref x) := by
  cases t with
  | none => cases h
  | some t => cases t <;> cases v <;> first | exact ⟨⟨_, rfl⟩, Or.inl rfl⟩ | exact ⟨⟨_, rfl⟩, Or.inr ⟨_, rfl⟩⟩ | cases h
theorem so_iret (C0 : ns_C p s m args meth c D cI cJ cT k S0) (hd : decode (ns_c k) pc = .ok (.ireturn, 1)) (h : ns_I k pc L st S (.ireturn) = some a) (hs : ns_Sim p l e s m args below meth c D cI cJ cT k S0 r a) : ns_G p l e s m args below meth c D cI cJ cT k S0 r pc L st S := by
  obtain ⟨hk, hx, hb, hml, hr, hlk, hni, hown, hts, hK, hE, hsz⟩ := C0
  have h : ns_ret k st S 0 = some a := h
  unfold ns_ret at h
  match st, h with
  | [v], h =>
    by_cases q : ns_retok (ns_r k) v 0 = true
    · simp only [if_pos q] at h
      cases h
      cases hs
      intro ls H locs hL hJ
      rcases ns_rok0 q with ⟨h1, x, rfl⟩ | ⟨h1, x, rfl, h2⟩
      · exact W.iret hx hb (by rw [hr]; exact h1) (ns_qok hK hE hJ _) hJ.2.2.2.1.2.2 hd hlk
      · exact W.zret hx hb (by rw [hr]; exact h1) (ns_nar h2) (ns_qok hK hE hJ _) hJ.2.2.2.1.2.2 hd hlk
    · simp only [if_neg q] at h
      cases h
theorem so_lret (C0 : ns_C p s m args meth c D cI cJ cT k S0) (hd : decode (ns_c k) pc = .ok (.lreturn, 1)) (h : ns_I k pc L st S (.lreturn) = some a) (hs : ns_Sim p l e s m args below meth c D cI cJ cT k S0 r a) : ns_G p l e s m args below meth c D cI cJ cT k S0 r pc L st S := by
  obtain ⟨hk, hx, hb, hml, hr, hlk, hni, hown, hts, hK, hE, hsz⟩ := C0
  have h : ns_ret k st S 1 = some a := h
  unfold ns_ret at h
  match st, h with
  | [v], h =>
    by_cases q : ns_retok (ns_r k) v 1 = true
    · simp only [if_pos q] at h
      cases h
      cases hs
      intro ls H locs hL hJ
      obtain ⟨h1, x, rfl⟩ := ns_rok1 q
      exact W.lret hx hb (by rw [hr]; exact h1) (ns_qok hK hE hJ _) hJ.2.2.2.1.2.2 hd hlk
    · simp only [if_neg q] at h
      cases h
theorem so_aret (C0 : ns_C p s m args meth c D cI cJ cT k S0) (hd : decode (ns_c k) pc = .ok (.areturn, 1)) (h : ns_I k pc L st S (.areturn) = some a) (hs : ns_Sim p l e s m args below meth c D cI cJ cT k S0 r a) : ns_G p l e s m args below meth c D cI cJ cT k S0 r pc L st S := by
  obtain ⟨hk, hx, hb, hml, hr, hlk, hni, hown, hts, hK, hE, hsz⟩ := C0
  have h : ns_ret k st S 2 = some a := h
  unfold ns_ret at h
  match st, h with
  | [v], h =>
    by_cases q : ns_retok (ns_r k) v 2 = true
    · simp only [if_pos q] at h
      cases h
      cases hs
      intro ls H locs hL hJ
      obtain ⟨⟨C9, h1⟩, h2⟩ := ns_rok2 q
      exact W.aret hx hb (by rw [hr]; exact h1) (Or.inl ⟨_, rfl⟩) h2 (ns_qok hK hE hJ _) hJ.2.2.2.1.2.2 hd hlk
    · simp only [if_neg q] at h
      cases h
theorem so_vret (C0 : ns_C p s m args meth c D cI cJ cT k S0) (hd : decode (ns_c k) pc = .ok (.return_, 1)) (h : ns_I k pc L st S (.return_) = some a) (hs : ns_Sim p l e s m args below meth c D cI cJ cT k S0 r a) : ns_G p l e s m args below meth c D cI cJ cT k S0 r pc L st S := by
  obtain ⟨hk, hx, hb, hml, hr, hlk, hni, hown, hts, hK, hE, hsz⟩ := C0
  have h : ns_retv k st S = some a := h
  unfold ns_retv at h
  match st, h with
  | [], h =>
    have h : (if ns_r k = none then some (.inr (.inl (none, S))) else none) = some a := h
    by_cases q : ns_r k = none
    · rw [if_pos q] at h
      cases h
      cases hs
      intro ls H locs hL hJ
      exact W.vret hx hb (by rw [hr]; exact q) (ns_qok hK hE hJ _) hJ.2.2.2.1.2.2 hd hlk
    · rw [if_neg q] at h
      cases h
end NSS
