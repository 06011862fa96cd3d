/-! ===== the machine's steps are the JVM's: what never touches the heap ===== -/
def ns_A (S : ns_St) : Nat → Prop := fun q => ns_k S q ≠ 0 ∨ ns_z S ≤ q
abbrev ns_tys (cI cJ cT : ClassId) : List (ClassId × FieldType) := [(cI, .int), (cJ, .long), (cT, .object "NestShelf$Thing")]
def ns_H (D : va_G) (cI cJ cT : ClassId) (S : ns_St) (U : State) : Prop := U.heap.size = ns_z S ∧ va_P D vwCl (ns_pool cI cJ cT S) U.heap ∧ va_K D vwCl (ns_tys cI cJ cT) U ∧ ns_E U
def ns_rm (k cn sn : Nat) : Room := { frames := ns_h k, cells := cn, slots := sn, locals := 35 * ns_h k }
def ns_Q (D : va_G) (cI cJ cT : ClassId) (S0 : ns_St) (r : ns_Rs) : Array Value → State → Outcome → State → Prop := fun _ st o t => (o = .returned r.1 ∧ ns_H D cI cJ cT r.2 t) ∧ va_F (ns_A S0) st t
/-- a method's contract: from the pool S with these arguments it comes to r -/
def ns_Met (l : Launch) (D : va_G) (cI cJ cT : ClassId) (k : Nat) (vs : List Value) (S : ns_St) (r : ns_Rs) : Prop := Met l (ns_y k) (ns_w k) (ns_rm k (ns_z r.2 - ns_z S) (ns_s r.2 - ns_s S)) (va_Pc vs (ns_H D cI cJ cT S)) (ns_Q D cI cJ cT S r) (ns_z r.2 - ns_z S) (ns_s r.2 - ns_s S) (ns_A S)
def ns_C (p : Program) (s : State) (m : MethodId) (args : Array Value) (meth : Method) (c : Code) (D : va_G) (cI cJ cT : ClassId) (k : Nat) (S0 : ns_St) : Prop :=
  k < 95 ∧ p.tables.exec = Jvm.exec ∧ c.code = ns_c k ∧ c.maxLocals = ns_m k ∧ meth.sig.returnType = ns_r k ∧ meth.locks = false ∧ (ns_ini k = true → meth.name = "<init>") ∧ s.vm.findClass (ns_R (ns_o k)) = some m.cls ∧ (∀ w ∈ ns_Gt, w.before args s = true) ∧ va_K D vwCl (ns_tys cI cJ cT) s ∧ ns_E s ∧ s.heap.size = ns_z S0
def ns_J (s : State) (D : va_G) (cI cJ cT : ClassId) (S0 S : ns_St) (H : Heap) (locs : List Loc) : Prop :=
  H.size = ns_z S ∧ va_P D vwCl (ns_pool cI cJ cT S) H ∧ (∀ a, ns_k S a ≠ 0 → ns_A S0 a) ∧ va_S (ns_A S0) s.heap H locs ∧ ns_z S0 ≤ ns_z S ∧ ns_s S0 ≤ ns_s S
def ns_G (p : Program) (l : Launch) (e : Env) (s : State) (m : MethodId) (args : Array Value) (below : List Frame) (meth : Method) (c : Code) (D : va_G) (cI cJ cT : ClassId) (k : Nat) (S0 : ns_St) (r : ns_Rs) (pc : Nat) (L : List (Option Value)) (st : List Value) (S : ns_St) : Prop :=
  ∀ (ls : Array Slot) (H : Heap) (locs : List Loc), ns_L ls (ns_m k) L → ns_J s D cI cJ cT S0 S H locs → W p l e (ns_rm k (ns_z r.2 - ns_z S0) (ns_s r.2 - ns_s S0)) s m args below meth c H locs (ns_z S - ns_z S0) (ns_s S - ns_s S0) (MQ below (ns_Q D cI cJ cT S0 r) args s (ns_z r.2 - ns_z S0) (ns_s r.2 - ns_s S0) (ns_A S0)) (F0 m pc ls st)
def ns_Sim (p : Program) (l : Launch) (e : Env) (s : State) (m : MethodId) (args : Array Value) (below : List Frame) (meth : Method) (c : Code) (D : va_G) (cI cJ cT : ClassId) (k : Nat) (S0 : ns_St) (r : ns_Rs) (a : ns_Act) : Prop := match a with
  | .inl y => ns_G p l e s m args below meth c D cI cJ cT k S0 r y.2.1 y.2.2.1 y.2.2.2.1 y.2.2.2.2 ∧ ns_z y.2.2.2.2 ≤ ns_z r.2 ∧ ns_s y.2.2.2.2 ≤ ns_s r.2
  | .inr (.inl r') => r' = r
  | .inr (.inr (y, kk)) => ∃ r1 : ns_Rs, (∀ vs, y.2.2.1 = ns_entry y.1 vs → (ns_el vs).length ≤ ns_m y.1 → ns_Met l D cI cJ cT y.1 vs y.2.2.2.2 r1) ∧ ns_G p l e s m args below meth c D cI cJ cT k S0 r (kk r1.1 r1.2).2.1 (kk r1.1 r1.2).2.2.1 (kk r1.1 r1.2).2.2.2.1 (kk r1.1 r1.2).2.2.2.2 ∧ (∀ b, ns_k r1.2 b ≠ 0 → ns_A y.2.2.2.2 b) ∧ ns_z y.2.2.2.2 ≤ ns_z r1.2 ∧ ns_s y.2.2.2.2 ≤ ns_s r1.2 ∧ ns_z r1.2 ≤ ns_z r.2 ∧ ns_s r1.2 ≤ ns_s r.2
section NSS
variable {p : Program} {l : Launch} {e : Env} {s : State} {m : MethodId} {args : Array Value} {below : List Frame} {meth : Method} {c : Code} {D : va_G} {cI cJ cT : ClassId} {k : Nat} {S0 : ns_St} {r : ns_Rs} {pc : Nat} {L : List (Option Value)} {st : List Value} {S : ns_St} {a : ns_Act}

theorem so_iconst {n : Int} (C0 : ns_C p s m args meth c D cI cJ cT k S0) (hd : decode (ns_c k) pc = .ok (.iconst n, 1)) (h : ns_I k pc L st S (.iconst n) = some a) (hs : ns_Sim p l e s m args below meth c D cI cJ cT k S0 r a) : ns_G p l e s m args below meth c D cI cJ cT k S0 r pc L st S := by
  obtain ⟨hk, hx, hb, hml, hr, hlk, hni, hown, hts, hK, hE, hsz⟩ := C0
  have h : ns_push k pc L st S 1 (.int (Int32.ofInt n)) = some a := h
  cases h
  intro ls H locs hL hJ
  exact lv_iconst hx hb hd rfl (hs.1 ls H locs hL hJ)
theorem so_bipush {n : Int} (C0 : ns_C p s m args meth c D cI cJ cT k S0) (hd : decode (ns_c k) pc = .ok (.bipush n, 2)) (h : ns_I k pc L st S (.bipush n) = some a) (hs : ns_Sim p l e s m args below meth c D cI cJ cT k S0 r a) : ns_G p l e s m args below meth c D cI cJ cT k S0 r pc L st S := by
  obtain ⟨hk, hx, hb, hml, hr, hlk, hni, hown, hts, hK, hE, hsz⟩ := C0
  have h : ns_push k pc L st S 2 (.int (Int8.ofInt n).toInt32) = some a := h
  cases h
  intro ls H locs hL hJ
  exact lv_bipush hx hb hd rfl (hs.1 ls H locs hL hJ)
theorem so_sipush {n : Int} (C0 : ns_C p s m args meth c D cI cJ cT k S0) (hd : decode (ns_c k) pc = .ok (.sipush n, 3)) (h : ns_I k pc L st S (.sipush n) = some a) (hs : ns_Sim p l e s m args below meth c D cI cJ cT k S0 r a) : ns_G p l e s m args below meth c D cI cJ cT k S0 r pc L st S := by
  obtain ⟨hk, hx, hb, hml, hr, hlk, hni, hown, hts, hK, hE, hsz⟩ := C0
  have h : ns_push k pc L st S 3 (.int (Int16.ofInt n).toInt32) = some a := h
  cases h
  intro ls H locs hL hJ
  exact lv_sipush hx hb hd rfl (hs.1 ls H locs hL hJ)
theorem so_lconst {n : Fin 2} (C0 : ns_C p s m args meth c D cI cJ cT k S0) (hd : decode (ns_c k) pc = .ok (.lconst n, 1)) (h : ns_I k pc L st S (.lconst n) = some a) (hs : ns_Sim p l e s m args below meth c D cI cJ cT k S0 r a) : ns_G p l e s m args below meth c D cI cJ cT k S0 r pc L st S := by
  obtain ⟨hk, hx, hb, hml, hr, hlk, hni, hown, hts, hK, hE, hsz⟩ := C0
  have h : ns_push k pc L st S 1 (.long (Int64.ofNat (n : Nat))) = some a := h
  cases h
  intro ls H locs hL hJ
  exact lv_lconst hx hb hd rfl (hs.1 ls H locs hL hJ)
theorem so_null (C0 : ns_C p s m args meth c D cI cJ cT k S0) (hd : decode (ns_c k) pc = .ok (.aconst_null, 1)) (h : ns_I k pc L st S (.aconst_null) = some a) (hs : ns_Sim p l e s m args below meth c D cI cJ cT k S0 r a) : ns_G p l e s m args below meth c D cI cJ cT k S0 r pc L st S := by
  obtain ⟨hk, hx, hb, hml, hr, hlk, hni, hown, hts, hK, hE, hsz⟩ := C0
  have h : ns_push k pc L st S 1 .null = some a := h
  cases h
  intro ls H locs hL hJ
  exact lv_null hx hb hd (hs.1 ls H locs hL hJ)
theorem so_ldc {j : Nat} (C0 : ns_C p s m args meth c D cI cJ cT k S0) (hd : decode (ns_c k) pc = .ok (.ldc j, 2)) (h : ns_I k pc L st S (.ldc j) = some a) (hs : ns_Sim p l e s m args below meth c D cI cJ cT k S0 r a) : ns_G p l e s m args below meth c D cI cJ cT k S0 r pc L st S := by
  obtain ⟨hk, hx, hb, hml, hr, hlk, hni, hown, hts, hK, hE, hsz⟩ := C0
  have h : (match ns_lk (ns_o k) j ns_k1 with
    | some v => ns_push k pc L st S 2 (.int v)
    | none => none) = some a := h
  cases hv : ns_lk (ns_o k) j ns_k1 with
  | none => rw [hv] at h; cases h
  | some v =>
    rw [hv] at h
    cases h
    intro ls H locs hL hJ
    exact lv_ldc hx hb hown (hts _ (ns_k1_ok _ (ns_lk_mem hv))) hd (hs.1 ls H locs hL hJ)
theorem so_ldc2 {j : Nat} (C0 : ns_C p s m args meth c D cI cJ cT k S0) (hd : decode (ns_c k) pc = .ok (.ldc2_w j, 3)) (h : ns_I k pc L st S (.ldc2_w j) = some a) (hs : ns_Sim p l e s m args below meth c D cI cJ cT k S0 r a) : ns_G p l e s m args below meth c D cI cJ cT k S0 r pc L st S := by
  obtain ⟨hk, hx, hb, hml, hr, hlk, hni, hown, hts, hK, hE, hsz⟩ := C0
  have h : (match ns_lk (ns_o k) j ns_k2 with
    | some v => ns_push k pc L st S 3 (.long v)
    | none => none) = some a := h
  cases hv : ns_lk (ns_o k) j ns_k2 with
  | none => rw [hv] at h; cases h
  | some v =>
    rw [hv] at h
    cases h
    intro ls H locs hL hJ
    exact lv_ldc2 hx hb hown (hts _ (ns_k2_ok _ (ns_lk_mem hv))) hd (hs.1 ls H locs hL hJ)
theorem so_iload_n {j : Fin 4} (C0 : ns_C p s m args meth c D cI cJ cT k S0) (hd : decode (ns_c k) pc = .ok (.iload_n j, 1)) (h : ns_I k pc L st S (.iload_n j) = some a) (hs : ns_Sim p l e s m args below meth c D cI cJ cT k S0 r a) : ns_G p l e s m args below meth c D cI cJ cT k S0 r pc L st S := by
  obtain ⟨hk, hx, hb, hml, hr, hlk, hni, hown, hts, hK, hE, hsz⟩ := C0
  have h : ns_ld k pc L st S ns_isI (j : Nat) 1 = some a := h
  unfold ns_ld at h
  cases hv : L.getD (j : Nat) none with
  | none => rw [hv] at h; cases h
  | some v =>
    rw [hv] at h
    by_cases q : ns_isI v = true
    · simp only [if_pos q] at h
      cases h
      intro ls H locs hL hJ
      have hat := hL.at hv
      have hg := hs.1 ls H locs hL hJ
      cases v with
      | int x => exact lv_iload_n hx hb hd rfl hat hg
      | _ => cases q
    · simp only [if_neg q] at h
      cases h
theorem so_iload {j : Nat} (C0 : ns_C p s m args meth c D cI cJ cT k S0) (hd : decode (ns_c k) pc = .ok (.iload j, 2)) (h : ns_I k pc L st S (.iload j) = some a) (hs : ns_Sim p l e s m args below meth c D cI cJ cT k S0 r a) : ns_G p l e s m args below meth c D cI cJ cT k S0 r pc L st S := by
  obtain ⟨hk, hx, hb, hml, hr, hlk, hni, hown, hts, hK, hE, hsz⟩ := C0
  have h : ns_ld k pc L st S ns_isI j 2 = some a := h
  unfold ns_ld at h
  cases hv : L.getD j none with
  | none => rw [hv] at h; cases h
  | some v =>
    rw [hv] at h
    by_cases q : ns_isI v = true
    · simp only [if_pos q] at h
      cases h
      intro ls H locs hL hJ
      have hat := hL.at hv
      have hg := hs.1 ls H locs hL hJ
      cases v with
      | int x => exact lv_iload hx hb hd hat hg
      | _ => cases q
    · simp only [if_neg q] at h
      cases h
theorem so_lload_n {j : Fin 4} (C0 : ns_C p s m args meth c D cI cJ cT k S0) (hd : decode (ns_c k) pc = .ok (.lload_n j, 1)) (h : ns_I k pc L st S (.lload_n j) = some a) (hs : ns_Sim p l e s m args below meth c D cI cJ cT k S0 r a) : ns_G p l e s m args below meth c D cI cJ cT k S0 r pc L st S := by
  obtain ⟨hk, hx, hb, hml, hr, hlk, hni, hown, hts, hK, hE, hsz⟩ := C0
  have h : ns_ld k pc L st S ns_isJ (j : Nat) 1 = some a := h
  unfold ns_ld at h
  cases hv : L.getD (j : Nat) none with
  | none => rw [hv] at h; cases h
  | some v =>
    rw [hv] at h
    by_cases q : ns_isJ v = true
    · simp only [if_pos q] at h
      cases h
      intro ls H locs hL hJ
      have hat := hL.at hv
      have hg := hs.1 ls H locs hL hJ
      cases v with
      | long x => exact lv_lload_n hx hb hd rfl hat hg
      | _ => cases q
    · simp only [if_neg q] at h
      cases h
theorem so_lload {j : Nat} (C0 : ns_C p s m args meth c D cI cJ cT k S0) (hd : decode (ns_c k) pc = .ok (.lload j, 2)) (h : ns_I k pc L st S (.lload j) = some a) (hs : ns_Sim p l e s m args below meth c D cI cJ cT k S0 r a) : ns_G p l e s m args below meth c D cI cJ cT k S0 r pc L st S := by
  obtain ⟨hk, hx, hb, hml, hr, hlk, hni, hown, hts, hK, hE, hsz⟩ := C0
  have h : ns_ld k pc L st S ns_isJ j 2 = some a := h
  unfold ns_ld at h
  cases hv : L.getD j none with
  | none => rw [hv] at h; cases h
  | some v =>
    rw [hv] at h
    by_cases q : ns_isJ v = true
    · simp only [if_pos q] at h
      cases h
      intro ls H locs hL hJ
      have hat := hL.at hv
      have hg := hs.1 ls H locs hL hJ
      cases v with
      | long x => exact lv_lload hx hb hd hat hg
      | _ => cases q
    · simp only [if_neg q] at h
      cases h
theorem so_aload_n {j : Fin 4} (C0 : ns_C p s m args meth c D cI cJ cT k S0) (hd : decode (ns_c k) pc = .ok (.aload_n j, 1)) (h : ns_I k pc L st S (.aload_n j) = some a) (hs : ns_Sim p l e s m args below meth c D cI cJ cT k S0 r a) : ns_G p l e s m args below meth c D cI cJ cT k S0 r pc L st S := by
  obtain ⟨hk, hx, hb, hml, hr, hlk, hni, hown, hts, hK, hE, hsz⟩ := C0
  have h : ns_ld k pc L st S ns_rfok (j : Nat) 1 = some a := h
  unfold ns_ld at h
  cases hv : L.getD (j : Nat) none with
  | none => rw [hv] at h; cases h
  | some v =>
    rw [hv] at h
    by_cases q : ns_rfok v = true
    · simp only [if_pos q] at h
      cases h
      intro ls H locs hL hJ
      have hat := hL.at hv
      have hg := hs.1 ls H locs hL hJ
      cases v with
      | ref x => exact lv_aload_n hx hb hd rfl hat hg
      | null => exact lv_aload_nN hx hb hd rfl hat hg
      | _ => cases q
    · simp only [if_neg q] at h
      cases h
theorem so_aload {j : Nat} (C0 : ns_C p s m args meth c D cI cJ cT k S0) (hd : decode (ns_c k) pc = .ok (.aload j, 2)) (h : ns_I k pc L st S (.aload j) = some a) (hs : ns_Sim p l e s m args below meth c D cI cJ cT k S0 r a) : ns_G p l e s m args below meth c D cI cJ cT k S0 r pc L st S := by
  obtain ⟨hk, hx, hb, hml, hr, hlk, hni, hown, hts, hK, hE, hsz⟩ := C0
  have h : ns_ld k pc L st S ns_rfok j 2 = some a := h
  unfold ns_ld at h
  cases hv : L.getD j none with
  | none => rw [hv] at h; cases h
  | some v =>
    rw [hv] at h
    by_cases q : ns_rfok v = true
    · simp only [if_pos q] at h
      cases h
      intro ls H locs hL hJ
      have hat := hL.at hv
      have hg := hs.1 ls H locs hL hJ
      cases v with
      | ref x => exact lv_aload hx hb hd hat hg
      | null => exact lv_aloadN hx hb hd hat hg
      | _ => cases q
    · simp only [if_neg q] at h
      cases h
theorem so_istore_n {j : Fin 4} (C0 : ns_C p s m args meth c D cI cJ cT k S0) (hd : decode (ns_c k) pc = .ok (.istore_n j, 1)) (h : ns_I k pc L st S (.istore_n j) = some a) (hs : ns_Sim p l e s m args below meth c D cI cJ cT k S0 r a) : ns_G p l e s m args below meth c D cI cJ cT k S0 r pc L st S := by
  obtain ⟨hk, hx, hb, hml, hr, hlk, hni, hown, hts, hK, hE, hsz⟩ := C0
  have h : ns_sto k pc L st S ns_isI (j : Nat) 1 = some a := h
  unfold ns_sto at h
  match st, h with
  | [], h => cases h
  | v :: t, h =>
    by_cases q : ns_isI v = true ∧ (j : Nat) < L.length ∧ ns_ahead L (j : Nat) = true
    · simp only [if_pos q] at h
      cases h
      intro ls H locs hL hJ
      have hn : (j : Nat) < ns_m k := hL.1 ▸ q.2.1
      have hg : ∀ ls', lv_has ls' (ns_m k) (((j : Nat), v) :: (ns_lp L).filter (fun q => !(q.1 == (j : Nat)) && !(q.1 + 1 == (j : Nat) && q.2.category == 2))) → _ := fun ls' hl' => hs.1 ls' H locs (ns_L.set hL.1 q.2.2 hl') hJ
      cases v with
      | int x => exact lv_istore_n hx hb hd rfl hL.2 hn rfl hg
      | _ => cases q.1
    · simp only [if_neg q] at h
      cases h
theorem so_astore_n {j : Fin 4} (C0 : ns_C p s m args meth c D cI cJ cT k S0) (hd : decode (ns_c k) pc = .ok (.astore_n j, 1)) (h : ns_I k pc L st S (.astore_n j) = some a) (hs : ns_Sim p l e s m args below meth c D cI cJ cT k S0 r a) : ns_G p l e s m args below meth c D cI cJ cT k S0 r pc L st S := by
  obtain ⟨hk, hx, hb, hml, hr, hlk, hni, hown, hts, hK, hE, hsz⟩ := C0
  have h : ns_sto k pc L st S ns_rfok (j : Nat) 1 = some a := h
  unfold ns_sto at h
  match st, h with
  | [], h => cases h
  | v :: t, h =>
    by_cases q : ns_rfok v = true ∧ (j : Nat) < L.length ∧ ns_ahead L (j : Nat) = true
    · simp only [if_pos q] at h
      cases h
      intro ls H locs hL hJ
      have hn : (j : Nat) < ns_m k := hL.1 ▸ q.2.1
      have hg : ∀ ls', lv_has ls' (ns_m k) (((j : Nat), v) :: (ns_lp L).filter (fun q => !(q.1 == (j : Nat)) && !(q.1 + 1 == (j : Nat) && q.2.category == 2))) → _ := fun ls' hl' => hs.1 ls' H locs (ns_L.set hL.1 q.2.2 hl') hJ
      cases v with
      | ref x => exact lv_astore_n hx hb hd rfl hL.2 hn rfl hg
      | null => exact lv_astore_nN hx hb hd rfl hL.2 hn rfl hg
      | _ => cases q.1
    · simp only [if_neg q] at h
      cases h
theorem so_lstore_n {j : Fin 4} (C0 : ns_C p s m args meth c D cI cJ cT k S0) (hd : decode (ns_c k) pc = .ok (.lstore_n j, 1)) (h : ns_I k pc L st S (.lstore_n j) = some a) (hs : ns_Sim p l e s m args below meth c D cI cJ cT k S0 r a) : ns_G p l e s m args below meth c D cI cJ cT k S0 r pc L st S := by
  obtain ⟨hk, hx, hb, hml, hr, hlk, hni, hown, hts, hK, hE, hsz⟩ := C0
  have h : ns_sto2 k pc L st S (j : Nat) 1 = some a := h
  unfold ns_sto2 at h
  match st, h with
  | [], h => cases h
  | v :: t, h =>
    by_cases q : ns_isJ v = true ∧ (j : Nat) + 1 < L.length ∧ ns_ahead L (j : Nat) = true
    · simp only [if_pos q] at h
      cases h
      intro ls H locs hL hJ
      have hn : (j : Nat) + 1 < ns_m k := hL.1 ▸ q.2.1
      cases v with
      | long x => exact lv_lstore_n hx hb hd rfl hL.2 hn rfl (fun ls' hl' => hs.1 ls' H locs (ns_L.set2 hL.1 q.2.2 q.2.1 hl') hJ)
      | _ => cases q.1
    · simp only [if_neg q] at h
      cases h
theorem so_istore {j : Nat} (C0 : ns_C p s m args meth c D cI cJ cT k S0) (hd : decode (ns_c k) pc = .ok (.istore j, 2)) (h : ns_I k pc L st S (.istore j) = some a) (hs : ns_Sim p l e s m args below meth c D cI cJ cT k S0 r a) : ns_G p l e s m args below meth c D cI cJ cT k S0 r pc L st S := by
  obtain ⟨hk, hx, hb, hml, hr, hlk, hni, hown, hts, hK, hE, hsz⟩ := C0
  have h : ns_sto k pc L st S ns_isI j 2 = some a := h
  unfold ns_sto at h
  match st, h with
  | [], h => cases h
  | v :: t, h =>
    by_cases q : ns_isI v = true ∧ j < L.length ∧ ns_ahead L j = true
    · simp only [if_pos q] at h
      cases h
      intro ls H locs hL hJ
      have hn : j < ns_m k := hL.1 ▸ q.2.1
      have hg : ∀ ls', lv_has ls' (ns_m k) ((j, v) :: (ns_lp L).filter (fun q => !(q.1 == j) && !(q.1 + 1 == j && q.2.category == 2))) → _ := fun ls' hl' => hs.1 ls' H locs (ns_L.set hL.1 q.2.2 hl') hJ
      cases v with
      | int x => exact lv_istore hx hb hd hL.2 hn rfl hg
      | _ => cases q.1
    · simp only [if_neg q] at h
      cases h
theorem so_astore {j : Nat} (C0 : ns_C p s m args meth c D cI cJ cT k S0) (hd : decode (ns_c k) pc = .ok (.astore j, 2)) (h : ns_I k pc L st S (.astore j) = some a) (hs : ns_Sim p l e s m args below meth c D cI cJ cT k S0 r a) : ns_G p l e s m args below meth c D cI cJ cT k S0 r pc L st S := by
  obtain ⟨hk, hx, hb, hml, hr, hlk, hni, hown, hts, hK, hE, hsz⟩ := C0
  have h : ns_sto k pc L st S ns_rfok j 2 = some a := h
  unfold ns_sto at h
  match st, h with
  | [], h => cases h
  | v :: t, h =>
    by_cases q : ns_rfok v = true ∧ j < L.length ∧ ns_ahead L j = true
    · simp only [if_pos q] at h
      cases h
      intro ls H locs hL hJ
      have hn : j < ns_m k := hL.1 ▸ q.2.1
      have hg : ∀ ls', lv_has ls' (ns_m k) ((j, v) :: (ns_lp L).filter (fun q => !(q.1 == j) && !(q.1 + 1 == j && q.2.category == 2))) → _ := fun ls' hl' => hs.1 ls' H locs (ns_L.set hL.1 q.2.2 hl') hJ
      cases v with
      | ref x => exact lv_astore hx hb hd hL.2 hn rfl hg
      | null => exact lv_astoreN hx hb hd hL.2 hn rfl hg
      | _ => cases q.1
    · simp only [if_neg q] at h
      cases h
theorem so_lstore {j : Nat} (C0 : ns_C p s m args meth c D cI cJ cT k S0) (hd : decode (ns_c k) pc = .ok (.lstore j, 2)) (h : ns_I k pc L st S (.lstore j) = some a) (hs : ns_Sim p l e s m args below meth c D cI cJ cT k S0 r a) : ns_G p l e s m args below meth c D cI cJ cT k S0 r pc L st S := by
  obtain ⟨hk, hx, hb, hml, hr, hlk, hni, hown, hts, hK, hE, hsz⟩ := C0
  have h : ns_sto2 k pc L st S j 2 = some a := h
  unfold ns_sto2 at h
  match st, h with
  | [], h => cases h
  | v :: t, h =>
    by_cases q : ns_isJ v = true ∧ j + 1 < L.length ∧ ns_ahead L j = true
    · simp only [if_pos q] at h
      cases h
      intro ls H locs hL hJ
      have hn : j + 1 < ns_m k := hL.1 ▸ q.2.1
      cases v with
      | long x => exact lv_lstore hx hb hd hL.2 hn rfl (fun ls' hl' => hs.1 ls' H locs (ns_L.set2 hL.1 q.2.2 q.2.1 hl') hJ)
      | _ => cases q.1
    · simp only [if_neg q] at h
      cases h
theorem so_iinc {j : Nat} {n : Int} (C0 : ns_C p s m args meth c D cI cJ cT k S0) (hd : decode (ns_c k) pc = .ok (.iinc j n, 3)) (h : ns_I k pc L st S (.iinc j n) = some a) (hs : ns_Sim p l e s m args below meth c D cI cJ cT k S0 r a) : ns_G p l e s m args below meth c D cI cJ cT k S0 r pc L st S := by
  obtain ⟨hk, hx, hb, hml, hr, hlk, hni, hown, hts, hK, hE, hsz⟩ := C0
  have h : ns_iinc k pc L st S j n = some a := h
  unfold ns_iinc at h
  cases hv : L.getD j none with
  | none => rw [hv] at h; cases h
  | some v =>
    rw [hv] at h
    cases v with
    | int x =>
      by_cases q : j < L.length ∧ ns_ahead L j = true
      · simp only [if_pos q] at h
        cases h
        intro ls H locs hL hJ
        have hm : (j, Value.int x) ∈ ns_lp L := ns_lp_mem.mpr hv
        obtain ⟨i, hi⟩ := List.getElem?_of_mem hm
        exact lv_iinc hx hb hd hL.2 hi rfl (hL.1 ▸ q.1) rfl (fun ls' hl' => hs.1 ls' H locs (ns_L.set hL.1 q.2 hl') hJ)
      · simp only [if_neg q] at h
        cases h
    | _ => cases h
theorem so_iadd (C0 : ns_C p s m args meth c D cI cJ cT k S0) (hd : decode (ns_c k) pc = .ok (.iadd, 1)) (h : ns_I k pc L st S (.iadd) = some a) (hs : ns_Sim p l e s m args below meth c D cI cJ cT k S0 r a) : ns_G p l e s m args below meth c D cI cJ cT k S0 r pc L st S := by
  obtain ⟨hk, hx, hb, hml, hr, hlk, hni, hown, hts, hK, hE, hsz⟩ := C0
  have h : ns_ii k pc L st S (fun x y => x + y) = some a := h
  unfold ns_ii at h
  split at h
  · cases h
    intro ls H locs hL hJ
    exact lv_iadd hx hb hd (hs.1 ls H locs hL hJ)
  · cases h
theorem so_isub (C0 : ns_C p s m args meth c D cI cJ cT k S0) (hd : decode (ns_c k) pc = .ok (.isub, 1)) (h : ns_I k pc L st S (.isub) = some a) (hs : ns_Sim p l e s m args below meth c D cI cJ cT k S0 r a) : ns_G p l e s m args below meth c D cI cJ cT k S0 r pc L st S := by
  obtain ⟨hk, hx, hb, hml, hr, hlk, hni, hown, hts, hK, hE, hsz⟩ := C0
  have h : ns_ii k pc L st S (fun x y => x - y) = some a := h
  unfold ns_ii at h
  split at h
  · cases h
    intro ls H locs hL hJ
    exact lv_isub hx hb hd (hs.1 ls H locs hL hJ)
  · cases h
theorem so_ladd (C0 : ns_C p s m args meth c D cI cJ cT k S0) (hd : decode (ns_c k) pc = .ok (.ladd, 1)) (h : ns_I k pc L st S (.ladd) = some a) (hs : ns_Sim p l e s m args below meth c D cI cJ cT k S0 r a) : ns_G p l e s m args below meth c D cI cJ cT k S0 r pc L st S := by
  obtain ⟨hk, hx, hb, hml, hr, hlk, hni, hown, hts, hK, hE, hsz⟩ := C0
  have h : ns_jj k pc L st S (fun x y => x + y) = some a := h
  unfold ns_jj at h
  split at h
  · cases h
    intro ls H locs hL hJ
    exact lv_ladd hx hb hd (hs.1 ls H locs hL hJ)
  · cases h
theorem so_lsub (C0 : ns_C p s m args meth c D cI cJ cT k S0) (hd : decode (ns_c k) pc = .ok (.lsub, 1)) (h : ns_I k pc L st S (.lsub) = some a) (hs : ns_Sim p l e s m args below meth c D cI cJ cT k S0 r a) : ns_G p l e s m args below meth c D cI cJ cT k S0 r pc L st S := by
  obtain ⟨hk, hx, hb, hml, hr, hlk, hni, hown, hts, hK, hE, hsz⟩ := C0
  have h : ns_jj k pc L st S (fun x y => x - y) = some a := h
  unfold ns_jj at h
  split at h
  · cases h
    intro ls H locs hL hJ
    exact lv_lsub hx hb hd (hs.1 ls H locs hL hJ)
  · cases h
theorem so_lmul (C0 : ns_C p s m args meth c D cI cJ cT k S0) (hd : decode (ns_c k) pc = .ok (.lmul, 1)) (h : ns_I k pc L st S (.lmul) = some a) (hs : ns_Sim p l e s m args below meth c D cI cJ cT k S0 r a) : ns_G p l e s m args below meth c D cI cJ cT k S0 r pc L st S := by
  obtain ⟨hk, hx, hb, hml, hr, hlk, hni, hown, hts, hK, hE, hsz⟩ := C0
  have h : ns_jj k pc L st S (fun x y => x * y) = some a := h
  unfold ns_jj at h
  split at h
  · cases h
    intro ls H locs hL hJ
    exact lv_lmul hx hb hd (hs.1 ls H locs hL hJ)
  · cases h
theorem so_land (C0 : ns_C p s m args meth c D cI cJ cT k S0) (hd : decode (ns_c k) pc = .ok (.land, 1)) (h : ns_I k pc L st S (.land) = some a) (hs : ns_Sim p l e s m args below meth c D cI cJ cT k S0 r a) : ns_G p l e s m args below meth c D cI cJ cT k S0 r pc L st S := by
  obtain ⟨hk, hx, hb, hml, hr, hlk, hni, hown, hts, hK, hE, hsz⟩ := C0
  have h : ns_jj k pc L st S (fun x y => x &&& y) = some a := h
  unfold ns_jj at h
  split at h
  · cases h
    intro ls H locs hL hJ
    exact lv_land hx hb hd (hs.1 ls H locs hL hJ)
  · cases h
theorem so_lcmp (C0 : ns_C p s m args meth c D cI cJ cT k S0) (hd : decode (ns_c k) pc = .ok (.lcmp, 1)) (h : ns_I k pc L st S (.lcmp) = some a) (hs : ns_Sim p l e s m args below meth c D cI cJ cT k S0 r a) : ns_G p l e s m args below meth c D cI cJ cT k S0 r pc L st S := by
  obtain ⟨hk, hx, hb, hml, hr, hlk, hni, hown, hts, hK, hE, hsz⟩ := C0
  have h : ns_lcmp k pc L st S = some a := h
  unfold ns_lcmp at h
  split at h
  · cases h
    intro ls H locs hL hJ
    exact W.lcmp hx hb hd (hs.1 ls H locs hL hJ)
  · cases h
theorem so_i2l (C0 : ns_C p s m args meth c D cI cJ cT k S0) (hd : decode (ns_c k) pc = .ok (.i2l, 1)) (h : ns_I k pc L st S (.i2l) = some a) (hs : ns_Sim p l e s m args below meth c D cI cJ cT k S0 r a) : ns_G p l e s m args below meth c D cI cJ cT k S0 r pc L st S := by
  obtain ⟨hk, hx, hb, hml, hr, hlk, hni, hown, hts, hK, hE, hsz⟩ := C0
  have h : ns_i2l k pc L st S = some a := h
  unfold ns_i2l at h
  split at h
  · cases h
    intro ls H locs hL hJ
    exact lv_i2l hx hb hd rfl (hs.1 ls H locs hL hJ)
  · cases h
theorem so_l2i (C0 : ns_C p s m args meth c D cI cJ cT k S0) (hd : decode (ns_c k) pc = .ok (.l2i, 1)) (h : ns_I k pc L st S (.l2i) = some a) (hs : ns_Sim p l e s m args below meth c D cI cJ cT k S0 r a) : ns_G p l e s m args below meth c D cI cJ cT k S0 r pc L st S := by
  obtain ⟨hk, hx, hb, hml, hr, hlk, hni, hown, hts, hK, hE, hsz⟩ := C0
  have h : ns_l2i k pc L st S = some a := h
  unfold ns_l2i at h
  split at h
  · cases h
    intro ls H locs hL hJ
    exact lv_l2i hx hb hd rfl (hs.1 ls H locs hL hJ)
  · cases h
theorem so_i2c (C0 : ns_C p s m args meth c D cI cJ cT k S0) (hd : decode (ns_c k) pc = .ok (.i2c, 1)) (h : ns_I k pc L st S (.i2c) = some a) (hs : ns_Sim p l e s m args below meth c D cI cJ cT k S0 r a) : ns_G p l e s m args below meth c D cI cJ cT k S0 r pc L st S := by
  obtain ⟨hk, hx, hb, hml, hr, hlk, hni, hown, hts, hK, hE, hsz⟩ := C0
  have h : ns_i2c k pc L st S = some a := h
  unfold ns_i2c at h
  split at h
  · cases h
    intro ls H locs hL hJ
    exact lv_i2c hx hb hd rfl (hs.1 ls H locs hL hJ)
  · cases h
theorem so_dup (C0 : ns_C p s m args meth c D cI cJ cT k S0) (hd : decode (ns_c k) pc = .ok (.dup, 1)) (h : ns_I k pc L st S (.dup) = some a) (hs : ns_Sim p l e s m args below meth c D cI cJ cT k S0 r a) : ns_G p l e s m args below meth c D cI cJ cT k S0 r pc L st S := by
  obtain ⟨hk, hx, hb, hml, hr, hlk, hni, hown, hts, hK, hE, hsz⟩ := C0
  have h : ns_dup k pc L st S = some a := h
  unfold ns_dup at h
  match st, h with
  | [], h => cases h
  | v :: t, h =>
    by_cases q : v.category = 1
    · simp only [if_pos q] at h
      cases h
      intro ls H locs hL hJ
      exact lv_dup hx hb hd q (hs.1 ls H locs hL hJ)
    · simp only [if_neg q] at h
      cases h
theorem so_pop (C0 : ns_C p s m args meth c D cI cJ cT k S0) (hd : decode (ns_c k) pc = .ok (.pop, 1)) (h : ns_I k pc L st S (.pop) = some a) (hs : ns_Sim p l e s m args below meth c D cI cJ cT k S0 r a) : ns_G p l e s m args below meth c D cI cJ cT k S0 r pc L st S := by
  obtain ⟨hk, hx, hb, hml, hr, hlk, hni, hown, hts, hK, hE, hsz⟩ := C0
  have h : ns_pop k pc L st S = some a := h
  unfold ns_pop at h
  match st, h with
  | [], h => cases h
  | v :: t, h =>
    by_cases q : v.category = 1
    · simp only [if_pos q] at h
      cases h
      intro ls H locs hL hJ
      exact lv_pop hx hb hd q (hs.1 ls H locs hL hJ)
    · simp only [if_neg q] at h
      cases h
theorem so_dup2 (C0 : ns_C p s m args meth c D cI cJ cT k S0) (hd : decode (ns_c k) pc = .ok (.dup2, 1)) (h : ns_I k pc L st S (.dup2) = some a) (hs : ns_Sim p l e s m args below meth c D cI cJ cT k S0 r a) : ns_G p l e s m args below meth c D cI cJ cT k S0 r pc L st S := by
  obtain ⟨hk, hx, hb, hml, hr, hlk, hni, hown, hts, hK, hE, hsz⟩ := C0
  have h : ns_dup2 k pc L st S = some a := h
  unfold ns_dup2 at h
  match st, h with
  | [], h => cases h
  | [_], h => cases h
  | v :: w :: t, h =>
    by_cases q : v.category = 1 ∧ w.category = 1
    · simp only [if_pos q] at h
      cases h
      intro ls H locs hL hJ
      exact lv_dup2_11 hx hb hd q.1 q.2 (hs.1 ls H locs hL hJ)
    · simp only [if_neg q] at h
      cases h
theorem ns_to_ok {off : Int} {t : List Value} (h : ns_to k pc L S off t = some a) (hs : ns_Sim p l e s m args below meth c D cI cJ cT k S0 r a) : ∃ tgt : Nat, (pc : Int) + off = (tgt : Int) ∧ ns_G p l e s m args below meth c D cI cJ cT k S0 r tgt L t S := by
  unfold ns_to at h
  by_cases q : 0 ≤ (pc : Int) + off
  · rw [if_pos q] at h
    cases h
    exact ⟨((pc : Int) + off).toNat, (Int.toNat_of_nonneg q).symm, hs.1⟩
  · rw [if_neg q] at h
    cases h
theorem so_goto {off : Int} (C0 : ns_C p s m args meth c D cI cJ cT k S0) (hd : decode (ns_c k) pc = .ok (.goto off, 3)) (h : ns_I k pc L st S (.goto off) = some a) (hs : ns_Sim p l e s m args below meth c D cI cJ cT k S0 r a) : ns_G p l e s m args below meth c D cI cJ cT k S0 r pc L st S := by
  obtain ⟨hk, hx, hb, hml, hr, hlk, hni, hown, hts, hK, hE, hsz⟩ := C0
  have h : ns_to k pc L S off st = some a := h
  obtain ⟨tgt, ht, hg⟩ := ns_to_ok h hs
  intro ls H locs hL hJ
  exact lv_goto hx hb hd ht (hg ls H locs hL hJ)
theorem so_if_eq {off : Int} (C0 : ns_C p s m args meth c D cI cJ cT k S0) (hd : decode (ns_c k) pc = .ok (.ifCond .eq off, 3)) (h : ns_I k pc L st S (.ifCond .eq off) = some a) (hs : ns_Sim p l e s m args below meth c D cI cJ cT k S0 r a) : ns_G p l e s m args below meth c D cI cJ cT k S0 r pc L st S := by
  obtain ⟨hk, hx, hb, hml, hr, hlk, hni, hown, hts, hK, hE, hsz⟩ := C0
  have h : (if 0 ≤ (pc : Int) + off then ns_if1 k pc L st S .eq off else none) = some a := h
  by_cases hq : 0 ≤ (pc : Int) + off
  · rw [if_pos hq] at h
    have hoff : ∃ tgt : Nat, (pc : Int) + off = (tgt : Int) := ⟨_, (Int.toNat_of_nonneg hq).symm⟩
    unfold ns_if1 at h
    match st, h with
    | .int x :: t, h =>
      have h : (if x = 0 then ns_to k pc L S off t else some (.inl (k, pc + 3, L, t, S))) = some a := h
      by_cases q : x = 0
      · rw [if_pos q] at h
        obtain ⟨tgt, ht, hg⟩ := ns_to_ok h hs
        intro ls H locs hL hJ
        exact lv_if_eq hx hb hd ht (fun _ => hg ls H locs hL hJ) (fun z => absurd q z)
      · rw [if_neg q] at h
        cases h
        intro ls H locs hL hJ
        obtain ⟨tgt, ht⟩ : ∃ tgt : Nat, (pc : Int) + off = (tgt : Int) := hoff
        exact lv_if_eq hx hb hd ht (fun z => absurd z q) (fun _ => hs.1 ls H locs hL hJ)
  · rw [if_neg hq] at h
    cases h
theorem so_if_ne {off : Int} (C0 : ns_C p s m args meth c D cI cJ cT k S0) (hd : decode (ns_c k) pc = .ok (.ifCond .ne off, 3)) (h : ns_I k pc L st S (.ifCond .ne off) = some a) (hs : ns_Sim p l e s m args below meth c D cI cJ cT k S0 r a) : ns_G p l e s m args below meth c D cI cJ cT k S0 r pc L st S := by
  obtain ⟨hk, hx, hb, hml, hr, hlk, hni, hown, hts, hK, hE, hsz⟩ := C0
  have h : (if 0 ≤ (pc : Int) + off then ns_if1 k pc L st S .ne off else none) = some a := h
  by_cases hq : 0 ≤ (pc : Int) + off
  · rw [if_pos hq] at h
    have hoff : ∃ tgt : Nat, (pc : Int) + off = (tgt : Int) := ⟨_, (Int.toNat_of_nonneg hq).symm⟩
    unfold ns_if1 at h
    match st, h with
    | .int x :: t, h =>
      have h : (if x = 0 then some (.inl (k, pc + 3, L, t, S)) else ns_to k pc L S off t) = some a := h
      by_cases q : x = 0
      · rw [if_pos q] at h
        cases h
        intro ls H locs hL hJ
        obtain ⟨tgt, ht⟩ : ∃ tgt : Nat, (pc : Int) + off = (tgt : Int) := hoff
        exact lv_if_ne hx hb hd ht (fun z => absurd q z) (fun _ => hs.1 ls H locs hL hJ)
      · rw [if_neg q] at h
        obtain ⟨tgt, ht, hg⟩ := ns_to_ok h hs
        intro ls H locs hL hJ
        exact lv_if_ne hx hb hd ht (fun _ => hg ls H locs hL hJ) (fun z => absurd z q)
  · rw [if_neg hq] at h
    cases h
theorem so_if_lt {off : Int} (C0 : ns_C p s m args meth c D cI cJ cT k S0) (hd : decode (ns_c k) pc = .ok (.ifCond .lt off, 3)) (h : ns_I k pc L st S (.ifCond .lt off) = some a) (hs : ns_Sim p l e s m args below meth c D cI cJ cT k S0 r a) : ns_G p l e s m args below meth c D cI cJ cT k S0 r pc L st S := by
  obtain ⟨hk, hx, hb, hml, hr, hlk, hni, hown, hts, hK, hE, hsz⟩ := C0
  have h : (if 0 ≤ (pc : Int) + off then ns_if1 k pc L st S .lt off else none) = some a := h
  by_cases hq : 0 ≤ (pc : Int) + off
  · rw [if_pos hq] at h
    have hoff : ∃ tgt : Nat, (pc : Int) + off = (tgt : Int) := ⟨_, (Int.toNat_of_nonneg hq).symm⟩
    unfold ns_if1 at h
    match st, h with
    | .int x :: t, h =>
      have h : (if x < 0 then ns_to k pc L S off t else some (.inl (k, pc + 3, L, t, S))) = some a := h
      by_cases q : x < 0
      · rw [if_pos q] at h
        obtain ⟨tgt, ht, hg⟩ := ns_to_ok h hs
        intro ls H locs hL hJ
        exact lv_if_lt hx hb hd ht (fun _ => hg ls H locs hL hJ) (fun z => absurd q z)
      · rw [if_neg q] at h
        cases h
        intro ls H locs hL hJ
        obtain ⟨tgt, ht⟩ : ∃ tgt : Nat, (pc : Int) + off = (tgt : Int) := hoff
        exact lv_if_lt hx hb hd ht (fun z => absurd z q) (fun _ => hs.1 ls H locs hL hJ)
  · rw [if_neg hq] at h
    cases h
theorem so_if_ge {off : Int} (C0 : ns_C p s m args meth c D cI cJ cT k S0) (hd : decode (ns_c k) pc = .ok (.ifCond .ge off, 3)) (h : ns_I k pc L st S (.ifCond .ge off) = some a) (hs : ns_Sim p l e s m args below meth c D cI cJ cT k S0 r a) : ns_G p l e s m args below meth c D cI cJ cT k S0 r pc L st S := by
  obtain ⟨hk, hx, hb, hml, hr, hlk, hni, hown, hts, hK, hE, hsz⟩ := C0
  have h : (if 0 ≤ (pc : Int) + off then ns_if1 k pc L st S .ge off else none) = some a := h
  by_cases hq : 0 ≤ (pc : Int) + off
  · rw [if_pos hq] at h
    have hoff : ∃ tgt : Nat, (pc : Int) + off = (tgt : Int) := ⟨_, (Int.toNat_of_nonneg hq).symm⟩
    unfold ns_if1 at h
    match st, h with
    | .int x :: t, h =>
      have h : (if 0 ≤ x then ns_to k pc L S off t else some (.inl (k, pc + 3, L, t, S))) = some a := h
      by_cases q : 0 ≤ x
      · rw [if_pos q] at h
        obtain ⟨tgt, ht, hg⟩ := ns_to_ok h hs
        intro ls H locs hL hJ
        exact lv_if_ge hx hb hd ht (fun _ => hg ls H locs hL hJ) (fun z => absurd q z)
      · rw [if_neg q] at h
        cases h
        intro ls H locs hL hJ
        obtain ⟨tgt, ht⟩ : ∃ tgt : Nat, (pc : Int) + off = (tgt : Int) := hoff
        exact lv_if_ge hx hb hd ht (fun z => absurd z q) (fun _ => hs.1 ls H locs hL hJ)
  · rw [if_neg hq] at h
    cases h
theorem so_if_gt {off : Int} (C0 : ns_C p s m args meth c D cI cJ cT k S0) (hd : decode (ns_c k) pc = .ok (.ifCond .gt off, 3)) (h : ns_I k pc L st S (.ifCond .gt off) = some a) (hs : ns_Sim p l e s m args below meth c D cI cJ cT k S0 r a) : ns_G p l e s m args below meth c D cI cJ cT k S0 r pc L st S := by
  obtain ⟨hk, hx, hb, hml, hr, hlk, hni, hown, hts, hK, hE, hsz⟩ := C0
  have h : (if 0 ≤ (pc : Int) + off then ns_if1 k pc L st S .gt off else none) = some a := h
  by_cases hq : 0 ≤ (pc : Int) + off
  · rw [if_pos hq] at h
    have hoff : ∃ tgt : Nat, (pc : Int) + off = (tgt : Int) := ⟨_, (Int.toNat_of_nonneg hq).symm⟩
    unfold ns_if1 at h
    match st, h with
    | .int x :: t, h =>
      have h : (if 0 < x then ns_to k pc L S off t else some (.inl (k, pc + 3, L, t, S))) = some a := h
      by_cases q : 0 < x
      · rw [if_pos q] at h
        obtain ⟨tgt, ht, hg⟩ := ns_to_ok h hs
        intro ls H locs hL hJ
        exact lv_if_gt hx hb hd ht (fun _ => hg ls H locs hL hJ) (fun z => absurd q z)
      · rw [if_neg q] at h
        cases h
        intro ls H locs hL hJ
        obtain ⟨tgt, ht⟩ : ∃ tgt : Nat, (pc : Int) + off = (tgt : Int) := hoff
        exact lv_if_gt hx hb hd ht (fun z => absurd z q) (fun _ => hs.1 ls H locs hL hJ)
  · rw [if_neg hq] at h
    cases h
theorem so_if_le {off : Int} (C0 : ns_C p s m args meth c D cI cJ cT k S0) (hd : decode (ns_c k) pc = .ok (.ifCond .le off, 3)) (h : ns_I k pc L st S (.ifCond .le off) = some a) (hs : ns_Sim p l e s m args below meth c D cI cJ cT k S0 r a) : ns_G p l e s m args below meth c D cI cJ cT k S0 r pc L st S := by
  obtain ⟨hk, hx, hb, hml, hr, hlk, hni, hown, hts, hK, hE, hsz⟩ := C0
  have h : (if 0 ≤ (pc : Int) + off then ns_if1 k pc L st S .le off else none) = some a := h
  by_cases hq : 0 ≤ (pc : Int) + off
  · rw [if_pos hq] at h
    have hoff : ∃ tgt : Nat, (pc : Int) + off = (tgt : Int) := ⟨_, (Int.toNat_of_nonneg hq).symm⟩
    unfold ns_if1 at h
    match st, h with
    | .int x :: t, h =>
      have h : (if x ≤ 0 then ns_to k pc L S off t else some (.inl (k, pc + 3, L, t, S))) = some a := h
      by_cases q : x ≤ 0
      · rw [if_pos q] at h
        obtain ⟨tgt, ht, hg⟩ := ns_to_ok h hs
        intro ls H locs hL hJ
        exact lv_if_le hx hb hd ht (fun _ => hg ls H locs hL hJ) (fun z => absurd q z)
      · rw [if_neg q] at h
        cases h
        intro ls H locs hL hJ
        obtain ⟨tgt, ht⟩ : ∃ tgt : Nat, (pc : Int) + off = (tgt : Int) := hoff
        exact lv_if_le hx hb hd ht (fun z => absurd z q) (fun _ => hs.1 ls H locs hL hJ)
  · rw [if_neg hq] at h
    cases h
theorem so_icmp_eq {off : Int} (C0 : ns_C p s m args meth c D cI cJ cT k S0) (hd : decode (ns_c k) pc = .ok (.if_icmp .eq off, 3)) (h : ns_I k pc L st S (.if_icmp .eq off) = some a) (hs : ns_Sim p l e s m args below meth c D cI cJ cT k S0 r a) : ns_G p l e s m args below meth c D cI cJ cT k S0 r pc L st S := by
  obtain ⟨hk, hx, hb, hml, hr, hlk, hni, hown, hts, hK, hE, hsz⟩ := C0
  have h : (if 0 ≤ (pc : Int) + off then ns_if2 k pc L st S .eq off else none) = some a := h
  by_cases hq : 0 ≤ (pc : Int) + off
  · rw [if_pos hq] at h
    have hoff : ∃ tgt : Nat, (pc : Int) + off = (tgt : Int) := ⟨_, (Int.toNat_of_nonneg hq).symm⟩
    unfold ns_if2 at h
    match st, h with
    | .int y :: .int x :: t, h =>
      have h : (if x = y then ns_to k pc L S off t else some (.inl (k, pc + 3, L, t, S))) = some a := h
      by_cases q : x = y
      · rw [if_pos q] at h
        obtain ⟨tgt, ht, hg⟩ := ns_to_ok h hs
        intro ls H locs hL hJ
        exact lv_icmp_eq hx hb hd ht (fun _ => hg ls H locs hL hJ) (fun z => absurd q z)
      · rw [if_neg q] at h
        cases h
        intro ls H locs hL hJ
        obtain ⟨tgt, ht⟩ : ∃ tgt : Nat, (pc : Int) + off = (tgt : Int) := hoff
        exact lv_icmp_eq hx hb hd ht (fun z => absurd z q) (fun _ => hs.1 ls H locs hL hJ)
  · rw [if_neg hq] at h
    cases h
theorem so_icmp_ne {off : Int} (C0 : ns_C p s m args meth c D cI cJ cT k S0) (hd : decode (ns_c k) pc = .ok (.if_icmp .ne off, 3)) (h : ns_I k pc L st S (.if_icmp .ne off) = some a) (hs : ns_Sim p l e s m args below meth c D cI cJ cT k S0 r a) : ns_G p l e s m args below meth c D cI cJ cT k S0 r pc L st S := by
  obtain ⟨hk, hx, hb, hml, hr, hlk, hni, hown, hts, hK, hE, hsz⟩ := C0
  have h : (if 0 ≤ (pc : Int) + off then ns_if2 k pc L st S .ne off else none) = some a := h
  by_cases hq : 0 ≤ (pc : Int) + off
  · rw [if_pos hq] at h
    have hoff : ∃ tgt : Nat, (pc : Int) + off = (tgt : Int) := ⟨_, (Int.toNat_of_nonneg hq).symm⟩
    unfold ns_if2 at h
    match st, h with
    | .int y :: .int x :: t, h =>
      have h : (if x = y then some (.inl (k, pc + 3, L, t, S)) else ns_to k pc L S off t) = some a := h
      by_cases q : x = y
      · rw [if_pos q] at h
        cases h
        intro ls H locs hL hJ
        obtain ⟨tgt, ht⟩ : ∃ tgt : Nat, (pc : Int) + off = (tgt : Int) := hoff
        exact lv_icmp_ne hx hb hd ht (fun z => absurd q z) (fun _ => hs.1 ls H locs hL hJ)
      · rw [if_neg q] at h
        obtain ⟨tgt, ht, hg⟩ := ns_to_ok h hs
        intro ls H locs hL hJ
        exact lv_icmp_ne hx hb hd ht (fun _ => hg ls H locs hL hJ) (fun z => absurd z q)
  · rw [if_neg hq] at h
    cases h
theorem so_icmp_lt {off : Int} (C0 : ns_C p s m args meth c D cI cJ cT k S0) (hd : decode (ns_c k) pc = .ok (.if_icmp .lt off, 3)) (h : ns_I k pc L st S (.if_icmp .lt off) = some a) (hs : ns_Sim p l e s m args below meth c D cI cJ cT k S0 r a) : ns_G p l e s m args below meth c D cI cJ cT k S0 r pc L st S := by
  obtain ⟨hk, hx, hb, hml, hr, hlk, hni, hown, hts, hK, hE, hsz⟩ := C0
  have h : (if 0 ≤ (pc : Int) + off then ns_if2 k pc L st S .lt off else none) = some a := h
  by_cases hq : 0 ≤ (pc : Int) + off
  · rw [if_pos hq] at h
    have hoff : ∃ tgt : Nat, (pc : Int) + off = (tgt : Int) := ⟨_, (Int.toNat_of_nonneg hq).symm⟩
    unfold ns_if2 at h
    match st, h with
    | .int y :: .int x :: t, h =>
      have h : (if x < y then ns_to k pc L S off t else some (.inl (k, pc + 3, L, t, S))) = some a := h
      by_cases q : x < y
      · rw [if_pos q] at h
        obtain ⟨tgt, ht, hg⟩ := ns_to_ok h hs
        intro ls H locs hL hJ
        exact lv_icmp_lt hx hb hd ht (fun _ => hg ls H locs hL hJ) (fun z => absurd q z)
      · rw [if_neg q] at h
        cases h
        intro ls H locs hL hJ
        obtain ⟨tgt, ht⟩ : ∃ tgt : Nat, (pc : Int) + off = (tgt : Int) := hoff
        exact lv_icmp_lt hx hb hd ht (fun z => absurd z q) (fun _ => hs.1 ls H locs hL hJ)
  · rw [if_neg hq] at h
    cases h
theorem so_icmp_ge {off : Int} (C0 : ns_C p s m args meth c D cI cJ cT k S0) (hd : decode (ns_c k) pc = .ok (.if_icmp .ge off, 3)) (h : ns_I k pc L st S (.if_icmp .ge off) = some a) (hs : ns_Sim p l e s m args below meth c D cI cJ cT k S0 r a) : ns_G p l e s m args below meth c D cI cJ cT k S0 r pc L st S := by
  obtain ⟨hk, hx, hb, hml, hr, hlk, hni, hown, hts, hK, hE, hsz⟩ := C0
  have h : (if 0 ≤ (pc : Int) + off then ns_if2 k pc L st S .ge off else none) = some a := h
  by_cases hq : 0 ≤ (pc : Int) + off
  · rw [if_pos hq] at h
    have hoff : ∃ tgt : Nat, (pc : Int) + off = (tgt : Int) := ⟨_, (Int.toNat_of_nonneg hq).symm⟩
    unfold ns_if2 at h
    match st, h with
    | .int y :: .int x :: t, h =>
      have h : (if y ≤ x then ns_to k pc L S off t else some (.inl (k, pc + 3, L, t, S))) = some a := h
      by_cases q : y ≤ x
      · rw [if_pos q] at h
        obtain ⟨tgt, ht, hg⟩ := ns_to_ok h hs
        intro ls H locs hL hJ
        exact lv_icmp_ge hx hb hd ht (fun _ => hg ls H locs hL hJ) (fun z => absurd q z)
      · rw [if_neg q] at h
        cases h
        intro ls H locs hL hJ
        obtain ⟨tgt, ht⟩ : ∃ tgt : Nat, (pc : Int) + off = (tgt : Int) := hoff
        exact lv_icmp_ge hx hb hd ht (fun z => absurd z q) (fun _ => hs.1 ls H locs hL hJ)
  · rw [if_neg hq] at h
    cases h
theorem so_icmp_gt {off : Int} (C0 : ns_C p s m args meth c D cI cJ cT k S0) (hd : decode (ns_c k) pc = .ok (.if_icmp .gt off, 3)) (h : ns_I k pc L st S (.if_icmp .gt off) = some a) (hs : ns_Sim p l e s m args below meth c D cI cJ cT k S0 r a) : ns_G p l e s m args below meth c D cI cJ cT k S0 r pc L st S := by
  obtain ⟨hk, hx, hb, hml, hr, hlk, hni, hown, hts, hK, hE, hsz⟩ := C0
  have h : (if 0 ≤ (pc : Int) + off then ns_if2 k pc L st S .gt off else none) = some a := h
  by_cases hq : 0 ≤ (pc : Int) + off
  · rw [if_pos hq] at h
    have hoff : ∃ tgt : Nat, (pc : Int) + off = (tgt : Int) := ⟨_, (Int.toNat_of_nonneg hq).symm⟩
    unfold ns_if2 at h
    match st, h with
    | .int y :: .int x :: t, h =>
      have h : (if y < x then ns_to k pc L S off t else some (.inl (k, pc + 3, L, t, S))) = some a := h
      by_cases q : y < x
      · rw [if_pos q] at h
        obtain ⟨tgt, ht, hg⟩ := ns_to_ok h hs
        intro ls H locs hL hJ
        exact lv_icmp_gt hx hb hd ht (fun _ => hg ls H locs hL hJ) (fun z => absurd q z)
      · rw [if_neg q] at h
        cases h
        intro ls H locs hL hJ
        obtain ⟨tgt, ht⟩ : ∃ tgt : Nat, (pc : Int) + off = (tgt : Int) := hoff
        exact lv_icmp_gt hx hb hd ht (fun z => absurd z q) (fun _ => hs.1 ls H locs hL hJ)
  · rw [if_neg hq] at h
    cases h
theorem so_icmp_le {off : Int} (C0 : ns_C p s m args meth c D cI cJ cT k S0) (hd : decode (ns_c k) pc = .ok (.if_icmp .le off, 3)) (h : ns_I k pc L st S (.if_icmp .le off) = some a) (hs : ns_Sim p l e s m args below meth c D cI cJ cT k S0 r a) : ns_G p l e s m args below meth c D cI cJ cT k S0 r pc L st S := by
  obtain ⟨hk, hx, hb, hml, hr, hlk, hni, hown, hts, hK, hE, hsz⟩ := C0
  have h : (if 0 ≤ (pc : Int) + off then ns_if2 k pc L st S .le off else none) = some a := h
  by_cases hq : 0 ≤ (pc : Int) + off
  · rw [if_pos hq] at h
    have hoff : ∃ tgt : Nat, (pc : Int) + off = (tgt : Int) := ⟨_, (Int.toNat_of_nonneg hq).symm⟩
    unfold ns_if2 at h
    match st, h with
    | .int y :: .int x :: t, h =>
      have h : (if x ≤ y then ns_to k pc L S off t else some (.inl (k, pc + 3, L, t, S))) = some a := h
      by_cases q : x ≤ y
      · rw [if_pos q] at h
        obtain ⟨tgt, ht, hg⟩ := ns_to_ok h hs
        intro ls H locs hL hJ
        exact lv_icmp_le hx hb hd ht (fun _ => hg ls H locs hL hJ) (fun z => absurd q z)
      · rw [if_neg q] at h
        cases h
        intro ls H locs hL hJ
        obtain ⟨tgt, ht⟩ : ∃ tgt : Nat, (pc : Int) + off = (tgt : Int) := hoff
        exact lv_icmp_le hx hb hd ht (fun z => absurd z q) (fun _ => hs.1 ls H locs hL hJ)
  · rw [if_neg hq] at h
    cases h
end NSS
