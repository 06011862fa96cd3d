/-! ===== the law's world ===== -/
def R_law : String := "NestShelfLaw"
def lw_P (b : Addr) (xs : List Int32) (args : Array Value) (s : State) : Prop := args = #[.ref b] ∧ s.IntsAt b xs ∧ xs.length ≤ 320 ∧ (Jvm.Cond.and given_1 narrow_1).before args s = true
def lw_Q (_ : Array Value) (s : State) (o : Outcome) (t : State) : Prop := o = .returned (some (.int 1)) ∧ Framed s o t [] 600000 7302250
def lw_Z (below : List Frame) (a : Array Value) (s : State) : State → Prop := fun t => ∃ o, t.status = .running ∧ Ended t below o ∧ lw_Q a s o t
/-- the law's own end, with 1 on the stack, nothing written that was there before, its room as the claim has it -/
theorem lw_ret {p : Program} {l : Launch} {e : Env} {s : State} {m : MethodId} {below : List Frame} {meth : Method} {c : Code} {b : Nat} (hx : p.tables.exec = Jvm.exec) (hb : c.code = code) (hr : meth.sig.returnType = ret) (hlocks : meth.locks = false) {pc : Nat} {H : Heap} {ls : Array Slot} (hdg : decode code pc = .ok (.ireturn, 1)) : W p l e room_1 s m #[Value.ref b] below meth c H [] 600000 7302250 (lw_Z below #[Value.ref b] s) (F0 m pc ls [.int 1]) := by
  intro T hT X
  obtain ⟨fs, hret, hrun, hended, hW, hframe⟩ := X.leave (v := some (.int 1)) (hlocks := hlocks) (fun h => by rw [hr] at h; cases h)
  have hmeth' : T.vm.method? m = some meth := X.method'
  refine ⟨T.setFrames fs, ?_, .returned (some (.int 1)), hrun, hended, rfl, ⟨_, rfl⟩, hW, hframe⟩
  jvm_step X.here [X.here.top, hx, hb, hdg, hmeth', hr, ret, narrow_b1]
  (try refine ⟨rfl, ?_⟩); (try refine ⟨rfl, ?_⟩)
  first | (intro acts; rw [hret _ acts rfl rfl rfl]) | rw [hret _ _ rfl rfl rfl]
  exact Steps.refl _
/-- what holds at the law's entry: the machine, the code, the tables' words (any of lw_tbl by 'hts w (by decide +kernel)'), the script of L ints xs at the cell b, what the Statement gives of the start (any of its parts by flat_of_before) -/
def lw_At (p : Program) (s : State) (m : MethodId) (meth : Method) (c : Code) (b L : Nat) (xs : Nat → Int32) : Prop :=
  p.tables.exec = Jvm.exec ∧ c.code = code ∧ meth.sig.returnType = ret ∧ c.maxLocals = 4 ∧ s.vm.findClass R_law = some m.cls ∧ (∀ w ∈ lw_tbl, w.before #[Value.ref b] s = true) ∧ va_X b L xs s s.heap ∧ b < s.heap.size ∧ meth.locks = false ∧ (Jvm.Cond.and given_1 narrow_1).before #[Value.ref b] s = true
def bmp (S : ns_St) (z : Nat) : ns_St := ((z, S.1.2), (fun a => if a < S.1.1 then S.2.1 a else 0), S.2.2)
theorem bmp_z (S : ns_St) (z : Nat) : ns_z (bmp S z) = z := rfl
theorem bmp_s (S : ns_St) (z : Nat) : ns_s (bmp S z) = ns_s S := rfl
theorem bmp_k {S : ns_St} {z : Nat} (h : ns_z S ≤ z) : ns_k (bmp S z) = ns_k S := by
  funext a
  have h : S.1.1 ≤ z := h
  show (if a < z then (if a < S.1.1 then S.2.1 a else 0) else 0) = if a < S.1.1 then S.2.1 a else 0
  by_cases y : a < S.1.1
  · rw [if_pos (by omega)]
  · rw [if_neg y]
    split <;> rfl
theorem bmp_pool {S : ns_St} {z : Nat} (h : ns_z S ≤ z) (cI cJ cT : ClassId) : ns_pool cI cJ cT (bmp S z) = ns_pool cI cJ cT S := by
  have hk := bmp_k h
  have hd : ns_dom (bmp S z) = ns_dom S := by
    obtain ⟨d, rfl⟩ : ∃ d, z = ns_z S + d := ⟨z - ns_z S, by omega⟩
    unfold ns_dom
    rw [bmp_z, hk, List.range_add, List.filter_append]
    have : List.filter (fun a => ns_k S a != 0) (List.map (fun x => ns_z S + x) (List.range d)) = [] := by
      rw [List.filter_eq_nil_iff]
      intro a ha
      obtain ⟨x, -, rfl⟩ := List.mem_map.mp ha
      have : ns_k S (ns_z S + x) = 0 := by
        by_cases y : ns_k S (ns_z S + x) = 0
        · exact y
        · have := ns_k_lt y
          omega
      simp [this]
    rw [this, List.append_nil]
  unfold ns_pool
  rw [hd]
  exact va_pl_congr (fun b => ns_ce_congr (by rw [hk]) rfl (fun _ => rfl) (fun _ => rfl) (fun _ => rfl) rfl rfl rfl)
def e0 (z : Nat) : ns_St := ((z, 0), fun _ => 0, fun _ => 0, fun _ _ => 0, fun _ _ => 0, fun _ _ => none, fun _ _ => 0, fun _ _ => 0, fun _ _ => none)
theorem e0_k (z a : Nat) : ns_k (e0 z) a = 0 := by
  show (if a < z then 0 else 0) = 0
  split <;> rfl
theorem e0_A (z q : Nat) : ns_A (e0 z) q ↔ z ≤ q := ⟨fun h => h.elim (fun g => absurd (e0_k z q) g) (fun g => g), fun h => Or.inr h⟩
section LWD
variable {p : Program} {l : Launch} {e : Env} {s : State} {m : MethodId} {args : Array Value} {below : List Frame} {meth : Method} {c : Code} {D : va_G} {cI cJ cT : ClassId} {S O : ns_St} {H : Heap} {locs : List Loc}
def LJ (s : State) (D : va_G) (cI cJ cT : ClassId) (S O : ns_St) (H : Heap) (locs : List Loc) : Prop := ns_J s D cI cJ cT (e0 s.heap.size) S H locs ∧ ns_J s D cI cJ cT (e0 s.heap.size) O H locs ∧ ∀ a, ns_k S a ≠ 0 → ns_k O a = 0
theorem LJ.swap (h : LJ s D cI cJ cT S O H locs) : LJ s D cI cJ cT O S H locs := ⟨h.2.1, h.1, fun a ha => by
  by_cases y : ns_k S a = 0
  · exact y
  · exact absurd (h.2.2 a y) ha⟩
theorem NJ_keep {E : ns_St} {H' : Heap} {locs' : List Loc} (hJ : ns_J s D cI cJ cT E O H locs) (hsz : H.size ≤ H'.size) (hkeep : ∀ a, ns_k O a ≠ 0 → H'[a]? = H[a]?) (hS : va_S (ns_A E) s.heap H' locs') : ns_J s D cI cJ cT E (bmp O H'.size) H' locs' := by
  obtain ⟨h1, h2, h3, h4, h5, h6⟩ := hJ
  have hz : ns_z O ≤ H'.size := by rw [← h1]; exact hsz
  refine ⟨rfl, ?_, fun a ha => h3 a (by rw [bmp_k hz] at ha; exact ha), hS, by rw [bmp_z]; omega, by rw [bmp_s]; exact h6⟩
  rw [bmp_pool hz]
  refine h2.kept (fun i y hy => hkeep y.1 ?_)
  have hd : (ns_dom O)[i]? = some y.1 := by
    unfold ns_pool va_pl at hy
    rw [List.getElem?_map] at hy
    cases hd : (ns_dom O)[i]? with
    | none => rw [hd] at hy; cases hy
    | some b => rw [hd] at hy; cases hy; rfl
  exact ns_dom_mem.mp (List.mem_of_getElem? hd)
theorem lw_after {pc : Nat} {ls : Array Slot} {st0 rest : List Value} {a' : Array Value} {r1 : ns_Rs} {cn sn : Nat} {Q : State → Prop} (hJ : LJ s D cI cJ cT S O H locs) (hle : ns_le S r1.2) (hr : va_Run p l e room_1 s m args below meth c H locs cn sn (ns_z r1.2 - ns_z S) (ns_s r1.2 - ns_s S) (F0 m pc ls st0) rest (ns_Q D cI cJ cT S r1 a') (ns_A S)) (hg : ∀ H' locs', LJ s D cI cJ cT r1.2 (bmp O (ns_z r1.2)) H' locs' → W p l e room_1 s m args below meth c H' locs' (cn + (ns_z r1.2 - ns_z S)) (sn + (ns_s r1.2 - ns_s S)) Q (F0 m (pc + 3) ls (r1.1.toList ++ rest))) : W p l e room_1 s m args below meth c H locs cn sn Q (F0 m pc ls st0) := by
  intro T hT X
  obtain ⟨v, st₀, t, T', L', h0, X', hL', e1, e2, ⟨⟨hv, hH⟩, hF⟩, stp⟩ := hr T hT X
  cases hv
  obtain ⟨j1, j2, j3⟩ := hJ
  have z5 := j1.2.2.2.2.1
  have z6 := j1.2.2.2.2.2
  obtain ⟨l1, l2, l3⟩ := hle
  have hSS : va_S (ns_A (e0 s.heap.size)) s.heap T'.heap (locs ++ L') := by
    refine ⟨?_, fun q g1 g2 => ?_, fun q hq => ?_⟩
    · rw [e1]
      exact Nat.le_trans j1.2.2.2.1.1 (by rw [← h0]; exact hF.1)
    · rw [e1, hF.2 q (by rw [h0]; exact Nat.lt_of_lt_of_le g1 j1.2.2.2.1.1) (fun g => g2 (ns_AA j1 g)), h0]
      exact j1.2.2.2.1.2.1 q g1 g2
    · rcases List.mem_append.mp hq with g | g
      · exact j1.2.2.2.1.2.2 q g
      · exact ns_AA j1 (hL' q g)
  have hz' : T'.heap.size = ns_z r1.2 := by rw [e1]; exact hH.1
  have hJ' : LJ s D cI cJ cT r1.2 (bmp O (ns_z r1.2)) T'.heap (locs ++ L') := by
    refine ⟨⟨hz', by rw [e1]; exact hH.2.1, fun b hb => ns_AA j1 (l3 b hb), hSS, by omega, by omega⟩, ?_, fun a ha => ?_⟩
    · have := NJ_keep (H' := T'.heap) j2 (by rw [hz', j1.1]; exact l1) (fun a ha => ?_) hSS
      · rw [hz'] at this
        exact this
      · have hlt : a < H.size := by rw [j2.1]; exact ns_k_lt ha
        rw [e1, hF.2 a (by rw [h0]; exact hlt) (fun g => ?_), h0]
        rcases g with g | g
        · exact ha (j3 a g)
        · rw [← j1.1] at g
          omega
    · rw [bmp_k (by rw [← j2.1, j1.1]; exact l1)]
      rcases l3 a ha with g | g
      · exact j3 a g
      · by_cases y : ns_k O a = 0
        · exact y
        · have := ns_k_lt y
          rw [← j2.1, j1.1] at this
          omega
  obtain ⟨t2, a1, b1⟩ := hg T'.heap (locs ++ L') hJ' T' rfl X'
  exact ⟨t2, stp t2 a1, b1⟩
theorem lw_gt (hts : ∀ w ∈ lw_tbl, w.before args s = true) : ∀ w ∈ ns_Gt, w.before args s = true := fun w hw => hts w (List.mem_filter.mp hw).1
theorem lw_cb {k1 j cn sn : Nat} (hts : ∀ w ∈ lw_tbl, w.before args s = true) (hk1 : k1 < 95) (hl : Cond.methodLink R_law j (ns_y k1) ∈ lw_tbl) (hh : ns_h k1 + 1 ≤ 9) (hm : 8 + (ns_m k1 + 11) + 35 * ns_h k1 ≤ 320) : CallB room_1 s args R_law j (ns_y k1) (ns_c k1) (ns_m k1) (ns_r k1) (ns_w k1) (ns_rm k1 cn sn) cn sn (ns_pn k1) := by
  obtain ⟨w1, w2, w3, w4⟩ := ns_kind_ok k1 hk1
  have hg := lw_gt hts
  exact callB_of (ns_pn k1) hg (ns_goodIn (fun _ h => h) hk1) rfl rfl rfl (hg _ w1) (hts _ hl) w3 ⟨hh, hm⟩
theorem lw_virt {k1 j pc : Nat} {ls : Array Slot} {vs rest : List Value} {b0 : Nat} {r1 : ns_Rs} {cn sn : Nat} {Q : State → Prop} (hx : p.tables.exec = Jvm.exec) (hb : c.code = code) (hml : c.maxLocals = 4) (hown : s.vm.findClass R_law = some m.cls) (hts : ∀ w ∈ lw_tbl, w.before args s = true) (hK : va_K D vwCl (ns_tys cI cJ cT) s) (hE : ns_E s) (hd : decode code pc = .ok (.invokevirtual j, 3)) (hJ : LJ s D cI cJ cT S O H locs) (hEv : Ev (k1, 0, ns_entry k1 (.ref b0 :: vs), [], S) r1) (hk1 : k1 < 95) (hl : Cond.methodLink R_law j (ns_y k1) ∈ lw_tbl) (hst : ns_stt k1 = false ∧ ns_ini k1 = false) (hh : ns_h k1 + 1 ≤ 9) (hm : 8 + (ns_m k1 + 11) + 35 * ns_h k1 ≤ 320) (hlen : vs.length = ns_pn k1) (hel : (ns_el (.ref b0 :: vs)).length ≤ ns_m k1) (hkb : ns_k S b0 = ns_o k1 + 1) (hls : ls.size = 4) (hrest : ns_cat rest ≤ 8) (hcn : cn + (ns_z r1.2 - ns_z S) ≤ 600000) (hsn : sn + (ns_s r1.2 - ns_s S) ≤ 7302250) (hg : ∀ H' locs', LJ s D cI cJ cT r1.2 (bmp O (ns_z r1.2)) H' locs' → W p l e room_1 s m args below meth c H' locs' (cn + (ns_z r1.2 - ns_z S)) (sn + (ns_s r1.2 - ns_s S)) Q (F0 m (pc + 3) ls (r1.1.toList ++ rest))) : W p l e room_1 s m args below meth c H locs cn sn Q (F0 m pc ls (vs.reverse ++ .ref b0 :: rest)) := by
  have hM := ns_bridge l D cI cJ cT hk1 hel hEv
  obtain ⟨v1, v2, v3, v4⟩ := ns_sel_ok k1 hk1
  have hgt := lw_gt hts
  have hci : ns_o k1 < 5 := ns_o_lt k1
  obtain ⟨x, hx1⟩ := ns_at (cI := cI) (cJ := cJ) (cT := cT) (S := S) (a := b0) (by omega)
  rw [ns_ce_O hkb hci] at hx1
  have hp := ns_pre hK hE hJ.1 (.ref b0 :: vs)
  exact lw_after hJ (Ev_le hEv) (va_runV (As := vs) (rest := rest) (b := b0) ⟨hx, hb, hml, hown, hgt⟩ hM ⟨lw_cb hts hk1 hl hh hm, hgt _ (v2 hst.1), hgt _ (v3 hst.1 hst.2)⟩ ⟨hp.1, va_recv hK hJ.1.2.1 (ns_vw_ok (ns_o k1) hci) hx1, hp.2⟩ rfl hlen hls rfl (lv_room hrest) hd ⟨hcn, hsn⟩) hg
theorem lw_spec {k1 j pc : Nat} {ls : Array Slot} {rest : List Value} {b0 : Nat} {r1 : ns_Rs} {cn sn : Nat} {Q : State → Prop} (hx : p.tables.exec = Jvm.exec) (hb : c.code = code) (hml : c.maxLocals = 4) (hown : s.vm.findClass R_law = some m.cls) (hts : ∀ w ∈ lw_tbl, w.before args s = true) (hK : va_K D vwCl (ns_tys cI cJ cT) s) (hE : ns_E s) (hd : decode code pc = .ok (.invokespecial j, 3)) (hJ : LJ s D cI cJ cT S O H locs) (hEv : Ev (k1, 0, ns_entry k1 [.ref b0], [], S) r1) (hk1 : k1 < 95) (hl : Cond.methodLink R_law j (ns_y k1) ∈ lw_tbl) (hin : ns_ini k1 = true) (hh : ns_h k1 + 1 ≤ 9) (hm : 8 + (ns_m k1 + 11) + 35 * ns_h k1 ≤ 320) (hlen : 0 = ns_pn k1) (hel : (ns_el [.ref b0]).length ≤ ns_m k1) (hls : ls.size = 4) (hrest : ns_cat rest ≤ 8) (hcn : cn + (ns_z r1.2 - ns_z S) ≤ 600000) (hsn : sn + (ns_s r1.2 - ns_s S) ≤ 7302250) (hg : ∀ H' locs', LJ s D cI cJ cT r1.2 (bmp O (ns_z r1.2)) H' locs' → W p l e room_1 s m args below meth c H' locs' (cn + (ns_z r1.2 - ns_z S)) (sn + (ns_s r1.2 - ns_s S)) Q (F0 m (pc + 3) ls (r1.1.toList ++ rest))) : W p l e room_1 s m args below meth c H locs cn sn Q (F0 m pc ls (.ref b0 :: rest)) := by
  have hM := ns_bridge l D cI cJ cT hk1 hel hEv
  obtain ⟨v1, v2, v3, v4⟩ := ns_sel_ok k1 hk1
  have hgt := lw_gt hts
  have hp := ns_pre hK hE hJ.1 [.ref b0]
  have cb := lw_cb (cn := ns_z r1.2 - ns_z S) (sn := ns_s r1.2 - ns_s S) hts hk1 hl hh hm
  rw [(v4 hin).2.2] at cb
  exact lw_after hJ (Ev_le hEv) (va_runI (As := []) (rest := rest) (b := b0) ⟨hx, hb, hml, hown, hgt⟩ hM ⟨cb, (v4 hin).2.1, hgt _ (v2 (v4 hin).1)⟩ hp rfl hlen hls rfl (lv_room hrest) hd ⟨hcn, hsn⟩) hg
theorem lw_words : (∀ ci, ci < 5 → Cond.instantiable (ns_R ci) (ns_N ci) ∈ lw_tbl ∧ Cond.initialized (ns_R ci) ∈ lw_tbl) ∧ Cond.arrayClass .int ∈ lw_tbl ∧ Cond.arrayClass .long ∈ lw_tbl ∧ Cond.arrayOver (.object "NestShelf$Thing") ∈ lw_tbl ∧ Cond.methodLinkNest RX3 17 yX2_init "NestShelf" ∈ lw_tbl ∧ Cond.methodLinkNest RX3 109 yX0_init "NestShelf" ∈ lw_tbl ∧ Cond.castable "[J" "java/lang/Cloneable" ∈ lw_tbl ∧ Cond.castable "[LNestShelf$Thing;" "java/lang/Cloneable" ∈ lw_tbl ∧ Cond.classLink R_law 7 (ns_R 3) ∈ lw_tbl ∧ Cond.classLink R_law 10 (ns_R 4) ∈ lw_tbl ∧ Cond.constantLong R_law 23 4294967295 ∈ lw_tbl := by decide +kernel
theorem lw_links : ∀ q ∈ [(9, 16), (12, 56), (13, 17), (17, 64), (18, 18), (22, 65), (25, 19), (29, 66), (30, 20), (34, 69), (35, 21), (39, 70), (40, 22), (43, 71), (44, 23), (48, 72), (49, 24), (52, 73), (53, 25), (56, 74), (57, 26), (60, 75), (61, 27), (65, 82), (66, 28), (69, 83), (70, 29), (73, 88), (74, 30), (77, 89), (78, 31), (81, 90), (82, 32), (85, 92), (86, 33), (89, 84), (90, 34), (94, 93), (95, 35), (98, 94)], Cond.methodLink R_law q.1 (ns_y q.2) ∈ lw_tbl := by decide +kernel
theorem lw_K (hts : ∀ w ∈ lw_tbl, w.before args s = true) : ∃ (D : va_G) (cI cJ cT : ClassId), va_K D vwCl (ns_tys cI cJ cT) s ∧ ns_E s := by
  obtain ⟨i1, i2, i3, i4, i5, i6, i7, i8, -, -, -⟩ := lw_words
  have hgt := lw_gt hts
  obtain ⟨c0, s0, k0⟩ := u_known (C := ns_R 0) (T := ns_T 0) (N := ns_N 0) (n := ns_N 0) hgt (ns_ws 0 (by decide)) (hts _ (i1 0 (by decide)).1)
  obtain ⟨c1, s1, k1⟩ := u_known (C := ns_R 1) (T := ns_T 1) (N := ns_N 1) (n := ns_N 1) hgt (ns_ws 1 (by decide)) (hts _ (i1 1 (by decide)).1)
  obtain ⟨c2, s2, k2⟩ := u_known (C := ns_R 2) (T := ns_T 2) (N := ns_N 2) (n := ns_N 2) hgt (ns_ws 2 (by decide)) (hts _ (i1 2 (by decide)).1)
  obtain ⟨c3, s3, k3⟩ := u_known (C := ns_R 3) (T := ns_T 3) (N := ns_N 3) (n := ns_N 3) hgt (ns_ws 3 (by decide)) (hts _ (i1 3 (by decide)).1)
  obtain ⟨c4, s4, k4⟩ := u_known (C := ns_R 4) (T := ns_T 4) (N := ns_N 4) (n := ns_N 4) hgt (ns_ws 4 (by decide)) (hts _ (i1 4 (by decide)).1)
  obtain ⟨cI, kI, pI', f1, f2, f3⟩ := Cond.arrayClass_spec (hts _ i2)
  obtain ⟨cJ, kJ, pJ', g1, g2, g3⟩ := Cond.arrayClass_spec (hts _ i3)
  obtain ⟨pT, cT, kT, h1, h2, h3, h4, h5⟩ := Cond.arrayOver_spec (hts _ i4)
  refine ⟨(fun k => if k = 0 then c0 else if k = 1 then c1 else if k = 2 then c2 else if k = 3 then c3 else c4, fun k => if k = 0 then s0 else if k = 1 then s1 else if k = 2 then s2 else if k = 3 then s3 else s4), cI, cJ, cT, ⟨fun k q hq => ?_, fun k q hq => ?_⟩, va_AO.of (hts _ i4), va_Nw.of rfl (hts _ i5), va_Nw.of rfl (hts _ i6), va_Nw.of rfl (hts _ i7), va_Nw.of rfl (hts _ i8)⟩
  · match k, hq with
    | 0, hq => cases hq; exact k0
    | 1, hq => cases hq; exact k1
    | 2, hq => cases hq; exact k2
    | 3, hq => cases hq; exact k3
    | 4, hq => cases hq; exact k4
    | k + 5, hq => simp [vwCl] at hq
  · match k, hq with
    | 0, hq => cases hq; exact ⟨fun n z => ⟨fun k h => (by cases h), kI, f2, pI', f3⟩, f1⟩
    | 1, hq => cases hq; exact ⟨fun n z => ⟨fun k h => (by cases h), kJ, g2, pJ', g3⟩, g1⟩
    | 2, hq => cases hq; exact ⟨fun n z => ⟨fun k h => (by cases h), kT, h3, pT, h4⟩, kT, pT, h3, h4, h1, h5⟩
    | k + 3, hq => simp [ns_tys] at hq
theorem lw_new {ci j pc : Nat} {ls : Array Slot} {st : List Value} {cn sn : Nat} {Q : State → Prop} (hx : p.tables.exec = Jvm.exec) (hb : c.code = code) (hown : s.vm.findClass R_law = some m.cls) (hts : ∀ w ∈ lw_tbl, w.before args s = true) (hK : va_K D vwCl (ns_tys cI cJ cT) s) (hd : decode code pc = .ok (.new j, 3)) (hci : ci < 5) (hl : Cond.classLink R_law j (ns_R ci) ∈ lw_tbl) (hJ : LJ s D cI cJ cT S O H locs) (hcn : cn + 1 ≤ 600000) (hsn : sn + ns_N ci ≤ 7302250) (hg : ∀ H', LJ s D cI cJ cT (nO S ci (ns_N ci)) (bmp O (ns_z S + 1)) H' locs → W p l e room_1 s m args below meth c H' locs (cn + 1) (sn + ns_N ci) Q (F0 m (pc + 3) ls (.ref (ns_z S) :: st))) : W p l e room_1 s m args below meth c H locs cn sn Q (F0 m pc ls st) := by
  have hgt := lw_gt hts
  obtain ⟨i1, -⟩ := lw_words
  have hKn := hK.1 ci _ (ns_vw_ok ci hci)
  have e1 : ns_z (nO S ci (ns_N ci)) = ns_z S + 1 := rfl
  have e2 : ns_s (nO S ci (ns_N ci)) = ns_s S + ns_N ci := rfl
  obtain ⟨hJ1, hJ2, hJ3⟩ := hJ
  refine W.newcK hx hb hown (hts _ hl) (hts _ (i1 ci hci).1) (hts _ (i1 ci hci).2) rfl hd hcn hsn hKn.2.1 (h := ns_z S) hJ1.1 fun H1 kC hkC q1 q2 q3 => ?_
  have o1 : ∀ q : Nat, q < H.size → H1[q]? = H[q]? := fun q hq => q3 q (by rw [← hJ1.1]; exact hq)
  have hJ' : ns_J s D cI cJ cT (e0 s.heap.size) (nO S ci (ns_N ci)) H1 locs := by
    refine ns_al (x := .inr (ci, ns_fl (nO S ci (ns_N ci)) ci (ns_z S))) (kd := ci + 1) rfl hJ1 ⟨_, ns_vw_ok ci hci, (u_born (ns_ty ci) hgt (ns_ws ci hci) hKn hkC q1 (ns_ty_ok ci hci)).to (fun f hf => ?_)⟩ (by rw [q2, hJ1.1]) o1 rfl (by rw [e2]; omega) (fun q => nO_ns_k S ci _ q) (by omega) (fun q => ?_)
    · rw [ns_df ci hci f hf]
      unfold vp_V
      rw [List.getD_eq_getElem?_getD, ns_fl_at _ _ _ hf]
      unfold ns_fv
      simp only [Option.getD_some, nO_fI, nO_fJ, nO_fR, if_true, va_rf]
      generalize ns_fk (ns_ty ci f) = y
      match y with
      | 0 => rfl
      | 1 => rfl
      | 2 => rfl
      | _ + 3 => rfl
    · by_cases g : q = ns_z S
      · subst g
        rw [va_up_self, ns_ce_O (by rw [nO_ns_k, if_pos rfl]) hci]
      · rw [va_up_ne _ _ g]
        exact ns_ce_congr (by rw [nO_ns_k, if_neg g]) rfl (fun i => by rw [nO_fI, if_neg g]) (fun i => by rw [nO_fJ, if_neg g]) (fun i => by rw [nO_fR, if_neg g]) rfl rfl rfl
  refine hg H1 ⟨hJ', ?_, fun a ha => ?_⟩
  · have := NJ_keep (H' := H1) hJ2 (by rw [q2, hJ1.1]; omega) (fun a ha => o1 a (by rw [hJ2.1]; exact ns_k_lt ha)) hJ'.2.2.2.1
    rw [q2] at this
    exact this
  · rw [bmp_k (by rw [← hJ2.1, hJ1.1]; omega)]
    rw [nO_ns_k] at ha
    by_cases g : a = ns_z S
    · by_cases y : ns_k O a = 0
      · exact y
      · have := ns_k_lt y
        rw [← hJ2.1, hJ1.1] at this
        omega
    · rw [if_neg g] at ha
      exact hJ3 a ha
theorem MR_bmp {mm : Nat} {A : Nat → Nat} {Z : Zs} {z : Nat} (h : MR S mm A Z) (hz : ns_z S ≤ z) : MR (bmp S z) mm A Z := MR_same h (bmp_k hz) rfl rfl (fun _ _ => rfl) (fun _ _ => rfl) rfl
theorem CR_bmp {sh T wk cur : Nat} {ad na ha : Nat → Nat} {Z : Zs} {z : Nat} (h : CR S sh T wk ad na ha cur Z) (hz : ns_z S ≤ z) : CR (bmp S z) sh T wk ad na ha cur Z := CR_same h (bmp_k hz) rfl rfl rfl (fun _ _ _ => rfl) (fun _ _ _ => rfl) (fun _ => rfl) (fun v hv => CR_w h hv) (show fI S 200 wk = nI cur from CR_200 h)
end LWD
