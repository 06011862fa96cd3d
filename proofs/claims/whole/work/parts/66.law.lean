/-! ===== the law ===== -/
section LAWL
variable {p : Program} {l : Launch} {e : Env} {s : State} {m : MethodId} {below : List Frame} {meth : Method} {c : Code} {D : va_G} {cI cJ cT : ClassId} {b L : Nat} {xs : Nat → Int32} {sh T wk mm : Nat} {A : Nat → Nat}
theorem lw_cond {i L : Nat} (hL : L ≤ 320) (hi : i ≤ 320) (h : ¬ nI L - 5 < nI i) : i + 5 ≤ L := by
  rcases Nat.lt_or_ge L 5 with y | y
  · exfalso
    apply h
    have hneg : nI L - 5 < 0 := by
      rcases (show L = 0 ∨ L = 1 ∨ L = 2 ∨ L = 3 ∨ L = 4 by omega) with rfl | rfl | rfl | rfl | rfl <;> decide
    exact Int32.lt_of_lt_of_le hneg (nI_pos' (by omega))
  · obtain ⟨d, rfl⟩ : ∃ d, L = d + 5 := ⟨L - 5, by omega⟩
    have e : nI (d + 5) - 5 = nI d := by
      rw [← nI_add d 5]
      exact Int32.add_sub_cancel ..
    rw [e] at h
    rcases Nat.lt_or_ge d i with z | z
    · exact absurd (nI_lt z (by omega)) h
    · omega
theorem law_loop (C0 : lw_At p s m meth c b L xs) (hK : va_K D vwCl (ns_tys cI cJ cT) s) (hE : ns_E s) (hL : L ≤ 320) : ∀ (n q : Nat) (H : Heap) (locs : List Loc) (cn sn : Nat) (ls : Array Slot), L ≤ 5 * (q + n) → 5 * q ≤ 320 → LI s D cI cJ cT sh T wk mm A q H locs cn sn → lv_has ls 4 [(0, .ref b), (1, .ref sh), (2, .ref mm), (3, .int (nI (5 * q)))] → W p l e room_1 s m #[Value.ref b] below meth c H locs cn sn (lw_Z below #[Value.ref b] s) (F0 m 18 ls []) := by
  obtain ⟨hx, hb, hr, hml, hown, hts, hX, hbl, hlocks, hgv⟩ := id C0
  have hbA : ¬ ns_A (e0 s.heap.size) b := fun h => by
    have := (e0_A _ _).mp h
    omega
  -- the end
  have done : ∀ (q : Nat) (H : Heap) (locs : List Loc) (cn sn : Nat) (ls : Array Slot), 5 * q ≤ 320 → LI s D cI cJ cT sh T wk mm A q H locs cn sn → W p l e room_1 s m #[Value.ref b] below meth c H locs cn sn (lw_Z below #[Value.ref b] s) (F0 m 725 ls []) := by
    intro q H locs cn sn ls hq hLI
    have hS := lw_hS hLI
    obtain ⟨Sx, Sm, ad, na, ha, cur, Z, hJ, hC, hM, hZ, b1, b2, b3⟩ := hLI
    have hn := hZ.1
    refine lv_iconst (v := 1) hx hb d_law_725 (by decide) ?_
    refine va_forget (fun y hy => (e0_A _ _).mp (hS.2.2 y hy)) ?_
    refine W.widen (k := 600000) (n := 7302250) (by omega) (by omega) ?_
    exact lw_ret hx hb hr hlocks d_law_726
  intro n
  induction n with
  | zero =>
    intro q H locs cn sn ls hn hq hLI hl
    have hS := lw_hS hLI
    refine lv_iload_n hx hb d_law_18 rfl (lv_at hl 3 rfl) ?_
    refine lv_aload_n hx hb d_law_19 rfl (lv_at hl 0 rfl) ?_
    refine va_slen hx hb hX hbl hbA hS d_law_20 ?_
    refine lv_iconst (v := 5) hx hb d_law_21 (by decide) ?_
    refine lv_isub hx hb d_law_22 ?_
    refine lv_icmp_gt (tgt := 725) hx hb d_law_23 (by decide) (fun _ => done q H locs cn sn ls hq hLI) (fun z => ?_)
    have := lw_cond hL hq z
    omega
  | succ n ih =>
    intro q H locs cn sn ls hn hq hLI hl
    have hS := lw_hS hLI
    refine lv_iload_n hx hb d_law_18 rfl (lv_at hl 3 rfl) ?_
    refine lv_aload_n hx hb d_law_19 rfl (lv_at hl 0 rfl) ?_
    refine va_slen hx hb hX hbl hbA hS d_law_20 ?_
    refine lv_iconst (v := 5) hx hb d_law_21 (by decide) ?_
    refine lv_isub hx hb d_law_22 ?_
    refine lv_icmp_gt (tgt := 725) hx hb d_law_23 (by decide) (fun _ => done q H locs cn sn ls hq hLI) (fun z => ?_)
    have hi := lw_cond hL hq z
    have hnext : ∀ (H : Heap) (locs : List Loc) (cn sn : Nat), LI s D cI cJ cT sh T wk mm A (q + 1) H locs cn sn → W p l e room_1 s m #[Value.ref b] below meth c H locs cn sn (lw_Z below #[Value.ref b] s) (F0 m 719 ls []) := by
      intro H locs cn sn hLI'
      refine lv_iinc (v := nI (5 * (q + 1))) (lv' := [(3, .int (nI (5 * (q + 1)))), (0, .ref b), (1, .ref sh), (2, .ref mm)]) hx hb d_law_719 hl (k := 3) rfl ?_ (by decide) rfl (fun ls hl => ?_)
      · show nI (5 * q) + nI 5 = nI (5 * (q + 1))
        rw [nI_add]
        rfl
      refine lv_goto (tgt := 18) hx hb d_law_722 (by decide) ?_
      exact ih (q + 1) H locs cn sn ls (by omega) (by omega) hLI' (lv_sub hl [1, 2, 3, 0] rfl)
    have more : LI s D cI cJ cT sh T wk mm A (q + 1) H locs cn sn := by
      obtain ⟨Sx, Sm, ad, na, ha, cur, Z, hJ, hC, hM, hZ, b1, b2, b3⟩ := hLI
      exact ⟨Sx, Sm, ad, na, ha, cur, Z, hJ, hC, hM, hZ, by omega, by omega, by omega⟩
    refine lv_aload_n hx hb d_law_26 rfl (lv_at hl 0 rfl) ?_
    refine lv_iload_n hx hb d_law_27 rfl (lv_at hl 3 rfl) ?_
    refine va_sld hx hb hX hbl hbA hS (vp_in_nI (show 5 * q < L by omega) (by omega)) d_law_28 ?_
    refine lv_bipush (v := 31) hx hb d_law_29 (by decide) ?_
    refine lv_iand hx hb d_law_31 ?_
    refine lv_topi (fun y _ => ?_)
    by_cases h1 : y.toInt < 0
    · exact lv_tableOut (tgt := 719) hx hb d_law_32 (Or.inl h1) (by decide) (hnext H locs cn sn more)
    · by_cases h2 : 18 < y.toInt
      · exact lv_tableOut (tgt := 719) hx hb d_law_32 (Or.inr h2) (by decide) (hnext H locs cn sn more)
      · obtain ⟨k, hk⟩ : ∃ k : Nat, y.toInt = (k : Int) := ⟨y.toInt.toNat, by omega⟩
        have hk18 : k ≤ 18 := by omega
        rcases (show k = 0 ∨ k = 1 ∨ k = 2 ∨ k = 3 ∨ k = 4 ∨ k = 5 ∨ k = 6 ∨ k = 7 ∨ k = 8 ∨ k = 9 ∨ k = 10 ∨ k = 11 ∨ k = 12 ∨ k = 13 ∨ k = 14 ∨ k = 15 ∨ k = 16 ∨ k = 17 ∨ k = 18 by omega) with rfl | rfl | rfl | rfl | rfl | rfl | rfl | rfl | rfl | rfl | rfl | rfl | rfl | rfl | rfl | rfl | rfl | rfl | rfl

        · exact lv_tableIn (off := 92) (tgt := 124) hx hb d_law_32 h1 h2 (by rw [hk]; rfl) (by decide) (lc_make C0 hK hE hL hl hi (by omega) hLI hnext)
        · exact lv_tableIn (off := 125) (tgt := 157) hx hb d_law_32 h1 h2 (by rw [hk]; rfl) (by decide) (lc_token C0 hK hE hL hl hi (by omega) hLI hnext)
        · exact lv_tableIn (off := 174) (tgt := 206) hx hb d_law_32 h1 h2 (by rw [hk]; rfl) (by decide) (lc_put C0 hK hE hL hl hi (by omega) hLI hnext)
        · exact lv_tableIn (off := 247) (tgt := 279) hx hb d_law_32 h1 h2 (by rw [hk]; rfl) (by decide) (lc_hang C0 hK hE hL hl hi (by omega) hLI hnext)
        · exact lv_tableIn (off := 290) (tgt := 322) hx hb d_law_32 h1 h2 (by rw [hk]; rfl) (by decide) (lc_kind C0 hK hE hL hl hi (by omega) hLI hnext)
        · exact lv_tableIn (off := 313) (tgt := 345) hx hb d_law_32 h1 h2 (by rw [hk]; rfl) (by decide) (lc_length C0 hK hE hL hl hi (by omega) hLI hnext)
        · exact lv_tableIn (off := 336) (tgt := 368) hx hb d_law_32 h1 h2 (by rw [hk]; rfl) (by decide) (lc_number C0 hK hE hL hl hi (by omega) hLI hnext)
        · exact lv_tableIn (off := 370) (tgt := 402) hx hb d_law_32 h1 h2 (by rw [hk]; rfl) (by decide) (lc_below C0 hK hE hL hl hi (by omega) hLI hnext)
        · exact lv_tableIn (off := 403) (tgt := 435) hx hb d_law_32 h1 h2 (by rw [hk]; rfl) (by decide) (lc_is C0 hK hE hL hl hi (by omega) hLI hnext)
        · exact lv_tableIn (off := 436) (tgt := 468) hx hb d_law_32 h1 h2 (by rw [hk]; rfl) (by decide) (lc_as C0 hK hE hL hl hi (by omega) hLI hnext)
        · exact lv_tableIn (off := 469) (tgt := 501) hx hb d_law_32 h1 h2 (by rw [hk]; rfl) (by decide) (lc_weight C0 hK hE hL hl hi (by omega) hLI hnext)
        · exact lv_tableIn (off := 493) (tgt := 525) hx hb d_law_32 h1 h2 (by rw [hk]; rfl) (by decide) (lc_depth C0 hK hE hL hl hi (by omega) hLI hnext)
        · exact lv_tableIn (off := 516) (tgt := 548) hx hb d_law_32 h1 h2 (by rw [hk]; rfl) (by decide) (lc_equal C0 hK hE hL hl hi (by omega) hLI hnext)
        · exact lv_tableIn (off := 549) (tgt := 581) hx hb d_law_32 h1 h2 (by rw [hk]; rfl) (by decide) (lc_order C0 hK hE hL hl hi (by omega) hLI hnext)
        · exact lv_tableIn (off := 582) (tgt := 614) hx hb d_law_32 h1 h2 (by rw [hk]; rfl) (by decide) (lc_sort C0 hK hE hL hl hi (by omega) hLI hnext)
        · exact lv_tableIn (off := 605) (tgt := 637) hx hb d_law_32 h1 h2 (by rw [hk]; rfl) (by decide) (lc_copy C0 hK hE hL hl hi (by omega) hLI hnext)
        · exact lv_tableIn (off := 638) (tgt := 670) hx hb d_law_32 h1 h2 (by rw [hk]; rfl) (by decide) (lc_ring C0 hK hE hL hl hi (by omega) hLI hnext)
        · exact lv_tableIn (off := 661) (tgt := 693) hx hb d_law_32 h1 h2 (by rw [hk]; rfl) (by decide) (lc_status C0 hK hE hL hl hi (by omega) hLI hnext)
        · exact lv_tableIn (off := 674) (tgt := 706) hx hb d_law_32 h1 h2 (by rw [hk]; rfl) (by decide) (lc_count C0 hK hE hL hl hi (by omega) hLI hnext)
end LAWL
theorem whole_start {p : Program} {e : Env} {s : State} {m : MethodId} {below : List Frame} {meth : Method} {c : Code} (l : Launch) {b L : Nat} {xs : Nat → Int32} (hL : L ≤ 320) (C0 : lw_At p s m meth c b L xs) : W p l e room_1 s m #[Value.ref b] below meth c s.heap [] 0 0 (lw_Z below #[Value.ref b] s) (entryFrame m ([Value.ref b] : List Value).toArray 4) := by
  obtain ⟨hx, hb, hr, hml, hown, hts, hX, hbl, hlocks, hgv⟩ := id C0
  obtain ⟨D, cI, cJ, cT, hK, hE⟩ := lw_K hts
  have hl := lv_entry ([.ref b]) (n := 4) (Nat.le_of_ble_eq_true rfl)
  rw [lg_entry_eq]
  generalize (lg_sl ([.ref b]) ++ List.replicate (4 - (lg_sl ([.ref b])).length) Slot.unset).toArray = ls at hl ⊢
  have hl : lv_has ls 4 [(0, .ref b)] := hl
  have j0 : ns_J s D cI cJ cT (e0 s.heap.size) (e0 s.heap.size) s.heap [] := by
    refine ⟨rfl, fun k q hq => ?_, fun a ha => absurd (e0_k _ a) ha, va_S.rf, Nat.le_refl _, Nat.le_refl _⟩
    exfalso
    have hd : (ns_dom (e0 s.heap.size))[k]? = some q.1 := by
      unfold ns_pool va_pl at hq
      rw [List.getElem?_map] at hq
      cases hd : (ns_dom (e0 s.heap.size))[k]? with
      | none => rw [hd] at hq; cases hq
      | some a => rw [hd] at hq; cases hq; rfl
    exact ns_dom_mem.mp (List.mem_of_getElem? hd) (e0_k _ _)
  have hJ0 : LJ s D cI cJ cT (e0 s.heap.size) (e0 s.heap.size) s.heap [] := ⟨j0, j0, fun a ha => absurd (e0_k _ a) ha⟩
  obtain ⟨-, -, -, -, -, -, -, -, i9, i10, -⟩ := lw_words
  have n3 : ns_N 3 = 4 := rfl
  have n4 : ns_N 4 = 20 := rfl
  refine lw_new (ci := 3) hx hb hown hts hK d_law_0 (by decide) i9 hJ0 (by omega) (by rw [n3]; omega) (fun H1 hJ1 => ?_)
  generalize hz : ns_z (e0 s.heap.size) = z at hJ1 ⊢
  have kS1 : ns_k (nO (e0 s.heap.size) 3 (ns_N 3)) z = 4 := by rw [nO_ns_k, hz, if_pos rfl]
  generalize nO (e0 s.heap.size) 3 (ns_N 3) = S1 at hJ1 kS1
  generalize bmp (e0 s.heap.size) (z + 1) = O1 at hJ1
  refine lv_dup hx hb d_law_3 rfl ?_
  obtain ⟨S2, e2, hC2, z2, s2⟩ := c_init kS1
  refine lw_spec (k1 := 16) (rest := [.ref z]) hx hb hml hown hts hK hE d_law_4 hJ1 e2 (by decide) (lw_links (9, 16) (by decide)) (by decide) (by decide) (by decide) rfl (Nat.le_of_ble_eq_true rfl) hl.1 (Nat.le_of_ble_eq_true rfl) (by show 0 + 1 + (ns_z S2 - ns_z S1) ≤ 600000; omega) (by rw [n3]; show 0 + 4 + (ns_s S2 - ns_s S1) ≤ 7302250; omega) (fun H2 locs2 hJ2 => ?_)
  refine W.widen (k := 3) (n := 2010) (by show 0 + 1 + (ns_z S2 - ns_z S1) ≤ 3; omega) (by rw [n3]; show 0 + 4 + (ns_s S2 - ns_s S1) ≤ 2010; omega) ?_
  have hJ2 : LJ s D cI cJ cT S2 (bmp O1 (ns_z S2)) H2 locs2 := hJ2
  generalize bmp O1 (ns_z S2) = O2 at hJ2
  refine lv_astore_n (lv' := [(1, .ref z), (0, .ref b)]) hx hb d_law_7 rfl hl (by decide) rfl (fun ls hl => ?_)
  refine lw_new (ci := 4) hx hb hown hts hK d_law_8 (by decide) i10 hJ2.swap (by omega) (by rw [n4]; omega) (fun H3 hJ3 => ?_)
  generalize hz3 : ns_z O2 = z3 at hJ3 ⊢
  have kO3 : ns_k (nO O2 4 (ns_N 4)) z3 = 5 := by rw [nO_ns_k, hz3, if_pos rfl]
  have fO3 : ∀ f, fI (nO O2 4 (ns_N 4)) f z3 = 0 := fun f => by rw [nO_fI, hz3, if_pos rfl]
  have hz2 : ns_z S2 ≤ z3 + 1 := by
    have h1 := hJ2.1.1
    have h2 := hJ2.2.1.1
    omega
  have hC3 := CR_bmp hC2 hz2
  generalize nO O2 4 (ns_N 4) = O3 at hJ3 kO3 fO3
  generalize bmp S2 (z3 + 1) = S3 at hJ3 hC3
  refine lv_dup hx hb d_law_11 rfl ?_
  obtain ⟨O4, A, e4, hM4, z4, s4⟩ := m_init kO3 fO3
  refine lw_spec (k1 := 56) (rest := [.ref z3]) hx hb hml hown hts hK hE d_law_12 hJ3 e4 (by decide) (lw_links (12, 56) (by decide)) (by decide) (by decide) (by decide) rfl (Nat.le_of_ble_eq_true rfl) hl.1 (Nat.le_of_ble_eq_true rfl) (by show 3 + 1 + (ns_z O4 - ns_z O3) ≤ 600000; omega) (by rw [n4]; show 2010 + 20 + (ns_s O4 - ns_s O3) ≤ 7302250; omega) (fun H4 locs4 hJ4 => ?_)
  refine W.widen (k := 19) (n := 1028530) (by show 3 + 1 + (ns_z O4 - ns_z O3) ≤ 19; omega) (by rw [n4]; show 2010 + 20 + (ns_s O4 - ns_s O3) ≤ 1028530; omega) ?_
  have hJ4 : LJ s D cI cJ cT O4 (bmp S3 (ns_z O4)) H4 locs4 := hJ4
  have hz5 : ns_z S3 ≤ ns_z O4 := by
    have h1 := hJ3.1.1
    have h2 := hJ3.2.1.1
    omega
  refine lv_astore_n (lv' := [(2, .ref z3), (1, .ref z), (0, .ref b)]) hx hb d_law_15 rfl hl (by decide) rfl (fun ls hl => ?_)
  refine lv_iconst (v := 0) hx hb d_law_16 (by decide) ?_
  refine lv_istore_n (lv' := [(3, .int 0), (2, .ref z3), (1, .ref z), (0, .ref b)]) hx hb d_law_17 rfl hl (by decide) rfl (fun ls hl => ?_)
  exact law_loop C0 hK hE hL L 0 H4 locs4 19 1028530 ls (by omega) (by omega) ⟨bmp S3 (ns_z O4), O4, _, _, _, 0, zz, hJ4.swap, CR_bmp hC3 hz5, hM4, ZI_zz, by omega, by omega, by omega⟩ (lv_sub hl [3, 2, 1, 0] rfl)
set_option maxHeartbeats 4000000 in
theorem lw_walk (l : Launch) (b : Addr) (xs : List Int32) : MetFree l x (headSpec (Jvm.Cond.code x code maxLocals ret :: tables_1) room_1) (lw_P b xs) (fun _ _ _ _ _ => True) lw_Q := by
  refine MetFree.of_bodyS (code := code) (maxLocals := maxLocals) (ret := ret) (by decide) ?_ ?_
  · intro args s m h hn
    obtain ⟨meth, c, h1, h2, h3, h4, h5, h6, -, -⟩ := Cond.code_spec hn (atoms_spec (ws := Jvm.Cond.code x code maxLocals ret :: tables_1) h _ List.mem_cons_self)
    exact ⟨meth, c, h1, h2, h3, h4, h5, h6⟩
  · intro p e s m args below meth c s₁ B hml0 hP _
    obtain ⟨rfl, hx, hbd, hgv⟩ := hP
    obtain ⟨scr, harrAt, hlist, hof, hsmall⟩ := hx
    obtain ⟨hcb, hkn, -, -⟩ := State.arrayAt?_spec harrAt
    have hown : s.vm.findClass R_law = some m.cls := findClass_of_methodNamed B.named
    have hts0 : ∀ c ∈ (Jvm.Cond.code x code maxLocals ret :: tables_1), c.before #[Value.ref b] s = true := atoms_spec (ws := Jvm.Cond.code x code maxLocals ret :: tables_1) B.pre
    have hts : ∀ w ∈ lw_tbl, w.before #[Value.ref b] s = true := k2_hts_sels lw_privs (fun w hw => hts0 w (List.mem_cons_of_mem _ hw)) lw_privs_ok
    have hml : c.maxLocals = 4 := B.maxLocals_eq (hts0 _ List.mem_cons_self)
    have X₀ : Stand p l e room_1 s m #[Value.ref b] below meth c s₁ [] 0 0 := Stand.of_body B
    have hh0 : s₁.heap = s.heap := by rw [B.state]; rfl
    have hsz : scr.slots.size = xs.length := by rw [← Array.length_toList, hlist, List.length_map]
    have hval : ∀ j : Nat, j < xs.length → scr.slots[j]? = some (.int (xs.getD j 0)) := fun j hj => by
      rw [← Array.getElem?_toList, hlist]
      simp [hj]
    have hbl : b < s.heap.size := (Array.getElem?_eq_some_iff.mp hcb).1
    have hX : va_X b xs.length (fun j => xs.getD j 0) s s.heap := ⟨scr, hcb, hof, hkn, hsz, hval⟩
    have K : W p l e room_1 s m #[Value.ref b] below meth c s₁.heap [] 0 0 (lw_Z below #[Value.ref b] s) (entryFrame m ([Value.ref b] : List Value).toArray 4) := by
      rw [hh0]
      exact whole_start l hbd ⟨B.exec, B.bytes, B.returns, hml, hown, hts, hX, hbl, B.notSynchronized, hgv⟩
    obtain ⟨t, a1, o, b1, b2, b3⟩ := K s₁ rfl X₀
    exact ⟨t, o, a1, b1, b2, b3⟩
theorem lw_pre_spec {args : Array Value} {s : State} (h : (Jvm.Cond.and given_1 narrow_1).before args s = true) (hr : rest_1_c.before args s = true) : ∃ (b : Addr) (xs : List Int32), lw_P b xs args s := by
  have hs := flat_of_before _ h
  have hq := flat_of_before _ hr
  have hc : (Cond.count 1).before args s = true := hs _ (by decide +kernel)
  have harr : (Cond.arrayOf (.arg 0) .int).before args s = true := hs _ (by decide +kernel)
  have hle : (Cond.le (.length (.arg 0)) (.int 320)).before args s = true := hs _ (by decide +kernel)
  have hlen : (Cond.isInt (.length (.arg 0))).before args s = true := hq _ (by decide +kernel)
  have hall : (Cond.all (.arg 0) (.isInt (.elem (.arg 0) (.index 0)))).before args s = true := hq _ (by decide +kernel)
  obtain ⟨b, xs, hb, hx⟩ := State.ints_of_pre rfl harr hlen hall
  have hsm : xs.length < 2 ^ 31 := hx.choose_spec.2.2.2
  have hev : (Term.length (.arg 0)).eval args s none [] s = some (.int xs.length.toInt32) := hx.length_eval hb
  have hv := Cond.le_ints hev (show (Term.int 320).eval args s none [] s = some (.int 320) from rfl)
  have hd : xs.length.toInt32 ≤ 320 := by
    simpa [Cond.before, Cond.holds, hv] using hle
  have hN : xs.length ≤ 320 := (Int32.ofNat_le_ofNat hsm (by decide)).mp (show Int32.ofNat xs.length ≤ Int32.ofNat 320 from hd)
  exact ⟨b, xs, Cond.one_arg hc (show args[0]? = some (.ref b) from hb), hx, hN, h⟩
theorem lw_comes (l : Launch) : Comes l x (Jvm.Cond.code x code maxLocals ret :: tables_1) room_1 (fun tb e args s => Calls_1 tb e args s ∧ rest_1 tb e args s ∧ Pre_1 tb e args s)
    (fun _ _ args s o t => lw_Q args s o t) := by
  intro p e ha hc hk s m args below hf hfit hheap happ hpre
  obtain ⟨b, xs, hP⟩ := lw_pre_spec hpre.2.2 hpre.2.1
  obtain ⟨k, o, h1, h2, h3, hQ⟩ := lw_walk l b xs p e ha hc hk s m args below hf ((Spec.applies_iff_loose hf).mp happ).1 hP trivial
  exact ⟨k, o, h1, h2, h3, hQ⟩
theorem lw_frame {s t : State} {o : Outcome} {args : Array Value} (h : Framed s o t [] 600000 7302250) :
    Framed s o t (fieldLocs frame_1_writes args s ++ arrayLocs frame_1_arrays args s ++ staticLocs frame_1_statics s) 600000 7302250 := h
theorem lw_limb (L : Cond) (hL : ∀ (args : Array Value) (s t : State), L.after args s (.returned (some (.int 1))) t = true) :
    ArmFor flags0 classFile x code maxLocals ret World_1 tables_1 room_1 Calls_1 rest_1 Pre_1
      (fun tb e a s o t => postC L tb e a s o t ∧ Framed s o t (fieldLocs frame_1_writes a s ++ arrayLocs frame_1_arrays a s ++ staticLocs frame_1_statics s) 600000 7302250) := by
  intro l _ _ _ p e ha hc hk s m args below hf hfit hheap happ hpre
  obtain ⟨k, o, h1, h2, h3, rfl, hF⟩ := lw_comes l p e ha hc hk s m args below hf hfit hheap happ hpre
  exact ⟨k, _, h1, h2, h3, hL args s _, lw_frame hF⟩
theorem i_vc : Claimed_1_1 ∧ Claimed_1_2 := ⟨lw_limb limb_1_1 (fun args s t => by simp [limb_1_1, Cond.after, Cond.holds, Cond.value]), lw_limb limb_1_2 (fun args s t => Cond.after_iff.mpr (by
  first | (rw [show limb_1_2 = Cond.eq .result (.int 1) from rfl, Cond.eq_ints (x := 1) (y := 1) rfl rfl]; simp; done) | (simp [limb_1_2, Cond.value, Term.eval]; done)))⟩
